theorem dX0_init_0 : decode cX0_init 0 = .ok (.aload_n 0, 1) := by decide +kernel
theorem dX0_init_1 : decode cX0_init 1 = .ok (.invokespecial 3, 3) := by decide +kernel
theorem dX0_init_4 : decode cX0_init 4 = .ok (.aload_n 0, 1) := by decide +kernel
theorem dX0_init_5 : decode cX0_init 5 = .ok (.new 9, 3) := by decide +kernel
theorem dX0_init_8 : decode cX0_init 8 = .ok (.dup, 1) := by decide +kernel
theorem dX0_init_9 : decode cX0_init 9 = .ok (.invokespecial 11, 3) := by decide +kernel
theorem dX0_init_12 : decode cX0_init 12 = .ok (.putfield 12, 3) := by decide +kernel
theorem dX0_init_15 : decode cX0_init 15 = .ok (.aload_n 0, 1) := by decide +kernel
theorem dX0_init_16 : decode cX0_init 16 = .ok (.sipush 128, 3) := by decide +kernel
theorem dX0_init_19 : decode cX0_init 19 = .ok (.newarray .int, 2) := by decide +kernel
theorem dX0_init_21 : decode cX0_init 21 = .ok (.putfield 18, 3) := by decide +kernel
theorem dX0_init_24 : decode cX0_init 24 = .ok (.aload_n 0, 1) := by decide +kernel
theorem dX0_init_25 : decode cX0_init 25 = .ok (.bipush 8, 2) := by decide +kernel
theorem dX0_init_27 : decode cX0_init 27 = .ok (.newarray .int, 2) := by decide +kernel
theorem dX0_init_29 : decode cX0_init 29 = .ok (.putfield 22, 3) := by decide +kernel
theorem dX0_init_32 : decode cX0_init 32 = .ok (.aload_n 0, 1) := by decide +kernel
theorem dX0_init_33 : decode cX0_init 33 = .ok (.bipush 8, 2) := by decide +kernel
theorem dX0_init_35 : decode cX0_init 35 = .ok (.newarray .int, 2) := by decide +kernel
theorem dX0_init_37 : decode cX0_init 37 = .ok (.putfield 25, 3) := by decide +kernel
theorem dX0_init_40 : decode cX0_init 40 = .ok (.aload_n 0, 1) := by decide +kernel
theorem dX0_init_41 : decode cX0_init 41 = .ok (.bipush 6, 2) := by decide +kernel
theorem dX0_init_43 : decode cX0_init 43 = .ok (.newarray .int, 2) := by decide +kernel
theorem dX0_init_45 : decode cX0_init 45 = .ok (.putfield 28, 3) := by decide +kernel
theorem dX0_init_48 : decode cX0_init 48 = .ok (.aload_n 0, 1) := by decide +kernel
theorem dX0_init_49 : decode cX0_init 49 = .ok (.iconst 4, 1) := by decide +kernel
theorem dX0_init_50 : decode cX0_init 50 = .ok (.newarray .int, 2) := by decide +kernel
theorem dX0_init_52 : decode cX0_init 52 = .ok (.putfield 31, 3) := by decide +kernel
theorem dX0_init_55 : decode cX0_init 55 = .ok (.aload_n 0, 1) := by decide +kernel
theorem dX0_init_56 : decode cX0_init 56 = .ok (.bipush 64, 2) := by decide +kernel
theorem dX0_init_58 : decode cX0_init 58 = .ok (.newarray .int, 2) := by decide +kernel
theorem dX0_init_60 : decode cX0_init 60 = .ok (.putfield 34, 3) := by decide +kernel
theorem dX0_init_63 : decode cX0_init 63 = .ok (.aload_n 0, 1) := by decide +kernel
theorem dX0_init_64 : decode cX0_init 64 = .ok (.iconst 4, 1) := by decide +kernel
theorem dX0_init_65 : decode cX0_init 65 = .ok (.newarray .int, 2) := by decide +kernel
theorem dX0_init_67 : decode cX0_init 67 = .ok (.putfield 37, 3) := by decide +kernel
theorem dX0_init_70 : decode cX0_init 70 = .ok (.aload_n 0, 1) := by decide +kernel
theorem dX0_init_71 : decode cX0_init 71 = .ok (.bipush 6, 2) := by decide +kernel
theorem dX0_init_73 : decode cX0_init 73 = .ok (.newarray .int, 2) := by decide +kernel
theorem dX0_init_75 : decode cX0_init 75 = .ok (.putfield 40, 3) := by decide +kernel
theorem dX0_init_78 : decode cX0_init 78 = .ok (.aload_n 0, 1) := by decide +kernel
theorem dX0_init_79 : decode cX0_init 79 = .ok (.bipush 48, 2) := by decide +kernel
theorem dX0_init_81 : decode cX0_init 81 = .ok (.newarray .int, 2) := by decide +kernel
theorem dX0_init_83 : decode cX0_init 83 = .ok (.putfield 43, 3) := by decide +kernel
theorem dX0_init_86 : decode cX0_init 86 = .ok (.aload_n 0, 1) := by decide +kernel
theorem dX0_init_87 : decode cX0_init 87 = .ok (.bipush 8, 2) := by decide +kernel
theorem dX0_init_89 : decode cX0_init 89 = .ok (.invokevirtual 46, 3) := by decide +kernel
theorem dX0_init_92 : decode cX0_init 92 = .ok (.return_, 1) := by decide +kernel
theorem dX0_clear_0 : decode cX0_clear 0 = .ok (.aload_n 0, 1) := by decide +kernel
theorem dX0_clear_1 : decode cX0_clear 1 = .ok (.getfield 12, 3) := by decide +kernel
theorem dX0_clear_4 : decode cX0_clear 4 = .ok (.invokevirtual 50, 3) := by decide +kernel
theorem dX0_clear_7 : decode cX0_clear 7 = .ok (.aload_n 0, 1) := by decide +kernel
theorem dX0_clear_8 : decode cX0_clear 8 = .ok (.getfield 18, 3) := by decide +kernel
theorem dX0_clear_11 : decode cX0_clear 11 = .ok (.iconst (-1), 1) := by decide +kernel
theorem dX0_clear_12 : decode cX0_clear 12 = .ok (.invokestatic 52, 3) := by decide +kernel
theorem dX0_clear_15 : decode cX0_clear 15 = .ok (.aload_n 0, 1) := by decide +kernel
theorem dX0_clear_16 : decode cX0_clear 16 = .ok (.getfield 22, 3) := by decide +kernel
theorem dX0_clear_19 : decode cX0_clear 19 = .ok (.iconst 0, 1) := by decide +kernel
theorem dX0_clear_20 : decode cX0_clear 20 = .ok (.invokestatic 52, 3) := by decide +kernel
theorem dX0_clear_23 : decode cX0_clear 23 = .ok (.aload_n 0, 1) := by decide +kernel
theorem dX0_clear_24 : decode cX0_clear 24 = .ok (.getfield 25, 3) := by decide +kernel
theorem dX0_clear_27 : decode cX0_clear 27 = .ok (.iconst 0, 1) := by decide +kernel
theorem dX0_clear_28 : decode cX0_clear 28 = .ok (.invokestatic 52, 3) := by decide +kernel
theorem dX0_clear_31 : decode cX0_clear 31 = .ok (.aload_n 0, 1) := by decide +kernel
theorem dX0_clear_32 : decode cX0_clear 32 = .ok (.getfield 28, 3) := by decide +kernel
theorem dX0_clear_35 : decode cX0_clear 35 = .ok (.iconst (-1), 1) := by decide +kernel
theorem dX0_clear_36 : decode cX0_clear 36 = .ok (.invokestatic 52, 3) := by decide +kernel
theorem dX0_clear_39 : decode cX0_clear 39 = .ok (.aload_n 0, 1) := by decide +kernel
theorem dX0_clear_40 : decode cX0_clear 40 = .ok (.getfield 31, 3) := by decide +kernel
theorem dX0_clear_43 : decode cX0_clear 43 = .ok (.iconst (-1), 1) := by decide +kernel
theorem dX0_clear_44 : decode cX0_clear 44 = .ok (.invokestatic 52, 3) := by decide +kernel
theorem dX0_clear_47 : decode cX0_clear 47 = .ok (.aload_n 0, 1) := by decide +kernel
theorem dX0_clear_48 : decode cX0_clear 48 = .ok (.getfield 40, 3) := by decide +kernel
theorem dX0_clear_51 : decode cX0_clear 51 = .ok (.iconst 0, 1) := by decide +kernel
theorem dX0_clear_52 : decode cX0_clear 52 = .ok (.invokestatic 52, 3) := by decide +kernel
theorem dX0_clear_55 : decode cX0_clear 55 = .ok (.aload_n 0, 1) := by decide +kernel
theorem dX0_clear_56 : decode cX0_clear 56 = .ok (.getfield 37, 3) := by decide +kernel
theorem dX0_clear_59 : decode cX0_clear 59 = .ok (.iconst 0, 1) := by decide +kernel
theorem dX0_clear_60 : decode cX0_clear 60 = .ok (.iconst 0, 1) := by decide +kernel
theorem dX0_clear_61 : decode cX0_clear 61 = .ok (.iastore, 1) := by decide +kernel
theorem dX0_clear_62 : decode cX0_clear 62 = .ok (.aload_n 0, 1) := by decide +kernel
theorem dX0_clear_63 : decode cX0_clear 63 = .ok (.getfield 37, 3) := by decide +kernel
theorem dX0_clear_66 : decode cX0_clear 66 = .ok (.iconst 1, 1) := by decide +kernel
theorem dX0_clear_67 : decode cX0_clear 67 = .ok (.iconst 0, 1) := by decide +kernel
theorem dX0_clear_68 : decode cX0_clear 68 = .ok (.iastore, 1) := by decide +kernel
theorem dX0_clear_69 : decode cX0_clear 69 = .ok (.aload_n 0, 1) := by decide +kernel
theorem dX0_clear_70 : decode cX0_clear 70 = .ok (.getfield 37, 3) := by decide +kernel
theorem dX0_clear_73 : decode cX0_clear 73 = .ok (.iconst 2, 1) := by decide +kernel
theorem dX0_clear_74 : decode cX0_clear 74 = .ok (.iconst 2, 1) := by decide +kernel
theorem dX0_clear_75 : decode cX0_clear 75 = .ok (.iastore, 1) := by decide +kernel
theorem dX0_clear_76 : decode cX0_clear 76 = .ok (.aload_n 0, 1) := by decide +kernel
theorem dX0_clear_77 : decode cX0_clear 77 = .ok (.getfield 37, 3) := by decide +kernel
theorem dX0_clear_80 : decode cX0_clear 80 = .ok (.iconst 3, 1) := by decide +kernel
theorem dX0_clear_81 : decode cX0_clear 81 = .ok (.iconst 2, 1) := by decide +kernel
theorem dX0_clear_82 : decode cX0_clear 82 = .ok (.iastore, 1) := by decide +kernel
theorem dX0_clear_83 : decode cX0_clear 83 = .ok (.aload_n 0, 1) := by decide +kernel
theorem dX0_clear_84 : decode cX0_clear 84 = .ok (.iload_n 1, 1) := by decide +kernel
theorem dX0_clear_85 : decode cX0_clear 85 = .ok (.putfield 58, 3) := by decide +kernel
theorem dX0_clear_88 : decode cX0_clear 88 = .ok (.aload_n 0, 1) := by decide +kernel
theorem dX0_clear_89 : decode cX0_clear 89 = .ok (.iconst 0, 1) := by decide +kernel
theorem dX0_clear_90 : decode cX0_clear 90 = .ok (.putfield 62, 3) := by decide +kernel
theorem dX0_clear_93 : decode cX0_clear 93 = .ok (.aload_n 0, 1) := by decide +kernel
theorem dX0_clear_94 : decode cX0_clear 94 = .ok (.iconst (-1), 1) := by decide +kernel
theorem dX0_clear_95 : decode cX0_clear 95 = .ok (.putfield 65, 3) := by decide +kernel
theorem dX0_clear_98 : decode cX0_clear 98 = .ok (.aload_n 0, 1) := by decide +kernel
theorem dX0_clear_99 : decode cX0_clear 99 = .ok (.iconst 0, 1) := by decide +kernel
theorem dX0_clear_100 : decode cX0_clear 100 = .ok (.putfield 68, 3) := by decide +kernel
theorem dX0_clear_103 : decode cX0_clear 103 = .ok (.aload_n 0, 1) := by decide +kernel
theorem dX0_clear_104 : decode cX0_clear 104 = .ok (.iconst 0, 1) := by decide +kernel
theorem dX0_clear_105 : decode cX0_clear 105 = .ok (.putfield 71, 3) := by decide +kernel
theorem dX0_clear_108 : decode cX0_clear 108 = .ok (.aload_n 0, 1) := by decide +kernel
theorem dX0_clear_109 : decode cX0_clear 109 = .ok (.iconst 0, 1) := by decide +kernel
theorem dX0_clear_110 : decode cX0_clear 110 = .ok (.putfield 74, 3) := by decide +kernel
theorem dX0_clear_113 : decode cX0_clear 113 = .ok (.return_, 1) := by decide +kernel
theorem dX0_become_0 : decode cX0_become 0 = .ok (.aload_n 0, 1) := by decide +kernel
theorem dX0_become_1 : decode cX0_become 1 = .ok (.getfield 12, 3) := by decide +kernel
theorem dX0_become_4 : decode cX0_become 4 = .ok (.aload_n 1, 1) := by decide +kernel
theorem dX0_become_5 : decode cX0_become 5 = .ok (.getfield 12, 3) := by decide +kernel
theorem dX0_become_8 : decode cX0_become 8 = .ok (.invokevirtual 78, 3) := by decide +kernel
theorem dX0_become_11 : decode cX0_become 11 = .ok (.aload_n 1, 1) := by decide +kernel
theorem dX0_become_12 : decode cX0_become 12 = .ok (.getfield 18, 3) := by decide +kernel
theorem dX0_become_15 : decode cX0_become 15 = .ok (.iconst 0, 1) := by decide +kernel
theorem dX0_become_16 : decode cX0_become 16 = .ok (.aload_n 0, 1) := by decide +kernel
theorem dX0_become_17 : decode cX0_become 17 = .ok (.getfield 18, 3) := by decide +kernel
theorem dX0_become_20 : decode cX0_become 20 = .ok (.iconst 0, 1) := by decide +kernel
theorem dX0_become_21 : decode cX0_become 21 = .ok (.aload_n 0, 1) := by decide +kernel
theorem dX0_become_22 : decode cX0_become 22 = .ok (.getfield 18, 3) := by decide +kernel
theorem dX0_become_25 : decode cX0_become 25 = .ok (.arraylength, 1) := by decide +kernel
theorem dX0_become_26 : decode cX0_become 26 = .ok (.invokestatic 82, 3) := by decide +kernel
theorem dX0_become_29 : decode cX0_become 29 = .ok (.aload_n 1, 1) := by decide +kernel
theorem dX0_become_30 : decode cX0_become 30 = .ok (.getfield 22, 3) := by decide +kernel
theorem dX0_become_33 : decode cX0_become 33 = .ok (.iconst 0, 1) := by decide +kernel
theorem dX0_become_34 : decode cX0_become 34 = .ok (.aload_n 0, 1) := by decide +kernel
theorem dX0_become_35 : decode cX0_become 35 = .ok (.getfield 22, 3) := by decide +kernel
theorem dX0_become_38 : decode cX0_become 38 = .ok (.iconst 0, 1) := by decide +kernel
theorem dX0_become_39 : decode cX0_become 39 = .ok (.aload_n 0, 1) := by decide +kernel
theorem dX0_become_40 : decode cX0_become 40 = .ok (.getfield 22, 3) := by decide +kernel
theorem dX0_become_43 : decode cX0_become 43 = .ok (.arraylength, 1) := by decide +kernel
theorem dX0_become_44 : decode cX0_become 44 = .ok (.invokestatic 82, 3) := by decide +kernel
theorem dX0_become_47 : decode cX0_become 47 = .ok (.aload_n 1, 1) := by decide +kernel
theorem dX0_become_48 : decode cX0_become 48 = .ok (.getfield 25, 3) := by decide +kernel
theorem dX0_become_51 : decode cX0_become 51 = .ok (.iconst 0, 1) := by decide +kernel
theorem dX0_become_52 : decode cX0_become 52 = .ok (.aload_n 0, 1) := by decide +kernel
theorem dX0_become_53 : decode cX0_become 53 = .ok (.getfield 25, 3) := by decide +kernel
theorem dX0_become_56 : decode cX0_become 56 = .ok (.iconst 0, 1) := by decide +kernel
theorem dX0_become_57 : decode cX0_become 57 = .ok (.aload_n 0, 1) := by decide +kernel
theorem dX0_become_58 : decode cX0_become 58 = .ok (.getfield 25, 3) := by decide +kernel
theorem dX0_become_61 : decode cX0_become 61 = .ok (.arraylength, 1) := by decide +kernel
theorem dX0_become_62 : decode cX0_become 62 = .ok (.invokestatic 82, 3) := by decide +kernel
theorem dX0_become_65 : decode cX0_become 65 = .ok (.aload_n 1, 1) := by decide +kernel
theorem dX0_become_66 : decode cX0_become 66 = .ok (.getfield 28, 3) := by decide +kernel
theorem dX0_become_69 : decode cX0_become 69 = .ok (.iconst 0, 1) := by decide +kernel
theorem dX0_become_70 : decode cX0_become 70 = .ok (.aload_n 0, 1) := by decide +kernel
theorem dX0_become_71 : decode cX0_become 71 = .ok (.getfield 28, 3) := by decide +kernel
theorem dX0_become_74 : decode cX0_become 74 = .ok (.iconst 0, 1) := by decide +kernel
theorem dX0_become_75 : decode cX0_become 75 = .ok (.aload_n 0, 1) := by decide +kernel
theorem dX0_become_76 : decode cX0_become 76 = .ok (.getfield 28, 3) := by decide +kernel
theorem dX0_become_79 : decode cX0_become 79 = .ok (.arraylength, 1) := by decide +kernel
theorem dX0_become_80 : decode cX0_become 80 = .ok (.invokestatic 82, 3) := by decide +kernel
theorem dX0_become_83 : decode cX0_become 83 = .ok (.aload_n 1, 1) := by decide +kernel
theorem dX0_become_84 : decode cX0_become 84 = .ok (.getfield 31, 3) := by decide +kernel
theorem dX0_become_87 : decode cX0_become 87 = .ok (.iconst 0, 1) := by decide +kernel
theorem dX0_become_88 : decode cX0_become 88 = .ok (.aload_n 0, 1) := by decide +kernel
theorem dX0_become_89 : decode cX0_become 89 = .ok (.getfield 31, 3) := by decide +kernel
theorem dX0_become_92 : decode cX0_become 92 = .ok (.iconst 0, 1) := by decide +kernel
theorem dX0_become_93 : decode cX0_become 93 = .ok (.aload_n 0, 1) := by decide +kernel
theorem dX0_become_94 : decode cX0_become 94 = .ok (.getfield 31, 3) := by decide +kernel
theorem dX0_become_97 : decode cX0_become 97 = .ok (.arraylength, 1) := by decide +kernel
theorem dX0_become_98 : decode cX0_become 98 = .ok (.invokestatic 82, 3) := by decide +kernel
theorem dX0_become_101 : decode cX0_become 101 = .ok (.aload_n 1, 1) := by decide +kernel
theorem dX0_become_102 : decode cX0_become 102 = .ok (.getfield 34, 3) := by decide +kernel
theorem dX0_become_105 : decode cX0_become 105 = .ok (.iconst 0, 1) := by decide +kernel
theorem dX0_become_106 : decode cX0_become 106 = .ok (.aload_n 0, 1) := by decide +kernel
theorem dX0_become_107 : decode cX0_become 107 = .ok (.getfield 34, 3) := by decide +kernel
theorem dX0_become_110 : decode cX0_become 110 = .ok (.iconst 0, 1) := by decide +kernel
theorem dX0_become_111 : decode cX0_become 111 = .ok (.aload_n 0, 1) := by decide +kernel
theorem dX0_become_112 : decode cX0_become 112 = .ok (.getfield 34, 3) := by decide +kernel
theorem dX0_become_115 : decode cX0_become 115 = .ok (.arraylength, 1) := by decide +kernel
theorem dX0_become_116 : decode cX0_become 116 = .ok (.invokestatic 82, 3) := by decide +kernel
theorem dX0_become_119 : decode cX0_become 119 = .ok (.aload_n 1, 1) := by decide +kernel
theorem dX0_become_120 : decode cX0_become 120 = .ok (.getfield 37, 3) := by decide +kernel
theorem dX0_become_123 : decode cX0_become 123 = .ok (.iconst 0, 1) := by decide +kernel
theorem dX0_become_124 : decode cX0_become 124 = .ok (.aload_n 0, 1) := by decide +kernel
theorem dX0_become_125 : decode cX0_become 125 = .ok (.getfield 37, 3) := by decide +kernel
theorem dX0_become_128 : decode cX0_become 128 = .ok (.iconst 0, 1) := by decide +kernel
theorem dX0_become_129 : decode cX0_become 129 = .ok (.aload_n 0, 1) := by decide +kernel
theorem dX0_become_130 : decode cX0_become 130 = .ok (.getfield 37, 3) := by decide +kernel
theorem dX0_become_133 : decode cX0_become 133 = .ok (.arraylength, 1) := by decide +kernel
theorem dX0_become_134 : decode cX0_become 134 = .ok (.invokestatic 82, 3) := by decide +kernel
theorem dX0_become_137 : decode cX0_become 137 = .ok (.aload_n 1, 1) := by decide +kernel
theorem dX0_become_138 : decode cX0_become 138 = .ok (.getfield 40, 3) := by decide +kernel
theorem dX0_become_141 : decode cX0_become 141 = .ok (.iconst 0, 1) := by decide +kernel
theorem dX0_become_142 : decode cX0_become 142 = .ok (.aload_n 0, 1) := by decide +kernel
theorem dX0_become_143 : decode cX0_become 143 = .ok (.getfield 40, 3) := by decide +kernel
theorem dX0_become_146 : decode cX0_become 146 = .ok (.iconst 0, 1) := by decide +kernel
theorem dX0_become_147 : decode cX0_become 147 = .ok (.aload_n 0, 1) := by decide +kernel
theorem dX0_become_148 : decode cX0_become 148 = .ok (.getfield 40, 3) := by decide +kernel
theorem dX0_become_151 : decode cX0_become 151 = .ok (.arraylength, 1) := by decide +kernel
theorem dX0_become_152 : decode cX0_become 152 = .ok (.invokestatic 82, 3) := by decide +kernel
theorem dX0_become_155 : decode cX0_become 155 = .ok (.aload_n 1, 1) := by decide +kernel
theorem dX0_become_156 : decode cX0_become 156 = .ok (.getfield 43, 3) := by decide +kernel
theorem dX0_become_159 : decode cX0_become 159 = .ok (.iconst 0, 1) := by decide +kernel
theorem dX0_become_160 : decode cX0_become 160 = .ok (.aload_n 0, 1) := by decide +kernel
theorem dX0_become_161 : decode cX0_become 161 = .ok (.getfield 43, 3) := by decide +kernel
theorem dX0_become_164 : decode cX0_become 164 = .ok (.iconst 0, 1) := by decide +kernel
theorem dX0_become_165 : decode cX0_become 165 = .ok (.aload_n 0, 1) := by decide +kernel
theorem dX0_become_166 : decode cX0_become 166 = .ok (.getfield 43, 3) := by decide +kernel
theorem dX0_become_169 : decode cX0_become 169 = .ok (.arraylength, 1) := by decide +kernel
theorem dX0_become_170 : decode cX0_become 170 = .ok (.invokestatic 82, 3) := by decide +kernel
theorem dX0_become_173 : decode cX0_become 173 = .ok (.aload_n 0, 1) := by decide +kernel
theorem dX0_become_174 : decode cX0_become 174 = .ok (.aload_n 1, 1) := by decide +kernel
theorem dX0_become_175 : decode cX0_become 175 = .ok (.getfield 58, 3) := by decide +kernel
theorem dX0_become_178 : decode cX0_become 178 = .ok (.putfield 58, 3) := by decide +kernel
theorem dX0_become_181 : decode cX0_become 181 = .ok (.aload_n 0, 1) := by decide +kernel
theorem dX0_become_182 : decode cX0_become 182 = .ok (.aload_n 1, 1) := by decide +kernel
theorem dX0_become_183 : decode cX0_become 183 = .ok (.getfield 62, 3) := by decide +kernel
theorem dX0_become_186 : decode cX0_become 186 = .ok (.putfield 62, 3) := by decide +kernel
theorem dX0_become_189 : decode cX0_become 189 = .ok (.aload_n 0, 1) := by decide +kernel
theorem dX0_become_190 : decode cX0_become 190 = .ok (.aload_n 1, 1) := by decide +kernel
theorem dX0_become_191 : decode cX0_become 191 = .ok (.getfield 65, 3) := by decide +kernel
theorem dX0_become_194 : decode cX0_become 194 = .ok (.putfield 65, 3) := by decide +kernel
theorem dX0_become_197 : decode cX0_become 197 = .ok (.aload_n 0, 1) := by decide +kernel
theorem dX0_become_198 : decode cX0_become 198 = .ok (.aload_n 1, 1) := by decide +kernel
theorem dX0_become_199 : decode cX0_become 199 = .ok (.getfield 68, 3) := by decide +kernel
theorem dX0_become_202 : decode cX0_become 202 = .ok (.putfield 68, 3) := by decide +kernel
theorem dX0_become_205 : decode cX0_become 205 = .ok (.aload_n 0, 1) := by decide +kernel
theorem dX0_become_206 : decode cX0_become 206 = .ok (.aload_n 1, 1) := by decide +kernel
theorem dX0_become_207 : decode cX0_become 207 = .ok (.getfield 71, 3) := by decide +kernel
theorem dX0_become_210 : decode cX0_become 210 = .ok (.putfield 71, 3) := by decide +kernel
theorem dX0_become_213 : decode cX0_become 213 = .ok (.aload_n 0, 1) := by decide +kernel
theorem dX0_become_214 : decode cX0_become 214 = .ok (.aload_n 1, 1) := by decide +kernel
theorem dX0_become_215 : decode cX0_become 215 = .ok (.getfield 74, 3) := by decide +kernel
theorem dX0_become_218 : decode cX0_become 218 = .ok (.putfield 74, 3) := by decide +kernel
theorem dX0_become_221 : decode cX0_become 221 = .ok (.return_, 1) := by decide +kernel
theorem dX0_isObject_0 : decode cX0_isObject 0 = .ok (.aload_n 0, 1) := by decide +kernel
theorem dX0_isObject_1 : decode cX0_isObject 1 = .ok (.getfield 12, 3) := by decide +kernel
theorem dX0_isObject_4 : decode cX0_isObject 4 = .ok (.iload_n 1, 1) := by decide +kernel
theorem dX0_isObject_5 : decode cX0_isObject 5 = .ok (.invokevirtual 88, 3) := by decide +kernel
theorem dX0_isObject_8 : decode cX0_isObject 8 = .ok (.ifCond .le 7, 3) := by decide +kernel
theorem dX0_isObject_11 : decode cX0_isObject 11 = .ok (.iconst 1, 1) := by decide +kernel
theorem dX0_isObject_12 : decode cX0_isObject 12 = .ok (.goto 4, 3) := by decide +kernel
theorem dX0_isObject_15 : decode cX0_isObject 15 = .ok (.iconst 0, 1) := by decide +kernel
theorem dX0_isObject_16 : decode cX0_isObject 16 = .ok (.ireturn, 1) := by decide +kernel
theorem dX0_sizeAt_0 : decode cX0_sizeAt 0 = .ok (.aload_n 0, 1) := by decide +kernel
theorem dX0_sizeAt_1 : decode cX0_sizeAt 1 = .ok (.getfield 22, 3) := by decide +kernel
theorem dX0_sizeAt_4 : decode cX0_sizeAt 4 = .ok (.iload_n 1, 1) := by decide +kernel
theorem dX0_sizeAt_5 : decode cX0_sizeAt 5 = .ok (.bipush 16, 2) := by decide +kernel
theorem dX0_sizeAt_7 : decode cX0_sizeAt 7 = .ok (.idiv, 1) := by decide +kernel
theorem dX0_sizeAt_8 : decode cX0_sizeAt 8 = .ok (.iaload, 1) := by decide +kernel
theorem dX0_sizeAt_9 : decode cX0_sizeAt 9 = .ok (.ireturn, 1) := by decide +kernel
theorem dX0_rootOrNone_0 : decode cX0_rootOrNone 0 = .ok (.iload_n 1, 1) := by decide +kernel
theorem dX0_rootOrNone_1 : decode cX0_rootOrNone 1 = .ok (.iconst (-1), 1) := by decide +kernel
theorem dX0_rootOrNone_2 : decode cX0_rootOrNone 2 = .ok (.if_icmp .ne 7, 3) := by decide +kernel
theorem dX0_rootOrNone_5 : decode cX0_rootOrNone 5 = .ok (.iconst (-1), 1) := by decide +kernel
theorem dX0_rootOrNone_6 : decode cX0_rootOrNone 6 = .ok (.goto 9, 3) := by decide +kernel
theorem dX0_rootOrNone_9 : decode cX0_rootOrNone 9 = .ok (.aload_n 0, 1) := by decide +kernel
theorem dX0_rootOrNone_10 : decode cX0_rootOrNone 10 = .ok (.getfield 28, 3) := by decide +kernel
theorem dX0_rootOrNone_13 : decode cX0_rootOrNone 13 = .ok (.iload_n 1, 1) := by decide +kernel
theorem dX0_rootOrNone_14 : decode cX0_rootOrNone 14 = .ok (.iaload, 1) := by decide +kernel
theorem dX0_rootOrNone_15 : decode cX0_rootOrNone 15 = .ok (.ireturn, 1) := by decide +kernel
theorem dX0_fieldCell_0 : decode cX0_fieldCell 0 = .ok (.aload_n 0, 1) := by decide +kernel
theorem dX0_fieldCell_1 : decode cX0_fieldCell 1 = .ok (.getfield 12, 3) := by decide +kernel
theorem dX0_fieldCell_4 : decode cX0_fieldCell 4 = .ok (.iload_n 1, 1) := by decide +kernel
theorem dX0_fieldCell_5 : decode cX0_fieldCell 5 = .ok (.invokevirtual 88, 3) := by decide +kernel
theorem dX0_fieldCell_8 : decode cX0_fieldCell 8 = .ok (.ifCond .le 17, 3) := by decide +kernel
theorem dX0_fieldCell_11 : decode cX0_fieldCell 11 = .ok (.iload_n 2, 1) := by decide +kernel
theorem dX0_fieldCell_12 : decode cX0_fieldCell 12 = .ok (.ifCond .lt 13, 3) := by decide +kernel
theorem dX0_fieldCell_15 : decode cX0_fieldCell 15 = .ok (.iload_n 2, 1) := by decide +kernel
theorem dX0_fieldCell_16 : decode cX0_fieldCell 16 = .ok (.aload_n 0, 1) := by decide +kernel
theorem dX0_fieldCell_17 : decode cX0_fieldCell 17 = .ok (.getfield 18, 3) := by decide +kernel
theorem dX0_fieldCell_20 : decode cX0_fieldCell 20 = .ok (.iload_n 1, 1) := by decide +kernel
theorem dX0_fieldCell_21 : decode cX0_fieldCell 21 = .ok (.iaload, 1) := by decide +kernel
theorem dX0_fieldCell_22 : decode cX0_fieldCell 22 = .ok (.if_icmp .lt 5, 3) := by decide +kernel
theorem dX0_fieldCell_25 : decode cX0_fieldCell 25 = .ok (.iconst (-1), 1) := by decide +kernel
theorem dX0_fieldCell_26 : decode cX0_fieldCell 26 = .ok (.ireturn, 1) := by decide +kernel
theorem dX0_fieldCell_27 : decode cX0_fieldCell 27 = .ok (.iload_n 1, 1) := by decide +kernel
theorem dX0_fieldCell_28 : decode cX0_fieldCell 28 = .ok (.iconst 1, 1) := by decide +kernel
theorem dX0_fieldCell_29 : decode cX0_fieldCell 29 = .ok (.iadd, 1) := by decide +kernel
theorem dX0_fieldCell_30 : decode cX0_fieldCell 30 = .ok (.iload_n 2, 1) := by decide +kernel
theorem dX0_fieldCell_31 : decode cX0_fieldCell 31 = .ok (.iadd, 1) := by decide +kernel
theorem dX0_fieldCell_32 : decode cX0_fieldCell 32 = .ok (.ireturn, 1) := by decide +kernel
theorem dX0_fieldOfRoot_0 : decode cX0_fieldOfRoot 0 = .ok (.aload_n 0, 1) := by decide +kernel
theorem dX0_fieldOfRoot_1 : decode cX0_fieldOfRoot 1 = .ok (.aload_n 0, 1) := by decide +kernel
theorem dX0_fieldOfRoot_2 : decode cX0_fieldOfRoot 2 = .ok (.getfield 28, 3) := by decide +kernel
theorem dX0_fieldOfRoot_5 : decode cX0_fieldOfRoot 5 = .ok (.iload_n 1, 1) := by decide +kernel
theorem dX0_fieldOfRoot_6 : decode cX0_fieldOfRoot 6 = .ok (.iaload, 1) := by decide +kernel
theorem dX0_fieldOfRoot_7 : decode cX0_fieldOfRoot 7 = .ok (.iload_n 2, 1) := by decide +kernel
theorem dX0_fieldOfRoot_8 : decode cX0_fieldOfRoot 8 = .ok (.invokevirtual 92, 3) := by decide +kernel
theorem dX0_fieldOfRoot_11 : decode cX0_fieldOfRoot 11 = .ok (.ireturn, 1) := by decide +kernel
theorem dX0_begin_0 : decode cX0_begin 0 = .ok (.aload_n 0, 1) := by decide +kernel
theorem dX0_begin_1 : decode cX0_begin 1 = .ok (.iconst 1, 1) := by decide +kernel
theorem dX0_begin_2 : decode cX0_begin 2 = .ok (.putfield 74, 3) := by decide +kernel
theorem dX0_begin_5 : decode cX0_begin 5 = .ok (.aload_n 0, 1) := by decide +kernel
theorem dX0_begin_6 : decode cX0_begin 6 = .ok (.aload_n 0, 1) := by decide +kernel
theorem dX0_begin_7 : decode cX0_begin 7 = .ok (.getfield 40, 3) := by decide +kernel
theorem dX0_begin_10 : decode cX0_begin 10 = .ok (.iconst 1, 1) := by decide +kernel
theorem dX0_begin_11 : decode cX0_begin 11 = .ok (.iaload, 1) := by decide +kernel
theorem dX0_begin_12 : decode cX0_begin 12 = .ok (.putfield 71, 3) := by decide +kernel
theorem dX0_begin_15 : decode cX0_begin 15 = .ok (.iconst 2, 1) := by decide +kernel
theorem dX0_begin_16 : decode cX0_begin 16 = .ok (.istore_n 1, 1) := by decide +kernel
theorem dX0_begin_17 : decode cX0_begin 17 = .ok (.iload_n 1, 1) := by decide +kernel
theorem dX0_begin_18 : decode cX0_begin 18 = .ok (.bipush 8, 2) := by decide +kernel
theorem dX0_begin_20 : decode cX0_begin 20 = .ok (.if_icmp .gt 56, 3) := by decide +kernel
theorem dX0_begin_23 : decode cX0_begin 23 = .ok (.iload_n 1, 1) := by decide +kernel
theorem dX0_begin_24 : decode cX0_begin 24 = .ok (.iconst 3, 1) := by decide +kernel
theorem dX0_begin_25 : decode cX0_begin 25 = .ok (.invokestatic 96, 3) := by decide +kernel
theorem dX0_begin_28 : decode cX0_begin 28 = .ok (.istore_n 2, 1) := by decide +kernel
theorem dX0_begin_29 : decode cX0_begin 29 = .ok (.aload_n 0, 1) := by decide +kernel
theorem dX0_begin_30 : decode cX0_begin 30 = .ok (.getfield 12, 3) := by decide +kernel
theorem dX0_begin_33 : decode cX0_begin 33 = .ok (.iload_n 2, 1) := by decide +kernel
theorem dX0_begin_34 : decode cX0_begin 34 = .ok (.invokevirtual 99, 3) := by decide +kernel
theorem dX0_begin_37 : decode cX0_begin 37 = .ok (.istore_n 3, 1) := by decide +kernel
theorem dX0_begin_38 : decode cX0_begin 38 = .ok (.iload_n 3, 1) := by decide +kernel
theorem dX0_begin_39 : decode cX0_begin 39 = .ok (.ifCond .le 30, 3) := by decide +kernel
theorem dX0_begin_42 : decode cX0_begin 42 = .ok (.aload_n 0, 1) := by decide +kernel
theorem dX0_begin_43 : decode cX0_begin 43 = .ok (.getfield 12, 3) := by decide +kernel
theorem dX0_begin_46 : decode cX0_begin 46 = .ok (.aload_n 0, 1) := by decide +kernel
theorem dX0_begin_47 : decode cX0_begin 47 = .ok (.getfield 12, 3) := by decide +kernel
theorem dX0_begin_50 : decode cX0_begin 50 = .ok (.iload_n 2, 1) := by decide +kernel
theorem dX0_begin_51 : decode cX0_begin 51 = .ok (.invokevirtual 102, 3) := by decide +kernel
theorem dX0_begin_54 : decode cX0_begin 54 = .ok (.iload_n 1, 1) := by decide +kernel
theorem dX0_begin_55 : decode cX0_begin 55 = .ok (.iconst 1, 1) := by decide +kernel
theorem dX0_begin_56 : decode cX0_begin 56 = .ok (.invokestatic 96, 3) := by decide +kernel
theorem dX0_begin_59 : decode cX0_begin 59 = .ok (.iconst 0, 1) := by decide +kernel
theorem dX0_begin_60 : decode cX0_begin 60 = .ok (.invokevirtual 105, 3) := by decide +kernel
theorem dX0_begin_63 : decode cX0_begin 63 = .ok (.iinc 3 (-1), 3) := by decide +kernel
theorem dX0_begin_66 : decode cX0_begin 66 = .ok (.goto (-28), 3) := by decide +kernel
theorem dX0_begin_69 : decode cX0_begin 69 = .ok (.iload_n 1, 1) := by decide +kernel
theorem dX0_begin_70 : decode cX0_begin 70 = .ok (.iconst 2, 1) := by decide +kernel
theorem dX0_begin_71 : decode cX0_begin 71 = .ok (.imul, 1) := by decide +kernel
theorem dX0_begin_72 : decode cX0_begin 72 = .ok (.istore_n 1, 1) := by decide +kernel
theorem dX0_begin_73 : decode cX0_begin 73 = .ok (.goto (-56), 3) := by decide +kernel
theorem dX0_begin_76 : decode cX0_begin 76 = .ok (.aload_n 0, 1) := by decide +kernel
theorem dX0_begin_77 : decode cX0_begin 77 = .ok (.aload_n 0, 1) := by decide +kernel
theorem dX0_begin_78 : decode cX0_begin 78 = .ok (.getfield 28, 3) := by decide +kernel
theorem dX0_begin_81 : decode cX0_begin 81 = .ok (.iconst 0, 1) := by decide +kernel
theorem dX0_begin_82 : decode cX0_begin 82 = .ok (.bipush 6, 2) := by decide +kernel
theorem dX0_begin_84 : decode cX0_begin 84 = .ok (.invokevirtual 109, 3) := by decide +kernel
theorem dX0_begin_87 : decode cX0_begin 87 = .ok (.aload_n 0, 1) := by decide +kernel
theorem dX0_begin_88 : decode cX0_begin 88 = .ok (.getfield 62, 3) := by decide +kernel
theorem dX0_begin_91 : decode cX0_begin 91 = .ok (.ifCond .ne 7, 3) := by decide +kernel
theorem dX0_begin_94 : decode cX0_begin 94 = .ok (.aload_n 0, 1) := by decide +kernel
theorem dX0_begin_95 : decode cX0_begin 95 = .ok (.invokevirtual 113, 3) := by decide +kernel
theorem dX0_begin_98 : decode cX0_begin 98 = .ok (.return_, 1) := by decide +kernel
theorem dX0_shade_0 : decode cX0_shade 0 = .ok (.iload_n 2, 1) := by decide +kernel
theorem dX0_shade_1 : decode cX0_shade 1 = .ok (.istore 4, 2) := by decide +kernel
theorem dX0_shade_3 : decode cX0_shade 3 = .ok (.iload 4, 2) := by decide +kernel
theorem dX0_shade_5 : decode cX0_shade 5 = .ok (.iload_n 3, 1) := by decide +kernel
theorem dX0_shade_6 : decode cX0_shade 6 = .ok (.if_icmp .ge 69, 3) := by decide +kernel
theorem dX0_shade_9 : decode cX0_shade 9 = .ok (.aload_n 1, 1) := by decide +kernel
theorem dX0_shade_10 : decode cX0_shade 10 = .ok (.iload 4, 2) := by decide +kernel
theorem dX0_shade_12 : decode cX0_shade 12 = .ok (.iaload, 1) := by decide +kernel
theorem dX0_shade_13 : decode cX0_shade 13 = .ok (.istore 5, 2) := by decide +kernel
theorem dX0_shade_15 : decode cX0_shade 15 = .ok (.aload_n 0, 1) := by decide +kernel
theorem dX0_shade_16 : decode cX0_shade 16 = .ok (.getfield 12, 3) := by decide +kernel
theorem dX0_shade_19 : decode cX0_shade 19 = .ok (.iload 5, 2) := by decide +kernel
theorem dX0_shade_21 : decode cX0_shade 21 = .ok (.invokevirtual 88, 3) := by decide +kernel
theorem dX0_shade_24 : decode cX0_shade 24 = .ok (.iconst 1, 1) := by decide +kernel
theorem dX0_shade_25 : decode cX0_shade 25 = .ok (.if_icmp .ne 44, 3) := by decide +kernel
theorem dX0_shade_28 : decode cX0_shade 28 = .ok (.aload_n 0, 1) := by decide +kernel
theorem dX0_shade_29 : decode cX0_shade 29 = .ok (.getfield 12, 3) := by decide +kernel
theorem dX0_shade_32 : decode cX0_shade 32 = .ok (.iload 5, 2) := by decide +kernel
theorem dX0_shade_34 : decode cX0_shade 34 = .ok (.aload_n 0, 1) := by decide +kernel
theorem dX0_shade_35 : decode cX0_shade 35 = .ok (.iload 5, 2) := by decide +kernel
theorem dX0_shade_37 : decode cX0_shade 37 = .ok (.invokevirtual 116, 3) := by decide +kernel
theorem dX0_shade_40 : decode cX0_shade 40 = .ok (.iconst 2, 1) := by decide +kernel
theorem dX0_shade_41 : decode cX0_shade 41 = .ok (.invokestatic 96, 3) := by decide +kernel
theorem dX0_shade_44 : decode cX0_shade 44 = .ok (.iconst 1, 1) := by decide +kernel
theorem dX0_shade_45 : decode cX0_shade 45 = .ok (.invokevirtual 105, 3) := by decide +kernel
theorem dX0_shade_48 : decode cX0_shade 48 = .ok (.aload_n 0, 1) := by decide +kernel
theorem dX0_shade_49 : decode cX0_shade 49 = .ok (.getfield 34, 3) := by decide +kernel
theorem dX0_shade_52 : decode cX0_shade 52 = .ok (.aload_n 0, 1) := by decide +kernel
theorem dX0_shade_53 : decode cX0_shade 53 = .ok (.getfield 62, 3) := by decide +kernel
theorem dX0_shade_56 : decode cX0_shade 56 = .ok (.iload 5, 2) := by decide +kernel
theorem dX0_shade_58 : decode cX0_shade 58 = .ok (.iastore, 1) := by decide +kernel
theorem dX0_shade_59 : decode cX0_shade 59 = .ok (.aload_n 0, 1) := by decide +kernel
theorem dX0_shade_60 : decode cX0_shade 60 = .ok (.dup, 1) := by decide +kernel
theorem dX0_shade_61 : decode cX0_shade 61 = .ok (.getfield 62, 3) := by decide +kernel
theorem dX0_shade_64 : decode cX0_shade 64 = .ok (.iconst 1, 1) := by decide +kernel
theorem dX0_shade_65 : decode cX0_shade 65 = .ok (.iadd, 1) := by decide +kernel
theorem dX0_shade_66 : decode cX0_shade 66 = .ok (.putfield 62, 3) := by decide +kernel
theorem dX0_shade_69 : decode cX0_shade 69 = .ok (.iinc 4 1, 3) := by decide +kernel
theorem dX0_shade_72 : decode cX0_shade 72 = .ok (.goto (-69), 3) := by decide +kernel
theorem dX0_shade_75 : decode cX0_shade 75 = .ok (.return_, 1) := by decide +kernel
theorem dX0_advance_0 : decode cX0_advance 0 = .ok (.iconst 0, 1) := by decide +kernel
theorem dX0_advance_1 : decode cX0_advance 1 = .ok (.istore_n 2, 1) := by decide +kernel
theorem dX0_advance_2 : decode cX0_advance 2 = .ok (.aload_n 0, 1) := by decide +kernel
theorem dX0_advance_3 : decode cX0_advance 3 = .ok (.getfield 74, 3) := by decide +kernel
theorem dX0_advance_6 : decode cX0_advance 6 = .ok (.ifCond .eq 179, 3) := by decide +kernel
theorem dX0_advance_9 : decode cX0_advance 9 = .ok (.iload_n 2, 1) := by decide +kernel
theorem dX0_advance_10 : decode cX0_advance 10 = .ok (.iload_n 1, 1) := by decide +kernel
theorem dX0_advance_11 : decode cX0_advance 11 = .ok (.if_icmp .ge 174, 3) := by decide +kernel
theorem dX0_advance_14 : decode cX0_advance 14 = .ok (.iinc 2 1, 3) := by decide +kernel
theorem dX0_advance_17 : decode cX0_advance 17 = .ok (.aload_n 0, 1) := by decide +kernel
theorem dX0_advance_18 : decode cX0_advance 18 = .ok (.getfield 40, 3) := by decide +kernel
theorem dX0_advance_21 : decode cX0_advance 21 = .ok (.iconst 1, 1) := by decide +kernel
theorem dX0_advance_22 : decode cX0_advance 22 = .ok (.dup2, 1) := by decide +kernel
theorem dX0_advance_23 : decode cX0_advance 23 = .ok (.iaload, 1) := by decide +kernel
theorem dX0_advance_24 : decode cX0_advance 24 = .ok (.iconst 1, 1) := by decide +kernel
theorem dX0_advance_25 : decode cX0_advance 25 = .ok (.iadd, 1) := by decide +kernel
theorem dX0_advance_26 : decode cX0_advance 26 = .ok (.iastore, 1) := by decide +kernel
theorem dX0_advance_27 : decode cX0_advance 27 = .ok (.aload_n 0, 1) := by decide +kernel
theorem dX0_advance_28 : decode cX0_advance 28 = .ok (.getfield 65, 3) := by decide +kernel
theorem dX0_advance_31 : decode cX0_advance 31 = .ok (.iconst (-1), 1) := by decide +kernel
theorem dX0_advance_32 : decode cX0_advance 32 = .ok (.if_icmp .ne 7, 3) := by decide +kernel
theorem dX0_advance_35 : decode cX0_advance 35 = .ok (.aload_n 0, 1) := by decide +kernel
theorem dX0_advance_36 : decode cX0_advance 36 = .ok (.invokevirtual 119, 3) := by decide +kernel
theorem dX0_advance_39 : decode cX0_advance 39 = .ok (.aload_n 0, 1) := by decide +kernel
theorem dX0_advance_40 : decode cX0_advance 40 = .ok (.getfield 68, 3) := by decide +kernel
theorem dX0_advance_43 : decode cX0_advance 43 = .ok (.aload_n 0, 1) := by decide +kernel
theorem dX0_advance_44 : decode cX0_advance 44 = .ok (.getfield 18, 3) := by decide +kernel
theorem dX0_advance_47 : decode cX0_advance 47 = .ok (.aload_n 0, 1) := by decide +kernel
theorem dX0_advance_48 : decode cX0_advance 48 = .ok (.getfield 65, 3) := by decide +kernel
theorem dX0_advance_51 : decode cX0_advance 51 = .ok (.iaload, 1) := by decide +kernel
theorem dX0_advance_52 : decode cX0_advance 52 = .ok (.if_icmp .ge 41, 3) := by decide +kernel
theorem dX0_advance_55 : decode cX0_advance 55 = .ok (.aload_n 0, 1) := by decide +kernel
theorem dX0_advance_56 : decode cX0_advance 56 = .ok (.dup, 1) := by decide +kernel
theorem dX0_advance_57 : decode cX0_advance 57 = .ok (.getfield 68, 3) := by decide +kernel
theorem dX0_advance_60 : decode cX0_advance 60 = .ok (.iconst 1, 1) := by decide +kernel
theorem dX0_advance_61 : decode cX0_advance 61 = .ok (.iadd, 1) := by decide +kernel
theorem dX0_advance_62 : decode cX0_advance 62 = .ok (.putfield 68, 3) := by decide +kernel
theorem dX0_advance_65 : decode cX0_advance 65 = .ok (.aload_n 0, 1) := by decide +kernel
theorem dX0_advance_66 : decode cX0_advance 66 = .ok (.aload_n 0, 1) := by decide +kernel
theorem dX0_advance_67 : decode cX0_advance 67 = .ok (.getfield 18, 3) := by decide +kernel
theorem dX0_advance_70 : decode cX0_advance 70 = .ok (.aload_n 0, 1) := by decide +kernel
theorem dX0_advance_71 : decode cX0_advance 71 = .ok (.getfield 65, 3) := by decide +kernel
theorem dX0_advance_74 : decode cX0_advance 74 = .ok (.aload_n 0, 1) := by decide +kernel
theorem dX0_advance_75 : decode cX0_advance 75 = .ok (.getfield 68, 3) := by decide +kernel
theorem dX0_advance_78 : decode cX0_advance 78 = .ok (.iadd, 1) := by decide +kernel
theorem dX0_advance_79 : decode cX0_advance 79 = .ok (.aload_n 0, 1) := by decide +kernel
theorem dX0_advance_80 : decode cX0_advance 80 = .ok (.getfield 65, 3) := by decide +kernel
theorem dX0_advance_83 : decode cX0_advance 83 = .ok (.aload_n 0, 1) := by decide +kernel
theorem dX0_advance_84 : decode cX0_advance 84 = .ok (.getfield 68, 3) := by decide +kernel
theorem dX0_advance_87 : decode cX0_advance 87 = .ok (.iadd, 1) := by decide +kernel
theorem dX0_advance_88 : decode cX0_advance 88 = .ok (.iconst 1, 1) := by decide +kernel
theorem dX0_advance_89 : decode cX0_advance 89 = .ok (.iadd, 1) := by decide +kernel
theorem dX0_advance_90 : decode cX0_advance 90 = .ok (.invokevirtual 109, 3) := by decide +kernel
theorem dX0_advance_93 : decode cX0_advance 93 = .ok (.aload_n 0, 1) := by decide +kernel
theorem dX0_advance_94 : decode cX0_advance 94 = .ok (.getfield 68, 3) := by decide +kernel
theorem dX0_advance_97 : decode cX0_advance 97 = .ok (.aload_n 0, 1) := by decide +kernel
theorem dX0_advance_98 : decode cX0_advance 98 = .ok (.getfield 18, 3) := by decide +kernel
theorem dX0_advance_101 : decode cX0_advance 101 = .ok (.aload_n 0, 1) := by decide +kernel
theorem dX0_advance_102 : decode cX0_advance 102 = .ok (.getfield 65, 3) := by decide +kernel
theorem dX0_advance_105 : decode cX0_advance 105 = .ok (.iaload, 1) := by decide +kernel
theorem dX0_advance_106 : decode cX0_advance 106 = .ok (.if_icmp .lt (-104), 3) := by decide +kernel
theorem dX0_advance_109 : decode cX0_advance 109 = .ok (.aload_n 0, 1) := by decide +kernel
theorem dX0_advance_110 : decode cX0_advance 110 = .ok (.getfield 12, 3) := by decide +kernel
theorem dX0_advance_113 : decode cX0_advance 113 = .ok (.aload_n 0, 1) := by decide +kernel
theorem dX0_advance_114 : decode cX0_advance 114 = .ok (.getfield 65, 3) := by decide +kernel
theorem dX0_advance_117 : decode cX0_advance 117 = .ok (.aload_n 0, 1) := by decide +kernel
theorem dX0_advance_118 : decode cX0_advance 118 = .ok (.aload_n 0, 1) := by decide +kernel
theorem dX0_advance_119 : decode cX0_advance 119 = .ok (.getfield 65, 3) := by decide +kernel
theorem dX0_advance_122 : decode cX0_advance 122 = .ok (.invokevirtual 116, 3) := by decide +kernel
theorem dX0_advance_125 : decode cX0_advance 125 = .ok (.iconst 3, 1) := by decide +kernel
theorem dX0_advance_126 : decode cX0_advance 126 = .ok (.invokestatic 96, 3) := by decide +kernel
theorem dX0_advance_129 : decode cX0_advance 129 = .ok (.iconst 1, 1) := by decide +kernel
theorem dX0_advance_130 : decode cX0_advance 130 = .ok (.invokevirtual 105, 3) := by decide +kernel
theorem dX0_advance_133 : decode cX0_advance 133 = .ok (.aload_n 0, 1) := by decide +kernel
theorem dX0_advance_134 : decode cX0_advance 134 = .ok (.iconst (-1), 1) := by decide +kernel
theorem dX0_advance_135 : decode cX0_advance 135 = .ok (.putfield 65, 3) := by decide +kernel
theorem dX0_advance_138 : decode cX0_advance 138 = .ok (.aload_n 0, 1) := by decide +kernel
theorem dX0_advance_139 : decode cX0_advance 139 = .ok (.iconst 0, 1) := by decide +kernel
theorem dX0_advance_140 : decode cX0_advance 140 = .ok (.putfield 68, 3) := by decide +kernel
theorem dX0_advance_143 : decode cX0_advance 143 = .ok (.aload_n 0, 1) := by decide +kernel
theorem dX0_advance_144 : decode cX0_advance 144 = .ok (.getfield 62, 3) := by decide +kernel
theorem dX0_advance_147 : decode cX0_advance 147 = .ok (.ifCond .ne 24, 3) := by decide +kernel
theorem dX0_advance_150 : decode cX0_advance 150 = .ok (.aload_n 0, 1) := by decide +kernel
theorem dX0_advance_151 : decode cX0_advance 151 = .ok (.getfield 37, 3) := by decide +kernel
theorem dX0_advance_154 : decode cX0_advance 154 = .ok (.iconst 0, 1) := by decide +kernel
theorem dX0_advance_155 : decode cX0_advance 155 = .ok (.iaload, 1) := by decide +kernel
theorem dX0_advance_156 : decode cX0_advance 156 = .ok (.iconst 1, 1) := by decide +kernel
theorem dX0_advance_157 : decode cX0_advance 157 = .ok (.if_icmp .ne 14, 3) := by decide +kernel
theorem dX0_advance_160 : decode cX0_advance 160 = .ok (.aload_n 0, 1) := by decide +kernel
theorem dX0_advance_161 : decode cX0_advance 161 = .ok (.aload_n 0, 1) := by decide +kernel
theorem dX0_advance_162 : decode cX0_advance 162 = .ok (.getfield 28, 3) := by decide +kernel
theorem dX0_advance_165 : decode cX0_advance 165 = .ok (.iconst 0, 1) := by decide +kernel
theorem dX0_advance_166 : decode cX0_advance 166 = .ok (.bipush 6, 2) := by decide +kernel
theorem dX0_advance_168 : decode cX0_advance 168 = .ok (.invokevirtual 109, 3) := by decide +kernel
theorem dX0_advance_171 : decode cX0_advance 171 = .ok (.aload_n 0, 1) := by decide +kernel
theorem dX0_advance_172 : decode cX0_advance 172 = .ok (.getfield 62, 3) := by decide +kernel
theorem dX0_advance_175 : decode cX0_advance 175 = .ok (.ifCond .ne (-173), 3) := by decide +kernel
theorem dX0_advance_178 : decode cX0_advance 178 = .ok (.aload_n 0, 1) := by decide +kernel
theorem dX0_advance_179 : decode cX0_advance 179 = .ok (.invokevirtual 113, 3) := by decide +kernel
theorem dX0_advance_182 : decode cX0_advance 182 = .ok (.goto (-180), 3) := by decide +kernel
theorem dX0_advance_185 : decode cX0_advance 185 = .ok (.iload_n 2, 1) := by decide +kernel
theorem dX0_advance_186 : decode cX0_advance 186 = .ok (.ireturn, 1) := by decide +kernel
theorem dX0_take_0 : decode cX0_take 0 = .ok (.iconst 0, 1) := by decide +kernel
theorem dX0_take_1 : decode cX0_take 1 = .ok (.istore_n 1, 1) := by decide +kernel
theorem dX0_take_2 : decode cX0_take 2 = .ok (.iconst 1, 1) := by decide +kernel
theorem dX0_take_3 : decode cX0_take 3 = .ok (.istore_n 2, 1) := by decide +kernel
theorem dX0_take_4 : decode cX0_take 4 = .ok (.iload_n 2, 1) := by decide +kernel
theorem dX0_take_5 : decode cX0_take 5 = .ok (.aload_n 0, 1) := by decide +kernel
theorem dX0_take_6 : decode cX0_take 6 = .ok (.getfield 62, 3) := by decide +kernel
theorem dX0_take_9 : decode cX0_take 9 = .ok (.if_icmp .ge 20, 3) := by decide +kernel
theorem dX0_take_12 : decode cX0_take 12 = .ok (.aload_n 0, 1) := by decide +kernel
theorem dX0_take_13 : decode cX0_take 13 = .ok (.iload_n 2, 1) := by decide +kernel
theorem dX0_take_14 : decode cX0_take 14 = .ok (.iload_n 1, 1) := by decide +kernel
theorem dX0_take_15 : decode cX0_take 15 = .ok (.invokevirtual 122, 3) := by decide +kernel
theorem dX0_take_18 : decode cX0_take 18 = .ok (.ifCond .eq 5, 3) := by decide +kernel
theorem dX0_take_21 : decode cX0_take 21 = .ok (.iload_n 2, 1) := by decide +kernel
theorem dX0_take_22 : decode cX0_take 22 = .ok (.istore_n 1, 1) := by decide +kernel
theorem dX0_take_23 : decode cX0_take 23 = .ok (.iinc 2 1, 3) := by decide +kernel
theorem dX0_take_26 : decode cX0_take 26 = .ok (.goto (-22), 3) := by decide +kernel
theorem dX0_take_29 : decode cX0_take 29 = .ok (.aload_n 0, 1) := by decide +kernel
theorem dX0_take_30 : decode cX0_take 30 = .ok (.aload_n 0, 1) := by decide +kernel
theorem dX0_take_31 : decode cX0_take 31 = .ok (.getfield 34, 3) := by decide +kernel
theorem dX0_take_34 : decode cX0_take 34 = .ok (.iload_n 1, 1) := by decide +kernel
theorem dX0_take_35 : decode cX0_take 35 = .ok (.iaload, 1) := by decide +kernel
theorem dX0_take_36 : decode cX0_take 36 = .ok (.putfield 65, 3) := by decide +kernel
theorem dX0_take_39 : decode cX0_take 39 = .ok (.aload_n 0, 1) := by decide +kernel
theorem dX0_take_40 : decode cX0_take 40 = .ok (.iconst 0, 1) := by decide +kernel
theorem dX0_take_41 : decode cX0_take 41 = .ok (.putfield 68, 3) := by decide +kernel
theorem dX0_take_44 : decode cX0_take 44 = .ok (.aload_n 0, 1) := by decide +kernel
theorem dX0_take_45 : decode cX0_take 45 = .ok (.dup, 1) := by decide +kernel
theorem dX0_take_46 : decode cX0_take 46 = .ok (.getfield 62, 3) := by decide +kernel
theorem dX0_take_49 : decode cX0_take 49 = .ok (.iconst 1, 1) := by decide +kernel
theorem dX0_take_50 : decode cX0_take 50 = .ok (.isub, 1) := by decide +kernel
theorem dX0_take_51 : decode cX0_take 51 = .ok (.putfield 62, 3) := by decide +kernel
theorem dX0_take_54 : decode cX0_take 54 = .ok (.iload_n 1, 1) := by decide +kernel
theorem dX0_take_55 : decode cX0_take 55 = .ok (.istore_n 2, 1) := by decide +kernel
theorem dX0_take_56 : decode cX0_take 56 = .ok (.iload_n 2, 1) := by decide +kernel
theorem dX0_take_57 : decode cX0_take 57 = .ok (.aload_n 0, 1) := by decide +kernel
theorem dX0_take_58 : decode cX0_take 58 = .ok (.getfield 62, 3) := by decide +kernel
theorem dX0_take_61 : decode cX0_take 61 = .ok (.if_icmp .ge 23, 3) := by decide +kernel
theorem dX0_take_64 : decode cX0_take 64 = .ok (.aload_n 0, 1) := by decide +kernel
theorem dX0_take_65 : decode cX0_take 65 = .ok (.getfield 34, 3) := by decide +kernel
theorem dX0_take_68 : decode cX0_take 68 = .ok (.iload_n 2, 1) := by decide +kernel
theorem dX0_take_69 : decode cX0_take 69 = .ok (.aload_n 0, 1) := by decide +kernel
theorem dX0_take_70 : decode cX0_take 70 = .ok (.getfield 34, 3) := by decide +kernel
theorem dX0_take_73 : decode cX0_take 73 = .ok (.iload_n 2, 1) := by decide +kernel
theorem dX0_take_74 : decode cX0_take 74 = .ok (.iconst 1, 1) := by decide +kernel
theorem dX0_take_75 : decode cX0_take 75 = .ok (.iadd, 1) := by decide +kernel
theorem dX0_take_76 : decode cX0_take 76 = .ok (.iaload, 1) := by decide +kernel
theorem dX0_take_77 : decode cX0_take 77 = .ok (.iastore, 1) := by decide +kernel
theorem dX0_take_78 : decode cX0_take 78 = .ok (.iinc 2 1, 3) := by decide +kernel
theorem dX0_take_81 : decode cX0_take 81 = .ok (.goto (-25), 3) := by decide +kernel
theorem dX0_take_84 : decode cX0_take 84 = .ok (.return_, 1) := by decide +kernel
theorem dX0_goesAhead_0 : decode cX0_goesAhead 0 = .ok (.aload_n 0, 1) := by decide +kernel
theorem dX0_goesAhead_1 : decode cX0_goesAhead 1 = .ok (.getfield 37, 3) := by decide +kernel
theorem dX0_goesAhead_4 : decode cX0_goesAhead 4 = .ok (.iconst 1, 1) := by decide +kernel
theorem dX0_goesAhead_5 : decode cX0_goesAhead 5 = .ok (.iaload, 1) := by decide +kernel
theorem dX0_goesAhead_6 : decode cX0_goesAhead 6 = .ok (.tableswitch 112 1 3 #[26, 37, 91], 26) := by decide +kernel
theorem dX0_goesAhead_32 : decode cX0_goesAhead 32 = .ok (.iload_n 1, 1) := by decide +kernel
theorem dX0_goesAhead_33 : decode cX0_goesAhead 33 = .ok (.iload_n 2, 1) := by decide +kernel
theorem dX0_goesAhead_34 : decode cX0_goesAhead 34 = .ok (.if_icmp .le 7, 3) := by decide +kernel
theorem dX0_goesAhead_37 : decode cX0_goesAhead 37 = .ok (.iconst 1, 1) := by decide +kernel
theorem dX0_goesAhead_38 : decode cX0_goesAhead 38 = .ok (.goto 4, 3) := by decide +kernel
theorem dX0_goesAhead_41 : decode cX0_goesAhead 41 = .ok (.iconst 0, 1) := by decide +kernel
theorem dX0_goesAhead_42 : decode cX0_goesAhead 42 = .ok (.ireturn, 1) := by decide +kernel
theorem dX0_goesAhead_43 : decode cX0_goesAhead 43 = .ok (.aload_n 0, 1) := by decide +kernel
theorem dX0_goesAhead_44 : decode cX0_goesAhead 44 = .ok (.getfield 22, 3) := by decide +kernel
theorem dX0_goesAhead_47 : decode cX0_goesAhead 47 = .ok (.aload_n 0, 1) := by decide +kernel
theorem dX0_goesAhead_48 : decode cX0_goesAhead 48 = .ok (.getfield 34, 3) := by decide +kernel
theorem dX0_goesAhead_51 : decode cX0_goesAhead 51 = .ok (.iload_n 1, 1) := by decide +kernel
theorem dX0_goesAhead_52 : decode cX0_goesAhead 52 = .ok (.iaload, 1) := by decide +kernel
theorem dX0_goesAhead_53 : decode cX0_goesAhead 53 = .ok (.bipush 16, 2) := by decide +kernel
theorem dX0_goesAhead_55 : decode cX0_goesAhead 55 = .ok (.idiv, 1) := by decide +kernel
theorem dX0_goesAhead_56 : decode cX0_goesAhead 56 = .ok (.iaload, 1) := by decide +kernel
theorem dX0_goesAhead_57 : decode cX0_goesAhead 57 = .ok (.istore_n 3, 1) := by decide +kernel
theorem dX0_goesAhead_58 : decode cX0_goesAhead 58 = .ok (.aload_n 0, 1) := by decide +kernel
theorem dX0_goesAhead_59 : decode cX0_goesAhead 59 = .ok (.getfield 22, 3) := by decide +kernel
theorem dX0_goesAhead_62 : decode cX0_goesAhead 62 = .ok (.aload_n 0, 1) := by decide +kernel
theorem dX0_goesAhead_63 : decode cX0_goesAhead 63 = .ok (.getfield 34, 3) := by decide +kernel
theorem dX0_goesAhead_66 : decode cX0_goesAhead 66 = .ok (.iload_n 2, 1) := by decide +kernel
theorem dX0_goesAhead_67 : decode cX0_goesAhead 67 = .ok (.iaload, 1) := by decide +kernel
theorem dX0_goesAhead_68 : decode cX0_goesAhead 68 = .ok (.bipush 16, 2) := by decide +kernel
theorem dX0_goesAhead_70 : decode cX0_goesAhead 70 = .ok (.idiv, 1) := by decide +kernel
theorem dX0_goesAhead_71 : decode cX0_goesAhead 71 = .ok (.iaload, 1) := by decide +kernel
theorem dX0_goesAhead_72 : decode cX0_goesAhead 72 = .ok (.istore 4, 2) := by decide +kernel
theorem dX0_goesAhead_74 : decode cX0_goesAhead 74 = .ok (.iload_n 3, 1) := by decide +kernel
theorem dX0_goesAhead_75 : decode cX0_goesAhead 75 = .ok (.iload 4, 2) := by decide +kernel
theorem dX0_goesAhead_77 : decode cX0_goesAhead 77 = .ok (.if_icmp .lt 14, 3) := by decide +kernel
theorem dX0_goesAhead_80 : decode cX0_goesAhead 80 = .ok (.iload_n 3, 1) := by decide +kernel
theorem dX0_goesAhead_81 : decode cX0_goesAhead 81 = .ok (.iload 4, 2) := by decide +kernel
theorem dX0_goesAhead_83 : decode cX0_goesAhead 83 = .ok (.if_icmp .ne 12, 3) := by decide +kernel
theorem dX0_goesAhead_86 : decode cX0_goesAhead 86 = .ok (.iload_n 1, 1) := by decide +kernel
theorem dX0_goesAhead_87 : decode cX0_goesAhead 87 = .ok (.iload_n 2, 1) := by decide +kernel
theorem dX0_goesAhead_88 : decode cX0_goesAhead 88 = .ok (.if_icmp .ge 7, 3) := by decide +kernel
theorem dX0_goesAhead_91 : decode cX0_goesAhead 91 = .ok (.iconst 1, 1) := by decide +kernel
theorem dX0_goesAhead_92 : decode cX0_goesAhead 92 = .ok (.goto 4, 3) := by decide +kernel
theorem dX0_goesAhead_95 : decode cX0_goesAhead 95 = .ok (.iconst 0, 1) := by decide +kernel
theorem dX0_goesAhead_96 : decode cX0_goesAhead 96 = .ok (.ireturn, 1) := by decide +kernel
theorem dX0_goesAhead_97 : decode cX0_goesAhead 97 = .ok (.aload_n 0, 1) := by decide +kernel
theorem dX0_goesAhead_98 : decode cX0_goesAhead 98 = .ok (.getfield 34, 3) := by decide +kernel
theorem dX0_goesAhead_101 : decode cX0_goesAhead 101 = .ok (.iload_n 1, 1) := by decide +kernel
theorem dX0_goesAhead_102 : decode cX0_goesAhead 102 = .ok (.iaload, 1) := by decide +kernel
theorem dX0_goesAhead_103 : decode cX0_goesAhead 103 = .ok (.aload_n 0, 1) := by decide +kernel
theorem dX0_goesAhead_104 : decode cX0_goesAhead 104 = .ok (.getfield 34, 3) := by decide +kernel
theorem dX0_goesAhead_107 : decode cX0_goesAhead 107 = .ok (.iload_n 2, 1) := by decide +kernel
theorem dX0_goesAhead_108 : decode cX0_goesAhead 108 = .ok (.iaload, 1) := by decide +kernel
theorem dX0_goesAhead_109 : decode cX0_goesAhead 109 = .ok (.if_icmp .ge 7, 3) := by decide +kernel
theorem dX0_goesAhead_112 : decode cX0_goesAhead 112 = .ok (.iconst 1, 1) := by decide +kernel
theorem dX0_goesAhead_113 : decode cX0_goesAhead 113 = .ok (.goto 4, 3) := by decide +kernel
theorem dX0_goesAhead_116 : decode cX0_goesAhead 116 = .ok (.iconst 0, 1) := by decide +kernel
theorem dX0_goesAhead_117 : decode cX0_goesAhead 117 = .ok (.ireturn, 1) := by decide +kernel
theorem dX0_goesAhead_118 : decode cX0_goesAhead 118 = .ok (.iload_n 1, 1) := by decide +kernel
theorem dX0_goesAhead_119 : decode cX0_goesAhead 119 = .ok (.iload_n 2, 1) := by decide +kernel
theorem dX0_goesAhead_120 : decode cX0_goesAhead 120 = .ok (.if_icmp .ge 7, 3) := by decide +kernel
theorem dX0_goesAhead_123 : decode cX0_goesAhead 123 = .ok (.iconst 1, 1) := by decide +kernel
theorem dX0_goesAhead_124 : decode cX0_goesAhead 124 = .ok (.goto 4, 3) := by decide +kernel
theorem dX0_goesAhead_127 : decode cX0_goesAhead 127 = .ok (.iconst 0, 1) := by decide +kernel
theorem dX0_goesAhead_128 : decode cX0_goesAhead 128 = .ok (.ireturn, 1) := by decide +kernel
theorem dX0_finish_0 : decode cX0_finish 0 = .ok (.aload_n 0, 1) := by decide +kernel
theorem dX0_finish_1 : decode cX0_finish 1 = .ok (.iconst 0, 1) := by decide +kernel
theorem dX0_finish_2 : decode cX0_finish 2 = .ok (.putfield 74, 3) := by decide +kernel
theorem dX0_finish_5 : decode cX0_finish 5 = .ok (.iconst 0, 1) := by decide +kernel
theorem dX0_finish_6 : decode cX0_finish 6 = .ok (.istore_n 1, 1) := by decide +kernel
theorem dX0_finish_7 : decode cX0_finish 7 = .ok (.iconst 2, 1) := by decide +kernel
theorem dX0_finish_8 : decode cX0_finish 8 = .ok (.istore_n 2, 1) := by decide +kernel
theorem dX0_finish_9 : decode cX0_finish 9 = .ok (.iload_n 2, 1) := by decide +kernel
theorem dX0_finish_10 : decode cX0_finish 10 = .ok (.bipush 8, 2) := by decide +kernel
theorem dX0_finish_12 : decode cX0_finish 12 = .ok (.if_icmp .gt 87, 3) := by decide +kernel
theorem dX0_finish_15 : decode cX0_finish 15 = .ok (.iload_n 2, 1) := by decide +kernel
theorem dX0_finish_16 : decode cX0_finish 16 = .ok (.iconst 1, 1) := by decide +kernel
theorem dX0_finish_17 : decode cX0_finish 17 = .ok (.invokestatic 96, 3) := by decide +kernel
theorem dX0_finish_20 : decode cX0_finish 20 = .ok (.istore_n 3, 1) := by decide +kernel
theorem dX0_finish_21 : decode cX0_finish 21 = .ok (.aload_n 0, 1) := by decide +kernel
theorem dX0_finish_22 : decode cX0_finish 22 = .ok (.getfield 12, 3) := by decide +kernel
theorem dX0_finish_25 : decode cX0_finish 25 = .ok (.iload_n 3, 1) := by decide +kernel
theorem dX0_finish_26 : decode cX0_finish 26 = .ok (.invokevirtual 99, 3) := by decide +kernel
theorem dX0_finish_29 : decode cX0_finish 29 = .ok (.istore 4, 2) := by decide +kernel
theorem dX0_finish_31 : decode cX0_finish 31 = .ok (.iload 4, 2) := by decide +kernel
theorem dX0_finish_33 : decode cX0_finish 33 = .ok (.ifCond .le 59, 3) := by decide +kernel
theorem dX0_finish_36 : decode cX0_finish 36 = .ok (.aload_n 0, 1) := by decide +kernel
theorem dX0_finish_37 : decode cX0_finish 37 = .ok (.getfield 12, 3) := by decide +kernel
theorem dX0_finish_40 : decode cX0_finish 40 = .ok (.iload_n 3, 1) := by decide +kernel
theorem dX0_finish_41 : decode cX0_finish 41 = .ok (.invokevirtual 102, 3) := by decide +kernel
theorem dX0_finish_44 : decode cX0_finish 44 = .ok (.istore 5, 2) := by decide +kernel
theorem dX0_finish_46 : decode cX0_finish 46 = .ok (.aload_n 0, 1) := by decide +kernel
theorem dX0_finish_47 : decode cX0_finish 47 = .ok (.getfield 12, 3) := by decide +kernel
theorem dX0_finish_50 : decode cX0_finish 50 = .ok (.iload 5, 2) := by decide +kernel
theorem dX0_finish_52 : decode cX0_finish 52 = .ok (.iload_n 2, 1) := by decide +kernel
theorem dX0_finish_53 : decode cX0_finish 53 = .ok (.iconst 0, 1) := by decide +kernel
theorem dX0_finish_54 : decode cX0_finish 54 = .ok (.invokestatic 96, 3) := by decide +kernel
theorem dX0_finish_57 : decode cX0_finish 57 = .ok (.iconst 0, 1) := by decide +kernel
theorem dX0_finish_58 : decode cX0_finish 58 = .ok (.invokevirtual 105, 3) := by decide +kernel
theorem dX0_finish_61 : decode cX0_finish 61 = .ok (.aload_n 0, 1) := by decide +kernel
theorem dX0_finish_62 : decode cX0_finish 62 = .ok (.getfield 18, 3) := by decide +kernel
theorem dX0_finish_65 : decode cX0_finish 65 = .ok (.iload 5, 2) := by decide +kernel
theorem dX0_finish_67 : decode cX0_finish 67 = .ok (.iconst (-1), 1) := by decide +kernel
theorem dX0_finish_68 : decode cX0_finish 68 = .ok (.iastore, 1) := by decide +kernel
theorem dX0_finish_69 : decode cX0_finish 69 = .ok (.aload_n 0, 1) := by decide +kernel
theorem dX0_finish_70 : decode cX0_finish 70 = .ok (.getfield 25, 3) := by decide +kernel
theorem dX0_finish_73 : decode cX0_finish 73 = .ok (.iload 5, 2) := by decide +kernel
theorem dX0_finish_75 : decode cX0_finish 75 = .ok (.bipush 16, 2) := by decide +kernel
theorem dX0_finish_77 : decode cX0_finish 77 = .ok (.idiv, 1) := by decide +kernel
theorem dX0_finish_78 : decode cX0_finish 78 = .ok (.dup2, 1) := by decide +kernel
theorem dX0_finish_79 : decode cX0_finish 79 = .ok (.iaload, 1) := by decide +kernel
theorem dX0_finish_80 : decode cX0_finish 80 = .ok (.iconst 1, 1) := by decide +kernel
theorem dX0_finish_81 : decode cX0_finish 81 = .ok (.isub, 1) := by decide +kernel
theorem dX0_finish_82 : decode cX0_finish 82 = .ok (.iastore, 1) := by decide +kernel
theorem dX0_finish_83 : decode cX0_finish 83 = .ok (.iinc 1 1, 3) := by decide +kernel
theorem dX0_finish_86 : decode cX0_finish 86 = .ok (.iinc 4 (-1), 3) := by decide +kernel
theorem dX0_finish_89 : decode cX0_finish 89 = .ok (.goto (-58), 3) := by decide +kernel
theorem dX0_finish_92 : decode cX0_finish 92 = .ok (.iload_n 2, 1) := by decide +kernel
theorem dX0_finish_93 : decode cX0_finish 93 = .ok (.iconst 2, 1) := by decide +kernel
theorem dX0_finish_94 : decode cX0_finish 94 = .ok (.imul, 1) := by decide +kernel
theorem dX0_finish_95 : decode cX0_finish 95 = .ok (.istore_n 2, 1) := by decide +kernel
theorem dX0_finish_96 : decode cX0_finish 96 = .ok (.goto (-87), 3) := by decide +kernel
theorem dX0_finish_99 : decode cX0_finish 99 = .ok (.iconst 0, 1) := by decide +kernel
theorem dX0_finish_100 : decode cX0_finish 100 = .ok (.istore_n 2, 1) := by decide +kernel
theorem dX0_finish_101 : decode cX0_finish 101 = .ok (.iload_n 2, 1) := by decide +kernel
theorem dX0_finish_102 : decode cX0_finish 102 = .ok (.sipush 128, 3) := by decide +kernel
theorem dX0_finish_105 : decode cX0_finish 105 = .ok (.if_icmp .ge 50, 3) := by decide +kernel
theorem dX0_finish_108 : decode cX0_finish 108 = .ok (.aload_n 0, 1) := by decide +kernel
theorem dX0_finish_109 : decode cX0_finish 109 = .ok (.getfield 12, 3) := by decide +kernel
theorem dX0_finish_112 : decode cX0_finish 112 = .ok (.iload_n 2, 1) := by decide +kernel
theorem dX0_finish_113 : decode cX0_finish 113 = .ok (.invokevirtual 88, 3) := by decide +kernel
theorem dX0_finish_116 : decode cX0_finish 116 = .ok (.ifCond .le 33, 3) := by decide +kernel
theorem dX0_finish_119 : decode cX0_finish 119 = .ok (.aload_n 0, 1) := by decide +kernel
theorem dX0_finish_120 : decode cX0_finish 120 = .ok (.getfield 40, 3) := by decide +kernel
theorem dX0_finish_123 : decode cX0_finish 123 = .ok (.iconst 3, 1) := by decide +kernel
theorem dX0_finish_124 : decode cX0_finish 124 = .ok (.dup2, 1) := by decide +kernel
theorem dX0_finish_125 : decode cX0_finish 125 = .ok (.iaload, 1) := by decide +kernel
theorem dX0_finish_126 : decode cX0_finish 126 = .ok (.aload_n 0, 1) := by decide +kernel
theorem dX0_finish_127 : decode cX0_finish 127 = .ok (.aload_n 0, 1) := by decide +kernel
theorem dX0_finish_128 : decode cX0_finish 128 = .ok (.getfield 18, 3) := by decide +kernel
theorem dX0_finish_131 : decode cX0_finish 131 = .ok (.iload_n 2, 1) := by decide +kernel
theorem dX0_finish_132 : decode cX0_finish 132 = .ok (.iconst 1, 1) := by decide +kernel
theorem dX0_finish_133 : decode cX0_finish 133 = .ok (.iadd, 1) := by decide +kernel
theorem dX0_finish_134 : decode cX0_finish 134 = .ok (.iload_n 2, 1) := by decide +kernel
theorem dX0_finish_135 : decode cX0_finish 135 = .ok (.iconst 1, 1) := by decide +kernel
theorem dX0_finish_136 : decode cX0_finish 136 = .ok (.iadd, 1) := by decide +kernel
theorem dX0_finish_137 : decode cX0_finish 137 = .ok (.aload_n 0, 1) := by decide +kernel
theorem dX0_finish_138 : decode cX0_finish 138 = .ok (.getfield 18, 3) := by decide +kernel
theorem dX0_finish_141 : decode cX0_finish 141 = .ok (.iload_n 2, 1) := by decide +kernel
theorem dX0_finish_142 : decode cX0_finish 142 = .ok (.iaload, 1) := by decide +kernel
theorem dX0_finish_143 : decode cX0_finish 143 = .ok (.iadd, 1) := by decide +kernel
theorem dX0_finish_144 : decode cX0_finish 144 = .ok (.invokevirtual 126, 3) := by decide +kernel
theorem dX0_finish_147 : decode cX0_finish 147 = .ok (.iadd, 1) := by decide +kernel
theorem dX0_finish_148 : decode cX0_finish 148 = .ok (.iastore, 1) := by decide +kernel
theorem dX0_finish_149 : decode cX0_finish 149 = .ok (.iinc 2 2, 3) := by decide +kernel
theorem dX0_finish_152 : decode cX0_finish 152 = .ok (.goto (-51), 3) := by decide +kernel
theorem dX0_finish_155 : decode cX0_finish 155 = .ok (.aload_n 0, 1) := by decide +kernel
theorem dX0_finish_156 : decode cX0_finish 156 = .ok (.getfield 40, 3) := by decide +kernel
theorem dX0_finish_159 : decode cX0_finish 159 = .ok (.iconst 3, 1) := by decide +kernel
theorem dX0_finish_160 : decode cX0_finish 160 = .ok (.dup2, 1) := by decide +kernel
theorem dX0_finish_161 : decode cX0_finish 161 = .ok (.iaload, 1) := by decide +kernel
theorem dX0_finish_162 : decode cX0_finish 162 = .ok (.aload_n 0, 1) := by decide +kernel
theorem dX0_finish_163 : decode cX0_finish 163 = .ok (.aload_n 0, 1) := by decide +kernel
theorem dX0_finish_164 : decode cX0_finish 164 = .ok (.getfield 28, 3) := by decide +kernel
theorem dX0_finish_167 : decode cX0_finish 167 = .ok (.iconst 0, 1) := by decide +kernel
theorem dX0_finish_168 : decode cX0_finish 168 = .ok (.bipush 6, 2) := by decide +kernel
theorem dX0_finish_170 : decode cX0_finish 170 = .ok (.invokevirtual 126, 3) := by decide +kernel
theorem dX0_finish_173 : decode cX0_finish 173 = .ok (.iadd, 1) := by decide +kernel
theorem dX0_finish_174 : decode cX0_finish 174 = .ok (.iastore, 1) := by decide +kernel
theorem dX0_finish_175 : decode cX0_finish 175 = .ok (.aload_n 0, 1) := by decide +kernel
theorem dX0_finish_176 : decode cX0_finish 176 = .ok (.getfield 40, 3) := by decide +kernel
theorem dX0_finish_179 : decode cX0_finish 179 = .ok (.iconst 5, 1) := by decide +kernel
theorem dX0_finish_180 : decode cX0_finish 180 = .ok (.dup2, 1) := by decide +kernel
theorem dX0_finish_181 : decode cX0_finish 181 = .ok (.iaload, 1) := by decide +kernel
theorem dX0_finish_182 : decode cX0_finish 182 = .ok (.aload_n 0, 1) := by decide +kernel
theorem dX0_finish_183 : decode cX0_finish 183 = .ok (.aload_n 0, 1) := by decide +kernel
theorem dX0_finish_184 : decode cX0_finish 184 = .ok (.getfield 31, 3) := by decide +kernel
theorem dX0_finish_187 : decode cX0_finish 187 = .ok (.iconst 0, 1) := by decide +kernel
theorem dX0_finish_188 : decode cX0_finish 188 = .ok (.iconst 4, 1) := by decide +kernel
theorem dX0_finish_189 : decode cX0_finish 189 = .ok (.invokevirtual 126, 3) := by decide +kernel
theorem dX0_finish_192 : decode cX0_finish 192 = .ok (.iadd, 1) := by decide +kernel
theorem dX0_finish_193 : decode cX0_finish 193 = .ok (.iastore, 1) := by decide +kernel
theorem dX0_finish_194 : decode cX0_finish 194 = .ok (.aload_n 0, 1) := by decide +kernel
theorem dX0_finish_195 : decode cX0_finish 195 = .ok (.getfield 40, 3) := by decide +kernel
theorem dX0_finish_198 : decode cX0_finish 198 = .ok (.iconst 0, 1) := by decide +kernel
theorem dX0_finish_199 : decode cX0_finish 199 = .ok (.iaload, 1) := by decide +kernel
theorem dX0_finish_200 : decode cX0_finish 200 = .ok (.bipush 16, 2) := by decide +kernel
theorem dX0_finish_202 : decode cX0_finish 202 = .ok (.irem, 1) := by decide +kernel
theorem dX0_finish_203 : decode cX0_finish 203 = .ok (.iconst 3, 1) := by decide +kernel
theorem dX0_finish_204 : decode cX0_finish 204 = .ok (.imul, 1) := by decide +kernel
theorem dX0_finish_205 : decode cX0_finish 205 = .ok (.istore_n 2, 1) := by decide +kernel
theorem dX0_finish_206 : decode cX0_finish 206 = .ok (.aload_n 0, 1) := by decide +kernel
theorem dX0_finish_207 : decode cX0_finish 207 = .ok (.getfield 43, 3) := by decide +kernel
theorem dX0_finish_210 : decode cX0_finish 210 = .ok (.iload_n 2, 1) := by decide +kernel
theorem dX0_finish_211 : decode cX0_finish 211 = .ok (.aload_n 0, 1) := by decide +kernel
theorem dX0_finish_212 : decode cX0_finish 212 = .ok (.getfield 40, 3) := by decide +kernel
theorem dX0_finish_215 : decode cX0_finish 215 = .ok (.iconst 1, 1) := by decide +kernel
theorem dX0_finish_216 : decode cX0_finish 216 = .ok (.iaload, 1) := by decide +kernel
theorem dX0_finish_217 : decode cX0_finish 217 = .ok (.aload_n 0, 1) := by decide +kernel
theorem dX0_finish_218 : decode cX0_finish 218 = .ok (.getfield 71, 3) := by decide +kernel
theorem dX0_finish_221 : decode cX0_finish 221 = .ok (.isub, 1) := by decide +kernel
theorem dX0_finish_222 : decode cX0_finish 222 = .ok (.iastore, 1) := by decide +kernel
theorem dX0_finish_223 : decode cX0_finish 223 = .ok (.aload_n 0, 1) := by decide +kernel
theorem dX0_finish_224 : decode cX0_finish 224 = .ok (.getfield 43, 3) := by decide +kernel
theorem dX0_finish_227 : decode cX0_finish 227 = .ok (.iload_n 2, 1) := by decide +kernel
theorem dX0_finish_228 : decode cX0_finish 228 = .ok (.iconst 1, 1) := by decide +kernel
theorem dX0_finish_229 : decode cX0_finish 229 = .ok (.iadd, 1) := by decide +kernel
theorem dX0_finish_230 : decode cX0_finish 230 = .ok (.iload_n 1, 1) := by decide +kernel
theorem dX0_finish_231 : decode cX0_finish 231 = .ok (.iastore, 1) := by decide +kernel
theorem dX0_finish_232 : decode cX0_finish 232 = .ok (.aload_n 0, 1) := by decide +kernel
theorem dX0_finish_233 : decode cX0_finish 233 = .ok (.getfield 43, 3) := by decide +kernel
theorem dX0_finish_236 : decode cX0_finish 236 = .ok (.iload_n 2, 1) := by decide +kernel
theorem dX0_finish_237 : decode cX0_finish 237 = .ok (.iconst 2, 1) := by decide +kernel
theorem dX0_finish_238 : decode cX0_finish 238 = .ok (.iadd, 1) := by decide +kernel
theorem dX0_finish_239 : decode cX0_finish 239 = .ok (.aload_n 0, 1) := by decide +kernel
theorem dX0_finish_240 : decode cX0_finish 240 = .ok (.invokevirtual 130, 3) := by decide +kernel
theorem dX0_finish_243 : decode cX0_finish 243 = .ok (.iastore, 1) := by decide +kernel
theorem dX0_finish_244 : decode cX0_finish 244 = .ok (.aload_n 0, 1) := by decide +kernel
theorem dX0_finish_245 : decode cX0_finish 245 = .ok (.getfield 40, 3) := by decide +kernel
theorem dX0_finish_248 : decode cX0_finish 248 = .ok (.iconst 0, 1) := by decide +kernel
theorem dX0_finish_249 : decode cX0_finish 249 = .ok (.dup2, 1) := by decide +kernel
theorem dX0_finish_250 : decode cX0_finish 250 = .ok (.iaload, 1) := by decide +kernel
theorem dX0_finish_251 : decode cX0_finish 251 = .ok (.iconst 1, 1) := by decide +kernel
theorem dX0_finish_252 : decode cX0_finish 252 = .ok (.iadd, 1) := by decide +kernel
theorem dX0_finish_253 : decode cX0_finish 253 = .ok (.iastore, 1) := by decide +kernel
theorem dX0_finish_254 : decode cX0_finish 254 = .ok (.return_, 1) := by decide +kernel
theorem dX0_forget_0 : decode cX0_forget 0 = .ok (.iconst 0, 1) := by decide +kernel
theorem dX0_forget_1 : decode cX0_forget 1 = .ok (.istore 4, 2) := by decide +kernel
theorem dX0_forget_3 : decode cX0_forget 3 = .ok (.iload_n 2, 1) := by decide +kernel
theorem dX0_forget_4 : decode cX0_forget 4 = .ok (.istore 5, 2) := by decide +kernel
theorem dX0_forget_6 : decode cX0_forget 6 = .ok (.iload 5, 2) := by decide +kernel
theorem dX0_forget_8 : decode cX0_forget 8 = .ok (.iload_n 3, 1) := by decide +kernel
theorem dX0_forget_9 : decode cX0_forget 9 = .ok (.if_icmp .ge 38, 3) := by decide +kernel
theorem dX0_forget_12 : decode cX0_forget 12 = .ok (.aload_n 1, 1) := by decide +kernel
theorem dX0_forget_13 : decode cX0_forget 13 = .ok (.iload 5, 2) := by decide +kernel
theorem dX0_forget_15 : decode cX0_forget 15 = .ok (.iaload, 1) := by decide +kernel
theorem dX0_forget_16 : decode cX0_forget 16 = .ok (.iconst (-1), 1) := by decide +kernel
theorem dX0_forget_17 : decode cX0_forget 17 = .ok (.if_icmp .eq 24, 3) := by decide +kernel
theorem dX0_forget_20 : decode cX0_forget 20 = .ok (.aload_n 0, 1) := by decide +kernel
theorem dX0_forget_21 : decode cX0_forget 21 = .ok (.getfield 18, 3) := by decide +kernel
theorem dX0_forget_24 : decode cX0_forget 24 = .ok (.aload_n 1, 1) := by decide +kernel
theorem dX0_forget_25 : decode cX0_forget 25 = .ok (.iload 5, 2) := by decide +kernel
theorem dX0_forget_27 : decode cX0_forget 27 = .ok (.iaload, 1) := by decide +kernel
theorem dX0_forget_28 : decode cX0_forget 28 = .ok (.iaload, 1) := by decide +kernel
theorem dX0_forget_29 : decode cX0_forget 29 = .ok (.iconst (-1), 1) := by decide +kernel
theorem dX0_forget_30 : decode cX0_forget 30 = .ok (.if_icmp .ne 11, 3) := by decide +kernel
theorem dX0_forget_33 : decode cX0_forget 33 = .ok (.aload_n 1, 1) := by decide +kernel
theorem dX0_forget_34 : decode cX0_forget 34 = .ok (.iload 5, 2) := by decide +kernel
theorem dX0_forget_36 : decode cX0_forget 36 = .ok (.iconst (-1), 1) := by decide +kernel
theorem dX0_forget_37 : decode cX0_forget 37 = .ok (.iastore, 1) := by decide +kernel
theorem dX0_forget_38 : decode cX0_forget 38 = .ok (.iinc 4 1, 3) := by decide +kernel
theorem dX0_forget_41 : decode cX0_forget 41 = .ok (.iinc 5 1, 3) := by decide +kernel
theorem dX0_forget_44 : decode cX0_forget 44 = .ok (.goto (-38), 3) := by decide +kernel
theorem dX0_forget_47 : decode cX0_forget 47 = .ok (.iload 4, 2) := by decide +kernel
theorem dX0_forget_49 : decode cX0_forget 49 = .ok (.ireturn, 1) := by decide +kernel
theorem dX0_build_0 : decode cX0_build 0 = .ok (.iload_n 2, 1) := by decide +kernel
theorem dX0_build_1 : decode cX0_build 1 = .ok (.iconst 2, 1) := by decide +kernel
theorem dX0_build_2 : decode cX0_build 2 = .ok (.if_icmp .ge 7, 3) := by decide +kernel
theorem dX0_build_5 : decode cX0_build 5 = .ok (.iconst 2, 1) := by decide +kernel
theorem dX0_build_6 : decode cX0_build 6 = .ok (.goto 14, 3) := by decide +kernel
theorem dX0_build_9 : decode cX0_build 9 = .ok (.iload_n 2, 1) := by decide +kernel
theorem dX0_build_10 : decode cX0_build 10 = .ok (.iconst 4, 1) := by decide +kernel
theorem dX0_build_11 : decode cX0_build 11 = .ok (.if_icmp .ge 7, 3) := by decide +kernel
theorem dX0_build_14 : decode cX0_build 14 = .ok (.iconst 4, 1) := by decide +kernel
theorem dX0_build_15 : decode cX0_build 15 = .ok (.goto 5, 3) := by decide +kernel
theorem dX0_build_18 : decode cX0_build 18 = .ok (.bipush 8, 2) := by decide +kernel
theorem dX0_build_20 : decode cX0_build 20 = .ok (.istore_n 3, 1) := by decide +kernel
theorem dX0_build_21 : decode cX0_build 21 = .ok (.aload_n 0, 1) := by decide +kernel
theorem dX0_build_22 : decode cX0_build 22 = .ok (.aload_n 0, 1) := by decide +kernel
theorem dX0_build_23 : decode cX0_build 23 = .ok (.getfield 37, 3) := by decide +kernel
theorem dX0_build_26 : decode cX0_build 26 = .ok (.iconst 2, 1) := by decide +kernel
theorem dX0_build_27 : decode cX0_build 27 = .ok (.iaload, 1) := by decide +kernel
theorem dX0_build_28 : decode cX0_build 28 = .ok (.invokevirtual 134, 3) := by decide +kernel
theorem dX0_build_31 : decode cX0_build 31 = .ok (.pop, 1) := by decide +kernel
theorem dX0_build_32 : decode cX0_build 32 = .ok (.aload_n 0, 1) := by decide +kernel
theorem dX0_build_33 : decode cX0_build 33 = .ok (.iload_n 3, 1) := by decide +kernel
theorem dX0_build_34 : decode cX0_build 34 = .ok (.invokevirtual 137, 3) := by decide +kernel
theorem dX0_build_37 : decode cX0_build 37 = .ok (.istore 4, 2) := by decide +kernel
theorem dX0_build_39 : decode cX0_build 39 = .ok (.iload 4, 2) := by decide +kernel
theorem dX0_build_41 : decode cX0_build 41 = .ok (.iconst (-1), 1) := by decide +kernel
theorem dX0_build_42 : decode cX0_build 42 = .ok (.if_icmp .ne 25, 3) := by decide +kernel
theorem dX0_build_45 : decode cX0_build 45 = .ok (.aload_n 0, 1) := by decide +kernel
theorem dX0_build_46 : decode cX0_build 46 = .ok (.getfield 40, 3) := by decide +kernel
theorem dX0_build_49 : decode cX0_build 49 = .ok (.iconst 2, 1) := by decide +kernel
theorem dX0_build_50 : decode cX0_build 50 = .ok (.dup2, 1) := by decide +kernel
theorem dX0_build_51 : decode cX0_build 51 = .ok (.iaload, 1) := by decide +kernel
theorem dX0_build_52 : decode cX0_build 52 = .ok (.aload_n 0, 1) := by decide +kernel
theorem dX0_build_53 : decode cX0_build 53 = .ok (.ldc 140, 2) := by decide +kernel
theorem dX0_build_55 : decode cX0_build 55 = .ok (.invokevirtual 134, 3) := by decide +kernel
theorem dX0_build_58 : decode cX0_build 58 = .ok (.iadd, 1) := by decide +kernel
theorem dX0_build_59 : decode cX0_build 59 = .ok (.iastore, 1) := by decide +kernel
theorem dX0_build_60 : decode cX0_build 60 = .ok (.aload_n 0, 1) := by decide +kernel
theorem dX0_build_61 : decode cX0_build 61 = .ok (.iload_n 3, 1) := by decide +kernel
theorem dX0_build_62 : decode cX0_build 62 = .ok (.invokevirtual 137, 3) := by decide +kernel
theorem dX0_build_65 : decode cX0_build 65 = .ok (.istore 4, 2) := by decide +kernel
theorem dX0_build_67 : decode cX0_build 67 = .ok (.iload 4, 2) := by decide +kernel
theorem dX0_build_69 : decode cX0_build 69 = .ok (.iconst (-1), 1) := by decide +kernel
theorem dX0_build_70 : decode cX0_build 70 = .ok (.if_icmp .ne 29, 3) := by decide +kernel
theorem dX0_build_73 : decode cX0_build 73 = .ok (.aload_n 0, 1) := by decide +kernel
theorem dX0_build_74 : decode cX0_build 74 = .ok (.invokevirtual 141, 3) := by decide +kernel
theorem dX0_build_77 : decode cX0_build 77 = .ok (.aload_n 0, 1) := by decide +kernel
theorem dX0_build_78 : decode cX0_build 78 = .ok (.getfield 40, 3) := by decide +kernel
theorem dX0_build_81 : decode cX0_build 81 = .ok (.iconst 2, 1) := by decide +kernel
theorem dX0_build_82 : decode cX0_build 82 = .ok (.dup2, 1) := by decide +kernel
theorem dX0_build_83 : decode cX0_build 83 = .ok (.iaload, 1) := by decide +kernel
theorem dX0_build_84 : decode cX0_build 84 = .ok (.aload_n 0, 1) := by decide +kernel
theorem dX0_build_85 : decode cX0_build 85 = .ok (.ldc 140, 2) := by decide +kernel
theorem dX0_build_87 : decode cX0_build 87 = .ok (.invokevirtual 134, 3) := by decide +kernel
theorem dX0_build_90 : decode cX0_build 90 = .ok (.iadd, 1) := by decide +kernel
theorem dX0_build_91 : decode cX0_build 91 = .ok (.iastore, 1) := by decide +kernel
theorem dX0_build_92 : decode cX0_build 92 = .ok (.aload_n 0, 1) := by decide +kernel
theorem dX0_build_93 : decode cX0_build 93 = .ok (.iload_n 3, 1) := by decide +kernel
theorem dX0_build_94 : decode cX0_build 94 = .ok (.invokevirtual 137, 3) := by decide +kernel
theorem dX0_build_97 : decode cX0_build 97 = .ok (.istore 4, 2) := by decide +kernel
theorem dX0_build_99 : decode cX0_build 99 = .ok (.iload 4, 2) := by decide +kernel
theorem dX0_build_101 : decode cX0_build 101 = .ok (.iconst (-1), 1) := by decide +kernel
theorem dX0_build_102 : decode cX0_build 102 = .ok (.if_icmp .ne 6, 3) := by decide +kernel
theorem dX0_build_105 : decode cX0_build 105 = .ok (.bipush (-2), 2) := by decide +kernel
theorem dX0_build_107 : decode cX0_build 107 = .ok (.ireturn, 1) := by decide +kernel
theorem dX0_build_108 : decode cX0_build 108 = .ok (.aload_n 0, 1) := by decide +kernel
theorem dX0_build_109 : decode cX0_build 109 = .ok (.getfield 12, 3) := by decide +kernel
theorem dX0_build_112 : decode cX0_build 112 = .ok (.iload 4, 2) := by decide +kernel
theorem dX0_build_114 : decode cX0_build 114 = .ok (.iload_n 3, 1) := by decide +kernel
theorem dX0_build_115 : decode cX0_build 115 = .ok (.iconst 3, 1) := by decide +kernel
theorem dX0_build_116 : decode cX0_build 116 = .ok (.invokestatic 96, 3) := by decide +kernel
theorem dX0_build_119 : decode cX0_build 119 = .ok (.iconst 0, 1) := by decide +kernel
theorem dX0_build_120 : decode cX0_build 120 = .ok (.invokevirtual 105, 3) := by decide +kernel
theorem dX0_build_123 : decode cX0_build 123 = .ok (.aload_n 0, 1) := by decide +kernel
theorem dX0_build_124 : decode cX0_build 124 = .ok (.getfield 18, 3) := by decide +kernel
theorem dX0_build_127 : decode cX0_build 127 = .ok (.iload 4, 2) := by decide +kernel
theorem dX0_build_129 : decode cX0_build 129 = .ok (.iload_n 2, 1) := by decide +kernel
theorem dX0_build_130 : decode cX0_build 130 = .ok (.iastore, 1) := by decide +kernel
theorem dX0_build_131 : decode cX0_build 131 = .ok (.aload_n 0, 1) := by decide +kernel
theorem dX0_build_132 : decode cX0_build 132 = .ok (.getfield 18, 3) := by decide +kernel
theorem dX0_build_135 : decode cX0_build 135 = .ok (.iload 4, 2) := by decide +kernel
theorem dX0_build_137 : decode cX0_build 137 = .ok (.iconst 1, 1) := by decide +kernel
theorem dX0_build_138 : decode cX0_build 138 = .ok (.iadd, 1) := by decide +kernel
theorem dX0_build_139 : decode cX0_build 139 = .ok (.iload 4, 2) := by decide +kernel
theorem dX0_build_141 : decode cX0_build 141 = .ok (.iconst 1, 1) := by decide +kernel
theorem dX0_build_142 : decode cX0_build 142 = .ok (.iadd, 1) := by decide +kernel
theorem dX0_build_143 : decode cX0_build 143 = .ok (.iload_n 2, 1) := by decide +kernel
theorem dX0_build_144 : decode cX0_build 144 = .ok (.iadd, 1) := by decide +kernel
theorem dX0_build_145 : decode cX0_build 145 = .ok (.iconst (-1), 1) := by decide +kernel
theorem dX0_build_146 : decode cX0_build 146 = .ok (.invokestatic 144, 3) := by decide +kernel
theorem dX0_build_149 : decode cX0_build 149 = .ok (.aload_n 0, 1) := by decide +kernel
theorem dX0_build_150 : decode cX0_build 150 = .ok (.getfield 25, 3) := by decide +kernel
theorem dX0_build_153 : decode cX0_build 153 = .ok (.iload 4, 2) := by decide +kernel
theorem dX0_build_155 : decode cX0_build 155 = .ok (.bipush 16, 2) := by decide +kernel
theorem dX0_build_157 : decode cX0_build 157 = .ok (.idiv, 1) := by decide +kernel
theorem dX0_build_158 : decode cX0_build 158 = .ok (.dup2, 1) := by decide +kernel
theorem dX0_build_159 : decode cX0_build 159 = .ok (.iaload, 1) := by decide +kernel
theorem dX0_build_160 : decode cX0_build 160 = .ok (.iconst 1, 1) := by decide +kernel
theorem dX0_build_161 : decode cX0_build 161 = .ok (.iadd, 1) := by decide +kernel
theorem dX0_build_162 : decode cX0_build 162 = .ok (.iastore, 1) := by decide +kernel
theorem dX0_build_163 : decode cX0_build 163 = .ok (.aload_n 0, 1) := by decide +kernel
theorem dX0_build_164 : decode cX0_build 164 = .ok (.getfield 28, 3) := by decide +kernel
theorem dX0_build_167 : decode cX0_build 167 = .ok (.iload_n 1, 1) := by decide +kernel
theorem dX0_build_168 : decode cX0_build 168 = .ok (.iload 4, 2) := by decide +kernel
theorem dX0_build_170 : decode cX0_build 170 = .ok (.iastore, 1) := by decide +kernel
theorem dX0_build_171 : decode cX0_build 171 = .ok (.aload_n 0, 1) := by decide +kernel
theorem dX0_build_172 : decode cX0_build 172 = .ok (.getfield 40, 3) := by decide +kernel
theorem dX0_build_175 : decode cX0_build 175 = .ok (.iconst 4, 1) := by decide +kernel
theorem dX0_build_176 : decode cX0_build 176 = .ok (.dup2, 1) := by decide +kernel
theorem dX0_build_177 : decode cX0_build 177 = .ok (.iaload, 1) := by decide +kernel
theorem dX0_build_178 : decode cX0_build 178 = .ok (.iconst 1, 1) := by decide +kernel
theorem dX0_build_179 : decode cX0_build 179 = .ok (.iadd, 1) := by decide +kernel
theorem dX0_build_180 : decode cX0_build 180 = .ok (.iastore, 1) := by decide +kernel
theorem dX0_build_181 : decode cX0_build 181 = .ok (.aload_n 0, 1) := by decide +kernel
theorem dX0_build_182 : decode cX0_build 182 = .ok (.getfield 74, 3) := by decide +kernel
theorem dX0_build_185 : decode cX0_build 185 = .ok (.ifCond .ne 28, 3) := by decide +kernel
theorem dX0_build_188 : decode cX0_build 188 = .ok (.aload_n 0, 1) := by decide +kernel
theorem dX0_build_189 : decode cX0_build 189 = .ok (.getfield 12, 3) := by decide +kernel
theorem dX0_build_192 : decode cX0_build 192 = .ok (.iload_n 3, 1) := by decide +kernel
theorem dX0_build_193 : decode cX0_build 193 = .ok (.iconst 0, 1) := by decide +kernel
theorem dX0_build_194 : decode cX0_build 194 = .ok (.invokestatic 96, 3) := by decide +kernel
theorem dX0_build_197 : decode cX0_build 197 = .ok (.invokevirtual 99, 3) := by decide +kernel
theorem dX0_build_200 : decode cX0_build 200 = .ok (.aload_n 0, 1) := by decide +kernel
theorem dX0_build_201 : decode cX0_build 201 = .ok (.getfield 37, 3) := by decide +kernel
theorem dX0_build_204 : decode cX0_build 204 = .ok (.iconst 3, 1) := by decide +kernel
theorem dX0_build_205 : decode cX0_build 205 = .ok (.iaload, 1) := by decide +kernel
theorem dX0_build_206 : decode cX0_build 206 = .ok (.if_icmp .ge 7, 3) := by decide +kernel
theorem dX0_build_209 : decode cX0_build 209 = .ok (.aload_n 0, 1) := by decide +kernel
theorem dX0_build_210 : decode cX0_build 210 = .ok (.invokevirtual 141, 3) := by decide +kernel
theorem dX0_build_213 : decode cX0_build 213 = .ok (.iload 4, 2) := by decide +kernel
theorem dX0_build_215 : decode cX0_build 215 = .ok (.ireturn, 1) := by decide +kernel
theorem dX0_findSlot_0 : decode cX0_findSlot 0 = .ok (.iload_n 1, 1) := by decide +kernel
theorem dX0_findSlot_1 : decode cX0_findSlot 1 = .ok (.iconst 0, 1) := by decide +kernel
theorem dX0_findSlot_2 : decode cX0_findSlot 2 = .ok (.invokestatic 96, 3) := by decide +kernel
theorem dX0_findSlot_5 : decode cX0_findSlot 5 = .ok (.istore_n 2, 1) := by decide +kernel
theorem dX0_findSlot_6 : decode cX0_findSlot 6 = .ok (.aload_n 0, 1) := by decide +kernel
theorem dX0_findSlot_7 : decode cX0_findSlot 7 = .ok (.getfield 12, 3) := by decide +kernel
theorem dX0_findSlot_10 : decode cX0_findSlot 10 = .ok (.iload_n 2, 1) := by decide +kernel
theorem dX0_findSlot_11 : decode cX0_findSlot 11 = .ok (.invokevirtual 99, 3) := by decide +kernel
theorem dX0_findSlot_14 : decode cX0_findSlot 14 = .ok (.ifCond .ne 22, 3) := by decide +kernel
theorem dX0_findSlot_17 : decode cX0_findSlot 17 = .ok (.aload_n 0, 1) := by decide +kernel
theorem dX0_findSlot_18 : decode cX0_findSlot 18 = .ok (.iload_n 1, 1) := by decide +kernel
theorem dX0_findSlot_19 : decode cX0_findSlot 19 = .ok (.invokevirtual 147, 3) := by decide +kernel
theorem dX0_findSlot_22 : decode cX0_findSlot 22 = .ok (.istore_n 3, 1) := by decide +kernel
theorem dX0_findSlot_23 : decode cX0_findSlot 23 = .ok (.iload_n 3, 1) := by decide +kernel
theorem dX0_findSlot_24 : decode cX0_findSlot 24 = .ok (.iconst (-1), 1) := by decide +kernel
theorem dX0_findSlot_25 : decode cX0_findSlot 25 = .ok (.if_icmp .ne 5, 3) := by decide +kernel
theorem dX0_findSlot_28 : decode cX0_findSlot 28 = .ok (.iconst (-1), 1) := by decide +kernel
theorem dX0_findSlot_29 : decode cX0_findSlot 29 = .ok (.ireturn, 1) := by decide +kernel
theorem dX0_findSlot_30 : decode cX0_findSlot 30 = .ok (.aload_n 0, 1) := by decide +kernel
theorem dX0_findSlot_31 : decode cX0_findSlot 31 = .ok (.iload_n 3, 1) := by decide +kernel
theorem dX0_findSlot_32 : decode cX0_findSlot 32 = .ok (.iload_n 1, 1) := by decide +kernel
theorem dX0_findSlot_33 : decode cX0_findSlot 33 = .ok (.invokevirtual 150, 3) := by decide +kernel
theorem dX0_findSlot_36 : decode cX0_findSlot 36 = .ok (.aload_n 0, 1) := by decide +kernel
theorem dX0_findSlot_37 : decode cX0_findSlot 37 = .ok (.getfield 12, 3) := by decide +kernel
theorem dX0_findSlot_40 : decode cX0_findSlot 40 = .ok (.iload_n 2, 1) := by decide +kernel
theorem dX0_findSlot_41 : decode cX0_findSlot 41 = .ok (.invokevirtual 102, 3) := by decide +kernel
theorem dX0_findSlot_44 : decode cX0_findSlot 44 = .ok (.ireturn, 1) := by decide +kernel
theorem dX0_findPage_0 : decode cX0_findPage 0 = .ok (.iconst 0, 1) := by decide +kernel
theorem dX0_findPage_1 : decode cX0_findPage 1 = .ok (.istore_n 2, 1) := by decide +kernel
theorem dX0_findPage_2 : decode cX0_findPage 2 = .ok (.iload_n 2, 1) := by decide +kernel
theorem dX0_findPage_3 : decode cX0_findPage 3 = .ok (.aload_n 0, 1) := by decide +kernel
theorem dX0_findPage_4 : decode cX0_findPage 4 = .ok (.getfield 58, 3) := by decide +kernel
theorem dX0_findPage_7 : decode cX0_findPage 7 = .ok (.if_icmp .ge 20, 3) := by decide +kernel
theorem dX0_findPage_10 : decode cX0_findPage 10 = .ok (.aload_n 0, 1) := by decide +kernel
theorem dX0_findPage_11 : decode cX0_findPage 11 = .ok (.getfield 22, 3) := by decide +kernel
theorem dX0_findPage_14 : decode cX0_findPage 14 = .ok (.iload_n 2, 1) := by decide +kernel
theorem dX0_findPage_15 : decode cX0_findPage 15 = .ok (.iaload, 1) := by decide +kernel
theorem dX0_findPage_16 : decode cX0_findPage 16 = .ok (.ifCond .ne 5, 3) := by decide +kernel
theorem dX0_findPage_19 : decode cX0_findPage 19 = .ok (.iload_n 2, 1) := by decide +kernel
theorem dX0_findPage_20 : decode cX0_findPage 20 = .ok (.ireturn, 1) := by decide +kernel
theorem dX0_findPage_21 : decode cX0_findPage 21 = .ok (.iinc 2 1, 3) := by decide +kernel
theorem dX0_findPage_24 : decode cX0_findPage 24 = .ok (.goto (-22), 3) := by decide +kernel
theorem dX0_findPage_27 : decode cX0_findPage 27 = .ok (.iconst 0, 1) := by decide +kernel
theorem dX0_findPage_28 : decode cX0_findPage 28 = .ok (.istore_n 2, 1) := by decide +kernel
theorem dX0_findPage_29 : decode cX0_findPage 29 = .ok (.iload_n 2, 1) := by decide +kernel
theorem dX0_findPage_30 : decode cX0_findPage 30 = .ok (.aload_n 0, 1) := by decide +kernel
theorem dX0_findPage_31 : decode cX0_findPage 31 = .ok (.getfield 58, 3) := by decide +kernel
theorem dX0_findPage_34 : decode cX0_findPage 34 = .ok (.if_icmp .ge 30, 3) := by decide +kernel
theorem dX0_findPage_37 : decode cX0_findPage 37 = .ok (.aload_n 0, 1) := by decide +kernel
theorem dX0_findPage_38 : decode cX0_findPage 38 = .ok (.getfield 22, 3) := by decide +kernel
theorem dX0_findPage_41 : decode cX0_findPage 41 = .ok (.iload_n 2, 1) := by decide +kernel
theorem dX0_findPage_42 : decode cX0_findPage 42 = .ok (.iaload, 1) := by decide +kernel
theorem dX0_findPage_43 : decode cX0_findPage 43 = .ok (.iload_n 1, 1) := by decide +kernel
theorem dX0_findPage_44 : decode cX0_findPage 44 = .ok (.if_icmp .eq 14, 3) := by decide +kernel
theorem dX0_findPage_47 : decode cX0_findPage 47 = .ok (.aload_n 0, 1) := by decide +kernel
theorem dX0_findPage_48 : decode cX0_findPage 48 = .ok (.getfield 25, 3) := by decide +kernel
theorem dX0_findPage_51 : decode cX0_findPage 51 = .ok (.iload_n 2, 1) := by decide +kernel
theorem dX0_findPage_52 : decode cX0_findPage 52 = .ok (.iaload, 1) := by decide +kernel
theorem dX0_findPage_53 : decode cX0_findPage 53 = .ok (.ifCond .ne 5, 3) := by decide +kernel
theorem dX0_findPage_56 : decode cX0_findPage 56 = .ok (.iload_n 2, 1) := by decide +kernel
theorem dX0_findPage_57 : decode cX0_findPage 57 = .ok (.ireturn, 1) := by decide +kernel
theorem dX0_findPage_58 : decode cX0_findPage 58 = .ok (.iinc 2 1, 3) := by decide +kernel
theorem dX0_findPage_61 : decode cX0_findPage 61 = .ok (.goto (-32), 3) := by decide +kernel
theorem dX0_findPage_64 : decode cX0_findPage 64 = .ok (.iconst (-1), 1) := by decide +kernel
theorem dX0_findPage_65 : decode cX0_findPage 65 = .ok (.ireturn, 1) := by decide +kernel
theorem dX0_resize_0 : decode cX0_resize 0 = .ok (.aload_n 0, 1) := by decide +kernel
theorem dX0_resize_1 : decode cX0_resize 1 = .ok (.getfield 22, 3) := by decide +kernel
theorem dX0_resize_4 : decode cX0_resize 4 = .ok (.iload_n 1, 1) := by decide +kernel
theorem dX0_resize_5 : decode cX0_resize 5 = .ok (.iload_n 2, 1) := by decide +kernel
theorem dX0_resize_6 : decode cX0_resize 6 = .ok (.iastore, 1) := by decide +kernel
theorem dX0_resize_7 : decode cX0_resize 7 = .ok (.iconst 0, 1) := by decide +kernel
theorem dX0_resize_8 : decode cX0_resize 8 = .ok (.istore_n 3, 1) := by decide +kernel
theorem dX0_resize_9 : decode cX0_resize 9 = .ok (.iload_n 3, 1) := by decide +kernel
theorem dX0_resize_10 : decode cX0_resize 10 = .ok (.bipush 16, 2) := by decide +kernel
theorem dX0_resize_12 : decode cX0_resize 12 = .ok (.if_icmp .ge 65, 3) := by decide +kernel
theorem dX0_resize_15 : decode cX0_resize 15 = .ok (.iload_n 3, 1) := by decide +kernel
theorem dX0_resize_16 : decode cX0_resize 16 = .ok (.iload_n 2, 1) := by decide +kernel
theorem dX0_resize_17 : decode cX0_resize 17 = .ok (.iconst 1, 1) := by decide +kernel
theorem dX0_resize_18 : decode cX0_resize 18 = .ok (.isub, 1) := by decide +kernel
theorem dX0_resize_19 : decode cX0_resize 19 = .ok (.iand, 1) := by decide +kernel
theorem dX0_resize_20 : decode cX0_resize 20 = .ok (.ifCond .ne 7, 3) := by decide +kernel
theorem dX0_resize_23 : decode cX0_resize 23 = .ok (.iconst 1, 1) := by decide +kernel
theorem dX0_resize_24 : decode cX0_resize 24 = .ok (.goto 4, 3) := by decide +kernel
theorem dX0_resize_27 : decode cX0_resize 27 = .ok (.iconst 0, 1) := by decide +kernel
theorem dX0_resize_28 : decode cX0_resize 28 = .ok (.istore 4, 2) := by decide +kernel
theorem dX0_resize_30 : decode cX0_resize 30 = .ok (.iload_n 1, 1) := by decide +kernel
theorem dX0_resize_31 : decode cX0_resize 31 = .ok (.bipush 16, 2) := by decide +kernel
theorem dX0_resize_33 : decode cX0_resize 33 = .ok (.imul, 1) := by decide +kernel
theorem dX0_resize_34 : decode cX0_resize 34 = .ok (.iload_n 3, 1) := by decide +kernel
theorem dX0_resize_35 : decode cX0_resize 35 = .ok (.iadd, 1) := by decide +kernel
theorem dX0_resize_36 : decode cX0_resize 36 = .ok (.istore 5, 2) := by decide +kernel
theorem dX0_resize_38 : decode cX0_resize 38 = .ok (.aload_n 0, 1) := by decide +kernel
theorem dX0_resize_39 : decode cX0_resize 39 = .ok (.getfield 12, 3) := by decide +kernel
theorem dX0_resize_42 : decode cX0_resize 42 = .ok (.iload 5, 2) := by decide +kernel
theorem dX0_resize_44 : decode cX0_resize 44 = .ok (.iload 4, 2) := by decide +kernel
theorem dX0_resize_46 : decode cX0_resize 46 = .ok (.ifCond .eq 11, 3) := by decide +kernel
theorem dX0_resize_49 : decode cX0_resize 49 = .ok (.iload_n 2, 1) := by decide +kernel
theorem dX0_resize_50 : decode cX0_resize 50 = .ok (.iconst 0, 1) := by decide +kernel
theorem dX0_resize_51 : decode cX0_resize 51 = .ok (.invokestatic 96, 3) := by decide +kernel
theorem dX0_resize_54 : decode cX0_resize 54 = .ok (.goto 5, 3) := by decide +kernel
theorem dX0_resize_57 : decode cX0_resize 57 = .ok (.bipush 12, 2) := by decide +kernel
theorem dX0_resize_59 : decode cX0_resize 59 = .ok (.iconst 0, 1) := by decide +kernel
theorem dX0_resize_60 : decode cX0_resize 60 = .ok (.invokevirtual 105, 3) := by decide +kernel
theorem dX0_resize_63 : decode cX0_resize 63 = .ok (.aload_n 0, 1) := by decide +kernel
theorem dX0_resize_64 : decode cX0_resize 64 = .ok (.getfield 18, 3) := by decide +kernel
theorem dX0_resize_67 : decode cX0_resize 67 = .ok (.iload 5, 2) := by decide +kernel
theorem dX0_resize_69 : decode cX0_resize 69 = .ok (.iconst (-1), 1) := by decide +kernel
theorem dX0_resize_70 : decode cX0_resize 70 = .ok (.iastore, 1) := by decide +kernel
theorem dX0_resize_71 : decode cX0_resize 71 = .ok (.iinc 3 2, 3) := by decide +kernel
theorem dX0_resize_74 : decode cX0_resize 74 = .ok (.goto (-65), 3) := by decide +kernel
theorem dX0_resize_77 : decode cX0_resize 77 = .ok (.return_, 1) := by decide +kernel
theorem dX0_fetch_0 : decode cX0_fetch 0 = .ok (.aload_n 0, 1) := by decide +kernel
theorem dX0_fetch_1 : decode cX0_fetch 1 = .ok (.iload_n 2, 1) := by decide +kernel
theorem dX0_fetch_2 : decode cX0_fetch 2 = .ok (.iload_n 3, 1) := by decide +kernel
theorem dX0_fetch_3 : decode cX0_fetch 3 = .ok (.invokevirtual 154, 3) := by decide +kernel
theorem dX0_fetch_6 : decode cX0_fetch 6 = .ok (.istore 4, 2) := by decide +kernel
theorem dX0_fetch_8 : decode cX0_fetch 8 = .ok (.iload 4, 2) := by decide +kernel
theorem dX0_fetch_10 : decode cX0_fetch 10 = .ok (.iconst (-1), 1) := by decide +kernel
theorem dX0_fetch_11 : decode cX0_fetch 11 = .ok (.if_icmp .ne 6, 3) := by decide +kernel
theorem dX0_fetch_14 : decode cX0_fetch 14 = .ok (.bipush (-2), 2) := by decide +kernel
theorem dX0_fetch_16 : decode cX0_fetch 16 = .ok (.ireturn, 1) := by decide +kernel
theorem dX0_fetch_17 : decode cX0_fetch 17 = .ok (.aload_n 0, 1) := by decide +kernel
theorem dX0_fetch_18 : decode cX0_fetch 18 = .ok (.getfield 28, 3) := by decide +kernel
theorem dX0_fetch_21 : decode cX0_fetch 21 = .ok (.iload_n 1, 1) := by decide +kernel
theorem dX0_fetch_22 : decode cX0_fetch 22 = .ok (.aload_n 0, 1) := by decide +kernel
theorem dX0_fetch_23 : decode cX0_fetch 23 = .ok (.getfield 18, 3) := by decide +kernel
theorem dX0_fetch_26 : decode cX0_fetch 26 = .ok (.iload 4, 2) := by decide +kernel
theorem dX0_fetch_28 : decode cX0_fetch 28 = .ok (.iaload, 1) := by decide +kernel
theorem dX0_fetch_29 : decode cX0_fetch 29 = .ok (.iastore, 1) := by decide +kernel
theorem dX0_fetch_30 : decode cX0_fetch 30 = .ok (.aload_n 0, 1) := by decide +kernel
theorem dX0_fetch_31 : decode cX0_fetch 31 = .ok (.getfield 37, 3) := by decide +kernel
theorem dX0_fetch_34 : decode cX0_fetch 34 = .ok (.iconst 0, 1) := by decide +kernel
theorem dX0_fetch_35 : decode cX0_fetch 35 = .ok (.iaload, 1) := by decide +kernel
theorem dX0_fetch_36 : decode cX0_fetch 36 = .ok (.ifCond .ne 15, 3) := by decide +kernel
theorem dX0_fetch_39 : decode cX0_fetch 39 = .ok (.aload_n 0, 1) := by decide +kernel
theorem dX0_fetch_40 : decode cX0_fetch 40 = .ok (.aload_n 0, 1) := by decide +kernel
theorem dX0_fetch_41 : decode cX0_fetch 41 = .ok (.getfield 28, 3) := by decide +kernel
theorem dX0_fetch_44 : decode cX0_fetch 44 = .ok (.iload_n 1, 1) := by decide +kernel
theorem dX0_fetch_45 : decode cX0_fetch 45 = .ok (.iload_n 1, 1) := by decide +kernel
theorem dX0_fetch_46 : decode cX0_fetch 46 = .ok (.iconst 1, 1) := by decide +kernel
theorem dX0_fetch_47 : decode cX0_fetch 47 = .ok (.iadd, 1) := by decide +kernel
theorem dX0_fetch_48 : decode cX0_fetch 48 = .ok (.invokevirtual 109, 3) := by decide +kernel
theorem dX0_fetch_51 : decode cX0_fetch 51 = .ok (.aload_n 0, 1) := by decide +kernel
theorem dX0_fetch_52 : decode cX0_fetch 52 = .ok (.getfield 28, 3) := by decide +kernel
theorem dX0_fetch_55 : decode cX0_fetch 55 = .ok (.iload_n 1, 1) := by decide +kernel
theorem dX0_fetch_56 : decode cX0_fetch 56 = .ok (.iaload, 1) := by decide +kernel
theorem dX0_fetch_57 : decode cX0_fetch 57 = .ok (.ireturn, 1) := by decide +kernel
theorem dX0_put_0 : decode cX0_put 0 = .ok (.aload_n 0, 1) := by decide +kernel
theorem dX0_put_1 : decode cX0_put 1 = .ok (.iload_n 1, 1) := by decide +kernel
theorem dX0_put_2 : decode cX0_put 2 = .ok (.iload_n 2, 1) := by decide +kernel
theorem dX0_put_3 : decode cX0_put 3 = .ok (.invokevirtual 154, 3) := by decide +kernel
theorem dX0_put_6 : decode cX0_put 6 = .ok (.istore 4, 2) := by decide +kernel
theorem dX0_put_8 : decode cX0_put 8 = .ok (.iload 4, 2) := by decide +kernel
theorem dX0_put_10 : decode cX0_put 10 = .ok (.iconst (-1), 1) := by decide +kernel
theorem dX0_put_11 : decode cX0_put 11 = .ok (.if_icmp .ne 5, 3) := by decide +kernel
theorem dX0_put_14 : decode cX0_put 14 = .ok (.iconst 0, 1) := by decide +kernel
theorem dX0_put_15 : decode cX0_put 15 = .ok (.ireturn, 1) := by decide +kernel
theorem dX0_put_16 : decode cX0_put 16 = .ok (.aload_n 0, 1) := by decide +kernel
theorem dX0_put_17 : decode cX0_put 17 = .ok (.getfield 37, 3) := by decide +kernel
theorem dX0_put_20 : decode cX0_put 20 = .ok (.iconst 0, 1) := by decide +kernel
theorem dX0_put_21 : decode cX0_put 21 = .ok (.iaload, 1) := by decide +kernel
theorem dX0_put_22 : decode cX0_put 22 = .ok (.iconst 2, 1) := by decide +kernel
theorem dX0_put_23 : decode cX0_put 23 = .ok (.if_icmp .ne 17, 3) := by decide +kernel
theorem dX0_put_26 : decode cX0_put 26 = .ok (.aload_n 0, 1) := by decide +kernel
theorem dX0_put_27 : decode cX0_put 27 = .ok (.aload_n 0, 1) := by decide +kernel
theorem dX0_put_28 : decode cX0_put 28 = .ok (.getfield 18, 3) := by decide +kernel
theorem dX0_put_31 : decode cX0_put 31 = .ok (.iload 4, 2) := by decide +kernel
theorem dX0_put_33 : decode cX0_put 33 = .ok (.iload 4, 2) := by decide +kernel
theorem dX0_put_35 : decode cX0_put 35 = .ok (.iconst 1, 1) := by decide +kernel
theorem dX0_put_36 : decode cX0_put 36 = .ok (.iadd, 1) := by decide +kernel
theorem dX0_put_37 : decode cX0_put 37 = .ok (.invokevirtual 109, 3) := by decide +kernel
theorem dX0_put_40 : decode cX0_put 40 = .ok (.aload_n 0, 1) := by decide +kernel
theorem dX0_put_41 : decode cX0_put 41 = .ok (.getfield 18, 3) := by decide +kernel
theorem dX0_put_44 : decode cX0_put 44 = .ok (.iload 4, 2) := by decide +kernel
theorem dX0_put_46 : decode cX0_put 46 = .ok (.aload_n 0, 1) := by decide +kernel
theorem dX0_put_47 : decode cX0_put 47 = .ok (.iload_n 3, 1) := by decide +kernel
theorem dX0_put_48 : decode cX0_put 48 = .ok (.invokevirtual 157, 3) := by decide +kernel
theorem dX0_put_51 : decode cX0_put 51 = .ok (.iastore, 1) := by decide +kernel
theorem dX0_put_52 : decode cX0_put 52 = .ok (.aload_n 0, 1) := by decide +kernel
