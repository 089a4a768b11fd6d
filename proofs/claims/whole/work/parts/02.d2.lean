theorem dX8_clear_13 : decode cX8_clear 13 = .ok (.invokestatic 63, 3) := by decide +kernel
theorem dX8_clear_16 : decode cX8_clear 16 = .ok (.aload_n 0, 1) := by decide +kernel
theorem dX8_clear_17 : decode cX8_clear 17 = .ok (.getfield 26, 3) := by decide +kernel
theorem dX8_clear_20 : decode cX8_clear 20 = .ok (.iconst 0, 1) := by decide +kernel
theorem dX8_clear_21 : decode cX8_clear 21 = .ok (.invokestatic 63, 3) := by decide +kernel
theorem dX8_clear_24 : decode cX8_clear 24 = .ok (.aload_n 0, 1) := by decide +kernel
theorem dX8_clear_25 : decode cX8_clear 25 = .ok (.getfield 29, 3) := by decide +kernel
theorem dX8_clear_28 : decode cX8_clear 28 = .ok (.iconst 0, 1) := by decide +kernel
theorem dX8_clear_29 : decode cX8_clear 29 = .ok (.invokestatic 63, 3) := by decide +kernel
theorem dX8_clear_32 : decode cX8_clear 32 = .ok (.aload_n 0, 1) := by decide +kernel
theorem dX8_clear_33 : decode cX8_clear 33 = .ok (.getfield 32, 3) := by decide +kernel
theorem dX8_clear_36 : decode cX8_clear 36 = .ok (.iconst (-1), 1) := by decide +kernel
theorem dX8_clear_37 : decode cX8_clear 37 = .ok (.invokestatic 63, 3) := by decide +kernel
theorem dX8_clear_40 : decode cX8_clear 40 = .ok (.aload_n 0, 1) := by decide +kernel
theorem dX8_clear_41 : decode cX8_clear 41 = .ok (.iconst (-1), 1) := by decide +kernel
theorem dX8_clear_42 : decode cX8_clear 42 = .ok (.putfield 47, 3) := by decide +kernel
theorem dX8_clear_45 : decode cX8_clear 45 = .ok (.aload_n 0, 1) := by decide +kernel
theorem dX8_clear_46 : decode cX8_clear 46 = .ok (.aload_n 0, 1) := by decide +kernel
theorem dX8_clear_47 : decode cX8_clear 47 = .ok (.getfield 9, 3) := by decide +kernel
theorem dX8_clear_50 : decode cX8_clear 50 = .ok (.getfield 42, 3) := by decide +kernel
theorem dX8_clear_53 : decode cX8_clear 53 = .ok (.putfield 50, 3) := by decide +kernel
theorem dX8_clear_56 : decode cX8_clear 56 = .ok (.aload_n 0, 1) := by decide +kernel
theorem dX8_clear_57 : decode cX8_clear 57 = .ok (.getfield 15, 3) := by decide +kernel
theorem dX8_clear_60 : decode cX8_clear 60 = .ok (.ifnull 11, 3) := by decide +kernel
theorem dX8_clear_63 : decode cX8_clear 63 = .ok (.aload_n 0, 1) := by decide +kernel
theorem dX8_clear_64 : decode cX8_clear 64 = .ok (.getfield 15, 3) := by decide +kernel
theorem dX8_clear_67 : decode cX8_clear 67 = .ok (.iconst 0, 1) := by decide +kernel
theorem dX8_clear_68 : decode cX8_clear 68 = .ok (.putfield 69, 3) := by decide +kernel
theorem dX8_clear_71 : decode cX8_clear 71 = .ok (.return_, 1) := by decide +kernel
theorem dX8_feelAll_0 : decode cX8_feelAll 0 = .ok (.iconst 0, 1) := by decide +kernel
theorem dX8_feelAll_1 : decode cX8_feelAll 1 = .ok (.istore_n 3, 1) := by decide +kernel
theorem dX8_feelAll_2 : decode cX8_feelAll 2 = .ok (.iload_n 3, 1) := by decide +kernel
theorem dX8_feelAll_3 : decode cX8_feelAll 3 = .ok (.aload_n 0, 1) := by decide +kernel
theorem dX8_feelAll_4 : decode cX8_feelAll 4 = .ok (.getfield 9, 3) := by decide +kernel
theorem dX8_feelAll_7 : decode cX8_feelAll 7 = .ok (.getfield 42, 3) := by decide +kernel
theorem dX8_feelAll_10 : decode cX8_feelAll 10 = .ok (.if_icmp .ge 82, 3) := by decide +kernel
theorem dX8_feelAll_13 : decode cX8_feelAll 13 = .ok (.aload_n 0, 1) := by decide +kernel
theorem dX8_feelAll_14 : decode cX8_feelAll 14 = .ok (.getfield 19, 3) := by decide +kernel
theorem dX8_feelAll_17 : decode cX8_feelAll 17 = .ok (.iload_n 2, 1) := by decide +kernel
theorem dX8_feelAll_18 : decode cX8_feelAll 18 = .ok (.iload_n 3, 1) := by decide +kernel
theorem dX8_feelAll_19 : decode cX8_feelAll 19 = .ok (.iadd, 1) := by decide +kernel
theorem dX8_feelAll_20 : decode cX8_feelAll 20 = .ok (.iaload, 1) := by decide +kernel
theorem dX8_feelAll_21 : decode cX8_feelAll 21 = .ok (.istore 4, 2) := by decide +kernel
theorem dX8_feelAll_23 : decode cX8_feelAll 23 = .ok (.aload_n 0, 1) := by decide +kernel
theorem dX8_feelAll_24 : decode cX8_feelAll 24 = .ok (.getfield 19, 3) := by decide +kernel
theorem dX8_feelAll_27 : decode cX8_feelAll 27 = .ok (.iload_n 2, 1) := by decide +kernel
theorem dX8_feelAll_28 : decode cX8_feelAll 28 = .ok (.iload_n 3, 1) := by decide +kernel
theorem dX8_feelAll_29 : decode cX8_feelAll 29 = .ok (.iadd, 1) := by decide +kernel
theorem dX8_feelAll_30 : decode cX8_feelAll 30 = .ok (.iconst 0, 1) := by decide +kernel
theorem dX8_feelAll_31 : decode cX8_feelAll 31 = .ok (.iastore, 1) := by decide +kernel
theorem dX8_feelAll_32 : decode cX8_feelAll 32 = .ok (.iconst 0, 1) := by decide +kernel
theorem dX8_feelAll_33 : decode cX8_feelAll 33 = .ok (.istore 5, 2) := by decide +kernel
theorem dX8_feelAll_35 : decode cX8_feelAll 35 = .ok (.iload 4, 2) := by decide +kernel
theorem dX8_feelAll_37 : decode cX8_feelAll 37 = .ok (.ifCond .eq 49, 3) := by decide +kernel
theorem dX8_feelAll_40 : decode cX8_feelAll 40 = .ok (.iload 5, 2) := by decide +kernel
theorem dX8_feelAll_42 : decode cX8_feelAll 42 = .ok (.bipush 22, 2) := by decide +kernel
theorem dX8_feelAll_44 : decode cX8_feelAll 44 = .ok (.if_icmp .ge 42, 3) := by decide +kernel
theorem dX8_feelAll_47 : decode cX8_feelAll 47 = .ok (.iload 4, 2) := by decide +kernel
theorem dX8_feelAll_49 : decode cX8_feelAll 49 = .ok (.iconst 1, 1) := by decide +kernel
theorem dX8_feelAll_50 : decode cX8_feelAll 50 = .ok (.iand, 1) := by decide +kernel
theorem dX8_feelAll_51 : decode cX8_feelAll 51 = .ok (.ifCond .eq 23, 3) := by decide +kernel
theorem dX8_feelAll_54 : decode cX8_feelAll 54 = .ok (.aload_n 0, 1) := by decide +kernel
theorem dX8_feelAll_55 : decode cX8_feelAll 55 = .ok (.iload_n 3, 1) := by decide +kernel
theorem dX8_feelAll_56 : decode cX8_feelAll 56 = .ok (.iload_n 1, 1) := by decide +kernel
theorem dX8_feelAll_57 : decode cX8_feelAll 57 = .ok (.iload 5, 2) := by decide +kernel
theorem dX8_feelAll_59 : decode cX8_feelAll 59 = .ok (.iconst 2, 1) := by decide +kernel
theorem dX8_feelAll_60 : decode cX8_feelAll 60 = .ok (.if_icmp .ge 7, 3) := by decide +kernel
theorem dX8_feelAll_63 : decode cX8_feelAll 63 = .ok (.iconst (-1), 1) := by decide +kernel
theorem dX8_feelAll_64 : decode cX8_feelAll 64 = .ok (.goto 7, 3) := by decide +kernel
theorem dX8_feelAll_67 : decode cX8_feelAll 67 = .ok (.iload 5, 2) := by decide +kernel
theorem dX8_feelAll_69 : decode cX8_feelAll 69 = .ok (.iconst 2, 1) := by decide +kernel
theorem dX8_feelAll_70 : decode cX8_feelAll 70 = .ok (.isub, 1) := by decide +kernel
theorem dX8_feelAll_71 : decode cX8_feelAll 71 = .ok (.invokevirtual 72, 3) := by decide +kernel
theorem dX8_feelAll_74 : decode cX8_feelAll 74 = .ok (.iload 4, 2) := by decide +kernel
theorem dX8_feelAll_76 : decode cX8_feelAll 76 = .ok (.iconst 1, 1) := by decide +kernel
theorem dX8_feelAll_77 : decode cX8_feelAll 77 = .ok (.ishr, 1) := by decide +kernel
theorem dX8_feelAll_78 : decode cX8_feelAll 78 = .ok (.istore 4, 2) := by decide +kernel
theorem dX8_feelAll_80 : decode cX8_feelAll 80 = .ok (.iinc 5 1, 3) := by decide +kernel
theorem dX8_feelAll_83 : decode cX8_feelAll 83 = .ok (.goto (-48), 3) := by decide +kernel
theorem dX8_feelAll_86 : decode cX8_feelAll 86 = .ok (.iinc 3 1, 3) := by decide +kernel
theorem dX8_feelAll_89 : decode cX8_feelAll 89 = .ok (.goto (-87), 3) := by decide +kernel
theorem dX8_feelAll_92 : decode cX8_feelAll 92 = .ok (.return_, 1) := by decide +kernel
theorem dX8_feelOne_0 : decode cX8_feelOne 0 = .ok (.iload_n 2, 1) := by decide +kernel
theorem dX8_feelOne_1 : decode cX8_feelOne 1 = .ok (.aload_n 0, 1) := by decide +kernel
theorem dX8_feelOne_2 : decode cX8_feelOne 2 = .ok (.getfield 23, 3) := by decide +kernel
theorem dX8_feelOne_5 : decode cX8_feelOne 5 = .ok (.iload_n 1, 1) := by decide +kernel
theorem dX8_feelOne_6 : decode cX8_feelOne 6 = .ok (.iaload, 1) := by decide +kernel
theorem dX8_feelOne_7 : decode cX8_feelOne 7 = .ok (.if_icmp .ge 7, 3) := by decide +kernel
theorem dX8_feelOne_10 : decode cX8_feelOne 10 = .ok (.iconst 1, 1) := by decide +kernel
theorem dX8_feelOne_11 : decode cX8_feelOne 11 = .ok (.goto 4, 3) := by decide +kernel
theorem dX8_feelOne_14 : decode cX8_feelOne 14 = .ok (.iconst 0, 1) := by decide +kernel
theorem dX8_feelOne_15 : decode cX8_feelOne 15 = .ok (.istore 4, 2) := by decide +kernel
theorem dX8_feelOne_17 : decode cX8_feelOne 17 = .ok (.aload_n 0, 1) := by decide +kernel
theorem dX8_feelOne_18 : decode cX8_feelOne 18 = .ok (.getfield 15, 3) := by decide +kernel
theorem dX8_feelOne_21 : decode cX8_feelOne 21 = .ok (.ifnull 23, 3) := by decide +kernel
theorem dX8_feelOne_24 : decode cX8_feelOne 24 = .ok (.aload_n 0, 1) := by decide +kernel
theorem dX8_feelOne_25 : decode cX8_feelOne 25 = .ok (.getfield 15, 3) := by decide +kernel
theorem dX8_feelOne_28 : decode cX8_feelOne 28 = .ok (.iload_n 2, 1) := by decide +kernel
theorem dX8_feelOne_29 : decode cX8_feelOne 29 = .ok (.iload_n 1, 1) := by decide +kernel
theorem dX8_feelOne_30 : decode cX8_feelOne 30 = .ok (.iload_n 3, 1) := by decide +kernel
theorem dX8_feelOne_31 : decode cX8_feelOne 31 = .ok (.iload 4, 2) := by decide +kernel
theorem dX8_feelOne_33 : decode cX8_feelOne 33 = .ok (.ifCond .eq 7, 3) := by decide +kernel
theorem dX8_feelOne_36 : decode cX8_feelOne 36 = .ok (.iconst 1, 1) := by decide +kernel
theorem dX8_feelOne_37 : decode cX8_feelOne 37 = .ok (.goto 4, 3) := by decide +kernel
theorem dX8_feelOne_40 : decode cX8_feelOne 40 = .ok (.iconst 0, 1) := by decide +kernel
theorem dX8_feelOne_41 : decode cX8_feelOne 41 = .ok (.invokevirtual 76, 3) := by decide +kernel
theorem dX8_feelOne_44 : decode cX8_feelOne 44 = .ok (.iload 4, 2) := by decide +kernel
theorem dX8_feelOne_46 : decode cX8_feelOne 46 = .ok (.ifCond .eq 14, 3) := by decide +kernel
theorem dX8_feelOne_49 : decode cX8_feelOne 49 = .ok (.aload_n 0, 1) := by decide +kernel
theorem dX8_feelOne_50 : decode cX8_feelOne 50 = .ok (.getfield 29, 3) := by decide +kernel
theorem dX8_feelOne_53 : decode cX8_feelOne 53 = .ok (.iload_n 1, 1) := by decide +kernel
theorem dX8_feelOne_54 : decode cX8_feelOne 54 = .ok (.dup2, 1) := by decide +kernel
theorem dX8_feelOne_55 : decode cX8_feelOne 55 = .ok (.iaload, 1) := by decide +kernel
theorem dX8_feelOne_56 : decode cX8_feelOne 56 = .ok (.iconst 1, 1) := by decide +kernel
theorem dX8_feelOne_57 : decode cX8_feelOne 57 = .ok (.iadd, 1) := by decide +kernel
theorem dX8_feelOne_58 : decode cX8_feelOne 58 = .ok (.iastore, 1) := by decide +kernel
theorem dX8_feelOne_59 : decode cX8_feelOne 59 = .ok (.return_, 1) := by decide +kernel
theorem dX8_feelOne_60 : decode cX8_feelOne 60 = .ok (.aload_n 0, 1) := by decide +kernel
theorem dX8_feelOne_61 : decode cX8_feelOne 61 = .ok (.getfield 26, 3) := by decide +kernel
theorem dX8_feelOne_64 : decode cX8_feelOne 64 = .ok (.iload_n 1, 1) := by decide +kernel
theorem dX8_feelOne_65 : decode cX8_feelOne 65 = .ok (.dup2, 1) := by decide +kernel
theorem dX8_feelOne_66 : decode cX8_feelOne 66 = .ok (.iaload, 1) := by decide +kernel
theorem dX8_feelOne_67 : decode cX8_feelOne 67 = .ok (.iconst 1, 1) := by decide +kernel
theorem dX8_feelOne_68 : decode cX8_feelOne 68 = .ok (.iadd, 1) := by decide +kernel
theorem dX8_feelOne_69 : decode cX8_feelOne 69 = .ok (.iastore, 1) := by decide +kernel
theorem dX8_feelOne_70 : decode cX8_feelOne 70 = .ok (.aload_n 0, 1) := by decide +kernel
theorem dX8_feelOne_71 : decode cX8_feelOne 71 = .ok (.getfield 32, 3) := by decide +kernel
theorem dX8_feelOne_74 : decode cX8_feelOne 74 = .ok (.iload_n 1, 1) := by decide +kernel
theorem dX8_feelOne_75 : decode cX8_feelOne 75 = .ok (.iaload, 1) := by decide +kernel
theorem dX8_feelOne_76 : decode cX8_feelOne 76 = .ok (.iconst (-1), 1) := by decide +kernel
theorem dX8_feelOne_77 : decode cX8_feelOne 77 = .ok (.if_icmp .ne 20, 3) := by decide +kernel
theorem dX8_feelOne_80 : decode cX8_feelOne 80 = .ok (.aload_n 0, 1) := by decide +kernel
theorem dX8_feelOne_81 : decode cX8_feelOne 81 = .ok (.getfield 32, 3) := by decide +kernel
theorem dX8_feelOne_84 : decode cX8_feelOne 84 = .ok (.iload_n 1, 1) := by decide +kernel
theorem dX8_feelOne_85 : decode cX8_feelOne 85 = .ok (.iload_n 2, 1) := by decide +kernel
theorem dX8_feelOne_86 : decode cX8_feelOne 86 = .ok (.iastore, 1) := by decide +kernel
theorem dX8_feelOne_87 : decode cX8_feelOne 87 = .ok (.aload_n 0, 1) := by decide +kernel
theorem dX8_feelOne_88 : decode cX8_feelOne 88 = .ok (.dup, 1) := by decide +kernel
theorem dX8_feelOne_89 : decode cX8_feelOne 89 = .ok (.getfield 50, 3) := by decide +kernel
theorem dX8_feelOne_92 : decode cX8_feelOne 92 = .ok (.iconst 1, 1) := by decide +kernel
theorem dX8_feelOne_93 : decode cX8_feelOne 93 = .ok (.isub, 1) := by decide +kernel
theorem dX8_feelOne_94 : decode cX8_feelOne 94 = .ok (.putfield 50, 3) := by decide +kernel
theorem dX8_feelOne_97 : decode cX8_feelOne 97 = .ok (.iload_n 1, 1) := by decide +kernel
theorem dX8_feelOne_98 : decode cX8_feelOne 98 = .ok (.aload_n 0, 1) := by decide +kernel
theorem dX8_feelOne_99 : decode cX8_feelOne 99 = .ok (.getfield 38, 3) := by decide +kernel
theorem dX8_feelOne_102 : decode cX8_feelOne 102 = .ok (.if_icmp .ne 7, 3) := by decide +kernel
theorem dX8_feelOne_105 : decode cX8_feelOne 105 = .ok (.iconst 3, 1) := by decide +kernel
theorem dX8_feelOne_106 : decode cX8_feelOne 106 = .ok (.goto 12, 3) := by decide +kernel
theorem dX8_feelOne_109 : decode cX8_feelOne 109 = .ok (.aload_n 0, 1) := by decide +kernel
theorem dX8_feelOne_110 : decode cX8_feelOne 110 = .ok (.getfield 9, 3) := by decide +kernel
theorem dX8_feelOne_113 : decode cX8_feelOne 113 = .ok (.getfield 80, 3) := by decide +kernel
theorem dX8_feelOne_116 : decode cX8_feelOne 116 = .ok (.iload_n 1, 1) := by decide +kernel
theorem dX8_feelOne_117 : decode cX8_feelOne 117 = .ok (.iaload, 1) := by decide +kernel
theorem dX8_feelOne_118 : decode cX8_feelOne 118 = .ok (.istore 5, 2) := by decide +kernel
theorem dX8_feelOne_120 : decode cX8_feelOne 120 = .ok (.iload 5, 2) := by decide +kernel
theorem dX8_feelOne_122 : decode cX8_feelOne 122 = .ok (.iconst 3, 1) := by decide +kernel
theorem dX8_feelOne_123 : decode cX8_feelOne 123 = .ok (.if_icmp .eq 21, 3) := by decide +kernel
theorem dX8_feelOne_126 : decode cX8_feelOne 126 = .ok (.iload 5, 2) := by decide +kernel
theorem dX8_feelOne_128 : decode cX8_feelOne 128 = .ok (.iconst 2, 1) := by decide +kernel
theorem dX8_feelOne_129 : decode cX8_feelOne 129 = .ok (.if_icmp .ne 16, 3) := by decide +kernel
theorem dX8_feelOne_132 : decode cX8_feelOne 132 = .ok (.aload_n 0, 1) := by decide +kernel
theorem dX8_feelOne_133 : decode cX8_feelOne 133 = .ok (.getfield 26, 3) := by decide +kernel
theorem dX8_feelOne_136 : decode cX8_feelOne 136 = .ok (.iload_n 1, 1) := by decide +kernel
theorem dX8_feelOne_137 : decode cX8_feelOne 137 = .ok (.iaload, 1) := by decide +kernel
theorem dX8_feelOne_138 : decode cX8_feelOne 138 = .ok (.iconst 2, 1) := by decide +kernel
theorem dX8_feelOne_139 : decode cX8_feelOne 139 = .ok (.irem, 1) := by decide +kernel
theorem dX8_feelOne_140 : decode cX8_feelOne 140 = .ok (.iconst 1, 1) := by decide +kernel
theorem dX8_feelOne_141 : decode cX8_feelOne 141 = .ok (.if_icmp .ne 4, 3) := by decide +kernel
theorem dX8_feelOne_144 : decode cX8_feelOne 144 = .ok (.return_, 1) := by decide +kernel
theorem dX8_feelOne_145 : decode cX8_feelOne 145 = .ok (.aload_n 0, 1) := by decide +kernel
theorem dX8_feelOne_146 : decode cX8_feelOne 146 = .ok (.getfield 9, 3) := by decide +kernel
theorem dX8_feelOne_149 : decode cX8_feelOne 149 = .ok (.getfield 83, 3) := by decide +kernel
theorem dX8_feelOne_152 : decode cX8_feelOne 152 = .ok (.iload_n 1, 1) := by decide +kernel
theorem dX8_feelOne_153 : decode cX8_feelOne 153 = .ok (.iaload, 1) := by decide +kernel
theorem dX8_feelOne_154 : decode cX8_feelOne 154 = .ok (.istore 6, 2) := by decide +kernel
theorem dX8_feelOne_156 : decode cX8_feelOne 156 = .ok (.aload_n 0, 1) := by decide +kernel
theorem dX8_feelOne_157 : decode cX8_feelOne 157 = .ok (.iload_n 1, 1) := by decide +kernel
theorem dX8_feelOne_158 : decode cX8_feelOne 158 = .ok (.iload_n 2, 1) := by decide +kernel
theorem dX8_feelOne_159 : decode cX8_feelOne 159 = .ok (.iload 6, 2) := by decide +kernel
theorem dX8_feelOne_161 : decode cX8_feelOne 161 = .ok (.iadd, 1) := by decide +kernel
theorem dX8_feelOne_162 : decode cX8_feelOne 162 = .ok (.iload_n 3, 1) := by decide +kernel
theorem dX8_feelOne_163 : decode cX8_feelOne 163 = .ok (.invokevirtual 86, 3) := by decide +kernel
theorem dX8_feelOne_166 : decode cX8_feelOne 166 = .ok (.aload_n 0, 1) := by decide +kernel
theorem dX8_feelOne_167 : decode cX8_feelOne 167 = .ok (.getfield 23, 3) := by decide +kernel
theorem dX8_feelOne_170 : decode cX8_feelOne 170 = .ok (.iload_n 1, 1) := by decide +kernel
theorem dX8_feelOne_171 : decode cX8_feelOne 171 = .ok (.iload_n 2, 1) := by decide +kernel
theorem dX8_feelOne_172 : decode cX8_feelOne 172 = .ok (.iload 6, 2) := by decide +kernel
theorem dX8_feelOne_174 : decode cX8_feelOne 174 = .ok (.iadd, 1) := by decide +kernel
theorem dX8_feelOne_175 : decode cX8_feelOne 175 = .ok (.iastore, 1) := by decide +kernel
theorem dX8_feelOne_176 : decode cX8_feelOne 176 = .ok (.iload 5, 2) := by decide +kernel
theorem dX8_feelOne_178 : decode cX8_feelOne 178 = .ok (.iconst 1, 1) := by decide +kernel
theorem dX8_feelOne_179 : decode cX8_feelOne 179 = .ok (.if_icmp .ne 27, 3) := by decide +kernel
theorem dX8_feelOne_182 : decode cX8_feelOne 182 = .ok (.aload_n 0, 1) := by decide +kernel
theorem dX8_feelOne_183 : decode cX8_feelOne 183 = .ok (.iload_n 1, 1) := by decide +kernel
theorem dX8_feelOne_184 : decode cX8_feelOne 184 = .ok (.iload_n 2, 1) := by decide +kernel
theorem dX8_feelOne_185 : decode cX8_feelOne 185 = .ok (.iconst 2, 1) := by decide +kernel
theorem dX8_feelOne_186 : decode cX8_feelOne 186 = .ok (.iload 6, 2) := by decide +kernel
theorem dX8_feelOne_188 : decode cX8_feelOne 188 = .ok (.imul, 1) := by decide +kernel
theorem dX8_feelOne_189 : decode cX8_feelOne 189 = .ok (.iadd, 1) := by decide +kernel
theorem dX8_feelOne_190 : decode cX8_feelOne 190 = .ok (.iload_n 3, 1) := by decide +kernel
theorem dX8_feelOne_191 : decode cX8_feelOne 191 = .ok (.invokevirtual 86, 3) := by decide +kernel
theorem dX8_feelOne_194 : decode cX8_feelOne 194 = .ok (.aload_n 0, 1) := by decide +kernel
theorem dX8_feelOne_195 : decode cX8_feelOne 195 = .ok (.getfield 23, 3) := by decide +kernel
theorem dX8_feelOne_198 : decode cX8_feelOne 198 = .ok (.iload_n 1, 1) := by decide +kernel
theorem dX8_feelOne_199 : decode cX8_feelOne 199 = .ok (.iload_n 2, 1) := by decide +kernel
theorem dX8_feelOne_200 : decode cX8_feelOne 200 = .ok (.iconst 2, 1) := by decide +kernel
theorem dX8_feelOne_201 : decode cX8_feelOne 201 = .ok (.iload 6, 2) := by decide +kernel
theorem dX8_feelOne_203 : decode cX8_feelOne 203 = .ok (.imul, 1) := by decide +kernel
theorem dX8_feelOne_204 : decode cX8_feelOne 204 = .ok (.iadd, 1) := by decide +kernel
theorem dX8_feelOne_205 : decode cX8_feelOne 205 = .ok (.iastore, 1) := by decide +kernel
theorem dX8_feelOne_206 : decode cX8_feelOne 206 = .ok (.return_, 1) := by decide +kernel
theorem dX8_passOn_0 : decode cX8_passOn 0 = .ok (.iconst 0, 1) := by decide +kernel
theorem dX8_passOn_1 : decode cX8_passOn 1 = .ok (.istore 4, 2) := by decide +kernel
theorem dX8_passOn_3 : decode cX8_passOn 3 = .ok (.iload 4, 2) := by decide +kernel
theorem dX8_passOn_5 : decode cX8_passOn 5 = .ok (.aload_n 0, 1) := by decide +kernel
theorem dX8_passOn_6 : decode cX8_passOn 6 = .ok (.getfield 9, 3) := by decide +kernel
theorem dX8_passOn_9 : decode cX8_passOn 9 = .ok (.getfield 42, 3) := by decide +kernel
theorem dX8_passOn_12 : decode cX8_passOn 12 = .ok (.if_icmp .ge 115, 3) := by decide +kernel
theorem dX8_passOn_15 : decode cX8_passOn 15 = .ok (.iload 4, 2) := by decide +kernel
theorem dX8_passOn_17 : decode cX8_passOn 17 = .ok (.iload_n 3, 1) := by decide +kernel
theorem dX8_passOn_18 : decode cX8_passOn 18 = .ok (.if_icmp .eq 103, 3) := by decide +kernel
theorem dX8_passOn_21 : decode cX8_passOn 21 = .ok (.aload_n 0, 1) := by decide +kernel
theorem dX8_passOn_22 : decode cX8_passOn 22 = .ok (.getfield 9, 3) := by decide +kernel
theorem dX8_passOn_25 : decode cX8_passOn 25 = .ok (.getfield 89, 3) := by decide +kernel
theorem dX8_passOn_28 : decode cX8_passOn 28 = .ok (.iload_n 1, 1) := by decide +kernel
theorem dX8_passOn_29 : decode cX8_passOn 29 = .ok (.iaload, 1) := by decide +kernel
theorem dX8_passOn_30 : decode cX8_passOn 30 = .ok (.iload 4, 2) := by decide +kernel
theorem dX8_passOn_32 : decode cX8_passOn 32 = .ok (.ishr, 1) := by decide +kernel
theorem dX8_passOn_33 : decode cX8_passOn 33 = .ok (.iconst 1, 1) := by decide +kernel
theorem dX8_passOn_34 : decode cX8_passOn 34 = .ok (.iand, 1) := by decide +kernel
theorem dX8_passOn_35 : decode cX8_passOn 35 = .ok (.ifCond .ne 6, 3) := by decide +kernel
theorem dX8_passOn_38 : decode cX8_passOn 38 = .ok (.goto 83, 3) := by decide +kernel
theorem dX8_passOn_41 : decode cX8_passOn 41 = .ok (.aload_n 0, 1) := by decide +kernel
theorem dX8_passOn_42 : decode cX8_passOn 42 = .ok (.getfield 9, 3) := by decide +kernel
theorem dX8_passOn_45 : decode cX8_passOn 45 = .ok (.getfield 92, 3) := by decide +kernel
theorem dX8_passOn_48 : decode cX8_passOn 48 = .ok (.iload_n 1, 1) := by decide +kernel
theorem dX8_passOn_49 : decode cX8_passOn 49 = .ok (.iaload, 1) := by decide +kernel
theorem dX8_passOn_50 : decode cX8_passOn 50 = .ok (.iload 4, 2) := by decide +kernel
theorem dX8_passOn_52 : decode cX8_passOn 52 = .ok (.ishr, 1) := by decide +kernel
theorem dX8_passOn_53 : decode cX8_passOn 53 = .ok (.iconst 1, 1) := by decide +kernel
theorem dX8_passOn_54 : decode cX8_passOn 54 = .ok (.iand, 1) := by decide +kernel
theorem dX8_passOn_55 : decode cX8_passOn 55 = .ok (.ifCond .ne 7, 3) := by decide +kernel
theorem dX8_passOn_58 : decode cX8_passOn 58 = .ok (.iload_n 2, 1) := by decide +kernel
theorem dX8_passOn_59 : decode cX8_passOn 59 = .ok (.goto 6, 3) := by decide +kernel
theorem dX8_passOn_62 : decode cX8_passOn 62 = .ok (.iload_n 2, 1) := by decide +kernel
theorem dX8_passOn_63 : decode cX8_passOn 63 = .ok (.iconst 3, 1) := by decide +kernel
theorem dX8_passOn_64 : decode cX8_passOn 64 = .ok (.iadd, 1) := by decide +kernel
theorem dX8_passOn_65 : decode cX8_passOn 65 = .ok (.istore 5, 2) := by decide +kernel
theorem dX8_passOn_67 : decode cX8_passOn 67 = .ok (.iload 5, 2) := by decide +kernel
theorem dX8_passOn_69 : decode cX8_passOn 69 = .ok (.sipush 400, 3) := by decide +kernel
theorem dX8_passOn_72 : decode cX8_passOn 72 = .ok (.if_icmp .gt 49, 3) := by decide +kernel
theorem dX8_passOn_75 : decode cX8_passOn 75 = .ok (.aload_n 0, 1) := by decide +kernel
theorem dX8_passOn_76 : decode cX8_passOn 76 = .ok (.getfield 19, 3) := by decide +kernel
theorem dX8_passOn_79 : decode cX8_passOn 79 = .ok (.iload 5, 2) := by decide +kernel
theorem dX8_passOn_81 : decode cX8_passOn 81 = .ok (.bipush 32, 2) := by decide +kernel
theorem dX8_passOn_83 : decode cX8_passOn 83 = .ok (.irem, 1) := by decide +kernel
theorem dX8_passOn_84 : decode cX8_passOn 84 = .ok (.bipush 20, 2) := by decide +kernel
theorem dX8_passOn_86 : decode cX8_passOn 86 = .ok (.imul, 1) := by decide +kernel
theorem dX8_passOn_87 : decode cX8_passOn 87 = .ok (.iload 4, 2) := by decide +kernel
theorem dX8_passOn_89 : decode cX8_passOn 89 = .ok (.iadd, 1) := by decide +kernel
theorem dX8_passOn_90 : decode cX8_passOn 90 = .ok (.dup2, 1) := by decide +kernel
theorem dX8_passOn_91 : decode cX8_passOn 91 = .ok (.iaload, 1) := by decide +kernel
theorem dX8_passOn_92 : decode cX8_passOn 92 = .ok (.iconst 1, 1) := by decide +kernel
theorem dX8_passOn_93 : decode cX8_passOn 93 = .ok (.iload_n 1, 1) := by decide +kernel
theorem dX8_passOn_94 : decode cX8_passOn 94 = .ok (.iconst 2, 1) := by decide +kernel
theorem dX8_passOn_95 : decode cX8_passOn 95 = .ok (.iadd, 1) := by decide +kernel
theorem dX8_passOn_96 : decode cX8_passOn 96 = .ok (.ishl, 1) := by decide +kernel
theorem dX8_passOn_97 : decode cX8_passOn 97 = .ok (.ior, 1) := by decide +kernel
theorem dX8_passOn_98 : decode cX8_passOn 98 = .ok (.iastore, 1) := by decide +kernel
theorem dX8_passOn_99 : decode cX8_passOn 99 = .ok (.aload_n 0, 1) := by decide +kernel
theorem dX8_passOn_100 : decode cX8_passOn 100 = .ok (.iload 5, 2) := by decide +kernel
theorem dX8_passOn_102 : decode cX8_passOn 102 = .ok (.aload_n 0, 1) := by decide +kernel
theorem dX8_passOn_103 : decode cX8_passOn 103 = .ok (.getfield 47, 3) := by decide +kernel
theorem dX8_passOn_106 : decode cX8_passOn 106 = .ok (.if_icmp .le 8, 3) := by decide +kernel
theorem dX8_passOn_109 : decode cX8_passOn 109 = .ok (.iload 5, 2) := by decide +kernel
theorem dX8_passOn_111 : decode cX8_passOn 111 = .ok (.goto 7, 3) := by decide +kernel
theorem dX8_passOn_114 : decode cX8_passOn 114 = .ok (.aload_n 0, 1) := by decide +kernel
theorem dX8_passOn_115 : decode cX8_passOn 115 = .ok (.getfield 47, 3) := by decide +kernel
theorem dX8_passOn_118 : decode cX8_passOn 118 = .ok (.putfield 47, 3) := by decide +kernel
theorem dX8_passOn_121 : decode cX8_passOn 121 = .ok (.iinc 4 1, 3) := by decide +kernel
theorem dX8_passOn_124 : decode cX8_passOn 124 = .ok (.goto (-121), 3) := by decide +kernel
theorem dX8_passOn_127 : decode cX8_passOn 127 = .ok (.return_, 1) := by decide +kernel
theorem dX8_reachedBits_0 : decode cX8_reachedBits 0 = .ok (.aload_n 0, 1) := by decide +kernel
theorem dX8_reachedBits_1 : decode cX8_reachedBits 1 = .ok (.iconst 1, 1) := by decide +kernel
theorem dX8_reachedBits_2 : decode cX8_reachedBits 2 = .ok (.invokevirtual 95, 3) := by decide +kernel
theorem dX8_reachedBits_5 : decode cX8_reachedBits 5 = .ok (.ireturn, 1) := by decide +kernel
theorem dX8_twiceBits_0 : decode cX8_twiceBits 0 = .ok (.aload_n 0, 1) := by decide +kernel
theorem dX8_twiceBits_1 : decode cX8_twiceBits 1 = .ok (.iconst 2, 1) := by decide +kernel
theorem dX8_twiceBits_2 : decode cX8_twiceBits 2 = .ok (.invokevirtual 95, 3) := by decide +kernel
theorem dX8_twiceBits_5 : decode cX8_twiceBits 5 = .ok (.ireturn, 1) := by decide +kernel
theorem dX8_feltAtLeast_0 : decode cX8_feltAtLeast 0 = .ok (.iconst 0, 1) := by decide +kernel
theorem dX8_feltAtLeast_1 : decode cX8_feltAtLeast 1 = .ok (.istore_n 2, 1) := by decide +kernel
theorem dX8_feltAtLeast_2 : decode cX8_feltAtLeast 2 = .ok (.iconst 0, 1) := by decide +kernel
theorem dX8_feltAtLeast_3 : decode cX8_feltAtLeast 3 = .ok (.istore_n 3, 1) := by decide +kernel
theorem dX8_feltAtLeast_4 : decode cX8_feltAtLeast 4 = .ok (.iload_n 3, 1) := by decide +kernel
theorem dX8_feltAtLeast_5 : decode cX8_feltAtLeast 5 = .ok (.aload_n 0, 1) := by decide +kernel
theorem dX8_feltAtLeast_6 : decode cX8_feltAtLeast 6 = .ok (.getfield 9, 3) := by decide +kernel
theorem dX8_feltAtLeast_9 : decode cX8_feltAtLeast 9 = .ok (.getfield 42, 3) := by decide +kernel
theorem dX8_feltAtLeast_12 : decode cX8_feltAtLeast 12 = .ok (.if_icmp .ge 25, 3) := by decide +kernel
theorem dX8_feltAtLeast_15 : decode cX8_feltAtLeast 15 = .ok (.aload_n 0, 1) := by decide +kernel
theorem dX8_feltAtLeast_16 : decode cX8_feltAtLeast 16 = .ok (.getfield 26, 3) := by decide +kernel
theorem dX8_feltAtLeast_19 : decode cX8_feltAtLeast 19 = .ok (.iload_n 3, 1) := by decide +kernel
theorem dX8_feltAtLeast_20 : decode cX8_feltAtLeast 20 = .ok (.iaload, 1) := by decide +kernel
theorem dX8_feltAtLeast_21 : decode cX8_feltAtLeast 21 = .ok (.iload_n 1, 1) := by decide +kernel
theorem dX8_feltAtLeast_22 : decode cX8_feltAtLeast 22 = .ok (.if_icmp .lt 9, 3) := by decide +kernel
theorem dX8_feltAtLeast_25 : decode cX8_feltAtLeast 25 = .ok (.iload_n 2, 1) := by decide +kernel
theorem dX8_feltAtLeast_26 : decode cX8_feltAtLeast 26 = .ok (.iconst 1, 1) := by decide +kernel
theorem dX8_feltAtLeast_27 : decode cX8_feltAtLeast 27 = .ok (.iload_n 3, 1) := by decide +kernel
theorem dX8_feltAtLeast_28 : decode cX8_feltAtLeast 28 = .ok (.ishl, 1) := by decide +kernel
theorem dX8_feltAtLeast_29 : decode cX8_feltAtLeast 29 = .ok (.ior, 1) := by decide +kernel
theorem dX8_feltAtLeast_30 : decode cX8_feltAtLeast 30 = .ok (.istore_n 2, 1) := by decide +kernel
theorem dX8_feltAtLeast_31 : decode cX8_feltAtLeast 31 = .ok (.iinc 3 1, 3) := by decide +kernel
theorem dX8_feltAtLeast_34 : decode cX8_feltAtLeast 34 = .ok (.goto (-30), 3) := by decide +kernel
theorem dX8_feltAtLeast_37 : decode cX8_feltAtLeast 37 = .ok (.iload_n 2, 1) := by decide +kernel
theorem dX8_feltAtLeast_38 : decode cX8_feltAtLeast 38 = .ok (.ireturn, 1) := by decide +kernel
theorem dX8_lastTime_0 : decode cX8_lastTime 0 = .ok (.iconst (-1), 1) := by decide +kernel
theorem dX8_lastTime_1 : decode cX8_lastTime 1 = .ok (.istore_n 1, 1) := by decide +kernel
theorem dX8_lastTime_2 : decode cX8_lastTime 2 = .ok (.iconst 0, 1) := by decide +kernel
theorem dX8_lastTime_3 : decode cX8_lastTime 3 = .ok (.istore_n 2, 1) := by decide +kernel
theorem dX8_lastTime_4 : decode cX8_lastTime 4 = .ok (.iload_n 2, 1) := by decide +kernel
theorem dX8_lastTime_5 : decode cX8_lastTime 5 = .ok (.aload_n 0, 1) := by decide +kernel
theorem dX8_lastTime_6 : decode cX8_lastTime 6 = .ok (.getfield 9, 3) := by decide +kernel
theorem dX8_lastTime_9 : decode cX8_lastTime 9 = .ok (.getfield 42, 3) := by decide +kernel
theorem dX8_lastTime_12 : decode cX8_lastTime 12 = .ok (.if_icmp .ge 20, 3) := by decide +kernel
theorem dX8_lastTime_15 : decode cX8_lastTime 15 = .ok (.iload_n 1, 1) := by decide +kernel
theorem dX8_lastTime_16 : decode cX8_lastTime 16 = .ok (.aload_n 0, 1) := by decide +kernel
theorem dX8_lastTime_17 : decode cX8_lastTime 17 = .ok (.getfield 32, 3) := by decide +kernel
theorem dX8_lastTime_20 : decode cX8_lastTime 20 = .ok (.iload_n 2, 1) := by decide +kernel
theorem dX8_lastTime_21 : decode cX8_lastTime 21 = .ok (.iaload, 1) := by decide +kernel
theorem dX8_lastTime_22 : decode cX8_lastTime 22 = .ok (.invokestatic 99, 3) := by decide +kernel
theorem dX8_lastTime_25 : decode cX8_lastTime 25 = .ok (.istore_n 1, 1) := by decide +kernel
theorem dX8_lastTime_26 : decode cX8_lastTime 26 = .ok (.iinc 2 1, 3) := by decide +kernel
theorem dX8_lastTime_29 : decode cX8_lastTime 29 = .ok (.goto (-25), 3) := by decide +kernel
theorem dX8_lastTime_32 : decode cX8_lastTime 32 = .ok (.iload_n 1, 1) := by decide +kernel
theorem dX8_lastTime_33 : decode cX8_lastTime 33 = .ok (.ireturn, 1) := by decide +kernel
theorem dX8_allLost_0 : decode cX8_allLost 0 = .ok (.iconst 0, 1) := by decide +kernel
theorem dX8_allLost_1 : decode cX8_allLost 1 = .ok (.istore_n 1, 1) := by decide +kernel
theorem dX8_allLost_2 : decode cX8_allLost 2 = .ok (.iconst 0, 1) := by decide +kernel
theorem dX8_allLost_3 : decode cX8_allLost 3 = .ok (.istore_n 2, 1) := by decide +kernel
theorem dX8_allLost_4 : decode cX8_allLost 4 = .ok (.iload_n 2, 1) := by decide +kernel
theorem dX8_allLost_5 : decode cX8_allLost 5 = .ok (.aload_n 0, 1) := by decide +kernel
theorem dX8_allLost_6 : decode cX8_allLost 6 = .ok (.getfield 9, 3) := by decide +kernel
theorem dX8_allLost_9 : decode cX8_allLost 9 = .ok (.getfield 42, 3) := by decide +kernel
theorem dX8_allLost_12 : decode cX8_allLost 12 = .ok (.if_icmp .ge 18, 3) := by decide +kernel
theorem dX8_allLost_15 : decode cX8_allLost 15 = .ok (.iload_n 1, 1) := by decide +kernel
theorem dX8_allLost_16 : decode cX8_allLost 16 = .ok (.aload_n 0, 1) := by decide +kernel
theorem dX8_allLost_17 : decode cX8_allLost 17 = .ok (.getfield 29, 3) := by decide +kernel
theorem dX8_allLost_20 : decode cX8_allLost 20 = .ok (.iload_n 2, 1) := by decide +kernel
theorem dX8_allLost_21 : decode cX8_allLost 21 = .ok (.iaload, 1) := by decide +kernel
theorem dX8_allLost_22 : decode cX8_allLost 22 = .ok (.iadd, 1) := by decide +kernel
theorem dX8_allLost_23 : decode cX8_allLost 23 = .ok (.istore_n 1, 1) := by decide +kernel
theorem dX8_allLost_24 : decode cX8_allLost 24 = .ok (.iinc 2 1, 3) := by decide +kernel
theorem dX8_allLost_27 : decode cX8_allLost 27 = .ok (.goto (-23), 3) := by decide +kernel
theorem dX8_allLost_30 : decode cX8_allLost 30 = .ok (.iload_n 1, 1) := by decide +kernel
theorem dX8_allLost_31 : decode cX8_allLost 31 = .ok (.ireturn, 1) := by decide +kernel
theorem dX8_timeOfFelt_0 : decode cX8_timeOfFelt 0 = .ok (.aload_n 0, 1) := by decide +kernel
theorem dX8_timeOfFelt_1 : decode cX8_timeOfFelt 1 = .ok (.getfield 15, 3) := by decide +kernel
theorem dX8_timeOfFelt_4 : decode cX8_timeOfFelt 4 = .ok (.ifnonnull 7, 3) := by decide +kernel
theorem dX8_timeOfFelt_7 : decode cX8_timeOfFelt 7 = .ok (.iconst (-1), 1) := by decide +kernel
theorem dX8_timeOfFelt_8 : decode cX8_timeOfFelt 8 = .ok (.goto 12, 3) := by decide +kernel
theorem dX8_timeOfFelt_11 : decode cX8_timeOfFelt 11 = .ok (.aload_n 0, 1) := by decide +kernel
theorem dX8_timeOfFelt_12 : decode cX8_timeOfFelt 12 = .ok (.getfield 15, 3) := by decide +kernel
theorem dX8_timeOfFelt_15 : decode cX8_timeOfFelt 15 = .ok (.iload_n 1, 1) := by decide +kernel
theorem dX8_timeOfFelt_16 : decode cX8_timeOfFelt 16 = .ok (.iload_n 2, 1) := by decide +kernel
theorem dX8_timeOfFelt_17 : decode cX8_timeOfFelt 17 = .ok (.invokevirtual 105, 3) := by decide +kernel
theorem dX8_timeOfFelt_20 : decode cX8_timeOfFelt 20 = .ok (.istore_n 3, 1) := by decide +kernel
theorem dX8_timeOfFelt_21 : decode cX8_timeOfFelt 21 = .ok (.iload_n 3, 1) := by decide +kernel
theorem dX8_timeOfFelt_22 : decode cX8_timeOfFelt 22 = .ok (.iconst (-1), 1) := by decide +kernel
theorem dX8_timeOfFelt_23 : decode cX8_timeOfFelt 23 = .ok (.if_icmp .ne 7, 3) := by decide +kernel
theorem dX8_timeOfFelt_26 : decode cX8_timeOfFelt 26 = .ok (.iconst (-1), 1) := by decide +kernel
theorem dX8_timeOfFelt_27 : decode cX8_timeOfFelt 27 = .ok (.goto 7, 3) := by decide +kernel
theorem dX8_timeOfFelt_30 : decode cX8_timeOfFelt 30 = .ok (.iload_n 3, 1) := by decide +kernel
theorem dX8_timeOfFelt_31 : decode cX8_timeOfFelt 31 = .ok (.invokestatic 108, 3) := by decide +kernel
theorem dX8_timeOfFelt_34 : decode cX8_timeOfFelt 34 = .ok (.ireturn, 1) := by decide +kernel
theorem dX8_sourceOfFelt_0 : decode cX8_sourceOfFelt 0 = .ok (.aload_n 0, 1) := by decide +kernel
theorem dX8_sourceOfFelt_1 : decode cX8_sourceOfFelt 1 = .ok (.getfield 15, 3) := by decide +kernel
theorem dX8_sourceOfFelt_4 : decode cX8_sourceOfFelt 4 = .ok (.ifnonnull 7, 3) := by decide +kernel
theorem dX8_sourceOfFelt_7 : decode cX8_sourceOfFelt 7 = .ok (.iconst (-1), 1) := by decide +kernel
theorem dX8_sourceOfFelt_8 : decode cX8_sourceOfFelt 8 = .ok (.goto 12, 3) := by decide +kernel
theorem dX8_sourceOfFelt_11 : decode cX8_sourceOfFelt 11 = .ok (.aload_n 0, 1) := by decide +kernel
theorem dX8_sourceOfFelt_12 : decode cX8_sourceOfFelt 12 = .ok (.getfield 15, 3) := by decide +kernel
theorem dX8_sourceOfFelt_15 : decode cX8_sourceOfFelt 15 = .ok (.iload_n 1, 1) := by decide +kernel
theorem dX8_sourceOfFelt_16 : decode cX8_sourceOfFelt 16 = .ok (.iload_n 2, 1) := by decide +kernel
theorem dX8_sourceOfFelt_17 : decode cX8_sourceOfFelt 17 = .ok (.invokevirtual 105, 3) := by decide +kernel
theorem dX8_sourceOfFelt_20 : decode cX8_sourceOfFelt 20 = .ok (.istore_n 3, 1) := by decide +kernel
theorem dX8_sourceOfFelt_21 : decode cX8_sourceOfFelt 21 = .ok (.iload_n 3, 1) := by decide +kernel
theorem dX8_sourceOfFelt_22 : decode cX8_sourceOfFelt 22 = .ok (.iconst (-1), 1) := by decide +kernel
theorem dX8_sourceOfFelt_23 : decode cX8_sourceOfFelt 23 = .ok (.if_icmp .ne 7, 3) := by decide +kernel
theorem dX8_sourceOfFelt_26 : decode cX8_sourceOfFelt 26 = .ok (.iconst (-1), 1) := by decide +kernel
theorem dX8_sourceOfFelt_27 : decode cX8_sourceOfFelt 27 = .ok (.goto 7, 3) := by decide +kernel
theorem dX8_sourceOfFelt_30 : decode cX8_sourceOfFelt 30 = .ok (.iload_n 3, 1) := by decide +kernel
theorem dX8_sourceOfFelt_31 : decode cX8_sourceOfFelt 31 = .ok (.invokestatic 111, 3) := by decide +kernel
theorem dX8_sourceOfFelt_34 : decode cX8_sourceOfFelt 34 = .ok (.ireturn, 1) := by decide +kernel
theorem dX8_feltUpTo_0 : decode cX8_feltUpTo 0 = .ok (.aload_n 0, 1) := by decide +kernel
theorem dX8_feltUpTo_1 : decode cX8_feltUpTo 1 = .ok (.getfield 15, 3) := by decide +kernel
theorem dX8_feltUpTo_4 : decode cX8_feltUpTo 4 = .ok (.ifnonnull 7, 3) := by decide +kernel
theorem dX8_feltUpTo_7 : decode cX8_feltUpTo 7 = .ok (.iconst 0, 1) := by decide +kernel
theorem dX8_feltUpTo_8 : decode cX8_feltUpTo 8 = .ok (.goto 13, 3) := by decide +kernel
theorem dX8_feltUpTo_11 : decode cX8_feltUpTo 11 = .ok (.aload_n 0, 1) := by decide +kernel
theorem dX8_feltUpTo_12 : decode cX8_feltUpTo 12 = .ok (.getfield 15, 3) := by decide +kernel
theorem dX8_feltUpTo_15 : decode cX8_feltUpTo 15 = .ok (.iload_n 1, 1) := by decide +kernel
theorem dX8_feltUpTo_16 : decode cX8_feltUpTo 16 = .ok (.iload_n 2, 1) := by decide +kernel
theorem dX8_feltUpTo_17 : decode cX8_feltUpTo 17 = .ok (.iconst 0, 1) := by decide +kernel
theorem dX8_feltUpTo_18 : decode cX8_feltUpTo 18 = .ok (.invokevirtual 114, 3) := by decide +kernel
theorem dX8_feltUpTo_21 : decode cX8_feltUpTo 21 = .ok (.ireturn, 1) := by decide +kernel
theorem dX8_lostUpTo_0 : decode cX8_lostUpTo 0 = .ok (.aload_n 0, 1) := by decide +kernel
theorem dX8_lostUpTo_1 : decode cX8_lostUpTo 1 = .ok (.getfield 15, 3) := by decide +kernel
theorem dX8_lostUpTo_4 : decode cX8_lostUpTo 4 = .ok (.ifnonnull 7, 3) := by decide +kernel
theorem dX8_lostUpTo_7 : decode cX8_lostUpTo 7 = .ok (.iconst 0, 1) := by decide +kernel
theorem dX8_lostUpTo_8 : decode cX8_lostUpTo 8 = .ok (.goto 13, 3) := by decide +kernel
theorem dX8_lostUpTo_11 : decode cX8_lostUpTo 11 = .ok (.aload_n 0, 1) := by decide +kernel
theorem dX8_lostUpTo_12 : decode cX8_lostUpTo 12 = .ok (.getfield 15, 3) := by decide +kernel
theorem dX8_lostUpTo_15 : decode cX8_lostUpTo 15 = .ok (.iload_n 1, 1) := by decide +kernel
theorem dX8_lostUpTo_16 : decode cX8_lostUpTo 16 = .ok (.iload_n 2, 1) := by decide +kernel
theorem dX8_lostUpTo_17 : decode cX8_lostUpTo 17 = .ok (.iconst 1, 1) := by decide +kernel
theorem dX8_lostUpTo_18 : decode cX8_lostUpTo 18 = .ok (.invokevirtual 114, 3) := by decide +kernel
theorem dX8_lostUpTo_21 : decode cX8_lostUpTo 21 = .ok (.ireturn, 1) := by decide +kernel
theorem dX8_allFeltUpTo_0 : decode cX8_allFeltUpTo 0 = .ok (.aload_n 0, 1) := by decide +kernel
theorem dX8_allFeltUpTo_1 : decode cX8_allFeltUpTo 1 = .ok (.getfield 15, 3) := by decide +kernel
theorem dX8_allFeltUpTo_4 : decode cX8_allFeltUpTo 4 = .ok (.ifnonnull 7, 3) := by decide +kernel
theorem dX8_allFeltUpTo_7 : decode cX8_allFeltUpTo 7 = .ok (.iconst 0, 1) := by decide +kernel
theorem dX8_allFeltUpTo_8 : decode cX8_allFeltUpTo 8 = .ok (.goto 11, 3) := by decide +kernel
theorem dX8_allFeltUpTo_11 : decode cX8_allFeltUpTo 11 = .ok (.aload_n 0, 1) := by decide +kernel
theorem dX8_allFeltUpTo_12 : decode cX8_allFeltUpTo 12 = .ok (.getfield 15, 3) := by decide +kernel
theorem dX8_allFeltUpTo_15 : decode cX8_allFeltUpTo 15 = .ok (.iload_n 1, 1) := by decide +kernel
theorem dX8_allFeltUpTo_16 : decode cX8_allFeltUpTo 16 = .ok (.invokevirtual 118, 3) := by decide +kernel
theorem dX8_allFeltUpTo_19 : decode cX8_allFeltUpTo 19 = .ok (.ireturn, 1) := by decide +kernel
theorem dX9_init_0 : decode cX9_init 0 = .ok (.aload_n 0, 1) := by decide +kernel
theorem dX9_init_1 : decode cX9_init 1 = .ok (.invokespecial 1, 3) := by decide +kernel
theorem dX9_init_4 : decode cX9_init 4 = .ok (.aload_n 0, 1) := by decide +kernel
theorem dX9_init_5 : decode cX9_init 5 = .ok (.new 7, 3) := by decide +kernel
theorem dX9_init_8 : decode cX9_init 8 = .ok (.dup, 1) := by decide +kernel
theorem dX9_init_9 : decode cX9_init 9 = .ok (.invokespecial 9, 3) := by decide +kernel
theorem dX9_init_12 : decode cX9_init 12 = .ok (.putfield 10, 3) := by decide +kernel
theorem dX9_init_15 : decode cX9_init 15 = .ok (.aload_n 0, 1) := by decide +kernel
theorem dX9_init_16 : decode cX9_init 16 = .ok (.new 16, 3) := by decide +kernel
theorem dX9_init_19 : decode cX9_init 19 = .ok (.dup, 1) := by decide +kernel
theorem dX9_init_20 : decode cX9_init 20 = .ok (.aload_n 0, 1) := by decide +kernel
theorem dX9_init_21 : decode cX9_init 21 = .ok (.getfield 10, 3) := by decide +kernel
theorem dX9_init_24 : decode cX9_init 24 = .ok (.new 18, 3) := by decide +kernel
theorem dX9_init_27 : decode cX9_init 27 = .ok (.dup, 1) := by decide +kernel
theorem dX9_init_28 : decode cX9_init 28 = .ok (.invokespecial 20, 3) := by decide +kernel
theorem dX9_init_31 : decode cX9_init 31 = .ok (.invokespecial 21, 3) := by decide +kernel
theorem dX9_init_34 : decode cX9_init 34 = .ok (.putfield 24, 3) := by decide +kernel
theorem dX9_init_37 : decode cX9_init 37 = .ok (.new 16, 3) := by decide +kernel
theorem dX9_init_40 : decode cX9_init 40 = .ok (.dup, 1) := by decide +kernel
theorem dX9_init_41 : decode cX9_init 41 = .ok (.aload_n 0, 1) := by decide +kernel
theorem dX9_init_42 : decode cX9_init 42 = .ok (.getfield 10, 3) := by decide +kernel
theorem dX9_init_45 : decode cX9_init 45 = .ok (.aconst_null, 1) := by decide +kernel
theorem dX9_init_46 : decode cX9_init 46 = .ok (.invokespecial 21, 3) := by decide +kernel
theorem dX9_init_49 : decode cX9_init 49 = .ok (.astore_n 1, 1) := by decide +kernel
theorem dX9_init_50 : decode cX9_init 50 = .ok (.aload_n 0, 1) := by decide +kernel
theorem dX9_init_51 : decode cX9_init 51 = .ok (.new 28, 3) := by decide +kernel
theorem dX9_init_54 : decode cX9_init 54 = .ok (.dup, 1) := by decide +kernel
theorem dX9_init_55 : decode cX9_init 55 = .ok (.aload_n 0, 1) := by decide +kernel
theorem dX9_init_56 : decode cX9_init 56 = .ok (.getfield 10, 3) := by decide +kernel
theorem dX9_init_59 : decode cX9_init 59 = .ok (.aload_n 1, 1) := by decide +kernel
theorem dX9_init_60 : decode cX9_init 60 = .ok (.invokespecial 30, 3) := by decide +kernel
theorem dX9_init_63 : decode cX9_init 63 = .ok (.putfield 33, 3) := by decide +kernel
theorem dX9_init_66 : decode cX9_init 66 = .ok (.aload_n 0, 1) := by decide +kernel
theorem dX9_init_67 : decode cX9_init 67 = .ok (.new 37, 3) := by decide +kernel
theorem dX9_init_70 : decode cX9_init 70 = .ok (.dup, 1) := by decide +kernel
theorem dX9_init_71 : decode cX9_init 71 = .ok (.aload_n 0, 1) := by decide +kernel
theorem dX9_init_72 : decode cX9_init 72 = .ok (.getfield 10, 3) := by decide +kernel
theorem dX9_init_75 : decode cX9_init 75 = .ok (.aload_n 1, 1) := by decide +kernel
theorem dX9_init_76 : decode cX9_init 76 = .ok (.invokespecial 39, 3) := by decide +kernel
theorem dX9_init_79 : decode cX9_init 79 = .ok (.putfield 40, 3) := by decide +kernel
theorem dX9_init_82 : decode cX9_init 82 = .ok (.aload_n 0, 1) := by decide +kernel
theorem dX9_init_83 : decode cX9_init 83 = .ok (.new 44, 3) := by decide +kernel
theorem dX9_init_86 : decode cX9_init 86 = .ok (.dup, 1) := by decide +kernel
theorem dX9_init_87 : decode cX9_init 87 = .ok (.invokespecial 46, 3) := by decide +kernel
theorem dX9_init_90 : decode cX9_init 90 = .ok (.putfield 47, 3) := by decide +kernel
theorem dX9_init_93 : decode cX9_init 93 = .ok (.aload_n 0, 1) := by decide +kernel
theorem dX9_init_94 : decode cX9_init 94 = .ok (.new 51, 3) := by decide +kernel
theorem dX9_init_97 : decode cX9_init 97 = .ok (.dup, 1) := by decide +kernel
theorem dX9_init_98 : decode cX9_init 98 = .ok (.invokespecial 53, 3) := by decide +kernel
theorem dX9_init_101 : decode cX9_init 101 = .ok (.putfield 54, 3) := by decide +kernel
theorem dX9_init_104 : decode cX9_init 104 = .ok (.aload_n 0, 1) := by decide +kernel
theorem dX9_init_105 : decode cX9_init 105 = .ok (.new 58, 3) := by decide +kernel
theorem dX9_init_108 : decode cX9_init 108 = .ok (.dup, 1) := by decide +kernel
theorem dX9_init_109 : decode cX9_init 109 = .ok (.invokespecial 60, 3) := by decide +kernel
theorem dX9_init_112 : decode cX9_init 112 = .ok (.putfield 61, 3) := by decide +kernel
theorem dX9_init_115 : decode cX9_init 115 = .ok (.aload_n 0, 1) := by decide +kernel
theorem dX9_init_116 : decode cX9_init 116 = .ok (.new 65, 3) := by decide +kernel
theorem dX9_init_119 : decode cX9_init 119 = .ok (.dup, 1) := by decide +kernel
theorem dX9_init_120 : decode cX9_init 120 = .ok (.invokespecial 67, 3) := by decide +kernel
theorem dX9_init_123 : decode cX9_init 123 = .ok (.putfield 68, 3) := by decide +kernel
theorem dX9_init_126 : decode cX9_init 126 = .ok (.aload_n 0, 1) := by decide +kernel
theorem dX9_init_127 : decode cX9_init 127 = .ok (.iconst 0, 1) := by decide +kernel
theorem dX9_init_128 : decode cX9_init 128 = .ok (.putfield 72, 3) := by decide +kernel
theorem dX9_init_131 : decode cX9_init 131 = .ok (.aload_n 0, 1) := by decide +kernel
theorem dX9_init_132 : decode cX9_init 132 = .ok (.iconst (-1), 1) := by decide +kernel
theorem dX9_init_133 : decode cX9_init 133 = .ok (.putfield 76, 3) := by decide +kernel
theorem dX9_init_136 : decode cX9_init 136 = .ok (.aload_n 0, 1) := by decide +kernel
theorem dX9_init_137 : decode cX9_init 137 = .ok (.iconst 0, 1) := by decide +kernel
theorem dX9_init_138 : decode cX9_init 138 = .ok (.putfield 79, 3) := by decide +kernel
theorem dX9_init_141 : decode cX9_init 141 = .ok (.aload_n 0, 1) := by decide +kernel
theorem dX9_init_142 : decode cX9_init 142 = .ok (.iconst 0, 1) := by decide +kernel
theorem dX9_init_143 : decode cX9_init 143 = .ok (.putfield 82, 3) := by decide +kernel
theorem dX9_init_146 : decode cX9_init 146 = .ok (.return_, 1) := by decide +kernel
theorem dX9_type_0 : decode cX9_type 0 = .ok (.iload_n 1, 1) := by decide +kernel
theorem dX9_type_1 : decode cX9_type 1 = .ok (.ifCond .lt 10, 3) := by decide +kernel
theorem dX9_type_4 : decode cX9_type 4 = .ok (.iload_n 1, 1) := by decide +kernel
theorem dX9_type_5 : decode cX9_type 5 = .ok (.sipush 255, 3) := by decide +kernel
theorem dX9_type_8 : decode cX9_type 8 = .ok (.if_icmp .le 6, 3) := by decide +kernel
theorem dX9_type_11 : decode cX9_type 11 = .ok (.bipush (-2), 2) := by decide +kernel
theorem dX9_type_13 : decode cX9_type 13 = .ok (.ireturn, 1) := by decide +kernel
theorem dX9_type_14 : decode cX9_type 14 = .ok (.aload_n 0, 1) := by decide +kernel
theorem dX9_type_15 : decode cX9_type 15 = .ok (.getfield 10, 3) := by decide +kernel
theorem dX9_type_18 : decode cX9_type 18 = .ok (.iload_n 1, 1) := by decide +kernel
theorem dX9_type_19 : decode cX9_type 19 = .ok (.invokevirtual 86, 3) := by decide +kernel
theorem dX9_type_22 : decode cX9_type 22 = .ok (.ifCond .ne 6, 3) := by decide +kernel
theorem dX9_type_25 : decode cX9_type 25 = .ok (.bipush (-4), 2) := by decide +kernel
theorem dX9_type_27 : decode cX9_type 27 = .ok (.ireturn, 1) := by decide +kernel
theorem dX9_type_28 : decode cX9_type 28 = .ok (.aload_n 0, 1) := by decide +kernel
theorem dX9_type_29 : decode cX9_type 29 = .ok (.invokevirtual 90, 3) := by decide +kernel
theorem dX9_type_32 : decode cX9_type 32 = .ok (.aload_n 0, 1) := by decide +kernel
theorem dX9_type_33 : decode cX9_type 33 = .ok (.getfield 10, 3) := by decide +kernel
theorem dX9_type_36 : decode cX9_type 36 = .ok (.getfield 93, 3) := by decide +kernel
theorem dX9_type_39 : decode cX9_type 39 = .ok (.ireturn, 1) := by decide +kernel
theorem dX9_wipe_0 : decode cX9_wipe 0 = .ok (.aload_n 0, 1) := by decide +kernel
theorem dX9_wipe_1 : decode cX9_wipe 1 = .ok (.getfield 10, 3) := by decide +kernel
theorem dX9_wipe_4 : decode cX9_wipe 4 = .ok (.getfield 93, 3) := by decide +kernel
theorem dX9_wipe_7 : decode cX9_wipe 7 = .ok (.istore_n 1, 1) := by decide +kernel
theorem dX9_wipe_8 : decode cX9_wipe 8 = .ok (.aload_n 0, 1) := by decide +kernel
theorem dX9_wipe_9 : decode cX9_wipe 9 = .ok (.getfield 10, 3) := by decide +kernel
theorem dX9_wipe_12 : decode cX9_wipe 12 = .ok (.invokevirtual 96, 3) := by decide +kernel
theorem dX9_wipe_15 : decode cX9_wipe 15 = .ok (.aload_n 0, 1) := by decide +kernel
theorem dX9_wipe_16 : decode cX9_wipe 16 = .ok (.invokevirtual 90, 3) := by decide +kernel
theorem dX9_wipe_19 : decode cX9_wipe 19 = .ok (.iload_n 1, 1) := by decide +kernel
theorem dX9_wipe_20 : decode cX9_wipe 20 = .ok (.ireturn, 1) := by decide +kernel
theorem dX9_fault_0 : decode cX9_fault 0 = .ok (.aload_n 0, 1) := by decide +kernel
theorem dX9_fault_1 : decode cX9_fault 1 = .ok (.getfield 10, 3) := by decide +kernel
theorem dX9_fault_4 : decode cX9_fault 4 = .ok (.getfield 99, 3) := by decide +kernel
theorem dX9_fault_7 : decode cX9_fault 7 = .ok (.ireturn, 1) := by decide +kernel
theorem dX9_person_0 : decode cX9_person 0 = .ok (.aload_n 0, 1) := by decide +kernel
theorem dX9_person_1 : decode cX9_person 1 = .ok (.iload_n 1, 1) := by decide +kernel
theorem dX9_person_2 : decode cX9_person 2 = .ok (.invokevirtual 102, 3) := by decide +kernel
theorem dX9_person_5 : decode cX9_person 5 = .ok (.ifCond .ne 6, 3) := by decide +kernel
theorem dX9_person_8 : decode cX9_person 8 = .ok (.bipush (-2), 2) := by decide +kernel
theorem dX9_person_10 : decode cX9_person 10 = .ok (.ireturn, 1) := by decide +kernel
theorem dX9_person_11 : decode cX9_person 11 = .ok (.iload_n 2, 1) := by decide +kernel
theorem dX9_person_12 : decode cX9_person 12 = .ok (.tableswitch 90 0 4 #[36, 46, 56, 68, 78], 36) := by decide +kernel
theorem dX9_person_48 : decode cX9_person 48 = .ok (.aload_n 0, 1) := by decide +kernel
theorem dX9_person_49 : decode cX9_person 49 = .ok (.getfield 10, 3) := by decide +kernel
theorem dX9_person_52 : decode cX9_person 52 = .ok (.getfield 105, 3) := by decide +kernel
theorem dX9_person_55 : decode cX9_person 55 = .ok (.iload_n 1, 1) := by decide +kernel
theorem dX9_person_56 : decode cX9_person 56 = .ok (.iaload, 1) := by decide +kernel
theorem dX9_person_57 : decode cX9_person 57 = .ok (.ireturn, 1) := by decide +kernel
theorem dX9_person_58 : decode cX9_person 58 = .ok (.aload_n 0, 1) := by decide +kernel
theorem dX9_person_59 : decode cX9_person 59 = .ok (.getfield 10, 3) := by decide +kernel
theorem dX9_person_62 : decode cX9_person 62 = .ok (.getfield 109, 3) := by decide +kernel
theorem dX9_person_65 : decode cX9_person 65 = .ok (.iload_n 1, 1) := by decide +kernel
theorem dX9_person_66 : decode cX9_person 66 = .ok (.iaload, 1) := by decide +kernel
theorem dX9_person_67 : decode cX9_person 67 = .ok (.ireturn, 1) := by decide +kernel
theorem dX9_person_68 : decode cX9_person 68 = .ok (.aload_n 0, 1) := by decide +kernel
theorem dX9_person_69 : decode cX9_person 69 = .ok (.getfield 10, 3) := by decide +kernel
theorem dX9_person_72 : decode cX9_person 72 = .ok (.getfield 112, 3) := by decide +kernel
theorem dX9_person_75 : decode cX9_person 75 = .ok (.iload_n 1, 1) := by decide +kernel
theorem dX9_person_76 : decode cX9_person 76 = .ok (.ishr, 1) := by decide +kernel
theorem dX9_person_77 : decode cX9_person 77 = .ok (.iconst 1, 1) := by decide +kernel
theorem dX9_person_78 : decode cX9_person 78 = .ok (.iand, 1) := by decide +kernel
theorem dX9_person_79 : decode cX9_person 79 = .ok (.ireturn, 1) := by decide +kernel
theorem dX9_person_80 : decode cX9_person 80 = .ok (.aload_n 0, 1) := by decide +kernel
theorem dX9_person_81 : decode cX9_person 81 = .ok (.getfield 10, 3) := by decide +kernel
theorem dX9_person_84 : decode cX9_person 84 = .ok (.getfield 115, 3) := by decide +kernel
theorem dX9_person_87 : decode cX9_person 87 = .ok (.iload_n 1, 1) := by decide +kernel
theorem dX9_person_88 : decode cX9_person 88 = .ok (.iaload, 1) := by decide +kernel
theorem dX9_person_89 : decode cX9_person 89 = .ok (.ireturn, 1) := by decide +kernel
theorem dX9_person_90 : decode cX9_person 90 = .ok (.aload_n 0, 1) := by decide +kernel
theorem dX9_person_91 : decode cX9_person 91 = .ok (.getfield 10, 3) := by decide +kernel
theorem dX9_person_94 : decode cX9_person 94 = .ok (.getfield 118, 3) := by decide +kernel
theorem dX9_person_97 : decode cX9_person 97 = .ok (.iload_n 1, 1) := by decide +kernel
theorem dX9_person_98 : decode cX9_person 98 = .ok (.ishr, 1) := by decide +kernel
theorem dX9_person_99 : decode cX9_person 99 = .ok (.iconst 1, 1) := by decide +kernel
theorem dX9_person_100 : decode cX9_person 100 = .ok (.iand, 1) := by decide +kernel
theorem dX9_person_101 : decode cX9_person 101 = .ok (.ireturn, 1) := by decide +kernel
theorem dX9_person_102 : decode cX9_person 102 = .ok (.bipush (-2), 2) := by decide +kernel
theorem dX9_person_104 : decode cX9_person 104 = .ok (.ireturn, 1) := by decide +kernel
theorem dX9_set_0 : decode cX9_set 0 = .ok (.iload_n 1, 1) := by decide +kernel
theorem dX9_set_1 : decode cX9_set 1 = .ok (.ifCond .ne 26, 3) := by decide +kernel
theorem dX9_set_4 : decode cX9_set 4 = .ok (.iload_n 2, 1) := by decide +kernel
theorem dX9_set_5 : decode cX9_set 5 = .ok (.ifCond .lt 22, 3) := by decide +kernel
theorem dX9_set_8 : decode cX9_set 8 = .ok (.iload_n 2, 1) := by decide +kernel
theorem dX9_set_9 : decode cX9_set 9 = .ok (.bipush 20, 2) := by decide +kernel
theorem dX9_set_11 : decode cX9_set 11 = .ok (.if_icmp .ge 16, 3) := by decide +kernel
theorem dX9_set_14 : decode cX9_set 14 = .ok (.aload_n 0, 1) := by decide +kernel
theorem dX9_set_15 : decode cX9_set 15 = .ok (.getfield 72, 3) := by decide +kernel
theorem dX9_set_18 : decode cX9_set 18 = .ok (.istore_n 3, 1) := by decide +kernel
theorem dX9_set_19 : decode cX9_set 19 = .ok (.aload_n 0, 1) := by decide +kernel
theorem dX9_set_20 : decode cX9_set 20 = .ok (.iload_n 2, 1) := by decide +kernel
theorem dX9_set_21 : decode cX9_set 21 = .ok (.putfield 72, 3) := by decide +kernel
theorem dX9_set_24 : decode cX9_set 24 = .ok (.goto 63, 3) := by decide +kernel
theorem dX9_set_27 : decode cX9_set 27 = .ok (.iload_n 1, 1) := by decide +kernel
theorem dX9_set_28 : decode cX9_set 28 = .ok (.iconst 1, 1) := by decide +kernel
theorem dX9_set_29 : decode cX9_set 29 = .ok (.if_icmp .ne 27, 3) := by decide +kernel
theorem dX9_set_32 : decode cX9_set 32 = .ok (.iload_n 2, 1) := by decide +kernel
theorem dX9_set_33 : decode cX9_set 33 = .ok (.iconst (-1), 1) := by decide +kernel
theorem dX9_set_34 : decode cX9_set 34 = .ok (.if_icmp .lt 22, 3) := by decide +kernel
theorem dX9_set_37 : decode cX9_set 37 = .ok (.iload_n 2, 1) := by decide +kernel
theorem dX9_set_38 : decode cX9_set 38 = .ok (.bipush 20, 2) := by decide +kernel
theorem dX9_set_40 : decode cX9_set 40 = .ok (.if_icmp .ge 16, 3) := by decide +kernel
theorem dX9_set_43 : decode cX9_set 43 = .ok (.aload_n 0, 1) := by decide +kernel
theorem dX9_set_44 : decode cX9_set 44 = .ok (.getfield 76, 3) := by decide +kernel
theorem dX9_set_47 : decode cX9_set 47 = .ok (.istore_n 3, 1) := by decide +kernel
theorem dX9_set_48 : decode cX9_set 48 = .ok (.aload_n 0, 1) := by decide +kernel
theorem dX9_set_49 : decode cX9_set 49 = .ok (.iload_n 2, 1) := by decide +kernel
theorem dX9_set_50 : decode cX9_set 50 = .ok (.putfield 76, 3) := by decide +kernel
theorem dX9_set_53 : decode cX9_set 53 = .ok (.goto 34, 3) := by decide +kernel
theorem dX9_set_56 : decode cX9_set 56 = .ok (.iload_n 1, 1) := by decide +kernel
theorem dX9_set_57 : decode cX9_set 57 = .ok (.iconst 2, 1) := by decide +kernel
theorem dX9_set_58 : decode cX9_set 58 = .ok (.if_icmp .ne 26, 3) := by decide +kernel
theorem dX9_set_61 : decode cX9_set 61 = .ok (.iload_n 2, 1) := by decide +kernel
theorem dX9_set_62 : decode cX9_set 62 = .ok (.ifCond .lt 22, 3) := by decide +kernel
theorem dX9_set_65 : decode cX9_set 65 = .ok (.iload_n 2, 1) := by decide +kernel
theorem dX9_set_66 : decode cX9_set 66 = .ok (.bipush 99, 2) := by decide +kernel
theorem dX9_set_68 : decode cX9_set 68 = .ok (.if_icmp .gt 16, 3) := by decide +kernel
theorem dX9_set_71 : decode cX9_set 71 = .ok (.aload_n 0, 1) := by decide +kernel
theorem dX9_set_72 : decode cX9_set 72 = .ok (.getfield 79, 3) := by decide +kernel
theorem dX9_set_75 : decode cX9_set 75 = .ok (.istore_n 3, 1) := by decide +kernel
theorem dX9_set_76 : decode cX9_set 76 = .ok (.aload_n 0, 1) := by decide +kernel
theorem dX9_set_77 : decode cX9_set 77 = .ok (.iload_n 2, 1) := by decide +kernel
theorem dX9_set_78 : decode cX9_set 78 = .ok (.putfield 79, 3) := by decide +kernel
theorem dX9_set_81 : decode cX9_set 81 = .ok (.goto 6, 3) := by decide +kernel
theorem dX9_set_84 : decode cX9_set 84 = .ok (.bipush (-5), 2) := by decide +kernel
theorem dX9_set_86 : decode cX9_set 86 = .ok (.ireturn, 1) := by decide +kernel
theorem dX9_set_87 : decode cX9_set 87 = .ok (.aload_n 0, 1) := by decide +kernel
theorem dX9_set_88 : decode cX9_set 88 = .ok (.invokevirtual 121, 3) := by decide +kernel
theorem dX9_set_91 : decode cX9_set 91 = .ok (.iload_n 3, 1) := by decide +kernel
theorem dX9_set_92 : decode cX9_set 92 = .ok (.ireturn, 1) := by decide +kernel
theorem dX9_felt_0 : decode cX9_felt 0 = .ok (.aload_n 0, 1) := by decide +kernel
theorem dX9_felt_1 : decode cX9_felt 1 = .ok (.iload_n 1, 1) := by decide +kernel
theorem dX9_felt_2 : decode cX9_felt 2 = .ok (.invokevirtual 102, 3) := by decide +kernel
theorem dX9_felt_5 : decode cX9_felt 5 = .ok (.ifCond .eq 7, 3) := by decide +kernel
theorem dX9_felt_8 : decode cX9_felt 8 = .ok (.iload_n 2, 1) := by decide +kernel
theorem dX9_felt_9 : decode cX9_felt 9 = .ok (.ifCond .ge 6, 3) := by decide +kernel
theorem dX9_felt_12 : decode cX9_felt 12 = .ok (.bipush (-2), 2) := by decide +kernel
theorem dX9_felt_14 : decode cX9_felt 14 = .ok (.ireturn, 1) := by decide +kernel
theorem dX9_felt_15 : decode cX9_felt 15 = .ok (.aload_n 0, 1) := by decide +kernel
theorem dX9_felt_16 : decode cX9_felt 16 = .ok (.invokevirtual 124, 3) := by decide +kernel
theorem dX9_felt_19 : decode cX9_felt 19 = .ok (.iload_n 1, 1) := by decide +kernel
theorem dX9_felt_20 : decode cX9_felt 20 = .ok (.iload_n 2, 1) := by decide +kernel
theorem dX9_felt_21 : decode cX9_felt 21 = .ok (.invokevirtual 128, 3) := by decide +kernel
theorem dX9_felt_24 : decode cX9_felt 24 = .ok (.ireturn, 1) := by decide +kernel
theorem dX9_many_0 : decode cX9_many 0 = .ok (.aload_n 0, 1) := by decide +kernel
theorem dX9_many_1 : decode cX9_many 1 = .ok (.iload_n 1, 1) := by decide +kernel
theorem dX9_many_2 : decode cX9_many 2 = .ok (.invokevirtual 102, 3) := by decide +kernel
theorem dX9_many_5 : decode cX9_many 5 = .ok (.ifCond .eq 10, 3) := by decide +kernel
theorem dX9_many_8 : decode cX9_many 8 = .ok (.iload_n 2, 1) := by decide +kernel
theorem dX9_many_9 : decode cX9_many 9 = .ok (.invokestatic 132, 3) := by decide +kernel
theorem dX9_many_12 : decode cX9_many 12 = .ok (.ifCond .ne 6, 3) := by decide +kernel
theorem dX9_many_15 : decode cX9_many 15 = .ok (.bipush (-2), 2) := by decide +kernel
theorem dX9_many_17 : decode cX9_many 17 = .ok (.ireturn, 1) := by decide +kernel
theorem dX9_many_18 : decode cX9_many 18 = .ok (.aload_n 0, 1) := by decide +kernel
theorem dX9_many_19 : decode cX9_many 19 = .ok (.invokevirtual 124, 3) := by decide +kernel
theorem dX9_many_22 : decode cX9_many 22 = .ok (.iload_n 1, 1) := by decide +kernel
theorem dX9_many_23 : decode cX9_many 23 = .ok (.iload_n 2, 1) := by decide +kernel
theorem dX9_many_24 : decode cX9_many 24 = .ok (.invokevirtual 135, 3) := by decide +kernel
theorem dX9_many_27 : decode cX9_many 27 = .ok (.ireturn, 1) := by decide +kernel
theorem dX9_lost_0 : decode cX9_lost 0 = .ok (.aload_n 0, 1) := by decide +kernel
theorem dX9_lost_1 : decode cX9_lost 1 = .ok (.iload_n 1, 1) := by decide +kernel
theorem dX9_lost_2 : decode cX9_lost 2 = .ok (.invokevirtual 102, 3) := by decide +kernel
theorem dX9_lost_5 : decode cX9_lost 5 = .ok (.ifCond .eq 10, 3) := by decide +kernel
theorem dX9_lost_8 : decode cX9_lost 8 = .ok (.iload_n 2, 1) := by decide +kernel
theorem dX9_lost_9 : decode cX9_lost 9 = .ok (.invokestatic 132, 3) := by decide +kernel
theorem dX9_lost_12 : decode cX9_lost 12 = .ok (.ifCond .ne 6, 3) := by decide +kernel
theorem dX9_lost_15 : decode cX9_lost 15 = .ok (.bipush (-2), 2) := by decide +kernel
theorem dX9_lost_17 : decode cX9_lost 17 = .ok (.ireturn, 1) := by decide +kernel
theorem dX9_lost_18 : decode cX9_lost 18 = .ok (.aload_n 0, 1) := by decide +kernel
theorem dX9_lost_19 : decode cX9_lost 19 = .ok (.invokevirtual 124, 3) := by decide +kernel
theorem dX9_lost_22 : decode cX9_lost 22 = .ok (.iload_n 1, 1) := by decide +kernel
theorem dX9_lost_23 : decode cX9_lost 23 = .ok (.iload_n 2, 1) := by decide +kernel
theorem dX9_lost_24 : decode cX9_lost 24 = .ok (.invokevirtual 138, 3) := by decide +kernel
theorem dX9_lost_27 : decode cX9_lost 27 = .ok (.ireturn, 1) := by decide +kernel
theorem dX9_from_0 : decode cX9_from 0 = .ok (.aload_n 0, 1) := by decide +kernel
theorem dX9_from_1 : decode cX9_from 1 = .ok (.iload_n 1, 1) := by decide +kernel
theorem dX9_from_2 : decode cX9_from 2 = .ok (.invokevirtual 102, 3) := by decide +kernel
theorem dX9_from_5 : decode cX9_from 5 = .ok (.ifCond .eq 7, 3) := by decide +kernel
theorem dX9_from_8 : decode cX9_from 8 = .ok (.iload_n 2, 1) := by decide +kernel
theorem dX9_from_9 : decode cX9_from 9 = .ok (.ifCond .ge 6, 3) := by decide +kernel
theorem dX9_from_12 : decode cX9_from 12 = .ok (.bipush (-2), 2) := by decide +kernel
theorem dX9_from_14 : decode cX9_from 14 = .ok (.ireturn, 1) := by decide +kernel
theorem dX9_from_15 : decode cX9_from 15 = .ok (.aload_n 0, 1) := by decide +kernel
theorem dX9_from_16 : decode cX9_from 16 = .ok (.invokevirtual 124, 3) := by decide +kernel
theorem dX9_from_19 : decode cX9_from 19 = .ok (.iload_n 1, 1) := by decide +kernel
theorem dX9_from_20 : decode cX9_from 20 = .ok (.iload_n 2, 1) := by decide +kernel
theorem dX9_from_21 : decode cX9_from 21 = .ok (.invokevirtual 141, 3) := by decide +kernel
theorem dX9_from_24 : decode cX9_from 24 = .ok (.ireturn, 1) := by decide +kernel
theorem dX9_reached_0 : decode cX9_reached 0 = .ok (.aload_n 0, 1) := by decide +kernel
theorem dX9_reached_1 : decode cX9_reached 1 = .ok (.invokevirtual 124, 3) := by decide +kernel
theorem dX9_reached_4 : decode cX9_reached 4 = .ok (.invokevirtual 144, 3) := by decide +kernel
theorem dX9_reached_7 : decode cX9_reached 7 = .ok (.ireturn, 1) := by decide +kernel
theorem dX9_last_0 : decode cX9_last 0 = .ok (.aload_n 0, 1) := by decide +kernel
theorem dX9_last_1 : decode cX9_last 1 = .ok (.invokevirtual 124, 3) := by decide +kernel
theorem dX9_last_4 : decode cX9_last 4 = .ok (.invokevirtual 148, 3) := by decide +kernel
theorem dX9_last_7 : decode cX9_last 7 = .ok (.ireturn, 1) := by decide +kernel
theorem dX9_twice_0 : decode cX9_twice 0 = .ok (.aload_n 0, 1) := by decide +kernel
theorem dX9_twice_1 : decode cX9_twice 1 = .ok (.invokevirtual 124, 3) := by decide +kernel
theorem dX9_twice_4 : decode cX9_twice 4 = .ok (.invokevirtual 151, 3) := by decide +kernel
theorem dX9_twice_7 : decode cX9_twice 7 = .ok (.ireturn, 1) := by decide +kernel
theorem dX9_round_0 : decode cX9_round 0 = .ok (.aload_n 0, 1) := by decide +kernel
theorem dX9_round_1 : decode cX9_round 1 = .ok (.iload_n 1, 1) := by decide +kernel
theorem dX9_round_2 : decode cX9_round 2 = .ok (.invokevirtual 102, 3) := by decide +kernel
theorem dX9_round_5 : decode cX9_round 5 = .ok (.ifCond .ne 6, 3) := by decide +kernel
theorem dX9_round_8 : decode cX9_round 8 = .ok (.bipush (-2), 2) := by decide +kernel
theorem dX9_round_10 : decode cX9_round 10 = .ok (.ireturn, 1) := by decide +kernel
theorem dX9_round_11 : decode cX9_round 11 = .ok (.aload_n 0, 1) := by decide +kernel
theorem dX9_round_12 : decode cX9_round 12 = .ok (.invokevirtual 124, 3) := by decide +kernel
theorem dX9_round_15 : decode cX9_round 15 = .ok (.iload_n 1, 1) := by decide +kernel
theorem dX9_round_16 : decode cX9_round 16 = .ok (.iconst 1, 1) := by decide +kernel
theorem dX9_round_17 : decode cX9_round 17 = .ok (.invokevirtual 128, 3) := by decide +kernel
theorem dX9_round_20 : decode cX9_round 20 = .ok (.istore_n 2, 1) := by decide +kernel
theorem dX9_round_21 : decode cX9_round 21 = .ok (.iload_n 2, 1) := by decide +kernel
theorem dX9_round_22 : decode cX9_round 22 = .ok (.iconst (-1), 1) := by decide +kernel
theorem dX9_round_23 : decode cX9_round 23 = .ok (.if_icmp .ne 7, 3) := by decide +kernel
theorem dX9_round_26 : decode cX9_round 26 = .ok (.iconst (-1), 1) := by decide +kernel
theorem dX9_round_27 : decode cX9_round 27 = .ok (.goto 14, 3) := by decide +kernel
theorem dX9_round_30 : decode cX9_round 30 = .ok (.iload_n 2, 1) := by decide +kernel
theorem dX9_round_31 : decode cX9_round 31 = .ok (.aload_n 0, 1) := by decide +kernel
theorem dX9_round_32 : decode cX9_round 32 = .ok (.getfield 24, 3) := by decide +kernel
theorem dX9_round_35 : decode cX9_round 35 = .ok (.getfield 154, 3) := by decide +kernel
theorem dX9_round_38 : decode cX9_round 38 = .ok (.iload_n 1, 1) := by decide +kernel
theorem dX9_round_39 : decode cX9_round 39 = .ok (.iaload, 1) := by decide +kernel
theorem dX9_round_40 : decode cX9_round 40 = .ok (.isub, 1) := by decide +kernel
theorem dX9_round_41 : decode cX9_round 41 = .ok (.ireturn, 1) := by decide +kernel
theorem dX9_begin_0 : decode cX9_begin 0 = .ok (.iload_n 1, 1) := by decide +kernel
theorem dX9_begin_1 : decode cX9_begin 1 = .ok (.ifCond .lt 8, 3) := by decide +kernel
theorem dX9_begin_4 : decode cX9_begin 4 = .ok (.iload_n 1, 1) := by decide +kernel
theorem dX9_begin_5 : decode cX9_begin 5 = .ok (.iconst 2, 1) := by decide +kernel
theorem dX9_begin_6 : decode cX9_begin 6 = .ok (.if_icmp .le 6, 3) := by decide +kernel
theorem dX9_begin_9 : decode cX9_begin 9 = .ok (.bipush (-2), 2) := by decide +kernel
theorem dX9_begin_11 : decode cX9_begin 11 = .ok (.ireturn, 1) := by decide +kernel
theorem dX9_begin_12 : decode cX9_begin 12 = .ok (.aload_n 0, 1) := by decide +kernel
theorem dX9_begin_13 : decode cX9_begin 13 = .ok (.getfield 33, 3) := by decide +kernel
theorem dX9_begin_16 : decode cX9_begin 16 = .ok (.invokevirtual 157, 3) := by decide +kernel
theorem dX9_begin_19 : decode cX9_begin 19 = .ok (.iload_n 1, 1) := by decide +kernel
theorem dX9_begin_20 : decode cX9_begin 20 = .ok (.ifCond .ne 11, 3) := by decide +kernel
theorem dX9_begin_23 : decode cX9_begin 23 = .ok (.aload_n 0, 1) := by decide +kernel
theorem dX9_begin_24 : decode cX9_begin 24 = .ok (.getfield 33, 3) := by decide +kernel
theorem dX9_begin_27 : decode cX9_begin 27 = .ok (.getfield 160, 3) := by decide +kernel
theorem dX9_begin_30 : decode cX9_begin 30 = .ok (.ireturn, 1) := by decide +kernel
theorem dX9_begin_31 : decode cX9_begin 31 = .ok (.iload_n 1, 1) := by decide +kernel
theorem dX9_begin_32 : decode cX9_begin 32 = .ok (.iconst 1, 1) := by decide +kernel
theorem dX9_begin_33 : decode cX9_begin 33 = .ok (.if_icmp .ne 13, 3) := by decide +kernel
theorem dX9_begin_36 : decode cX9_begin 36 = .ok (.aload_n 0, 1) := by decide +kernel
theorem dX9_begin_37 : decode cX9_begin 37 = .ok (.getfield 33, 3) := by decide +kernel
theorem dX9_begin_40 : decode cX9_begin 40 = .ok (.getfield 163, 3) := by decide +kernel
theorem dX9_begin_43 : decode cX9_begin 43 = .ok (.goto 10, 3) := by decide +kernel
theorem dX9_begin_46 : decode cX9_begin 46 = .ok (.aload_n 0, 1) := by decide +kernel
theorem dX9_begin_47 : decode cX9_begin 47 = .ok (.getfield 33, 3) := by decide +kernel
theorem dX9_begin_50 : decode cX9_begin 50 = .ok (.getfield 166, 3) := by decide +kernel
theorem dX9_begin_53 : decode cX9_begin 53 = .ok (.ireturn, 1) := by decide +kernel
theorem dX9_passed_0 : decode cX9_passed 0 = .ok (.iload_n 1, 1) := by decide +kernel
theorem dX9_passed_1 : decode cX9_passed 1 = .ok (.invokestatic 132, 3) := by decide +kernel
theorem dX9_passed_4 : decode cX9_passed 4 = .ok (.ifCond .eq 14, 3) := by decide +kernel
theorem dX9_passed_7 : decode cX9_passed 7 = .ok (.aload_n 0, 1) := by decide +kernel
theorem dX9_passed_8 : decode cX9_passed 8 = .ok (.invokevirtual 124, 3) := by decide +kernel
theorem dX9_passed_11 : decode cX9_passed 11 = .ok (.iload_n 1, 1) := by decide +kernel
theorem dX9_passed_12 : decode cX9_passed 12 = .ok (.invokevirtual 168, 3) := by decide +kernel
theorem dX9_passed_15 : decode cX9_passed 15 = .ok (.goto 5, 3) := by decide +kernel
theorem dX9_passed_18 : decode cX9_passed 18 = .ok (.bipush (-2), 2) := by decide +kernel
theorem dX9_passed_20 : decode cX9_passed 20 = .ok (.ireturn, 1) := by decide +kernel
theorem dX9_spans_0 : decode cX9_spans 0 = .ok (.iload_n 1, 1) := by decide +kernel
theorem dX9_spans_1 : decode cX9_spans 1 = .ok (.invokestatic 132, 3) := by decide +kernel
theorem dX9_spans_4 : decode cX9_spans 4 = .ok (.ifCond .eq 24, 3) := by decide +kernel
theorem dX9_spans_7 : decode cX9_spans 7 = .ok (.iload_n 2, 1) := by decide +kernel
theorem dX9_spans_8 : decode cX9_spans 8 = .ok (.iload_n 3, 1) := by decide +kernel
theorem dX9_spans_9 : decode cX9_spans 9 = .ok (.iload 4, 2) := by decide +kernel
theorem dX9_spans_11 : decode cX9_spans 11 = .ok (.invokestatic 172, 3) := by decide +kernel
theorem dX9_spans_14 : decode cX9_spans 14 = .ok (.ifCond .eq 14, 3) := by decide +kernel
theorem dX9_spans_17 : decode cX9_spans 17 = .ok (.iload 5, 2) := by decide +kernel
theorem dX9_spans_19 : decode cX9_spans 19 = .ok (.ifCond .lt 9, 3) := by decide +kernel
theorem dX9_spans_22 : decode cX9_spans 22 = .ok (.iload 5, 2) := by decide +kernel
theorem dX9_spans_24 : decode cX9_spans 24 = .ok (.iconst 1, 1) := by decide +kernel
theorem dX9_spans_25 : decode cX9_spans 25 = .ok (.if_icmp .le 6, 3) := by decide +kernel
theorem dX9_spans_28 : decode cX9_spans 28 = .ok (.bipush (-2), 2) := by decide +kernel
theorem dX9_spans_30 : decode cX9_spans 30 = .ok (.ireturn, 1) := by decide +kernel
theorem dX9_spans_31 : decode cX9_spans 31 = .ok (.iload_n 1, 1) := by decide +kernel
theorem dX9_spans_32 : decode cX9_spans 32 = .ok (.iload_n 3, 1) := by decide +kernel
theorem dX9_spans_33 : decode cX9_spans 33 = .ok (.iload 4, 2) := by decide +kernel
theorem dX9_spans_35 : decode cX9_spans 35 = .ok (.invokestatic 176, 3) := by decide +kernel
theorem dX9_spans_38 : decode cX9_spans 38 = .ok (.istore 6, 2) := by decide +kernel
theorem dX9_spans_40 : decode cX9_spans 40 = .ok (.iload_n 1, 1) := by decide +kernel
theorem dX9_spans_41 : decode cX9_spans 41 = .ok (.iload_n 2, 1) := by decide +kernel
theorem dX9_spans_42 : decode cX9_spans 42 = .ok (.iload 4, 2) := by decide +kernel
theorem dX9_spans_44 : decode cX9_spans 44 = .ok (.invokestatic 180, 3) := by decide +kernel
theorem dX9_spans_47 : decode cX9_spans 47 = .ok (.istore 7, 2) := by decide +kernel
theorem dX9_spans_49 : decode cX9_spans 49 = .ok (.iload 7, 2) := by decide +kernel
theorem dX9_spans_51 : decode cX9_spans 51 = .ok (.iload 6, 2) := by decide +kernel
theorem dX9_spans_53 : decode cX9_spans 53 = .ok (.if_icmp .ge 5, 3) := by decide +kernel
theorem dX9_spans_56 : decode cX9_spans 56 = .ok (.iconst (-1), 1) := by decide +kernel
theorem dX9_spans_57 : decode cX9_spans 57 = .ok (.ireturn, 1) := by decide +kernel
theorem dX9_spans_58 : decode cX9_spans 58 = .ok (.iload 5, 2) := by decide +kernel
theorem dX9_spans_60 : decode cX9_spans 60 = .ok (.ifCond .ne 8, 3) := by decide +kernel
theorem dX9_spans_63 : decode cX9_spans 63 = .ok (.iload 6, 2) := by decide +kernel
theorem dX9_spans_65 : decode cX9_spans 65 = .ok (.goto 5, 3) := by decide +kernel
theorem dX9_spans_68 : decode cX9_spans 68 = .ok (.iload 7, 2) := by decide +kernel
theorem dX9_spans_70 : decode cX9_spans 70 = .ok (.ireturn, 1) := by decide +kernel
theorem dX9_limits_0 : decode cX9_limits 0 = .ok (.iload_n 1, 1) := by decide +kernel
theorem dX9_limits_1 : decode cX9_limits 1 = .ok (.iload_n 2, 1) := by decide +kernel
theorem dX9_limits_2 : decode cX9_limits 2 = .ok (.iload_n 3, 1) := by decide +kernel
theorem dX9_limits_3 : decode cX9_limits 3 = .ok (.invokestatic 172, 3) := by decide +kernel
theorem dX9_limits_6 : decode cX9_limits 6 = .ok (.ifCond .ne 6, 3) := by decide +kernel
theorem dX9_limits_9 : decode cX9_limits 9 = .ok (.bipush (-2), 2) := by decide +kernel
theorem dX9_limits_11 : decode cX9_limits 11 = .ok (.ireturn, 1) := by decide +kernel
theorem dX9_limits_12 : decode cX9_limits 12 = .ok (.aload_n 0, 1) := by decide +kernel
theorem dX9_limits_13 : decode cX9_limits 13 = .ok (.getfield 47, 3) := by decide +kernel
theorem dX9_limits_16 : decode cX9_limits 16 = .ok (.invokevirtual 183, 3) := by decide +kernel
theorem dX9_limits_19 : decode cX9_limits 19 = .ok (.istore 4, 2) := by decide +kernel
theorem dX9_limits_21 : decode cX9_limits 21 = .ok (.aload_n 0, 1) := by decide +kernel
theorem dX9_limits_22 : decode cX9_limits 22 = .ok (.getfield 47, 3) := by decide +kernel
theorem dX9_limits_25 : decode cX9_limits 25 = .ok (.iload_n 1, 1) := by decide +kernel
theorem dX9_limits_26 : decode cX9_limits 26 = .ok (.iload_n 2, 1) := by decide +kernel
theorem dX9_limits_27 : decode cX9_limits 27 = .ok (.iload_n 3, 1) := by decide +kernel
theorem dX9_limits_28 : decode cX9_limits 28 = .ok (.invokevirtual 186, 3) := by decide +kernel
theorem dX9_limits_31 : decode cX9_limits 31 = .ok (.iload 4, 2) := by decide +kernel
theorem dX9_limits_33 : decode cX9_limits 33 = .ok (.ireturn, 1) := by decide +kernel
theorem dX9_doubt_0 : decode cX9_doubt 0 = .ok (.iload_n 1, 1) := by decide +kernel
theorem dX9_doubt_1 : decode cX9_doubt 1 = .ok (.ifCond .lt 18, 3) := by decide +kernel
theorem dX9_doubt_4 : decode cX9_doubt 4 = .ok (.iload_n 1, 1) := by decide +kernel
theorem dX9_doubt_5 : decode cX9_doubt 5 = .ok (.iconst 5, 1) := by decide +kernel
theorem dX9_doubt_6 : decode cX9_doubt 6 = .ok (.if_icmp .gt 13, 3) := by decide +kernel
theorem dX9_doubt_9 : decode cX9_doubt 9 = .ok (.iload_n 2, 1) := by decide +kernel
theorem dX9_doubt_10 : decode cX9_doubt 10 = .ok (.iconst (-1), 1) := by decide +kernel
theorem dX9_doubt_11 : decode cX9_doubt 11 = .ok (.if_icmp .lt 8, 3) := by decide +kernel
theorem dX9_doubt_14 : decode cX9_doubt 14 = .ok (.iload_n 2, 1) := by decide +kernel
theorem dX9_doubt_15 : decode cX9_doubt 15 = .ok (.iload_n 1, 1) := by decide +kernel
theorem dX9_doubt_16 : decode cX9_doubt 16 = .ok (.if_icmp .lt 6, 3) := by decide +kernel
theorem dX9_doubt_19 : decode cX9_doubt 19 = .ok (.bipush (-2), 2) := by decide +kernel
theorem dX9_doubt_21 : decode cX9_doubt 21 = .ok (.ireturn, 1) := by decide +kernel
theorem dX9_doubt_22 : decode cX9_doubt 22 = .ok (.aload_n 0, 1) := by decide +kernel
theorem dX9_doubt_23 : decode cX9_doubt 23 = .ok (.getfield 47, 3) := by decide +kernel
theorem dX9_doubt_26 : decode cX9_doubt 26 = .ok (.aload_n 0, 1) := by decide +kernel
theorem dX9_doubt_27 : decode cX9_doubt 27 = .ok (.getfield 10, 3) := by decide +kernel
theorem dX9_doubt_30 : decode cX9_doubt 30 = .ok (.aload_n 0, 1) := by decide +kernel
theorem dX9_doubt_31 : decode cX9_doubt 31 = .ok (.invokevirtual 124, 3) := by decide +kernel
theorem dX9_doubt_34 : decode cX9_doubt 34 = .ok (.invokevirtual 190, 3) := by decide +kernel
theorem dX9_doubt_37 : decode cX9_doubt 37 = .ok (.aload_n 0, 1) := by decide +kernel
theorem dX9_doubt_38 : decode cX9_doubt 38 = .ok (.getfield 47, 3) := by decide +kernel
theorem dX9_doubt_41 : decode cX9_doubt 41 = .ok (.iload_n 1, 1) := by decide +kernel
theorem dX9_doubt_42 : decode cX9_doubt 42 = .ok (.invokevirtual 193, 3) := by decide +kernel
theorem dX9_doubt_45 : decode cX9_doubt 45 = .ok (.ifCond .ne 6, 3) := by decide +kernel
theorem dX9_doubt_48 : decode cX9_doubt 48 = .ok (.bipush (-3), 2) := by decide +kernel
theorem dX9_doubt_50 : decode cX9_doubt 50 = .ok (.ireturn, 1) := by decide +kernel
theorem dX9_doubt_51 : decode cX9_doubt 51 = .ok (.aload_n 0, 1) := by decide +kernel
theorem dX9_doubt_52 : decode cX9_doubt 52 = .ok (.getfield 47, 3) := by decide +kernel
theorem dX9_doubt_55 : decode cX9_doubt 55 = .ok (.iload_n 1, 1) := by decide +kernel
theorem dX9_doubt_56 : decode cX9_doubt 56 = .ok (.invokevirtual 196, 3) := by decide +kernel
theorem dX9_doubt_59 : decode cX9_doubt 59 = .ok (.iload_n 2, 1) := by decide +kernel
theorem dX9_doubt_60 : decode cX9_doubt 60 = .ok (.iconst (-1), 1) := by decide +kernel
theorem dX9_doubt_61 : decode cX9_doubt 61 = .ok (.if_icmp .ne 14, 3) := by decide +kernel
theorem dX9_doubt_64 : decode cX9_doubt 64 = .ok (.aload_n 0, 1) := by decide +kernel
theorem dX9_doubt_65 : decode cX9_doubt 65 = .ok (.getfield 47, 3) := by decide +kernel
theorem dX9_doubt_68 : decode cX9_doubt 68 = .ok (.iload_n 1, 1) := by decide +kernel
theorem dX9_doubt_69 : decode cX9_doubt 69 = .ok (.invokevirtual 200, 3) := by decide +kernel
theorem dX9_doubt_72 : decode cX9_doubt 72 = .ok (.goto 12, 3) := by decide +kernel
theorem dX9_doubt_75 : decode cX9_doubt 75 = .ok (.aload_n 0, 1) := by decide +kernel
theorem dX9_doubt_76 : decode cX9_doubt 76 = .ok (.getfield 47, 3) := by decide +kernel
theorem dX9_doubt_79 : decode cX9_doubt 79 = .ok (.iload_n 1, 1) := by decide +kernel
theorem dX9_doubt_80 : decode cX9_doubt 80 = .ok (.iload_n 2, 1) := by decide +kernel
theorem dX9_doubt_81 : decode cX9_doubt 81 = .ok (.invokevirtual 203, 3) := by decide +kernel
theorem dX9_doubt_84 : decode cX9_doubt 84 = .ok (.ireturn, 1) := by decide +kernel
theorem dX9_posts_0 : decode cX9_posts 0 = .ok (.iload_n 1, 1) := by decide +kernel
theorem dX9_posts_1 : decode cX9_posts 1 = .ok (.ifCond .lt 10, 3) := by decide +kernel
theorem dX9_posts_4 : decode cX9_posts 4 = .ok (.iload_n 1, 1) := by decide +kernel
theorem dX9_posts_5 : decode cX9_posts 5 = .ok (.sipush 9999, 3) := by decide +kernel
theorem dX9_posts_8 : decode cX9_posts 8 = .ok (.if_icmp .le 6, 3) := by decide +kernel
theorem dX9_posts_11 : decode cX9_posts 11 = .ok (.bipush (-2), 2) := by decide +kernel
theorem dX9_posts_13 : decode cX9_posts 13 = .ok (.ireturn, 1) := by decide +kernel
theorem dX9_posts_14 : decode cX9_posts 14 = .ok (.aload_n 0, 1) := by decide +kernel
theorem dX9_posts_15 : decode cX9_posts 15 = .ok (.getfield 47, 3) := by decide +kernel
theorem dX9_posts_18 : decode cX9_posts 18 = .ok (.aload_n 0, 1) := by decide +kernel
theorem dX9_posts_19 : decode cX9_posts 19 = .ok (.getfield 10, 3) := by decide +kernel
theorem dX9_posts_22 : decode cX9_posts 22 = .ok (.aload_n 0, 1) := by decide +kernel
theorem dX9_posts_23 : decode cX9_posts 23 = .ok (.invokevirtual 124, 3) := by decide +kernel
theorem dX9_posts_26 : decode cX9_posts 26 = .ok (.invokevirtual 190, 3) := by decide +kernel
theorem dX9_posts_29 : decode cX9_posts 29 = .ok (.aload_n 0, 1) := by decide +kernel
theorem dX9_posts_30 : decode cX9_posts 30 = .ok (.getfield 47, 3) := by decide +kernel
theorem dX9_posts_33 : decode cX9_posts 33 = .ok (.iconst 0, 1) := by decide +kernel
theorem dX9_posts_34 : decode cX9_posts 34 = .ok (.invokevirtual 193, 3) := by decide +kernel
theorem dX9_posts_37 : decode cX9_posts 37 = .ok (.ifCond .ne 6, 3) := by decide +kernel
theorem dX9_posts_40 : decode cX9_posts 40 = .ok (.bipush (-3), 2) := by decide +kernel
theorem dX9_posts_42 : decode cX9_posts 42 = .ok (.ireturn, 1) := by decide +kernel
theorem dX9_posts_43 : decode cX9_posts 43 = .ok (.aload_n 0, 1) := by decide +kernel
theorem dX9_posts_44 : decode cX9_posts 44 = .ok (.getfield 47, 3) := by decide +kernel
theorem dX9_posts_47 : decode cX9_posts 47 = .ok (.iconst 5, 1) := by decide +kernel
theorem dX9_posts_48 : decode cX9_posts 48 = .ok (.invokevirtual 196, 3) := by decide +kernel
theorem dX9_posts_51 : decode cX9_posts 51 = .ok (.iconst 0, 1) := by decide +kernel
theorem dX9_posts_52 : decode cX9_posts 52 = .ok (.istore_n 2, 1) := by decide +kernel
theorem dX9_posts_53 : decode cX9_posts 53 = .ok (.iload_n 2, 1) := by decide +kernel
theorem dX9_posts_54 : decode cX9_posts 54 = .ok (.iconst 5, 1) := by decide +kernel
theorem dX9_posts_55 : decode cX9_posts 55 = .ok (.if_icmp .gt 34, 3) := by decide +kernel
theorem dX9_posts_58 : decode cX9_posts 58 = .ok (.aload_n 0, 1) := by decide +kernel
theorem dX9_posts_59 : decode cX9_posts 59 = .ok (.getfield 47, 3) := by decide +kernel
theorem dX9_posts_62 : decode cX9_posts 62 = .ok (.iload_n 2, 1) := by decide +kernel
theorem dX9_posts_63 : decode cX9_posts 63 = .ok (.invokevirtual 193, 3) := by decide +kernel
theorem dX9_posts_66 : decode cX9_posts 66 = .ok (.ifCond .eq 23, 3) := by decide +kernel
theorem dX9_posts_69 : decode cX9_posts 69 = .ok (.aload_n 0, 1) := by decide +kernel
theorem dX9_posts_70 : decode cX9_posts 70 = .ok (.getfield 47, 3) := by decide +kernel
theorem dX9_posts_73 : decode cX9_posts 73 = .ok (.iload_n 2, 1) := by decide +kernel
theorem dX9_posts_74 : decode cX9_posts 74 = .ok (.invokevirtual 200, 3) := by decide +kernel
theorem dX9_posts_77 : decode cX9_posts 77 = .ok (.iload_n 1, 1) := by decide +kernel
theorem dX9_posts_78 : decode cX9_posts 78 = .ok (.if_icmp .gt 5, 3) := by decide +kernel
theorem dX9_posts_81 : decode cX9_posts 81 = .ok (.iload_n 2, 1) := by decide +kernel
theorem dX9_posts_82 : decode cX9_posts 82 = .ok (.ireturn, 1) := by decide +kernel
theorem dX9_posts_83 : decode cX9_posts 83 = .ok (.iinc 2 1, 3) := by decide +kernel
theorem dX9_posts_86 : decode cX9_posts 86 = .ok (.goto (-33), 3) := by decide +kernel
theorem dX9_posts_89 : decode cX9_posts 89 = .ok (.iconst (-1), 1) := by decide +kernel
theorem dX9_posts_90 : decode cX9_posts 90 = .ok (.ireturn, 1) := by decide +kernel
theorem dX9_heard_0 : decode cX9_heard 0 = .ok (.aload_n 0, 1) := by decide +kernel
theorem dX9_heard_1 : decode cX9_heard 1 = .ok (.getfield 54, 3) := by decide +kernel
theorem dX9_heard_4 : decode cX9_heard 4 = .ok (.iload_n 1, 1) := by decide +kernel
theorem dX9_heard_5 : decode cX9_heard 5 = .ok (.iload_n 2, 1) := by decide +kernel
theorem dX9_heard_6 : decode cX9_heard 6 = .ok (.invokevirtual 206, 3) := by decide +kernel
theorem dX9_heard_9 : decode cX9_heard 9 = .ok (.ireturn, 1) := by decide +kernel
theorem dX9_read_0 : decode cX9_read 0 = .ok (.iload_n 1, 1) := by decide +kernel
theorem dX9_read_1 : decode cX9_read 1 = .ok (.invokestatic 209, 3) := by decide +kernel
theorem dX9_read_4 : decode cX9_read 4 = .ok (.ifCond .ne 6, 3) := by decide +kernel
theorem dX9_read_7 : decode cX9_read 7 = .ok (.bipush (-2), 2) := by decide +kernel
theorem dX9_read_9 : decode cX9_read 9 = .ok (.ireturn, 1) := by decide +kernel
theorem dX9_read_10 : decode cX9_read 10 = .ok (.aload_n 0, 1) := by decide +kernel
theorem dX9_read_11 : decode cX9_read 11 = .ok (.getfield 68, 3) := by decide +kernel
theorem dX9_read_14 : decode cX9_read 14 = .ok (.iload_n 1, 1) := by decide +kernel
theorem dX9_read_15 : decode cX9_read 15 = .ok (.invokevirtual 212, 3) := by decide +kernel
theorem dX9_read_18 : decode cX9_read 18 = .ok (.ifCond .eq 12, 3) := by decide +kernel
theorem dX9_read_21 : decode cX9_read 21 = .ok (.aload_n 0, 1) := by decide +kernel
theorem dX9_read_22 : decode cX9_read 22 = .ok (.getfield 68, 3) := by decide +kernel
theorem dX9_read_25 : decode cX9_read 25 = .ok (.iconst 1, 1) := by decide +kernel
theorem dX9_read_26 : decode cX9_read 26 = .ok (.invokevirtual 215, 3) := by decide +kernel
theorem dX9_read_29 : decode cX9_read 29 = .ok (.ireturn, 1) := by decide +kernel
theorem dX9_read_30 : decode cX9_read 30 = .ok (.iconst 0, 1) := by decide +kernel
theorem dX9_read_31 : decode cX9_read 31 = .ok (.istore_n 2, 1) := by decide +kernel
theorem dX9_read_32 : decode cX9_read 32 = .ok (.iconst 0, 1) := by decide +kernel
theorem dX9_read_33 : decode cX9_read 33 = .ok (.istore_n 3, 1) := by decide +kernel
theorem dX9_read_34 : decode cX9_read 34 = .ok (.iconst 2, 1) := by decide +kernel
theorem dX9_read_35 : decode cX9_read 35 = .ok (.iload_n 3, 1) := by decide +kernel
theorem dX9_read_36 : decode cX9_read 36 = .ok (.imul, 1) := by decide +kernel
theorem dX9_read_37 : decode cX9_read 37 = .ok (.iconst 1, 1) := by decide +kernel
theorem dX9_read_38 : decode cX9_read 38 = .ok (.iadd, 1) := by decide +kernel
theorem dX9_read_39 : decode cX9_read 39 = .ok (.aload_n 0, 1) := by decide +kernel
theorem dX9_read_40 : decode cX9_read 40 = .ok (.getfield 68, 3) := by decide +kernel
theorem dX9_read_43 : decode cX9_read 43 = .ok (.getfield 218, 3) := by decide +kernel
theorem dX9_read_46 : decode cX9_read 46 = .ok (.iload_n 1, 1) := by decide +kernel
theorem dX9_read_47 : decode cX9_read 47 = .ok (.iaload, 1) := by decide +kernel
theorem dX9_read_48 : decode cX9_read 48 = .ok (.if_icmp .ge 53, 3) := by decide +kernel
theorem dX9_read_51 : decode cX9_read 51 = .ok (.aload_n 0, 1) := by decide +kernel
theorem dX9_read_52 : decode cX9_read 52 = .ok (.getfield 54, 3) := by decide +kernel
theorem dX9_read_55 : decode cX9_read 55 = .ok (.aload_n 0, 1) := by decide +kernel
theorem dX9_read_56 : decode cX9_read 56 = .ok (.getfield 68, 3) := by decide +kernel
theorem dX9_read_59 : decode cX9_read 59 = .ok (.iload_n 1, 1) := by decide +kernel
theorem dX9_read_60 : decode cX9_read 60 = .ok (.iconst 2, 1) := by decide +kernel
theorem dX9_read_61 : decode cX9_read 61 = .ok (.iload_n 3, 1) := by decide +kernel
theorem dX9_read_62 : decode cX9_read 62 = .ok (.imul, 1) := by decide +kernel
theorem dX9_read_63 : decode cX9_read 63 = .ok (.invokevirtual 221, 3) := by decide +kernel
theorem dX9_read_66 : decode cX9_read 66 = .ok (.aload_n 0, 1) := by decide +kernel
theorem dX9_read_67 : decode cX9_read 67 = .ok (.getfield 68, 3) := by decide +kernel
theorem dX9_read_70 : decode cX9_read 70 = .ok (.iload_n 1, 1) := by decide +kernel
theorem dX9_read_71 : decode cX9_read 71 = .ok (.iconst 2, 1) := by decide +kernel
theorem dX9_read_72 : decode cX9_read 72 = .ok (.iload_n 3, 1) := by decide +kernel
theorem dX9_read_73 : decode cX9_read 73 = .ok (.imul, 1) := by decide +kernel
theorem dX9_read_74 : decode cX9_read 74 = .ok (.iconst 1, 1) := by decide +kernel
theorem dX9_read_75 : decode cX9_read 75 = .ok (.iadd, 1) := by decide +kernel
theorem dX9_read_76 : decode cX9_read 76 = .ok (.invokevirtual 221, 3) := by decide +kernel
theorem dX9_read_79 : decode cX9_read 79 = .ok (.invokevirtual 206, 3) := by decide +kernel
theorem dX9_read_82 : decode cX9_read 82 = .ok (.istore 4, 2) := by decide +kernel
theorem dX9_read_84 : decode cX9_read 84 = .ok (.iload 4, 2) := by decide +kernel
theorem dX9_read_86 : decode cX9_read 86 = .ok (.ifCond .ge 6, 3) := by decide +kernel
theorem dX9_read_89 : decode cX9_read 89 = .ok (.goto 12, 3) := by decide +kernel
theorem dX9_read_92 : decode cX9_read 92 = .ok (.iinc 2 1, 3) := by decide +kernel
theorem dX9_read_95 : decode cX9_read 95 = .ok (.iinc 3 1, 3) := by decide +kernel
theorem dX9_read_98 : decode cX9_read 98 = .ok (.goto (-64), 3) := by decide +kernel
theorem dX9_read_101 : decode cX9_read 101 = .ok (.iload_n 2, 1) := by decide +kernel
theorem dX9_read_102 : decode cX9_read 102 = .ok (.ireturn, 1) := by decide +kernel
theorem dX9_forget_0 : decode cX9_forget 0 = .ok (.aload_n 0, 1) := by decide +kernel
theorem dX9_forget_1 : decode cX9_forget 1 = .ok (.getfield 54, 3) := by decide +kernel
theorem dX9_forget_4 : decode cX9_forget 4 = .ok (.getfield 224, 3) := by decide +kernel
theorem dX9_forget_7 : decode cX9_forget 7 = .ok (.istore_n 1, 1) := by decide +kernel
theorem dX9_forget_8 : decode cX9_forget 8 = .ok (.aload_n 0, 1) := by decide +kernel
theorem dX9_forget_9 : decode cX9_forget 9 = .ok (.getfield 54, 3) := by decide +kernel
theorem dX9_forget_12 : decode cX9_forget 12 = .ok (.iconst 0, 1) := by decide +kernel
theorem dX9_forget_13 : decode cX9_forget 13 = .ok (.putfield 224, 3) := by decide +kernel
theorem dX9_forget_16 : decode cX9_forget 16 = .ok (.iload_n 1, 1) := by decide +kernel
theorem dX9_forget_17 : decode cX9_forget 17 = .ok (.ireturn, 1) := by decide +kernel
theorem dX9_unlike_0 : decode cX9_unlike 0 = .ok (.aload_n 0, 1) := by decide +kernel
theorem dX9_unlike_1 : decode cX9_unlike 1 = .ok (.getfield 54, 3) := by decide +kernel
theorem dX9_unlike_4 : decode cX9_unlike 4 = .ok (.aload_n 0, 1) := by decide +kernel
theorem dX9_unlike_5 : decode cX9_unlike 5 = .ok (.invokevirtual 124, 3) := by decide +kernel
theorem dX9_unlike_8 : decode cX9_unlike 8 = .ok (.getfield 154, 3) := by decide +kernel
theorem dX9_unlike_11 : decode cX9_unlike 11 = .ok (.iconst 0, 1) := by decide +kernel
theorem dX9_unlike_12 : decode cX9_unlike 12 = .ok (.invokevirtual 227, 3) := by decide +kernel
theorem dX9_unlike_15 : decode cX9_unlike 15 = .ok (.ireturn, 1) := by decide +kernel
theorem dX9_asleep_0 : decode cX9_asleep 0 = .ok (.iload_n 1, 1) := by decide +kernel
theorem dX9_asleep_1 : decode cX9_asleep 1 = .ok (.ifCond .lt 8, 3) := by decide +kernel
theorem dX9_asleep_4 : decode cX9_asleep 4 = .ok (.iload_n 1, 1) := by decide +kernel
theorem dX9_asleep_5 : decode cX9_asleep 5 = .ok (.iconst 1, 1) := by decide +kernel
theorem dX9_asleep_6 : decode cX9_asleep 6 = .ok (.if_icmp .le 6, 3) := by decide +kernel
theorem dX9_asleep_9 : decode cX9_asleep 9 = .ok (.bipush (-2), 2) := by decide +kernel
theorem dX9_asleep_11 : decode cX9_asleep 11 = .ok (.ireturn, 1) := by decide +kernel
theorem dX9_asleep_12 : decode cX9_asleep 12 = .ok (.iload_n 1, 1) := by decide +kernel
theorem dX9_asleep_13 : decode cX9_asleep 13 = .ok (.iconst 1, 1) := by decide +kernel
theorem dX9_asleep_14 : decode cX9_asleep 14 = .ok (.if_icmp .ne 27, 3) := by decide +kernel
theorem dX9_asleep_17 : decode cX9_asleep 17 = .ok (.aload_n 0, 1) := by decide +kernel
theorem dX9_asleep_18 : decode cX9_asleep 18 = .ok (.getfield 54, 3) := by decide +kernel
theorem dX9_asleep_21 : decode cX9_asleep 21 = .ok (.aload_n 0, 1) := by decide +kernel
theorem dX9_asleep_22 : decode cX9_asleep 22 = .ok (.invokevirtual 124, 3) := by decide +kernel
theorem dX9_asleep_25 : decode cX9_asleep 25 = .ok (.getfield 154, 3) := by decide +kernel
theorem dX9_asleep_28 : decode cX9_asleep 28 = .ok (.iconst 0, 1) := by decide +kernel
theorem dX9_asleep_29 : decode cX9_asleep 29 = .ok (.invokevirtual 227, 3) := by decide +kernel
theorem dX9_asleep_32 : decode cX9_asleep 32 = .ok (.ifCond .ne 7, 3) := by decide +kernel
theorem dX9_asleep_35 : decode cX9_asleep 35 = .ok (.iconst 1, 1) := by decide +kernel
theorem dX9_asleep_36 : decode cX9_asleep 36 = .ok (.goto 4, 3) := by decide +kernel
theorem dX9_asleep_39 : decode cX9_asleep 39 = .ok (.iconst 0, 1) := by decide +kernel
theorem dX9_asleep_40 : decode cX9_asleep 40 = .ok (.ireturn, 1) := by decide +kernel
theorem dX9_asleep_41 : decode cX9_asleep 41 = .ok (.aload_n 0, 1) := by decide +kernel
theorem dX9_asleep_42 : decode cX9_asleep 42 = .ok (.getfield 40, 3) := by decide +kernel
theorem dX9_asleep_45 : decode cX9_asleep 45 = .ok (.aload_n 0, 1) := by decide +kernel
theorem dX9_asleep_46 : decode cX9_asleep 46 = .ok (.getfield 72, 3) := by decide +kernel
theorem dX9_asleep_49 : decode cX9_asleep 49 = .ok (.aload_n 0, 1) := by decide +kernel
theorem dX9_asleep_50 : decode cX9_asleep 50 = .ok (.getfield 76, 3) := by decide +kernel
theorem dX9_asleep_53 : decode cX9_asleep 53 = .ok (.aload_n 0, 1) := by decide +kernel
theorem dX9_asleep_54 : decode cX9_asleep 54 = .ok (.getfield 79, 3) := by decide +kernel
theorem dX9_asleep_57 : decode cX9_asleep 57 = .ok (.invokevirtual 231, 3) := by decide +kernel
theorem dX9_asleep_60 : decode cX9_asleep 60 = .ok (.iconst 0, 1) := by decide +kernel
theorem dX9_asleep_61 : decode cX9_asleep 61 = .ok (.istore_n 2, 1) := by decide +kernel
theorem dX9_asleep_62 : decode cX9_asleep 62 = .ok (.iconst 0, 1) := by decide +kernel
theorem dX9_asleep_63 : decode cX9_asleep 63 = .ok (.istore_n 3, 1) := by decide +kernel
theorem dX9_asleep_64 : decode cX9_asleep 64 = .ok (.iload_n 3, 1) := by decide +kernel
theorem dX9_asleep_65 : decode cX9_asleep 65 = .ok (.aload_n 0, 1) := by decide +kernel
theorem dX9_asleep_66 : decode cX9_asleep 66 = .ok (.getfield 10, 3) := by decide +kernel
theorem dX9_asleep_69 : decode cX9_asleep 69 = .ok (.getfield 233, 3) := by decide +kernel
theorem dX9_asleep_72 : decode cX9_asleep 72 = .ok (.if_icmp .ge 36, 3) := by decide +kernel
theorem dX9_asleep_75 : decode cX9_asleep 75 = .ok (.aload_n 0, 1) := by decide +kernel
theorem dX9_asleep_76 : decode cX9_asleep 76 = .ok (.getfield 54, 3) := by decide +kernel
theorem dX9_asleep_79 : decode cX9_asleep 79 = .ok (.aload_n 0, 1) := by decide +kernel
theorem dX9_asleep_80 : decode cX9_asleep 80 = .ok (.getfield 40, 3) := by decide +kernel
theorem dX9_asleep_83 : decode cX9_asleep 83 = .ok (.getfield 236, 3) := by decide +kernel
theorem dX9_asleep_86 : decode cX9_asleep 86 = .ok (.iload_n 3, 1) := by decide +kernel
theorem dX9_asleep_87 : decode cX9_asleep 87 = .ok (.bipush 20, 2) := by decide +kernel
theorem dX9_asleep_89 : decode cX9_asleep 89 = .ok (.imul, 1) := by decide +kernel
theorem dX9_asleep_90 : decode cX9_asleep 90 = .ok (.invokevirtual 227, 3) := by decide +kernel
theorem dX9_asleep_93 : decode cX9_asleep 93 = .ok (.ifCond .ne 9, 3) := by decide +kernel
theorem dX9_asleep_96 : decode cX9_asleep 96 = .ok (.iload_n 2, 1) := by decide +kernel
theorem dX9_asleep_97 : decode cX9_asleep 97 = .ok (.iconst 1, 1) := by decide +kernel
theorem dX9_asleep_98 : decode cX9_asleep 98 = .ok (.iload_n 3, 1) := by decide +kernel
theorem dX9_asleep_99 : decode cX9_asleep 99 = .ok (.ishl, 1) := by decide +kernel
theorem dX9_asleep_100 : decode cX9_asleep 100 = .ok (.ior, 1) := by decide +kernel
theorem dX9_asleep_101 : decode cX9_asleep 101 = .ok (.istore_n 2, 1) := by decide +kernel
theorem dX9_asleep_102 : decode cX9_asleep 102 = .ok (.iinc 3 1, 3) := by decide +kernel
theorem dX9_asleep_105 : decode cX9_asleep 105 = .ok (.goto (-41), 3) := by decide +kernel
theorem dX9_asleep_108 : decode cX9_asleep 108 = .ok (.iload_n 2, 1) := by decide +kernel
theorem dX9_asleep_109 : decode cX9_asleep 109 = .ok (.ireturn, 1) := by decide +kernel
theorem dX9_census_0 : decode cX9_census 0 = .ok (.aload_n 0, 1) := by decide +kernel
theorem dX9_census_1 : decode cX9_census 1 = .ok (.getfield 61, 3) := by decide +kernel
theorem dX9_census_4 : decode cX9_census 4 = .ok (.iload_n 1, 1) := by decide +kernel
theorem dX9_census_5 : decode cX9_census 5 = .ok (.iload_n 2, 1) := by decide +kernel
theorem dX9_census_6 : decode cX9_census 6 = .ok (.invokevirtual 239, 3) := by decide +kernel
theorem dX9_census_9 : decode cX9_census 9 = .ok (.ireturn, 1) := by decide +kernel
theorem dX9_births_0 : decode cX9_births 0 = .ok (.aload_n 0, 1) := by decide +kernel
theorem dX9_births_1 : decode cX9_births 1 = .ok (.getfield 61, 3) := by decide +kernel
theorem dX9_births_4 : decode cX9_births 4 = .ok (.iload_n 1, 1) := by decide +kernel
theorem dX9_births_5 : decode cX9_births 5 = .ok (.iload_n 2, 1) := by decide +kernel
theorem dX9_births_6 : decode cX9_births 6 = .ok (.invokevirtual 242, 3) := by decide +kernel
theorem dX9_births_9 : decode cX9_births 9 = .ok (.ireturn, 1) := by decide +kernel
theorem dX9_cannot_0 : decode cX9_cannot 0 = .ok (.aload_n 0, 1) := by decide +kernel
theorem dX9_cannot_1 : decode cX9_cannot 1 = .ok (.getfield 61, 3) := by decide +kernel
theorem dX9_cannot_4 : decode cX9_cannot 4 = .ok (.iload_n 1, 1) := by decide +kernel
theorem dX9_cannot_5 : decode cX9_cannot 5 = .ok (.invokevirtual 245, 3) := by decide +kernel
theorem dX9_cannot_8 : decode cX9_cannot 8 = .ok (.ifCond .eq 19, 3) := by decide +kernel
theorem dX9_cannot_11 : decode cX9_cannot 11 = .ok (.aload_n 0, 1) := by decide +kernel
theorem dX9_cannot_12 : decode cX9_cannot 12 = .ok (.getfield 61, 3) := by decide +kernel
theorem dX9_cannot_15 : decode cX9_cannot 15 = .ok (.iload_n 2, 1) := by decide +kernel
theorem dX9_cannot_16 : decode cX9_cannot 16 = .ok (.invokevirtual 245, 3) := by decide +kernel
theorem dX9_cannot_19 : decode cX9_cannot 19 = .ok (.ifCond .eq 8, 3) := by decide +kernel
theorem dX9_cannot_22 : decode cX9_cannot 22 = .ok (.iload_n 1, 1) := by decide +kernel
theorem dX9_cannot_23 : decode cX9_cannot 23 = .ok (.iload_n 2, 1) := by decide +kernel
theorem dX9_cannot_24 : decode cX9_cannot 24 = .ok (.if_icmp .ne 6, 3) := by decide +kernel
theorem dX9_cannot_27 : decode cX9_cannot 27 = .ok (.bipush (-2), 2) := by decide +kernel
theorem dX9_cannot_29 : decode cX9_cannot 29 = .ok (.ireturn, 1) := by decide +kernel
theorem dX9_cannot_30 : decode cX9_cannot 30 = .ok (.aload_n 0, 1) := by decide +kernel
theorem dX9_cannot_31 : decode cX9_cannot 31 = .ok (.getfield 61, 3) := by decide +kernel
theorem dX9_cannot_34 : decode cX9_cannot 34 = .ok (.iload_n 1, 1) := by decide +kernel
theorem dX9_cannot_35 : decode cX9_cannot 35 = .ok (.iload_n 2, 1) := by decide +kernel
theorem dX9_cannot_36 : decode cX9_cannot 36 = .ok (.invokevirtual 248, 3) := by decide +kernel
theorem dX9_cannot_39 : decode cX9_cannot 39 = .ok (.ifCond .eq 7, 3) := by decide +kernel
theorem dX9_cannot_42 : decode cX9_cannot 42 = .ok (.iconst 1, 1) := by decide +kernel
theorem dX9_cannot_43 : decode cX9_cannot 43 = .ok (.goto 4, 3) := by decide +kernel
theorem dX9_cannot_46 : decode cX9_cannot 46 = .ok (.iconst 0, 1) := by decide +kernel
theorem dX9_cannot_47 : decode cX9_cannot 47 = .ok (.ireturn, 1) := by decide +kernel
theorem dX9_leave_0 : decode cX9_leave 0 = .ok (.iload_n 1, 1) := by decide +kernel
theorem dX9_leave_1 : decode cX9_leave 1 = .ok (.ifCond .lt 8, 3) := by decide +kernel
theorem dX9_leave_4 : decode cX9_leave 4 = .ok (.iload_n 1, 1) := by decide +kernel
theorem dX9_leave_5 : decode cX9_leave 5 = .ok (.iconst 2, 1) := by decide +kernel
theorem dX9_leave_6 : decode cX9_leave 6 = .ok (.if_icmp .le 6, 3) := by decide +kernel
theorem dX9_leave_9 : decode cX9_leave 9 = .ok (.bipush (-2), 2) := by decide +kernel
theorem dX9_leave_11 : decode cX9_leave 11 = .ok (.ireturn, 1) := by decide +kernel
theorem dX9_leave_12 : decode cX9_leave 12 = .ok (.aload_n 0, 1) := by decide +kernel
theorem dX9_leave_13 : decode cX9_leave 13 = .ok (.getfield 61, 3) := by decide +kernel
theorem dX9_leave_16 : decode cX9_leave 16 = .ok (.invokevirtual 252, 3) := by decide +kernel
theorem dX9_leave_19 : decode cX9_leave 19 = .ok (.iload_n 1, 1) := by decide +kernel
theorem dX9_leave_20 : decode cX9_leave 20 = .ok (.ifCond .ne 11, 3) := by decide +kernel
theorem dX9_leave_23 : decode cX9_leave 23 = .ok (.aload_n 0, 1) := by decide +kernel
theorem dX9_leave_24 : decode cX9_leave 24 = .ok (.getfield 61, 3) := by decide +kernel
theorem dX9_leave_27 : decode cX9_leave 27 = .ok (.invokevirtual 255, 3) := by decide +kernel
theorem dX9_leave_30 : decode cX9_leave 30 = .ok (.ireturn, 1) := by decide +kernel
theorem dX9_leave_31 : decode cX9_leave 31 = .ok (.aload_n 0, 1) := by decide +kernel
theorem dX9_leave_32 : decode cX9_leave 32 = .ok (.getfield 61, 3) := by decide +kernel
theorem dX9_leave_35 : decode cX9_leave 35 = .ok (.invokevirtual 258, 3) := by decide +kernel
theorem dX9_leave_38 : decode cX9_leave 38 = .ok (.istore_n 2, 1) := by decide +kernel
theorem dX9_leave_39 : decode cX9_leave 39 = .ok (.iload_n 1, 1) := by decide +kernel
theorem dX9_leave_40 : decode cX9_leave 40 = .ok (.iconst 1, 1) := by decide +kernel
theorem dX9_leave_41 : decode cX9_leave 41 = .ok (.if_icmp .ne 10, 3) := by decide +kernel
theorem dX9_leave_44 : decode cX9_leave 44 = .ok (.iload_n 2, 1) := by decide +kernel
theorem dX9_leave_45 : decode cX9_leave 45 = .ok (.invokestatic 261, 3) := by decide +kernel
theorem dX9_leave_48 : decode cX9_leave 48 = .ok (.goto 4, 3) := by decide +kernel
theorem dX9_leave_51 : decode cX9_leave 51 = .ok (.iload_n 2, 1) := by decide +kernel
theorem dX9_leave_52 : decode cX9_leave 52 = .ok (.ireturn, 1) := by decide +kernel
theorem dX9_sheet_0 : decode cX9_sheet 0 = .ok (.iload_n 1, 1) := by decide +kernel
theorem dX9_sheet_1 : decode cX9_sheet 1 = .ok (.invokestatic 209, 3) := by decide +kernel
theorem dX9_sheet_4 : decode cX9_sheet 4 = .ok (.ifCond .eq 16, 3) := by decide +kernel
theorem dX9_sheet_7 : decode cX9_sheet 7 = .ok (.iload_n 2, 1) := by decide +kernel
theorem dX9_sheet_8 : decode cX9_sheet 8 = .ok (.invokestatic 266, 3) := by decide +kernel
theorem dX9_sheet_11 : decode cX9_sheet 11 = .ok (.ifCond .eq 9, 3) := by decide +kernel
theorem dX9_sheet_14 : decode cX9_sheet 14 = .ok (.iload_n 3, 1) := by decide +kernel
theorem dX9_sheet_15 : decode cX9_sheet 15 = .ok (.bipush 60, 2) := by decide +kernel
theorem dX9_sheet_17 : decode cX9_sheet 17 = .ok (.if_icmp .le 6, 3) := by decide +kernel
theorem dX9_sheet_20 : decode cX9_sheet 20 = .ok (.bipush (-2), 2) := by decide +kernel
theorem dX9_sheet_22 : decode cX9_sheet 22 = .ok (.ireturn, 1) := by decide +kernel
theorem dX9_sheet_23 : decode cX9_sheet 23 = .ok (.aload_n 0, 1) := by decide +kernel
theorem dX9_sheet_24 : decode cX9_sheet 24 = .ok (.getfield 68, 3) := by decide +kernel
theorem dX9_sheet_27 : decode cX9_sheet 27 = .ok (.iload_n 1, 1) := by decide +kernel
theorem dX9_sheet_28 : decode cX9_sheet 28 = .ok (.iload_n 2, 1) := by decide +kernel
theorem dX9_sheet_29 : decode cX9_sheet 29 = .ok (.iload_n 3, 1) := by decide +kernel
theorem dX9_sheet_30 : decode cX9_sheet 30 = .ok (.invokevirtual 269, 3) := by decide +kernel
theorem dX9_sheet_33 : decode cX9_sheet 33 = .ok (.ireturn, 1) := by decide +kernel
theorem dX9_lose_0 : decode cX9_lose 0 = .ok (.iload_n 1, 1) := by decide +kernel
theorem dX9_lose_1 : decode cX9_lose 1 = .ok (.invokestatic 209, 3) := by decide +kernel
theorem dX9_lose_4 : decode cX9_lose 4 = .ok (.ifCond .eq 14, 3) := by decide +kernel
theorem dX9_lose_7 : decode cX9_lose 7 = .ok (.aload_n 0, 1) := by decide +kernel
theorem dX9_lose_8 : decode cX9_lose 8 = .ok (.getfield 68, 3) := by decide +kernel
theorem dX9_lose_11 : decode cX9_lose 11 = .ok (.iload_n 1, 1) := by decide +kernel
theorem dX9_lose_12 : decode cX9_lose 12 = .ok (.invokevirtual 272, 3) := by decide +kernel
theorem dX9_lose_15 : decode cX9_lose 15 = .ok (.goto 5, 3) := by decide +kernel
theorem dX9_lose_18 : decode cX9_lose 18 = .ok (.bipush (-2), 2) := by decide +kernel
theorem dX9_lose_20 : decode cX9_lose 20 = .ok (.ireturn, 1) := by decide +kernel
theorem dX9_put_0 : decode cX9_put 0 = .ok (.iload_n 1, 1) := by decide +kernel
theorem dX9_put_1 : decode cX9_put 1 = .ok (.invokestatic 209, 3) := by decide +kernel
theorem dX9_put_4 : decode cX9_put 4 = .ok (.ifCond .eq 10, 3) := by decide +kernel
theorem dX9_put_7 : decode cX9_put 7 = .ok (.iload_n 2, 1) := by decide +kernel
theorem dX9_put_8 : decode cX9_put 8 = .ok (.invokestatic 266, 3) := by decide +kernel
theorem dX9_put_11 : decode cX9_put 11 = .ok (.ifCond .ne 6, 3) := by decide +kernel
theorem dX9_put_14 : decode cX9_put 14 = .ok (.bipush (-2), 2) := by decide +kernel
theorem dX9_put_16 : decode cX9_put 16 = .ok (.ireturn, 1) := by decide +kernel
theorem dX9_put_17 : decode cX9_put 17 = .ok (.aload_n 0, 1) := by decide +kernel
theorem dX9_put_18 : decode cX9_put 18 = .ok (.getfield 68, 3) := by decide +kernel
theorem dX9_put_21 : decode cX9_put 21 = .ok (.iload_n 1, 1) := by decide +kernel
theorem dX9_put_22 : decode cX9_put 22 = .ok (.iload_n 2, 1) := by decide +kernel
theorem dX9_put_23 : decode cX9_put 23 = .ok (.iload_n 3, 1) := by decide +kernel
theorem dX9_put_24 : decode cX9_put 24 = .ok (.invokevirtual 275, 3) := by decide +kernel
theorem dX9_put_27 : decode cX9_put 27 = .ok (.istore 5, 2) := by decide +kernel
theorem dX9_put_29 : decode cX9_put 29 = .ok (.iload 5, 2) := by decide +kernel
theorem dX9_put_31 : decode cX9_put 31 = .ok (.ifCond .eq 13, 3) := by decide +kernel
theorem dX9_put_34 : decode cX9_put 34 = .ok (.aload_n 0, 1) := by decide +kernel
theorem dX9_put_35 : decode cX9_put 35 = .ok (.getfield 68, 3) := by decide +kernel
theorem dX9_put_38 : decode cX9_put 38 = .ok (.iload 5, 2) := by decide +kernel
theorem dX9_put_40 : decode cX9_put 40 = .ok (.invokevirtual 215, 3) := by decide +kernel
theorem dX9_put_43 : decode cX9_put 43 = .ok (.ireturn, 1) := by decide +kernel
theorem dX9_put_44 : decode cX9_put 44 = .ok (.aload_n 0, 1) := by decide +kernel
theorem dX9_put_45 : decode cX9_put 45 = .ok (.getfield 68, 3) := by decide +kernel
theorem dX9_put_48 : decode cX9_put 48 = .ok (.iload_n 1, 1) := by decide +kernel
theorem dX9_put_49 : decode cX9_put 49 = .ok (.iload_n 3, 1) := by decide +kernel
theorem dX9_put_50 : decode cX9_put 50 = .ok (.iload 4, 2) := by decide +kernel
theorem dX9_put_52 : decode cX9_put 52 = .ok (.invokevirtual 278, 3) := by decide +kernel
theorem dX9_put_55 : decode cX9_put 55 = .ok (.iconst 1, 1) := by decide +kernel
theorem dX9_put_56 : decode cX9_put 56 = .ok (.ireturn, 1) := by decide +kernel
theorem dX9_get_0 : decode cX9_get 0 = .ok (.iload_n 1, 1) := by decide +kernel
theorem dX9_get_1 : decode cX9_get 1 = .ok (.invokestatic 209, 3) := by decide +kernel
theorem dX9_get_4 : decode cX9_get 4 = .ok (.ifCond .eq 10, 3) := by decide +kernel
theorem dX9_get_7 : decode cX9_get 7 = .ok (.iload_n 2, 1) := by decide +kernel
theorem dX9_get_8 : decode cX9_get 8 = .ok (.invokestatic 266, 3) := by decide +kernel
theorem dX9_get_11 : decode cX9_get 11 = .ok (.ifCond .ne 7, 3) := by decide +kernel
theorem dX9_get_14 : decode cX9_get 14 = .ok (.ldc_w 281, 3) := by decide +kernel
theorem dX9_get_17 : decode cX9_get 17 = .ok (.ireturn, 1) := by decide +kernel
theorem dX9_get_18 : decode cX9_get 18 = .ok (.aload_n 0, 1) := by decide +kernel
theorem dX9_get_19 : decode cX9_get 19 = .ok (.getfield 68, 3) := by decide +kernel
theorem dX9_get_22 : decode cX9_get 22 = .ok (.iload_n 1, 1) := by decide +kernel
theorem dX9_get_23 : decode cX9_get 23 = .ok (.iload_n 2, 1) := by decide +kernel
theorem dX9_get_24 : decode cX9_get 24 = .ok (.iload_n 3, 1) := by decide +kernel
theorem dX9_get_25 : decode cX9_get 25 = .ok (.invokevirtual 275, 3) := by decide +kernel
theorem dX9_get_28 : decode cX9_get 28 = .ok (.istore 4, 2) := by decide +kernel
theorem dX9_get_30 : decode cX9_get 30 = .ok (.iload 4, 2) := by decide +kernel
theorem dX9_get_32 : decode cX9_get 32 = .ok (.ifCond .eq 17, 3) := by decide +kernel
theorem dX9_get_35 : decode cX9_get 35 = .ok (.aload_n 0, 1) := by decide +kernel
theorem dX9_get_36 : decode cX9_get 36 = .ok (.getfield 68, 3) := by decide +kernel
theorem dX9_get_39 : decode cX9_get 39 = .ok (.iload 4, 2) := by decide +kernel
theorem dX9_get_41 : decode cX9_get 41 = .ok (.invokevirtual 215, 3) := by decide +kernel
theorem dX9_get_44 : decode cX9_get 44 = .ok (.pop, 1) := by decide +kernel
theorem dX9_get_45 : decode cX9_get 45 = .ok (.ldc_w 281, 3) := by decide +kernel
theorem dX9_get_48 : decode cX9_get 48 = .ok (.ireturn, 1) := by decide +kernel
theorem dX9_get_49 : decode cX9_get 49 = .ok (.aload_n 0, 1) := by decide +kernel
theorem dX9_get_50 : decode cX9_get 50 = .ok (.getfield 68, 3) := by decide +kernel
theorem dX9_get_53 : decode cX9_get 53 = .ok (.iload_n 1, 1) := by decide +kernel
theorem dX9_get_54 : decode cX9_get 54 = .ok (.iload_n 3, 1) := by decide +kernel
theorem dX9_get_55 : decode cX9_get 55 = .ok (.invokevirtual 221, 3) := by decide +kernel
theorem dX9_get_58 : decode cX9_get 58 = .ok (.ireturn, 1) := by decide +kernel
theorem dX9_copy_0 : decode cX9_copy 0 = .ok (.iload_n 1, 1) := by decide +kernel
theorem dX9_copy_1 : decode cX9_copy 1 = .ok (.invokestatic 209, 3) := by decide +kernel
theorem dX9_copy_4 : decode cX9_copy 4 = .ok (.ifCond .eq 10, 3) := by decide +kernel
theorem dX9_copy_7 : decode cX9_copy 7 = .ok (.iload_n 3, 1) := by decide +kernel
theorem dX9_copy_8 : decode cX9_copy 8 = .ok (.invokestatic 209, 3) := by decide +kernel
theorem dX9_copy_11 : decode cX9_copy 11 = .ok (.ifCond .ne 6, 3) := by decide +kernel
theorem dX9_copy_14 : decode cX9_copy 14 = .ok (.bipush (-2), 2) := by decide +kernel
theorem dX9_copy_16 : decode cX9_copy 16 = .ok (.ireturn, 1) := by decide +kernel
theorem dX9_copy_17 : decode cX9_copy 17 = .ok (.aload_n 0, 1) := by decide +kernel
theorem dX9_copy_18 : decode cX9_copy 18 = .ok (.getfield 68, 3) := by decide +kernel
theorem dX9_copy_21 : decode cX9_copy 21 = .ok (.iload_n 1, 1) := by decide +kernel
theorem dX9_copy_22 : decode cX9_copy 22 = .ok (.iload_n 2, 1) := by decide +kernel
theorem dX9_copy_23 : decode cX9_copy 23 = .ok (.iload_n 3, 1) := by decide +kernel
theorem dX9_copy_24 : decode cX9_copy 24 = .ok (.iload 4, 2) := by decide +kernel
theorem dX9_copy_26 : decode cX9_copy 26 = .ok (.iload 5, 2) := by decide +kernel
theorem dX9_copy_28 : decode cX9_copy 28 = .ok (.invokevirtual 282, 3) := by decide +kernel
theorem dX9_copy_31 : decode cX9_copy 31 = .ok (.ireturn, 1) := by decide +kernel
theorem dX9_write_0 : decode cX9_write 0 = .ok (.iload_n 1, 1) := by decide +kernel
theorem dX9_write_1 : decode cX9_write 1 = .ok (.invokestatic 209, 3) := by decide +kernel
theorem dX9_write_4 : decode cX9_write 4 = .ok (.ifCond .ne 6, 3) := by decide +kernel
theorem dX9_write_7 : decode cX9_write 7 = .ok (.bipush (-2), 2) := by decide +kernel
theorem dX9_write_9 : decode cX9_write 9 = .ok (.ireturn, 1) := by decide +kernel
theorem dX9_write_10 : decode cX9_write 10 = .ok (.aload_n 0, 1) := by decide +kernel
theorem dX9_write_11 : decode cX9_write 11 = .ok (.getfield 68, 3) := by decide +kernel
theorem dX9_write_14 : decode cX9_write 14 = .ok (.iload_n 1, 1) := by decide +kernel
theorem dX9_write_15 : decode cX9_write 15 = .ok (.invokevirtual 212, 3) := by decide +kernel
theorem dX9_write_18 : decode cX9_write 18 = .ok (.ifCond .eq 12, 3) := by decide +kernel
theorem dX9_write_21 : decode cX9_write 21 = .ok (.aload_n 0, 1) := by decide +kernel
theorem dX9_write_22 : decode cX9_write 22 = .ok (.getfield 68, 3) := by decide +kernel
theorem dX9_write_25 : decode cX9_write 25 = .ok (.iconst 1, 1) := by decide +kernel
theorem dX9_write_26 : decode cX9_write 26 = .ok (.invokevirtual 215, 3) := by decide +kernel
theorem dX9_write_29 : decode cX9_write 29 = .ok (.ireturn, 1) := by decide +kernel
theorem dX9_write_30 : decode cX9_write 30 = .ok (.aload_n 0, 1) := by decide +kernel
theorem dX9_write_31 : decode cX9_write 31 = .ok (.getfield 68, 3) := by decide +kernel
theorem dX9_write_34 : decode cX9_write 34 = .ok (.getfield 218, 3) := by decide +kernel
theorem dX9_write_37 : decode cX9_write 37 = .ok (.iload_n 1, 1) := by decide +kernel
theorem dX9_write_38 : decode cX9_write 38 = .ok (.iaload, 1) := by decide +kernel
theorem dX9_write_39 : decode cX9_write 39 = .ok (.aload_n 0, 1) := by decide +kernel
theorem dX9_write_40 : decode cX9_write 40 = .ok (.getfield 10, 3) := by decide +kernel
theorem dX9_write_43 : decode cX9_write 43 = .ok (.getfield 233, 3) := by decide +kernel
theorem dX9_write_46 : decode cX9_write 46 = .ok (.invokestatic 286, 3) := by decide +kernel
theorem dX9_write_49 : decode cX9_write 49 = .ok (.istore_n 2, 1) := by decide +kernel
theorem dX9_write_50 : decode cX9_write 50 = .ok (.aload_n 0, 1) := by decide +kernel
theorem dX9_write_51 : decode cX9_write 51 = .ok (.invokevirtual 124, 3) := by decide +kernel
theorem dX9_write_54 : decode cX9_write 54 = .ok (.getfield 154, 3) := by decide +kernel
theorem dX9_write_57 : decode cX9_write 57 = .ok (.astore_n 3, 1) := by decide +kernel
theorem dX9_write_58 : decode cX9_write 58 = .ok (.iconst 0, 1) := by decide +kernel
theorem dX9_write_59 : decode cX9_write 59 = .ok (.istore 4, 2) := by decide +kernel
theorem dX9_write_61 : decode cX9_write 61 = .ok (.iload 4, 2) := by decide +kernel
theorem dX9_write_63 : decode cX9_write 63 = .ok (.iload_n 2, 1) := by decide +kernel
theorem dX9_write_64 : decode cX9_write 64 = .ok (.if_icmp .ge 23, 3) := by decide +kernel
theorem dX9_write_67 : decode cX9_write 67 = .ok (.aload_n 0, 1) := by decide +kernel
theorem dX9_write_68 : decode cX9_write 68 = .ok (.getfield 68, 3) := by decide +kernel
theorem dX9_write_71 : decode cX9_write 71 = .ok (.iload_n 1, 1) := by decide +kernel
theorem dX9_write_72 : decode cX9_write 72 = .ok (.iload 4, 2) := by decide +kernel
theorem dX9_write_74 : decode cX9_write 74 = .ok (.aload_n 3, 1) := by decide +kernel
theorem dX9_write_75 : decode cX9_write 75 = .ok (.iload 4, 2) := by decide +kernel
theorem dX9_write_77 : decode cX9_write 77 = .ok (.iaload, 1) := by decide +kernel
theorem dX9_write_78 : decode cX9_write 78 = .ok (.invokevirtual 278, 3) := by decide +kernel
theorem dX9_write_81 : decode cX9_write 81 = .ok (.iinc 4 1, 3) := by decide +kernel
theorem dX9_write_84 : decode cX9_write 84 = .ok (.goto (-23), 3) := by decide +kernel
theorem dX9_write_87 : decode cX9_write 87 = .ok (.iload_n 2, 1) := by decide +kernel
theorem dX9_write_88 : decode cX9_write 88 = .ok (.ireturn, 1) := by decide +kernel
theorem dX9_count_0 : decode cX9_count 0 = .ok (.iload_n 1, 1) := by decide +kernel
theorem dX9_count_1 : decode cX9_count 1 = .ok (.tableswitch 129 0 8 #[51, 59, 67, 78, 86, 94, 102, 113, 121], 51) := by decide +kernel
theorem dX9_count_52 : decode cX9_count 52 = .ok (.aload_n 0, 1) := by decide +kernel
theorem dX9_count_53 : decode cX9_count 53 = .ok (.getfield 10, 3) := by decide +kernel
theorem dX9_count_56 : decode cX9_count 56 = .ok (.getfield 233, 3) := by decide +kernel
theorem dX9_count_59 : decode cX9_count 59 = .ok (.ireturn, 1) := by decide +kernel
theorem dX9_count_60 : decode cX9_count 60 = .ok (.aload_n 0, 1) := by decide +kernel
theorem dX9_count_61 : decode cX9_count 61 = .ok (.getfield 10, 3) := by decide +kernel
theorem dX9_count_64 : decode cX9_count 64 = .ok (.getfield 93, 3) := by decide +kernel
theorem dX9_count_67 : decode cX9_count 67 = .ok (.ireturn, 1) := by decide +kernel
theorem dX9_count_68 : decode cX9_count 68 = .ok (.aload_n 0, 1) := by decide +kernel
theorem dX9_count_69 : decode cX9_count 69 = .ok (.getfield 10, 3) := by decide +kernel
theorem dX9_count_72 : decode cX9_count 72 = .ok (.getfield 118, 3) := by decide +kernel
theorem dX9_count_75 : decode cX9_count 75 = .ok (.invokestatic 261, 3) := by decide +kernel
theorem dX9_count_78 : decode cX9_count 78 = .ok (.ireturn, 1) := by decide +kernel
theorem dX9_count_79 : decode cX9_count 79 = .ok (.aload_n 0, 1) := by decide +kernel
theorem dX9_count_80 : decode cX9_count 80 = .ok (.getfield 10, 3) := by decide +kernel
theorem dX9_count_83 : decode cX9_count 83 = .ok (.invokevirtual 291, 3) := by decide +kernel
theorem dX9_count_86 : decode cX9_count 86 = .ok (.ireturn, 1) := by decide +kernel
theorem dX9_count_87 : decode cX9_count 87 = .ok (.aload_n 0, 1) := by decide +kernel
theorem dX9_count_88 : decode cX9_count 88 = .ok (.getfield 54, 3) := by decide +kernel
theorem dX9_count_91 : decode cX9_count 91 = .ok (.getfield 224, 3) := by decide +kernel
theorem dX9_count_94 : decode cX9_count 94 = .ok (.ireturn, 1) := by decide +kernel
theorem dX9_count_95 : decode cX9_count 95 = .ok (.aload_n 0, 1) := by decide +kernel
theorem dX9_count_96 : decode cX9_count 96 = .ok (.getfield 61, 3) := by decide +kernel
theorem dX9_count_99 : decode cX9_count 99 = .ok (.getfield 292, 3) := by decide +kernel
theorem dX9_count_102 : decode cX9_count 102 = .ok (.ireturn, 1) := by decide +kernel
theorem dX9_count_103 : decode cX9_count 103 = .ok (.aload_n 0, 1) := by decide +kernel
theorem dX9_count_104 : decode cX9_count 104 = .ok (.getfield 61, 3) := by decide +kernel
theorem dX9_count_107 : decode cX9_count 107 = .ok (.iconst 0, 1) := by decide +kernel
theorem dX9_count_108 : decode cX9_count 108 = .ok (.bipush 100, 2) := by decide +kernel
theorem dX9_count_110 : decode cX9_count 110 = .ok (.invokevirtual 293, 3) := by decide +kernel
theorem dX9_count_113 : decode cX9_count 113 = .ok (.ireturn, 1) := by decide +kernel
theorem dX9_count_114 : decode cX9_count 114 = .ok (.aload_n 0, 1) := by decide +kernel
theorem dX9_count_115 : decode cX9_count 115 = .ok (.invokevirtual 124, 3) := by decide +kernel
theorem dX9_count_118 : decode cX9_count 118 = .ok (.invokevirtual 296, 3) := by decide +kernel
theorem dX9_count_121 : decode cX9_count 121 = .ok (.ireturn, 1) := by decide +kernel
theorem dX9_count_122 : decode cX9_count 122 = .ok (.aload_n 0, 1) := by decide +kernel
theorem dX9_count_123 : decode cX9_count 123 = .ok (.getfield 68, 3) := by decide +kernel
theorem dX9_count_126 : decode cX9_count 126 = .ok (.getfield 299, 3) := by decide +kernel
theorem dX9_count_129 : decode cX9_count 129 = .ok (.ireturn, 1) := by decide +kernel
theorem dX9_count_130 : decode cX9_count 130 = .ok (.bipush (-2), 2) := by decide +kernel
theorem dX9_count_132 : decode cX9_count 132 = .ok (.ireturn, 1) := by decide +kernel
theorem dX9_digest_0 : decode cX9_digest 0 = .ok (.ldc2_w 302, 3) := by decide +kernel
theorem dX9_digest_3 : decode cX9_digest 3 = .ok (.lstore_n 1, 1) := by decide +kernel
theorem dX9_digest_4 : decode cX9_digest 4 = .ok (.iconst 0, 1) := by decide +kernel
theorem dX9_digest_5 : decode cX9_digest 5 = .ok (.istore_n 3, 1) := by decide +kernel
theorem dX9_digest_6 : decode cX9_digest 6 = .ok (.iload_n 3, 1) := by decide +kernel
theorem dX9_digest_7 : decode cX9_digest 7 = .ok (.bipush 7, 2) := by decide +kernel
theorem dX9_digest_9 : decode cX9_digest 9 = .ok (.if_icmp .gt 22, 3) := by decide +kernel
theorem dX9_digest_12 : decode cX9_digest 12 = .ok (.ldc2_w 304, 3) := by decide +kernel
theorem dX9_digest_15 : decode cX9_digest 15 = .ok (.lload_n 1, 1) := by decide +kernel
theorem dX9_digest_16 : decode cX9_digest 16 = .ok (.lmul, 1) := by decide +kernel
theorem dX9_digest_17 : decode cX9_digest 17 = .ok (.aload_n 0, 1) := by decide +kernel
theorem dX9_digest_18 : decode cX9_digest 18 = .ok (.iload_n 3, 1) := by decide +kernel
theorem dX9_digest_19 : decode cX9_digest 19 = .ok (.invokevirtual 306, 3) := by decide +kernel
theorem dX9_digest_22 : decode cX9_digest 22 = .ok (.i2l, 1) := by decide +kernel
theorem dX9_digest_23 : decode cX9_digest 23 = .ok (.ladd, 1) := by decide +kernel
theorem dX9_digest_24 : decode cX9_digest 24 = .ok (.lstore_n 1, 1) := by decide +kernel
theorem dX9_digest_25 : decode cX9_digest 25 = .ok (.iinc 3 1, 3) := by decide +kernel
theorem dX9_digest_28 : decode cX9_digest 28 = .ok (.goto (-22), 3) := by decide +kernel
theorem dX9_digest_31 : decode cX9_digest 31 = .ok (.ldc2_w 304, 3) := by decide +kernel
theorem dX9_digest_34 : decode cX9_digest 34 = .ok (.lload_n 1, 1) := by decide +kernel
theorem dX9_digest_35 : decode cX9_digest 35 = .ok (.lmul, 1) := by decide +kernel
theorem dX9_digest_36 : decode cX9_digest 36 = .ok (.aload_n 0, 1) := by decide +kernel
theorem dX9_digest_37 : decode cX9_digest 37 = .ok (.invokevirtual 309, 3) := by decide +kernel
theorem dX9_digest_40 : decode cX9_digest 40 = .ok (.i2l, 1) := by decide +kernel
theorem dX9_digest_41 : decode cX9_digest 41 = .ok (.ladd, 1) := by decide +kernel
theorem dX9_digest_42 : decode cX9_digest 42 = .ok (.lstore_n 1, 1) := by decide +kernel
theorem dX9_digest_43 : decode cX9_digest 43 = .ok (.iconst 0, 1) := by decide +kernel
theorem dX9_digest_44 : decode cX9_digest 44 = .ok (.istore_n 3, 1) := by decide +kernel
theorem dX9_digest_45 : decode cX9_digest 45 = .ok (.iload_n 3, 1) := by decide +kernel
theorem dX9_digest_46 : decode cX9_digest 46 = .ok (.aload_n 0, 1) := by decide +kernel
theorem dX9_digest_47 : decode cX9_digest 47 = .ok (.getfield 10, 3) := by decide +kernel
theorem dX9_digest_50 : decode cX9_digest 50 = .ok (.getfield 233, 3) := by decide +kernel
theorem dX9_digest_53 : decode cX9_digest 53 = .ok (.if_icmp .ge 111, 3) := by decide +kernel
theorem dX9_digest_56 : decode cX9_digest 56 = .ok (.iconst 0, 1) := by decide +kernel
theorem dX9_digest_57 : decode cX9_digest 57 = .ok (.istore 4, 2) := by decide +kernel
theorem dX9_digest_59 : decode cX9_digest 59 = .ok (.iload 4, 2) := by decide +kernel
theorem dX9_digest_61 : decode cX9_digest 61 = .ok (.iconst 4, 1) := by decide +kernel
theorem dX9_digest_62 : decode cX9_digest 62 = .ok (.if_icmp .gt 24, 3) := by decide +kernel
theorem dX9_digest_65 : decode cX9_digest 65 = .ok (.ldc2_w 304, 3) := by decide +kernel
theorem dX9_digest_68 : decode cX9_digest 68 = .ok (.lload_n 1, 1) := by decide +kernel
theorem dX9_digest_69 : decode cX9_digest 69 = .ok (.lmul, 1) := by decide +kernel
theorem dX9_digest_70 : decode cX9_digest 70 = .ok (.aload_n 0, 1) := by decide +kernel
theorem dX9_digest_71 : decode cX9_digest 71 = .ok (.iload_n 3, 1) := by decide +kernel
theorem dX9_digest_72 : decode cX9_digest 72 = .ok (.iload 4, 2) := by decide +kernel
theorem dX9_digest_74 : decode cX9_digest 74 = .ok (.invokevirtual 312, 3) := by decide +kernel
theorem dX9_digest_77 : decode cX9_digest 77 = .ok (.i2l, 1) := by decide +kernel
theorem dX9_digest_78 : decode cX9_digest 78 = .ok (.ladd, 1) := by decide +kernel
theorem dX9_digest_79 : decode cX9_digest 79 = .ok (.lstore_n 1, 1) := by decide +kernel
theorem dX9_digest_80 : decode cX9_digest 80 = .ok (.iinc 4 1, 3) := by decide +kernel
theorem dX9_digest_83 : decode cX9_digest 83 = .ok (.goto (-24), 3) := by decide +kernel
theorem dX9_digest_86 : decode cX9_digest 86 = .ok (.ldc2_w 304, 3) := by decide +kernel
theorem dX9_digest_89 : decode cX9_digest 89 = .ok (.lload_n 1, 1) := by decide +kernel
theorem dX9_digest_90 : decode cX9_digest 90 = .ok (.lmul, 1) := by decide +kernel
theorem dX9_digest_91 : decode cX9_digest 91 = .ok (.aload_n 0, 1) := by decide +kernel
theorem dX9_digest_92 : decode cX9_digest 92 = .ok (.iload_n 3, 1) := by decide +kernel
theorem dX9_digest_93 : decode cX9_digest 93 = .ok (.iconst 0, 1) := by decide +kernel
theorem dX9_digest_94 : decode cX9_digest 94 = .ok (.invokevirtual 315, 3) := by decide +kernel
theorem dX9_digest_97 : decode cX9_digest 97 = .ok (.i2l, 1) := by decide +kernel
theorem dX9_digest_98 : decode cX9_digest 98 = .ok (.ladd, 1) := by decide +kernel
theorem dX9_digest_99 : decode cX9_digest 99 = .ok (.lstore_n 1, 1) := by decide +kernel
theorem dX9_digest_100 : decode cX9_digest 100 = .ok (.ldc2_w 304, 3) := by decide +kernel
theorem dX9_digest_103 : decode cX9_digest 103 = .ok (.lload_n 1, 1) := by decide +kernel
theorem dX9_digest_104 : decode cX9_digest 104 = .ok (.lmul, 1) := by decide +kernel
theorem dX9_digest_105 : decode cX9_digest 105 = .ok (.aload_n 0, 1) := by decide +kernel
theorem dX9_digest_106 : decode cX9_digest 106 = .ok (.iload_n 3, 1) := by decide +kernel
theorem dX9_digest_107 : decode cX9_digest 107 = .ok (.iconst 1, 1) := by decide +kernel
theorem dX9_digest_108 : decode cX9_digest 108 = .ok (.invokevirtual 315, 3) := by decide +kernel
theorem dX9_digest_111 : decode cX9_digest 111 = .ok (.i2l, 1) := by decide +kernel
theorem dX9_digest_112 : decode cX9_digest 112 = .ok (.ladd, 1) := by decide +kernel
theorem dX9_digest_113 : decode cX9_digest 113 = .ok (.lstore_n 1, 1) := by decide +kernel
theorem dX9_digest_114 : decode cX9_digest 114 = .ok (.ldc2_w 304, 3) := by decide +kernel
theorem dX9_digest_117 : decode cX9_digest 117 = .ok (.lload_n 1, 1) := by decide +kernel
theorem dX9_digest_118 : decode cX9_digest 118 = .ok (.lmul, 1) := by decide +kernel
theorem dX9_digest_119 : decode cX9_digest 119 = .ok (.aload_n 0, 1) := by decide +kernel
theorem dX9_digest_120 : decode cX9_digest 120 = .ok (.iload_n 3, 1) := by decide +kernel
theorem dX9_digest_121 : decode cX9_digest 121 = .ok (.bipush 100, 2) := by decide +kernel
theorem dX9_digest_123 : decode cX9_digest 123 = .ok (.invokevirtual 318, 3) := by decide +kernel
theorem dX9_digest_126 : decode cX9_digest 126 = .ok (.i2l, 1) := by decide +kernel
theorem dX9_digest_127 : decode cX9_digest 127 = .ok (.ladd, 1) := by decide +kernel
theorem dX9_digest_128 : decode cX9_digest 128 = .ok (.lstore_n 1, 1) := by decide +kernel
theorem dX9_digest_129 : decode cX9_digest 129 = .ok (.ldc2_w 304, 3) := by decide +kernel
theorem dX9_digest_132 : decode cX9_digest 132 = .ok (.lload_n 1, 1) := by decide +kernel
theorem dX9_digest_133 : decode cX9_digest 133 = .ok (.lmul, 1) := by decide +kernel
theorem dX9_digest_134 : decode cX9_digest 134 = .ok (.aload_n 0, 1) := by decide +kernel
theorem dX9_digest_135 : decode cX9_digest 135 = .ok (.iload_n 3, 1) := by decide +kernel
theorem dX9_digest_136 : decode cX9_digest 136 = .ok (.sipush 400, 3) := by decide +kernel
theorem dX9_digest_139 : decode cX9_digest 139 = .ok (.invokevirtual 321, 3) := by decide +kernel
theorem dX9_digest_142 : decode cX9_digest 142 = .ok (.i2l, 1) := by decide +kernel
theorem dX9_digest_143 : decode cX9_digest 143 = .ok (.ladd, 1) := by decide +kernel
theorem dX9_digest_144 : decode cX9_digest 144 = .ok (.lstore_n 1, 1) := by decide +kernel
theorem dX9_digest_145 : decode cX9_digest 145 = .ok (.ldc2_w 304, 3) := by decide +kernel
theorem dX9_digest_148 : decode cX9_digest 148 = .ok (.lload_n 1, 1) := by decide +kernel
theorem dX9_digest_149 : decode cX9_digest 149 = .ok (.lmul, 1) := by decide +kernel
theorem dX9_digest_150 : decode cX9_digest 150 = .ok (.aload_n 0, 1) := by decide +kernel
theorem dX9_digest_151 : decode cX9_digest 151 = .ok (.iload_n 3, 1) := by decide +kernel
theorem dX9_digest_152 : decode cX9_digest 152 = .ok (.invokevirtual 324, 3) := by decide +kernel
theorem dX9_digest_155 : decode cX9_digest 155 = .ok (.i2l, 1) := by decide +kernel
theorem dX9_digest_156 : decode cX9_digest 156 = .ok (.ladd, 1) := by decide +kernel
theorem dX9_digest_157 : decode cX9_digest 157 = .ok (.lstore_n 1, 1) := by decide +kernel
theorem dX9_digest_158 : decode cX9_digest 158 = .ok (.iinc 3 1, 3) := by decide +kernel
theorem dX9_digest_161 : decode cX9_digest 161 = .ok (.goto (-116), 3) := by decide +kernel
theorem dX9_digest_164 : decode cX9_digest 164 = .ok (.ldc2_w 304, 3) := by decide +kernel
theorem dX9_digest_167 : decode cX9_digest 167 = .ok (.lload_n 1, 1) := by decide +kernel
theorem dX9_digest_168 : decode cX9_digest 168 = .ok (.lmul, 1) := by decide +kernel
theorem dX9_digest_169 : decode cX9_digest 169 = .ok (.aload_n 0, 1) := by decide +kernel
theorem dX9_digest_170 : decode cX9_digest 170 = .ok (.invokevirtual 327, 3) := by decide +kernel
theorem dX9_digest_173 : decode cX9_digest 173 = .ok (.i2l, 1) := by decide +kernel
theorem dX9_digest_174 : decode cX9_digest 174 = .ok (.ladd, 1) := by decide +kernel
theorem dX9_digest_175 : decode cX9_digest 175 = .ok (.lstore_n 1, 1) := by decide +kernel
theorem dX9_digest_176 : decode cX9_digest 176 = .ok (.ldc2_w 304, 3) := by decide +kernel
theorem dX9_digest_179 : decode cX9_digest 179 = .ok (.lload_n 1, 1) := by decide +kernel
theorem dX9_digest_180 : decode cX9_digest 180 = .ok (.lmul, 1) := by decide +kernel
theorem dX9_digest_181 : decode cX9_digest 181 = .ok (.aload_n 0, 1) := by decide +kernel
theorem dX9_digest_182 : decode cX9_digest 182 = .ok (.invokevirtual 330, 3) := by decide +kernel
theorem dX9_digest_185 : decode cX9_digest 185 = .ok (.i2l, 1) := by decide +kernel
theorem dX9_digest_186 : decode cX9_digest 186 = .ok (.ladd, 1) := by decide +kernel
theorem dX9_digest_187 : decode cX9_digest 187 = .ok (.lstore_n 1, 1) := by decide +kernel
theorem dX9_digest_188 : decode cX9_digest 188 = .ok (.ldc2_w 304, 3) := by decide +kernel
theorem dX9_digest_191 : decode cX9_digest 191 = .ok (.lload_n 1, 1) := by decide +kernel
theorem dX9_digest_192 : decode cX9_digest 192 = .ok (.lmul, 1) := by decide +kernel
theorem dX9_digest_193 : decode cX9_digest 193 = .ok (.aload_n 0, 1) := by decide +kernel
theorem dX9_digest_194 : decode cX9_digest 194 = .ok (.invokevirtual 333, 3) := by decide +kernel
theorem dX9_digest_197 : decode cX9_digest 197 = .ok (.i2l, 1) := by decide +kernel
theorem dX9_digest_198 : decode cX9_digest 198 = .ok (.ladd, 1) := by decide +kernel
theorem dX9_digest_199 : decode cX9_digest 199 = .ok (.lstore_n 1, 1) := by decide +kernel
theorem dX9_digest_200 : decode cX9_digest 200 = .ok (.iconst 0, 1) := by decide +kernel
theorem dX9_digest_201 : decode cX9_digest 201 = .ok (.istore_n 3, 1) := by decide +kernel
theorem dX9_digest_202 : decode cX9_digest 202 = .ok (.iload_n 3, 1) := by decide +kernel
theorem dX9_digest_203 : decode cX9_digest 203 = .ok (.iconst 2, 1) := by decide +kernel
theorem dX9_digest_204 : decode cX9_digest 204 = .ok (.if_icmp .gt 22, 3) := by decide +kernel
theorem dX9_digest_207 : decode cX9_digest 207 = .ok (.ldc2_w 304, 3) := by decide +kernel
theorem dX9_digest_210 : decode cX9_digest 210 = .ok (.lload_n 1, 1) := by decide +kernel
theorem dX9_digest_211 : decode cX9_digest 211 = .ok (.lmul, 1) := by decide +kernel
theorem dX9_digest_212 : decode cX9_digest 212 = .ok (.aload_n 0, 1) := by decide +kernel
theorem dX9_digest_213 : decode cX9_digest 213 = .ok (.iload_n 3, 1) := by decide +kernel
theorem dX9_digest_214 : decode cX9_digest 214 = .ok (.invokevirtual 336, 3) := by decide +kernel
theorem dX9_digest_217 : decode cX9_digest 217 = .ok (.i2l, 1) := by decide +kernel
theorem dX9_digest_218 : decode cX9_digest 218 = .ok (.ladd, 1) := by decide +kernel
theorem dX9_digest_219 : decode cX9_digest 219 = .ok (.lstore_n 1, 1) := by decide +kernel
theorem dX9_digest_220 : decode cX9_digest 220 = .ok (.iinc 3 1, 3) := by decide +kernel
theorem dX9_digest_223 : decode cX9_digest 223 = .ok (.goto (-21), 3) := by decide +kernel
theorem dX9_digest_226 : decode cX9_digest 226 = .ok (.ldc2_w 304, 3) := by decide +kernel
theorem dX9_digest_229 : decode cX9_digest 229 = .ok (.lload_n 1, 1) := by decide +kernel
theorem dX9_digest_230 : decode cX9_digest 230 = .ok (.lmul, 1) := by decide +kernel
theorem dX9_digest_231 : decode cX9_digest 231 = .ok (.aload_n 0, 1) := by decide +kernel
theorem dX9_digest_232 : decode cX9_digest 232 = .ok (.bipush 50, 2) := by decide +kernel
theorem dX9_digest_234 : decode cX9_digest 234 = .ok (.invokevirtual 339, 3) := by decide +kernel
theorem dX9_digest_237 : decode cX9_digest 237 = .ok (.i2l, 1) := by decide +kernel
theorem dX9_digest_238 : decode cX9_digest 238 = .ok (.ladd, 1) := by decide +kernel
theorem dX9_digest_239 : decode cX9_digest 239 = .ok (.lstore_n 1, 1) := by decide +kernel
theorem dX9_digest_240 : decode cX9_digest 240 = .ok (.ldc2_w 304, 3) := by decide +kernel
theorem dX9_digest_243 : decode cX9_digest 243 = .ok (.lload_n 1, 1) := by decide +kernel
theorem dX9_digest_244 : decode cX9_digest 244 = .ok (.lmul, 1) := by decide +kernel
theorem dX9_digest_245 : decode cX9_digest 245 = .ok (.aload_n 0, 1) := by decide +kernel
theorem dX9_digest_246 : decode cX9_digest 246 = .ok (.iconst 1, 1) := by decide +kernel
theorem dX9_digest_247 : decode cX9_digest 247 = .ok (.iconst (-1), 1) := by decide +kernel
theorem dX9_digest_248 : decode cX9_digest 248 = .ok (.invokevirtual 342, 3) := by decide +kernel
theorem dX9_digest_251 : decode cX9_digest 251 = .ok (.i2l, 1) := by decide +kernel
theorem dX9_digest_252 : decode cX9_digest 252 = .ok (.ladd, 1) := by decide +kernel
theorem dX9_digest_253 : decode cX9_digest 253 = .ok (.lstore_n 1, 1) := by decide +kernel
theorem dX9_digest_254 : decode cX9_digest 254 = .ok (.ldc2_w 304, 3) := by decide +kernel
theorem dX9_digest_257 : decode cX9_digest 257 = .ok (.lload_n 1, 1) := by decide +kernel
theorem dX9_digest_258 : decode cX9_digest 258 = .ok (.lmul, 1) := by decide +kernel
theorem dX9_digest_259 : decode cX9_digest 259 = .ok (.aload_n 0, 1) := by decide +kernel
theorem dX9_digest_260 : decode cX9_digest 260 = .ok (.bipush 20, 2) := by decide +kernel
theorem dX9_digest_262 : decode cX9_digest 262 = .ok (.invokevirtual 345, 3) := by decide +kernel
theorem dX9_digest_265 : decode cX9_digest 265 = .ok (.i2l, 1) := by decide +kernel
theorem dX9_digest_266 : decode cX9_digest 266 = .ok (.ladd, 1) := by decide +kernel
theorem dX9_digest_267 : decode cX9_digest 267 = .ok (.lstore_n 1, 1) := by decide +kernel
theorem dX9_digest_268 : decode cX9_digest 268 = .ok (.ldc2_w 304, 3) := by decide +kernel
theorem dX9_digest_271 : decode cX9_digest 271 = .ok (.lload_n 1, 1) := by decide +kernel
theorem dX9_digest_272 : decode cX9_digest 272 = .ok (.lmul, 1) := by decide +kernel
theorem dX9_digest_273 : decode cX9_digest 273 = .ok (.aload_n 0, 1) := by decide +kernel
theorem dX9_digest_274 : decode cX9_digest 274 = .ok (.invokevirtual 348, 3) := by decide +kernel
theorem dX9_digest_277 : decode cX9_digest 277 = .ok (.i2l, 1) := by decide +kernel
theorem dX9_digest_278 : decode cX9_digest 278 = .ok (.ladd, 1) := by decide +kernel
theorem dX9_digest_279 : decode cX9_digest 279 = .ok (.lstore_n 1, 1) := by decide +kernel
theorem dX9_digest_280 : decode cX9_digest 280 = .ok (.ldc2_w 304, 3) := by decide +kernel
theorem dX9_digest_283 : decode cX9_digest 283 = .ok (.lload_n 1, 1) := by decide +kernel
theorem dX9_digest_284 : decode cX9_digest 284 = .ok (.lmul, 1) := by decide +kernel
theorem dX9_digest_285 : decode cX9_digest 285 = .ok (.aload_n 0, 1) := by decide +kernel
theorem dX9_digest_286 : decode cX9_digest 286 = .ok (.iconst 0, 1) := by decide +kernel
theorem dX9_digest_287 : decode cX9_digest 287 = .ok (.invokevirtual 351, 3) := by decide +kernel
theorem dX9_digest_290 : decode cX9_digest 290 = .ok (.i2l, 1) := by decide +kernel
theorem dX9_digest_291 : decode cX9_digest 291 = .ok (.ladd, 1) := by decide +kernel
theorem dX9_digest_292 : decode cX9_digest 292 = .ok (.lstore_n 1, 1) := by decide +kernel
theorem dX9_digest_293 : decode cX9_digest 293 = .ok (.ldc2_w 304, 3) := by decide +kernel
theorem dX9_digest_296 : decode cX9_digest 296 = .ok (.lload_n 1, 1) := by decide +kernel
theorem dX9_digest_297 : decode cX9_digest 297 = .ok (.lmul, 1) := by decide +kernel
theorem dX9_digest_298 : decode cX9_digest 298 = .ok (.aload_n 0, 1) := by decide +kernel
theorem dX9_digest_299 : decode cX9_digest 299 = .ok (.iconst 1, 1) := by decide +kernel
theorem dX9_digest_300 : decode cX9_digest 300 = .ok (.invokevirtual 351, 3) := by decide +kernel
theorem dX9_digest_303 : decode cX9_digest 303 = .ok (.i2l, 1) := by decide +kernel
theorem dX9_digest_304 : decode cX9_digest 304 = .ok (.ladd, 1) := by decide +kernel
theorem dX9_digest_305 : decode cX9_digest 305 = .ok (.lstore_n 1, 1) := by decide +kernel
theorem dX9_digest_306 : decode cX9_digest 306 = .ok (.iconst 0, 1) := by decide +kernel
theorem dX9_digest_307 : decode cX9_digest 307 = .ok (.istore_n 3, 1) := by decide +kernel
theorem dX9_digest_308 : decode cX9_digest 308 = .ok (.iload_n 3, 1) := by decide +kernel
theorem dX9_digest_309 : decode cX9_digest 309 = .ok (.iconst 2, 1) := by decide +kernel
theorem dX9_digest_310 : decode cX9_digest 310 = .ok (.if_icmp .gt 22, 3) := by decide +kernel
theorem dX9_digest_313 : decode cX9_digest 313 = .ok (.ldc2_w 304, 3) := by decide +kernel
theorem dX9_digest_316 : decode cX9_digest 316 = .ok (.lload_n 1, 1) := by decide +kernel
theorem dX9_digest_317 : decode cX9_digest 317 = .ok (.lmul, 1) := by decide +kernel
theorem dX9_digest_318 : decode cX9_digest 318 = .ok (.aload_n 0, 1) := by decide +kernel
theorem dX9_digest_319 : decode cX9_digest 319 = .ok (.iload_n 3, 1) := by decide +kernel
theorem dX9_digest_320 : decode cX9_digest 320 = .ok (.invokevirtual 354, 3) := by decide +kernel
theorem dX9_digest_323 : decode cX9_digest 323 = .ok (.i2l, 1) := by decide +kernel
theorem dX9_digest_324 : decode cX9_digest 324 = .ok (.ladd, 1) := by decide +kernel
theorem dX9_digest_325 : decode cX9_digest 325 = .ok (.lstore_n 1, 1) := by decide +kernel
theorem dX9_digest_326 : decode cX9_digest 326 = .ok (.iinc 3 1, 3) := by decide +kernel
theorem dX9_digest_329 : decode cX9_digest 329 = .ok (.goto (-21), 3) := by decide +kernel
theorem dX9_digest_332 : decode cX9_digest 332 = .ok (.lload_n 1, 1) := by decide +kernel
theorem dX9_digest_333 : decode cX9_digest 333 = .ok (.lreturn, 1) := by decide +kernel
theorem dX9_isPerson_0 : decode cX9_isPerson 0 = .ok (.iload_n 1, 1) := by decide +kernel
theorem dX9_isPerson_1 : decode cX9_isPerson 1 = .ok (.ifCond .lt 18, 3) := by decide +kernel
theorem dX9_isPerson_4 : decode cX9_isPerson 4 = .ok (.iload_n 1, 1) := by decide +kernel
theorem dX9_isPerson_5 : decode cX9_isPerson 5 = .ok (.aload_n 0, 1) := by decide +kernel
theorem dX9_isPerson_6 : decode cX9_isPerson 6 = .ok (.getfield 10, 3) := by decide +kernel
theorem dX9_isPerson_9 : decode cX9_isPerson 9 = .ok (.getfield 233, 3) := by decide +kernel
theorem dX9_isPerson_12 : decode cX9_isPerson 12 = .ok (.if_icmp .ge 7, 3) := by decide +kernel
theorem dX9_isPerson_15 : decode cX9_isPerson 15 = .ok (.iconst 1, 1) := by decide +kernel
theorem dX9_isPerson_16 : decode cX9_isPerson 16 = .ok (.goto 4, 3) := by decide +kernel
theorem dX9_isPerson_19 : decode cX9_isPerson 19 = .ok (.iconst 0, 1) := by decide +kernel
theorem dX9_isPerson_20 : decode cX9_isPerson 20 = .ok (.ireturn, 1) := by decide +kernel
theorem dX9_isTime_0 : decode cX9_isTime 0 = .ok (.iload_n 0, 1) := by decide +kernel
theorem dX9_isTime_1 : decode cX9_isTime 1 = .ok (.ifCond .lt 14, 3) := by decide +kernel
theorem dX9_isTime_4 : decode cX9_isTime 4 = .ok (.iload_n 0, 1) := by decide +kernel
theorem dX9_isTime_5 : decode cX9_isTime 5 = .ok (.sipush 400, 3) := by decide +kernel
theorem dX9_isTime_8 : decode cX9_isTime 8 = .ok (.if_icmp .gt 7, 3) := by decide +kernel
theorem dX9_isTime_11 : decode cX9_isTime 11 = .ok (.iconst 1, 1) := by decide +kernel
theorem dX9_isTime_12 : decode cX9_isTime 12 = .ok (.goto 4, 3) := by decide +kernel
theorem dX9_isTime_15 : decode cX9_isTime 15 = .ok (.iconst 0, 1) := by decide +kernel
theorem dX9_isTime_16 : decode cX9_isTime 16 = .ok (.ireturn, 1) := by decide +kernel
theorem dX9_areLimits_0 : decode cX9_areLimits 0 = .ok (.iload_n 0, 1) := by decide +kernel
theorem dX9_areLimits_1 : decode cX9_areLimits 1 = .ok (.iconst 1, 1) := by decide +kernel
theorem dX9_areLimits_2 : decode cX9_areLimits 2 = .ok (.if_icmp .lt 28, 3) := by decide +kernel
theorem dX9_areLimits_5 : decode cX9_areLimits 5 = .ok (.iload_n 0, 1) := by decide +kernel
theorem dX9_areLimits_6 : decode cX9_areLimits 6 = .ok (.iload_n 1, 1) := by decide +kernel
theorem dX9_areLimits_7 : decode cX9_areLimits 7 = .ok (.if_icmp .gt 23, 3) := by decide +kernel
theorem dX9_areLimits_10 : decode cX9_areLimits 10 = .ok (.iload_n 1, 1) := by decide +kernel
theorem dX9_areLimits_11 : decode cX9_areLimits 11 = .ok (.bipush 9, 2) := by decide +kernel
theorem dX9_areLimits_13 : decode cX9_areLimits 13 = .ok (.if_icmp .gt 17, 3) := by decide +kernel
theorem dX9_areLimits_16 : decode cX9_areLimits 16 = .ok (.iload_n 2, 1) := by decide +kernel
theorem dX9_areLimits_17 : decode cX9_areLimits 17 = .ok (.ifCond .lt 13, 3) := by decide +kernel
theorem dX9_areLimits_20 : decode cX9_areLimits 20 = .ok (.iload_n 2, 1) := by decide +kernel
theorem dX9_areLimits_21 : decode cX9_areLimits 21 = .ok (.bipush 20, 2) := by decide +kernel
theorem dX9_areLimits_23 : decode cX9_areLimits 23 = .ok (.if_icmp .gt 7, 3) := by decide +kernel
theorem dX9_areLimits_26 : decode cX9_areLimits 26 = .ok (.iconst 1, 1) := by decide +kernel
theorem dX9_areLimits_27 : decode cX9_areLimits 27 = .ok (.goto 4, 3) := by decide +kernel
theorem dX9_areLimits_30 : decode cX9_areLimits 30 = .ok (.iconst 0, 1) := by decide +kernel
theorem dX9_areLimits_31 : decode cX9_areLimits 31 = .ok (.ireturn, 1) := by decide +kernel
theorem dX9_rowChanged_0 : decode cX9_rowChanged 0 = .ok (.aload_n 0, 1) := by decide +kernel
theorem dX9_rowChanged_1 : decode cX9_rowChanged 1 = .ok (.getfield 33, 3) := by decide +kernel
theorem dX9_rowChanged_4 : decode cX9_rowChanged 4 = .ok (.iconst 0, 1) := by decide +kernel
theorem dX9_rowChanged_5 : decode cX9_rowChanged 5 = .ok (.putfield 357, 3) := by decide +kernel
theorem dX9_rowChanged_8 : decode cX9_rowChanged 8 = .ok (.aload_n 0, 1) := by decide +kernel
theorem dX9_rowChanged_9 : decode cX9_rowChanged 9 = .ok (.invokevirtual 121, 3) := by decide +kernel
theorem dX9_rowChanged_12 : decode cX9_rowChanged 12 = .ok (.return_, 1) := by decide +kernel
theorem dX9_squeezeChanged_0 : decode cX9_squeezeChanged 0 = .ok (.aload_n 0, 1) := by decide +kernel
theorem dX9_squeezeChanged_1 : decode cX9_squeezeChanged 1 = .ok (.iconst 0, 1) := by decide +kernel
theorem dX9_squeezeChanged_2 : decode cX9_squeezeChanged 2 = .ok (.putfield 82, 3) := by decide +kernel
theorem dX9_squeezeChanged_5 : decode cX9_squeezeChanged 5 = .ok (.aload_n 0, 1) := by decide +kernel
theorem dX9_squeezeChanged_6 : decode cX9_squeezeChanged 6 = .ok (.getfield 40, 3) := by decide +kernel
theorem dX9_squeezeChanged_9 : decode cX9_squeezeChanged 9 = .ok (.iconst 0, 1) := by decide +kernel
theorem dX9_squeezeChanged_10 : decode cX9_squeezeChanged 10 = .ok (.putfield 360, 3) := by decide +kernel
theorem dX9_squeezeChanged_13 : decode cX9_squeezeChanged 13 = .ok (.return_, 1) := by decide +kernel
theorem dX9_asTold_0 : decode cX9_asTold 0 = .ok (.aload_n 0, 1) := by decide +kernel
theorem dX9_asTold_1 : decode cX9_asTold 1 = .ok (.getfield 82, 3) := by decide +kernel
theorem dX9_asTold_4 : decode cX9_asTold 4 = .ok (.ifCond .ne 28, 3) := by decide +kernel
theorem dX9_asTold_7 : decode cX9_asTold 7 = .ok (.aload_n 0, 1) := by decide +kernel
theorem dX9_asTold_8 : decode cX9_asTold 8 = .ok (.getfield 24, 3) := by decide +kernel
theorem dX9_asTold_11 : decode cX9_asTold 11 = .ok (.aload_n 0, 1) := by decide +kernel
theorem dX9_asTold_12 : decode cX9_asTold 12 = .ok (.getfield 72, 3) := by decide +kernel
theorem dX9_asTold_15 : decode cX9_asTold 15 = .ok (.aload_n 0, 1) := by decide +kernel
theorem dX9_asTold_16 : decode cX9_asTold 16 = .ok (.getfield 76, 3) := by decide +kernel
theorem dX9_asTold_19 : decode cX9_asTold 19 = .ok (.aload_n 0, 1) := by decide +kernel
theorem dX9_asTold_20 : decode cX9_asTold 20 = .ok (.getfield 79, 3) := by decide +kernel
theorem dX9_asTold_23 : decode cX9_asTold 23 = .ok (.iconst (-1), 1) := by decide +kernel
theorem dX9_asTold_24 : decode cX9_asTold 24 = .ok (.invokevirtual 361, 3) := by decide +kernel
theorem dX9_asTold_27 : decode cX9_asTold 27 = .ok (.aload_n 0, 1) := by decide +kernel
theorem dX9_asTold_28 : decode cX9_asTold 28 = .ok (.iconst 1, 1) := by decide +kernel
theorem dX9_asTold_29 : decode cX9_asTold 29 = .ok (.putfield 82, 3) := by decide +kernel
theorem dX9_asTold_32 : decode cX9_asTold 32 = .ok (.aload_n 0, 1) := by decide +kernel
theorem dX9_asTold_33 : decode cX9_asTold 33 = .ok (.getfield 24, 3) := by decide +kernel
theorem dX9_asTold_36 : decode cX9_asTold 36 = .ok (.areturn, 1) := by decide +kernel
theorem dX10_init_0 : decode cX10_init 0 = .ok (.aload_n 0, 1) := by decide +kernel
theorem dX10_init_1 : decode cX10_init 1 = .ok (.invokespecial 1, 3) := by decide +kernel
theorem dX10_init_4 : decode cX10_init 4 = .ok (.aload_n 0, 1) := by decide +kernel
theorem dX10_init_5 : decode cX10_init 5 = .ok (.bipush 60, 2) := by decide +kernel
theorem dX10_init_7 : decode cX10_init 7 = .ok (.newarray .int, 2) := by decide +kernel
theorem dX10_init_9 : decode cX10_init 9 = .ok (.putfield 7, 3) := by decide +kernel
theorem dX10_init_12 : decode cX10_init 12 = .ok (.aload_n 0, 1) := by decide +kernel
theorem dX10_init_13 : decode cX10_init 13 = .ok (.bipush 20, 2) := by decide +kernel
theorem dX10_init_15 : decode cX10_init 15 = .ok (.newarray .int, 2) := by decide +kernel
theorem dX10_init_17 : decode cX10_init 17 = .ok (.putfield 13, 3) := by decide +kernel
theorem dX10_init_20 : decode cX10_init 20 = .ok (.aload_n 0, 1) := by decide +kernel
theorem dX10_init_21 : decode cX10_init 21 = .ok (.bipush 20, 2) := by decide +kernel
theorem dX10_init_23 : decode cX10_init 23 = .ok (.newarray .int, 2) := by decide +kernel
theorem dX10_init_25 : decode cX10_init 25 = .ok (.putfield 16, 3) := by decide +kernel
theorem dX10_init_28 : decode cX10_init 28 = .ok (.aload_n 0, 1) := by decide +kernel
theorem dX10_init_29 : decode cX10_init 29 = .ok (.bipush 20, 2) := by decide +kernel
theorem dX10_init_31 : decode cX10_init 31 = .ok (.newarray .int, 2) := by decide +kernel
theorem dX10_init_33 : decode cX10_init 33 = .ok (.putfield 19, 3) := by decide +kernel
theorem dX10_init_36 : decode cX10_init 36 = .ok (.aload_n 0, 1) := by decide +kernel
theorem dX10_init_37 : decode cX10_init 37 = .ok (.bipush 20, 2) := by decide +kernel
theorem dX10_init_39 : decode cX10_init 39 = .ok (.newarray .int, 2) := by decide +kernel
theorem dX10_init_41 : decode cX10_init 41 = .ok (.putfield 22, 3) := by decide +kernel
theorem dX10_init_44 : decode cX10_init 44 = .ok (.aload_n 0, 1) := by decide +kernel
theorem dX10_init_45 : decode cX10_init 45 = .ok (.bipush 20, 2) := by decide +kernel
theorem dX10_init_47 : decode cX10_init 47 = .ok (.newarray .int, 2) := by decide +kernel
theorem dX10_init_49 : decode cX10_init 49 = .ok (.putfield 25, 3) := by decide +kernel
theorem dX10_init_52 : decode cX10_init 52 = .ok (.aload_n 0, 1) := by decide +kernel
theorem dX10_init_53 : decode cX10_init 53 = .ok (.bipush 20, 2) := by decide +kernel
theorem dX10_init_55 : decode cX10_init 55 = .ok (.newarray .int, 2) := by decide +kernel
theorem dX10_init_57 : decode cX10_init 57 = .ok (.putfield 28, 3) := by decide +kernel
theorem dX10_init_60 : decode cX10_init 60 = .ok (.aload_n 0, 1) := by decide +kernel
theorem dX10_init_61 : decode cX10_init 61 = .ok (.iconst 4, 1) := by decide +kernel
theorem dX10_init_62 : decode cX10_init 62 = .ok (.newarray .int, 2) := by decide +kernel
theorem dX10_init_64 : decode cX10_init 64 = .ok (.putfield 31, 3) := by decide +kernel
theorem dX10_init_67 : decode cX10_init 67 = .ok (.aload_n 0, 1) := by decide +kernel
theorem dX10_init_68 : decode cX10_init 68 = .ok (.iconst 4, 1) := by decide +kernel
theorem dX10_init_69 : decode cX10_init 69 = .ok (.newarray .int, 2) := by decide +kernel
theorem dX10_init_71 : decode cX10_init 71 = .ok (.putfield 34, 3) := by decide +kernel
theorem dX10_init_74 : decode cX10_init 74 = .ok (.aload_n 0, 1) := by decide +kernel
theorem dX10_init_75 : decode cX10_init 75 = .ok (.iconst 4, 1) := by decide +kernel
theorem dX10_init_76 : decode cX10_init 76 = .ok (.newarray .int, 2) := by decide +kernel
theorem dX10_init_78 : decode cX10_init 78 = .ok (.putfield 37, 3) := by decide +kernel
theorem dX10_init_81 : decode cX10_init 81 = .ok (.aload_n 0, 1) := by decide +kernel
theorem dX10_init_82 : decode cX10_init 82 = .ok (.iconst 3, 1) := by decide +kernel
theorem dX10_init_83 : decode cX10_init 83 = .ok (.newarray .int, 2) := by decide +kernel
theorem dX10_init_85 : decode cX10_init 85 = .ok (.putfield 40, 3) := by decide +kernel
theorem dX10_init_88 : decode cX10_init 88 = .ok (.aload_n 0, 1) := by decide +kernel
theorem dX10_init_89 : decode cX10_init 89 = .ok (.iconst 3, 1) := by decide +kernel
theorem dX10_init_90 : decode cX10_init 90 = .ok (.newarray .int, 2) := by decide +kernel
theorem dX10_init_92 : decode cX10_init 92 = .ok (.putfield 43, 3) := by decide +kernel
theorem dX10_init_95 : decode cX10_init 95 = .ok (.aload_n 0, 1) := by decide +kernel
theorem dX10_init_96 : decode cX10_init 96 = .ok (.sipush 8020, 3) := by decide +kernel
theorem dX10_init_99 : decode cX10_init 99 = .ok (.newarray .int, 2) := by decide +kernel
theorem dX10_init_101 : decode cX10_init 101 = .ok (.putfield 46, 3) := by decide +kernel
theorem dX10_init_104 : decode cX10_init 104 = .ok (.aload_n 0, 1) := by decide +kernel
theorem dX10_init_105 : decode cX10_init 105 = .ok (.bipush 20, 2) := by decide +kernel
theorem dX10_init_107 : decode cX10_init 107 = .ok (.newarray .int, 2) := by decide +kernel
theorem dX10_init_109 : decode cX10_init 109 = .ok (.putfield 49, 3) := by decide +kernel
theorem dX10_init_112 : decode cX10_init 112 = .ok (.aload_n 0, 1) := by decide +kernel
theorem dX10_init_113 : decode cX10_init 113 = .ok (.bipush 20, 2) := by decide +kernel
theorem dX10_init_115 : decode cX10_init 115 = .ok (.newarray .int, 2) := by decide +kernel
theorem dX10_init_117 : decode cX10_init 117 = .ok (.putfield 52, 3) := by decide +kernel
theorem dX10_init_120 : decode cX10_init 120 = .ok (.aload_n 0, 1) := by decide +kernel
theorem dX10_init_121 : decode cX10_init 121 = .ok (.sipush 8020, 3) := by decide +kernel
theorem dX10_init_124 : decode cX10_init 124 = .ok (.newarray .int, 2) := by decide +kernel
theorem dX10_init_126 : decode cX10_init 126 = .ok (.putfield 55, 3) := by decide +kernel
theorem dX10_init_129 : decode cX10_init 129 = .ok (.aload_n 0, 1) := by decide +kernel
theorem dX10_init_130 : decode cX10_init 130 = .ok (.sipush 8020, 3) := by decide +kernel
theorem dX10_init_133 : decode cX10_init 133 = .ok (.newarray .int, 2) := by decide +kernel
theorem dX10_init_135 : decode cX10_init 135 = .ok (.putfield 58, 3) := by decide +kernel
theorem dX10_init_138 : decode cX10_init 138 = .ok (.aload_n 0, 1) := by decide +kernel
theorem dX10_init_139 : decode cX10_init 139 = .ok (.bipush 20, 2) := by decide +kernel
theorem dX10_init_141 : decode cX10_init 141 = .ok (.newarray .int, 2) := by decide +kernel
theorem dX10_init_143 : decode cX10_init 143 = .ok (.putfield 61, 3) := by decide +kernel
theorem dX10_init_146 : decode cX10_init 146 = .ok (.aload_n 0, 1) := by decide +kernel
theorem dX10_init_147 : decode cX10_init 147 = .ok (.bipush 20, 2) := by decide +kernel
theorem dX10_init_149 : decode cX10_init 149 = .ok (.newarray .int, 2) := by decide +kernel
theorem dX10_init_151 : decode cX10_init 151 = .ok (.putfield 64, 3) := by decide +kernel
theorem dX10_init_154 : decode cX10_init 154 = .ok (.aload_n 0, 1) := by decide +kernel
theorem dX10_init_155 : decode cX10_init 155 = .ok (.iconst 5, 1) := by decide +kernel
theorem dX10_init_156 : decode cX10_init 156 = .ok (.newarray .int, 2) := by decide +kernel
theorem dX10_init_158 : decode cX10_init 158 = .ok (.putfield 67, 3) := by decide +kernel
theorem dX10_init_161 : decode cX10_init 161 = .ok (.aload_n 0, 1) := by decide +kernel
theorem dX10_init_162 : decode cX10_init 162 = .ok (.iconst 5, 1) := by decide +kernel
theorem dX10_init_163 : decode cX10_init 163 = .ok (.newarray .int, 2) := by decide +kernel
theorem dX10_init_165 : decode cX10_init 165 = .ok (.putfield 70, 3) := by decide +kernel
theorem dX10_init_168 : decode cX10_init 168 = .ok (.aload_n 0, 1) := by decide +kernel
theorem dX10_init_169 : decode cX10_init 169 = .ok (.bipush 12, 2) := by decide +kernel
theorem dX10_init_171 : decode cX10_init 171 = .ok (.newarray .int, 2) := by decide +kernel
theorem dX10_init_173 : decode cX10_init 173 = .ok (.putfield 73, 3) := by decide +kernel
theorem dX10_init_176 : decode cX10_init 176 = .ok (.aload_n 0, 1) := by decide +kernel
theorem dX10_init_177 : decode cX10_init 177 = .ok (.bipush 12, 2) := by decide +kernel
theorem dX10_init_179 : decode cX10_init 179 = .ok (.newarray .int, 2) := by decide +kernel
theorem dX10_init_181 : decode cX10_init 181 = .ok (.putfield 76, 3) := by decide +kernel
theorem dX10_init_184 : decode cX10_init 184 = .ok (.aload_n 0, 1) := by decide +kernel
theorem dX10_init_185 : decode cX10_init 185 = .ok (.bipush 8, 2) := by decide +kernel
theorem dX10_init_187 : decode cX10_init 187 = .ok (.newarray .int, 2) := by decide +kernel
theorem dX10_init_189 : decode cX10_init 189 = .ok (.putfield 79, 3) := by decide +kernel
theorem dX10_init_192 : decode cX10_init 192 = .ok (.aload_n 0, 1) := by decide +kernel
theorem dX10_init_193 : decode cX10_init 193 = .ok (.bipush 8, 2) := by decide +kernel
theorem dX10_init_195 : decode cX10_init 195 = .ok (.newarray .int, 2) := by decide +kernel
theorem dX10_init_197 : decode cX10_init 197 = .ok (.putfield 82, 3) := by decide +kernel
theorem dX10_init_200 : decode cX10_init 200 = .ok (.aload_n 0, 1) := by decide +kernel
theorem dX10_init_201 : decode cX10_init 201 = .ok (.bipush 100, 2) := by decide +kernel
theorem dX10_init_203 : decode cX10_init 203 = .ok (.newarray .int, 2) := by decide +kernel
theorem dX10_init_205 : decode cX10_init 205 = .ok (.putfield 85, 3) := by decide +kernel
theorem dX10_init_208 : decode cX10_init 208 = .ok (.aload_n 0, 1) := by decide +kernel
theorem dX10_init_209 : decode cX10_init 209 = .ok (.iconst 4, 1) := by decide +kernel
theorem dX10_init_210 : decode cX10_init 210 = .ok (.newarray .boolean, 2) := by decide +kernel
theorem dX10_init_212 : decode cX10_init 212 = .ok (.putfield 88, 3) := by decide +kernel
theorem dX10_init_215 : decode cX10_init 215 = .ok (.aload_n 0, 1) := by decide +kernel
theorem dX10_init_216 : decode cX10_init 216 = .ok (.iconst 4, 1) := by decide +kernel
theorem dX10_init_217 : decode cX10_init 217 = .ok (.newarray .int, 2) := by decide +kernel
theorem dX10_init_219 : decode cX10_init 219 = .ok (.putfield 92, 3) := by decide +kernel
theorem dX10_init_222 : decode cX10_init 222 = .ok (.aload_n 0, 1) := by decide +kernel
theorem dX10_init_223 : decode cX10_init 223 = .ok (.iconst 4, 1) := by decide +kernel
theorem dX10_init_224 : decode cX10_init 224 = .ok (.newarray .int, 2) := by decide +kernel
theorem dX10_init_226 : decode cX10_init 226 = .ok (.putfield 95, 3) := by decide +kernel
theorem dX10_init_229 : decode cX10_init 229 = .ok (.aload_n 0, 1) := by decide +kernel
theorem dX10_init_230 : decode cX10_init 230 = .ok (.sipush 240, 3) := by decide +kernel
theorem dX10_init_233 : decode cX10_init 233 = .ok (.newarray .int, 2) := by decide +kernel
theorem dX10_init_235 : decode cX10_init 235 = .ok (.putfield 98, 3) := by decide +kernel
theorem dX10_init_238 : decode cX10_init 238 = .ok (.aload_n 0, 1) := by decide +kernel
theorem dX10_init_239 : decode cX10_init 239 = .ok (.bipush 60, 2) := by decide +kernel
theorem dX10_init_241 : decode cX10_init 241 = .ok (.newarray .int, 2) := by decide +kernel
theorem dX10_init_243 : decode cX10_init 243 = .ok (.putfield 101, 3) := by decide +kernel
theorem dX10_init_246 : decode cX10_init 246 = .ok (.aload_n 0, 1) := by decide +kernel
theorem dX10_init_247 : decode cX10_init 247 = .ok (.getfield 40, 3) := by decide +kernel
theorem dX10_init_250 : decode cX10_init 250 = .ok (.iconst 1, 1) := by decide +kernel
theorem dX10_init_251 : decode cX10_init 251 = .ok (.iconst (-1), 1) := by decide +kernel
theorem dX10_init_252 : decode cX10_init 252 = .ok (.iastore, 1) := by decide +kernel
theorem dX10_init_253 : decode cX10_init 253 = .ok (.aload_n 0, 1) := by decide +kernel
theorem dX10_init_254 : decode cX10_init 254 = .ok (.getfield 43, 3) := by decide +kernel
theorem dX10_init_257 : decode cX10_init 257 = .ok (.iconst 0, 1) := by decide +kernel
theorem dX10_init_258 : decode cX10_init 258 = .ok (.iconst 1, 1) := by decide +kernel
theorem dX10_init_259 : decode cX10_init 259 = .ok (.iastore, 1) := by decide +kernel
theorem dX10_init_260 : decode cX10_init 260 = .ok (.aload_n 0, 1) := by decide +kernel
theorem dX10_init_261 : decode cX10_init 261 = .ok (.getfield 43, 3) := by decide +kernel
theorem dX10_init_264 : decode cX10_init 264 = .ok (.iconst 1, 1) := by decide +kernel
theorem dX10_init_265 : decode cX10_init 265 = .ok (.bipush 9, 2) := by decide +kernel
theorem dX10_init_267 : decode cX10_init 267 = .ok (.iastore, 1) := by decide +kernel
theorem dX10_init_268 : decode cX10_init 268 = .ok (.return_, 1) := by decide +kernel
theorem dX10_in_0 : decode cX10_in 0 = .ok (.iload_n 0, 1) := by decide +kernel
theorem dX10_in_1 : decode cX10_in 1 = .ok (.iload_n 1, 1) := by decide +kernel
theorem dX10_in_2 : decode cX10_in 2 = .ok (.if_icmp .lt 12, 3) := by decide +kernel
theorem dX10_in_5 : decode cX10_in 5 = .ok (.iload_n 0, 1) := by decide +kernel
theorem dX10_in_6 : decode cX10_in 6 = .ok (.iload_n 2, 1) := by decide +kernel
theorem dX10_in_7 : decode cX10_in 7 = .ok (.if_icmp .gt 7, 3) := by decide +kernel
theorem dX10_in_10 : decode cX10_in 10 = .ok (.iconst 1, 1) := by decide +kernel
theorem dX10_in_11 : decode cX10_in 11 = .ok (.goto 4, 3) := by decide +kernel
theorem dX10_in_14 : decode cX10_in 14 = .ok (.iconst 0, 1) := by decide +kernel
theorem dX10_in_15 : decode cX10_in 15 = .ok (.ireturn, 1) := by decide +kernel
theorem dX10_isIn_0 : decode cX10_isIn 0 = .ok (.iload_n 0, 1) := by decide +kernel
theorem dX10_isIn_1 : decode cX10_isIn 1 = .ok (.iload_n 1, 1) := by decide +kernel
theorem dX10_isIn_2 : decode cX10_isIn 2 = .ok (.ishr, 1) := by decide +kernel
theorem dX10_isIn_3 : decode cX10_isIn 3 = .ok (.iconst 1, 1) := by decide +kernel
theorem dX10_isIn_4 : decode cX10_isIn 4 = .ok (.iand, 1) := by decide +kernel
theorem dX10_isIn_5 : decode cX10_isIn 5 = .ok (.iconst 1, 1) := by decide +kernel
theorem dX10_isIn_6 : decode cX10_isIn 6 = .ok (.if_icmp .ne 7, 3) := by decide +kernel
theorem dX10_isIn_9 : decode cX10_isIn 9 = .ok (.iconst 1, 1) := by decide +kernel
theorem dX10_isIn_10 : decode cX10_isIn 10 = .ok (.goto 4, 3) := by decide +kernel
theorem dX10_isIn_13 : decode cX10_isIn 13 = .ok (.iconst 0, 1) := by decide +kernel
theorem dX10_isIn_14 : decode cX10_isIn 14 = .ok (.ireturn, 1) := by decide +kernel
theorem dX10_ones_0 : decode cX10_ones 0 = .ok (.iconst 0, 1) := by decide +kernel
theorem dX10_ones_1 : decode cX10_ones 1 = .ok (.istore_n 1, 1) := by decide +kernel
theorem dX10_ones_2 : decode cX10_ones 2 = .ok (.iconst 0, 1) := by decide +kernel
theorem dX10_ones_3 : decode cX10_ones 3 = .ok (.istore_n 2, 1) := by decide +kernel
theorem dX10_ones_4 : decode cX10_ones 4 = .ok (.iload_n 2, 1) := by decide +kernel
theorem dX10_ones_5 : decode cX10_ones 5 = .ok (.bipush 22, 2) := by decide +kernel
theorem dX10_ones_7 : decode cX10_ones 7 = .ok (.if_icmp .ge 17, 3) := by decide +kernel
theorem dX10_ones_10 : decode cX10_ones 10 = .ok (.iload_n 1, 1) := by decide +kernel
theorem dX10_ones_11 : decode cX10_ones 11 = .ok (.iload_n 0, 1) := by decide +kernel
theorem dX10_ones_12 : decode cX10_ones 12 = .ok (.iload_n 2, 1) := by decide +kernel
theorem dX10_ones_13 : decode cX10_ones 13 = .ok (.ishr, 1) := by decide +kernel
theorem dX10_ones_14 : decode cX10_ones 14 = .ok (.iconst 1, 1) := by decide +kernel
theorem dX10_ones_15 : decode cX10_ones 15 = .ok (.iand, 1) := by decide +kernel
theorem dX10_ones_16 : decode cX10_ones 16 = .ok (.iadd, 1) := by decide +kernel
theorem dX10_ones_17 : decode cX10_ones 17 = .ok (.istore_n 1, 1) := by decide +kernel
theorem dX10_ones_18 : decode cX10_ones 18 = .ok (.iinc 2 1, 3) := by decide +kernel
theorem dX10_ones_21 : decode cX10_ones 21 = .ok (.goto (-17), 3) := by decide +kernel
theorem dX10_ones_24 : decode cX10_ones 24 = .ok (.iload_n 1, 1) := by decide +kernel
theorem dX10_ones_25 : decode cX10_ones 25 = .ok (.ireturn, 1) := by decide +kernel
theorem dX10_type_0 : decode cX10_type 0 = .ok (.iload_n 1, 1) := by decide +kernel
theorem dX10_type_1 : decode cX10_type 1 = .ok (.iconst 0, 1) := by decide +kernel
theorem dX10_type_2 : decode cX10_type 2 = .ok (.sipush 255, 3) := by decide +kernel
theorem dX10_type_5 : decode cX10_type 5 = .ok (.invokestatic 104, 3) := by decide +kernel
theorem dX10_type_8 : decode cX10_type 8 = .ok (.ifCond .ne 6, 3) := by decide +kernel
theorem dX10_type_11 : decode cX10_type 11 = .ok (.bipush (-2), 2) := by decide +kernel
theorem dX10_type_13 : decode cX10_type 13 = .ok (.ireturn, 1) := by decide +kernel
theorem dX10_type_14 : decode cX10_type 14 = .ok (.aload_n 0, 1) := by decide +kernel
theorem dX10_type_15 : decode cX10_type 15 = .ok (.getfield 108, 3) := by decide +kernel
theorem dX10_type_18 : decode cX10_type 18 = .ok (.bipush 60, 2) := by decide +kernel
theorem dX10_type_20 : decode cX10_type 20 = .ok (.if_icmp .ne 6, 3) := by decide +kernel
theorem dX10_type_23 : decode cX10_type 23 = .ok (.bipush (-4), 2) := by decide +kernel
theorem dX10_type_25 : decode cX10_type 25 = .ok (.ireturn, 1) := by decide +kernel
theorem dX10_type_26 : decode cX10_type 26 = .ok (.aload_n 0, 1) := by decide +kernel
theorem dX10_type_27 : decode cX10_type 27 = .ok (.getfield 7, 3) := by decide +kernel
theorem dX10_type_30 : decode cX10_type 30 = .ok (.aload_n 0, 1) := by decide +kernel
theorem dX10_type_31 : decode cX10_type 31 = .ok (.getfield 108, 3) := by decide +kernel
theorem dX10_type_34 : decode cX10_type 34 = .ok (.iload_n 1, 1) := by decide +kernel
theorem dX10_type_35 : decode cX10_type 35 = .ok (.iastore, 1) := by decide +kernel
theorem dX10_type_36 : decode cX10_type 36 = .ok (.aload_n 0, 1) := by decide +kernel
theorem dX10_type_37 : decode cX10_type 37 = .ok (.dup, 1) := by decide +kernel
theorem dX10_type_38 : decode cX10_type 38 = .ok (.getfield 108, 3) := by decide +kernel
theorem dX10_type_41 : decode cX10_type 41 = .ok (.iconst 1, 1) := by decide +kernel
theorem dX10_type_42 : decode cX10_type 42 = .ok (.iadd, 1) := by decide +kernel
theorem dX10_type_43 : decode cX10_type 43 = .ok (.putfield 108, 3) := by decide +kernel
theorem dX10_type_46 : decode cX10_type 46 = .ok (.aload_n 0, 1) := by decide +kernel
theorem dX10_type_47 : decode cX10_type 47 = .ok (.getfield 108, 3) := by decide +kernel
theorem dX10_type_50 : decode cX10_type 50 = .ok (.ireturn, 1) := by decide +kernel
theorem dX10_wipe_0 : decode cX10_wipe 0 = .ok (.aload_n 0, 1) := by decide +kernel
theorem dX10_wipe_1 : decode cX10_wipe 1 = .ok (.getfield 108, 3) := by decide +kernel
theorem dX10_wipe_4 : decode cX10_wipe 4 = .ok (.istore_n 1, 1) := by decide +kernel
theorem dX10_wipe_5 : decode cX10_wipe 5 = .ok (.aload_n 0, 1) := by decide +kernel
theorem dX10_wipe_6 : decode cX10_wipe 6 = .ok (.iconst 0, 1) := by decide +kernel
theorem dX10_wipe_7 : decode cX10_wipe 7 = .ok (.putfield 108, 3) := by decide +kernel
theorem dX10_wipe_10 : decode cX10_wipe 10 = .ok (.iload_n 1, 1) := by decide +kernel
theorem dX10_wipe_11 : decode cX10_wipe 11 = .ok (.ireturn, 1) := by decide +kernel
theorem dX10_byteAt_0 : decode cX10_byteAt 0 = .ok (.iload_n 1, 1) := by decide +kernel
theorem dX10_byteAt_1 : decode cX10_byteAt 1 = .ok (.aload_n 0, 1) := by decide +kernel
theorem dX10_byteAt_2 : decode cX10_byteAt 2 = .ok (.getfield 108, 3) := by decide +kernel
theorem dX10_byteAt_5 : decode cX10_byteAt 5 = .ok (.if_icmp .ge 12, 3) := by decide +kernel
theorem dX10_byteAt_8 : decode cX10_byteAt 8 = .ok (.aload_n 0, 1) := by decide +kernel
theorem dX10_byteAt_9 : decode cX10_byteAt 9 = .ok (.getfield 7, 3) := by decide +kernel
theorem dX10_byteAt_12 : decode cX10_byteAt 12 = .ok (.iload_n 1, 1) := by decide +kernel
theorem dX10_byteAt_13 : decode cX10_byteAt 13 = .ok (.iaload, 1) := by decide +kernel
theorem dX10_byteAt_14 : decode cX10_byteAt 14 = .ok (.goto 4, 3) := by decide +kernel
theorem dX10_byteAt_17 : decode cX10_byteAt 17 = .ok (.iconst (-1), 1) := by decide +kernel
theorem dX10_byteAt_18 : decode cX10_byteAt 18 = .ok (.ireturn, 1) := by decide +kernel
theorem dX10_kindOf_0 : decode cX10_kindOf 0 = .ok (.iload_n 0, 1) := by decide +kernel
theorem dX10_kindOf_1 : decode cX10_kindOf 1 = .ok (.bipush 112, 2) := by decide +kernel
theorem dX10_kindOf_3 : decode cX10_kindOf 3 = .ok (.if_icmp .ne 7, 3) := by decide +kernel
theorem dX10_kindOf_6 : decode cX10_kindOf 6 = .ok (.iconst 0, 1) := by decide +kernel
theorem dX10_kindOf_7 : decode cX10_kindOf 7 = .ok (.goto 34, 3) := by decide +kernel
theorem dX10_kindOf_10 : decode cX10_kindOf 10 = .ok (.iload_n 0, 1) := by decide +kernel
theorem dX10_kindOf_11 : decode cX10_kindOf 11 = .ok (.bipush 116, 2) := by decide +kernel
theorem dX10_kindOf_13 : decode cX10_kindOf 13 = .ok (.if_icmp .ne 7, 3) := by decide +kernel
theorem dX10_kindOf_16 : decode cX10_kindOf 16 = .ok (.iconst 1, 1) := by decide +kernel
theorem dX10_kindOf_17 : decode cX10_kindOf 17 = .ok (.goto 24, 3) := by decide +kernel
theorem dX10_kindOf_20 : decode cX10_kindOf 20 = .ok (.iload_n 0, 1) := by decide +kernel
theorem dX10_kindOf_21 : decode cX10_kindOf 21 = .ok (.bipush 99, 2) := by decide +kernel
theorem dX10_kindOf_23 : decode cX10_kindOf 23 = .ok (.if_icmp .ne 7, 3) := by decide +kernel
theorem dX10_kindOf_26 : decode cX10_kindOf 26 = .ok (.iconst 2, 1) := by decide +kernel
theorem dX10_kindOf_27 : decode cX10_kindOf 27 = .ok (.goto 14, 3) := by decide +kernel
theorem dX10_kindOf_30 : decode cX10_kindOf 30 = .ok (.iload_n 0, 1) := by decide +kernel
theorem dX10_kindOf_31 : decode cX10_kindOf 31 = .ok (.bipush 100, 2) := by decide +kernel
theorem dX10_kindOf_33 : decode cX10_kindOf 33 = .ok (.if_icmp .ne 7, 3) := by decide +kernel
theorem dX10_kindOf_36 : decode cX10_kindOf 36 = .ok (.iconst 3, 1) := by decide +kernel
theorem dX10_kindOf_37 : decode cX10_kindOf 37 = .ok (.goto 4, 3) := by decide +kernel
theorem dX10_kindOf_40 : decode cX10_kindOf 40 = .ok (.iconst (-1), 1) := by decide +kernel
theorem dX10_kindOf_41 : decode cX10_kindOf 41 = .ok (.ireturn, 1) := by decide +kernel
theorem dX10_holds_0 : decode cX10_holds 0 = .ok (.aload_n 0, 1) := by decide +kernel
theorem dX10_holds_1 : decode cX10_holds 1 = .ok (.getfield 22, 3) := by decide +kernel
theorem dX10_holds_4 : decode cX10_holds 4 = .ok (.iload_n 1, 1) := by decide +kernel
theorem dX10_holds_5 : decode cX10_holds 5 = .ok (.dup2, 1) := by decide +kernel
theorem dX10_holds_6 : decode cX10_holds 6 = .ok (.iaload, 1) := by decide +kernel
theorem dX10_holds_7 : decode cX10_holds 7 = .ok (.iconst 1, 1) := by decide +kernel
theorem dX10_holds_8 : decode cX10_holds 8 = .ok (.iload_n 2, 1) := by decide +kernel
theorem dX10_holds_9 : decode cX10_holds 9 = .ok (.ishl, 1) := by decide +kernel
theorem dX10_holds_10 : decode cX10_holds 10 = .ok (.ior, 1) := by decide +kernel
theorem dX10_holds_11 : decode cX10_holds 11 = .ok (.iastore, 1) := by decide +kernel
theorem dX10_holds_12 : decode cX10_holds 12 = .ok (.aload_n 0, 1) := by decide +kernel
theorem dX10_holds_13 : decode cX10_holds 13 = .ok (.getfield 22, 3) := by decide +kernel
theorem dX10_holds_16 : decode cX10_holds 16 = .ok (.iload_n 2, 1) := by decide +kernel
theorem dX10_holds_17 : decode cX10_holds 17 = .ok (.dup2, 1) := by decide +kernel
theorem dX10_holds_18 : decode cX10_holds 18 = .ok (.iaload, 1) := by decide +kernel
theorem dX10_holds_19 : decode cX10_holds 19 = .ok (.iconst 1, 1) := by decide +kernel
theorem dX10_holds_20 : decode cX10_holds 20 = .ok (.iload_n 1, 1) := by decide +kernel
theorem dX10_holds_21 : decode cX10_holds 21 = .ok (.ishl, 1) := by decide +kernel
theorem dX10_holds_22 : decode cX10_holds 22 = .ok (.ior, 1) := by decide +kernel
theorem dX10_holds_23 : decode cX10_holds 23 = .ok (.iastore, 1) := by decide +kernel
theorem dX10_holds_24 : decode cX10_holds 24 = .ok (.return_, 1) := by decide +kernel
theorem dX10_reads_0 : decode cX10_reads 0 = .ok (.aload_n 0, 1) := by decide +kernel
theorem dX10_reads_1 : decode cX10_reads 1 = .ok (.iconst 0, 1) := by decide +kernel
theorem dX10_reads_2 : decode cX10_reads 2 = .ok (.putfield 112, 3) := by decide +kernel
theorem dX10_reads_5 : decode cX10_reads 5 = .ok (.iconst 0, 1) := by decide +kernel
theorem dX10_reads_6 : decode cX10_reads 6 = .ok (.istore_n 1, 1) := by decide +kernel
theorem dX10_reads_7 : decode cX10_reads 7 = .ok (.aload_n 0, 1) := by decide +kernel
theorem dX10_reads_8 : decode cX10_reads 8 = .ok (.getfield 31, 3) := by decide +kernel
theorem dX10_reads_11 : decode cX10_reads 11 = .ok (.iconst 0, 1) := by decide +kernel
theorem dX10_reads_12 : decode cX10_reads 12 = .ok (.iconst (-1), 1) := by decide +kernel
theorem dX10_reads_13 : decode cX10_reads 13 = .ok (.iastore, 1) := by decide +kernel
theorem dX10_reads_14 : decode cX10_reads 14 = .ok (.aload_n 0, 1) := by decide +kernel
theorem dX10_reads_15 : decode cX10_reads 15 = .ok (.getfield 34, 3) := by decide +kernel
theorem dX10_reads_18 : decode cX10_reads 18 = .ok (.iconst 0, 1) := by decide +kernel
theorem dX10_reads_19 : decode cX10_reads 19 = .ok (.iconst (-1), 1) := by decide +kernel
theorem dX10_reads_20 : decode cX10_reads 20 = .ok (.iastore, 1) := by decide +kernel
theorem dX10_reads_21 : decode cX10_reads 21 = .ok (.aload_n 0, 1) := by decide +kernel
theorem dX10_reads_22 : decode cX10_reads 22 = .ok (.getfield 37, 3) := by decide +kernel
theorem dX10_reads_25 : decode cX10_reads 25 = .ok (.iconst 0, 1) := by decide +kernel
theorem dX10_reads_26 : decode cX10_reads 26 = .ok (.iconst 0, 1) := by decide +kernel
theorem dX10_reads_27 : decode cX10_reads 27 = .ok (.iastore, 1) := by decide +kernel
theorem dX10_reads_28 : decode cX10_reads 28 = .ok (.iconst 0, 1) := by decide +kernel
theorem dX10_reads_29 : decode cX10_reads 29 = .ok (.istore_n 2, 1) := by decide +kernel
theorem dX10_reads_30 : decode cX10_reads 30 = .ok (.iload_n 2, 1) := by decide +kernel
theorem dX10_reads_31 : decode cX10_reads 31 = .ok (.aload_n 0, 1) := by decide +kernel
theorem dX10_reads_32 : decode cX10_reads 32 = .ok (.getfield 108, 3) := by decide +kernel
theorem dX10_reads_35 : decode cX10_reads 35 = .ok (.if_icmp .ge 415, 3) := by decide +kernel
theorem dX10_reads_38 : decode cX10_reads 38 = .ok (.aload_n 0, 1) := by decide +kernel
theorem dX10_reads_39 : decode cX10_reads 39 = .ok (.getfield 7, 3) := by decide +kernel
theorem dX10_reads_42 : decode cX10_reads 42 = .ok (.iload_n 2, 1) := by decide +kernel
theorem dX10_reads_43 : decode cX10_reads 43 = .ok (.iaload, 1) := by decide +kernel
theorem dX10_reads_44 : decode cX10_reads 44 = .ok (.istore_n 3, 1) := by decide +kernel
theorem dX10_reads_45 : decode cX10_reads 45 = .ok (.iload_n 3, 1) := by decide +kernel
theorem dX10_reads_46 : decode cX10_reads 46 = .ok (.bipush 40, 2) := by decide +kernel
