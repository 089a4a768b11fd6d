theorem dX10_doubtBetween_51 : decode cX10_doubtBetween 51 = .ok (.istore_n 3, 1) := by decide +kernel
theorem dX10_doubtBetween_52 : decode cX10_doubtBetween 52 = .ok (.iload_n 3, 1) := by decide +kernel
theorem dX10_doubtBetween_53 : decode cX10_doubtBetween 53 = .ok (.aload_n 0, 1) := by decide +kernel
theorem dX10_doubtBetween_54 : decode cX10_doubtBetween 54 = .ok (.getfield 43, 3) := by decide +kernel
theorem dX10_doubtBetween_57 : decode cX10_doubtBetween 57 = .ok (.iconst 2, 1) := by decide +kernel
theorem dX10_doubtBetween_58 : decode cX10_doubtBetween 58 = .ok (.iaload, 1) := by decide +kernel
theorem dX10_doubtBetween_59 : decode cX10_doubtBetween 59 = .ok (.iadd, 1) := by decide +kernel
theorem dX10_doubtBetween_60 : decode cX10_doubtBetween 60 = .ok (.aload_n 0, 1) := by decide +kernel
theorem dX10_doubtBetween_61 : decode cX10_doubtBetween 61 = .ok (.getfield 43, 3) := by decide +kernel
theorem dX10_doubtBetween_64 : decode cX10_doubtBetween 64 = .ok (.iconst 0, 1) := by decide +kernel
theorem dX10_doubtBetween_65 : decode cX10_doubtBetween 65 = .ok (.iaload, 1) := by decide +kernel
theorem dX10_doubtBetween_66 : decode cX10_doubtBetween 66 = .ok (.idiv, 1) := by decide +kernel
theorem dX10_doubtBetween_67 : decode cX10_doubtBetween 67 = .ok (.iload_n 3, 1) := by decide +kernel
theorem dX10_doubtBetween_68 : decode cX10_doubtBetween 68 = .ok (.aload_n 0, 1) := by decide +kernel
theorem dX10_doubtBetween_69 : decode cX10_doubtBetween 69 = .ok (.getfield 43, 3) := by decide +kernel
theorem dX10_doubtBetween_72 : decode cX10_doubtBetween 72 = .ok (.iconst 1, 1) := by decide +kernel
theorem dX10_doubtBetween_73 : decode cX10_doubtBetween 73 = .ok (.iaload, 1) := by decide +kernel
theorem dX10_doubtBetween_74 : decode cX10_doubtBetween 74 = .ok (.aload_n 0, 1) := by decide +kernel
theorem dX10_doubtBetween_75 : decode cX10_doubtBetween 75 = .ok (.getfield 43, 3) := by decide +kernel
theorem dX10_doubtBetween_78 : decode cX10_doubtBetween 78 = .ok (.iconst 2, 1) := by decide +kernel
theorem dX10_doubtBetween_79 : decode cX10_doubtBetween 79 = .ok (.iaload, 1) := by decide +kernel
theorem dX10_doubtBetween_80 : decode cX10_doubtBetween 80 = .ok (.invokestatic 209, 3) := by decide +kernel
theorem dX10_doubtBetween_83 : decode cX10_doubtBetween 83 = .ok (.isub, 1) := by decide +kernel
theorem dX10_doubtBetween_84 : decode cX10_doubtBetween 84 = .ok (.istore 4, 2) := by decide +kernel
theorem dX10_doubtBetween_86 : decode cX10_doubtBetween 86 = .ok (.iload 4, 2) := by decide +kernel
theorem dX10_doubtBetween_88 : decode cX10_doubtBetween 88 = .ok (.ifCond .ge 7, 3) := by decide +kernel
theorem dX10_doubtBetween_91 : decode cX10_doubtBetween 91 = .ok (.iconst 0, 1) := by decide +kernel
theorem dX10_doubtBetween_92 : decode cX10_doubtBetween 92 = .ok (.goto 5, 3) := by decide +kernel
theorem dX10_doubtBetween_95 : decode cX10_doubtBetween 95 = .ok (.iload 4, 2) := by decide +kernel
theorem dX10_doubtBetween_97 : decode cX10_doubtBetween 97 = .ok (.ireturn, 1) := by decide +kernel
set_option maxRecDepth 20000 in
theorem ggX10_doubtBy_X10_doubtBetween : GoodIn wsX10_doubtBy wsX10_doubtBetween := goodIn_r _ [8, 9, 10, 11, 12, 7, 13, 14, 15, 16, 17, 18, 19, 20, 21, 22, 23, 24, 25, 26, 27, 28, 29, 30, 31, 32, 33, 34, 35, 36, 37, 38, 39, 40, 41, 42, 43, 44, 45, 46, 47, 48, 49, 50] (by decide +kernel) (by decide +kernel)
set_option maxRecDepth 20000 in
theorem gX10_doubtBy_X10_doubtBetween : GoodIn wsX10_doubtBy (wsV RX10 216 RX10 yX10_doubtBetween wsX10_doubtBetween) := goodIn_app (goodIn_of _ (by decide +kernel)) ggX10_doubtBy_X10_doubtBetween
theorem dX10_doubtBy_0 : decode cX10_doubtBy 0 = .ok (.aload_n 0, 1) := by decide +kernel
theorem dX10_doubtBy_1 : decode cX10_doubtBy 1 = .ok (.getfield 213, 3) := by decide +kernel
theorem dX10_doubtBy_4 : decode cX10_doubtBy 4 = .ok (.ifCond .eq 17, 3) := by decide +kernel
theorem dX10_doubtBy_7 : decode cX10_doubtBy 7 = .ok (.iload_n 1, 1) := by decide +kernel
theorem dX10_doubtBy_8 : decode cX10_doubtBy 8 = .ok (.ifCond .le 16, 3) := by decide +kernel
theorem dX10_doubtBy_11 : decode cX10_doubtBy 11 = .ok (.aload_n 0, 1) := by decide +kernel
theorem dX10_doubtBy_12 : decode cX10_doubtBy 12 = .ok (.getfield 213, 3) := by decide +kernel
theorem dX10_doubtBy_15 : decode cX10_doubtBy 15 = .ok (.iconst 2, 1) := by decide +kernel
theorem dX10_doubtBy_16 : decode cX10_doubtBy 16 = .ok (.isub, 1) := by decide +kernel
theorem dX10_doubtBy_17 : decode cX10_doubtBy 17 = .ok (.iload_n 1, 1) := by decide +kernel
theorem dX10_doubtBy_18 : decode cX10_doubtBy 18 = .ok (.if_icmp .ge 6, 3) := by decide +kernel
theorem dX10_doubtBy_21 : decode cX10_doubtBy 21 = .ok (.bipush (-3), 2) := by decide +kernel
theorem dX10_doubtBy_23 : decode cX10_doubtBy 23 = .ok (.ireturn, 1) := by decide +kernel
theorem dX10_doubtBy_24 : decode cX10_doubtBy 24 = .ok (.iconst 0, 1) := by decide +kernel
theorem dX10_doubtBy_25 : decode cX10_doubtBy 25 = .ok (.istore_n 2, 1) := by decide +kernel
theorem dX10_doubtBy_26 : decode cX10_doubtBy 26 = .ok (.iload_n 2, 1) := by decide +kernel
theorem dX10_doubtBy_27 : decode cX10_doubtBy 27 = .ok (.iload_n 1, 1) := by decide +kernel
theorem dX10_doubtBy_28 : decode cX10_doubtBy 28 = .ok (.if_icmp .ge 18, 3) := by decide +kernel
theorem dX10_doubtBy_31 : decode cX10_doubtBy 31 = .ok (.aload_n 0, 1) := by decide +kernel
theorem dX10_doubtBy_32 : decode cX10_doubtBy 32 = .ok (.getfield 67, 3) := by decide +kernel
theorem dX10_doubtBy_35 : decode cX10_doubtBy 35 = .ok (.iload_n 2, 1) := by decide +kernel
theorem dX10_doubtBy_36 : decode cX10_doubtBy 36 = .ok (.iload_n 2, 1) := by decide +kernel
theorem dX10_doubtBy_37 : decode cX10_doubtBy 37 = .ok (.iconst 1, 1) := by decide +kernel
theorem dX10_doubtBy_38 : decode cX10_doubtBy 38 = .ok (.iadd, 1) := by decide +kernel
theorem dX10_doubtBy_39 : decode cX10_doubtBy 39 = .ok (.iastore, 1) := by decide +kernel
theorem dX10_doubtBy_40 : decode cX10_doubtBy 40 = .ok (.iinc 2 1, 3) := by decide +kernel
theorem dX10_doubtBy_43 : decode cX10_doubtBy 43 = .ok (.goto (-17), 3) := by decide +kernel
theorem dX10_doubtBy_46 : decode cX10_doubtBy 46 = .ok (.iconst (-1), 1) := by decide +kernel
theorem dX10_doubtBy_47 : decode cX10_doubtBy 47 = .ok (.istore_n 2, 1) := by decide +kernel
theorem dX10_doubtBy_48 : decode cX10_doubtBy 48 = .ok (.iconst 1, 1) := by decide +kernel
theorem dX10_doubtBy_49 : decode cX10_doubtBy 49 = .ok (.istore_n 3, 1) := by decide +kernel
theorem dX10_doubtBy_50 : decode cX10_doubtBy 50 = .ok (.iload_n 3, 1) := by decide +kernel
theorem dX10_doubtBy_51 : decode cX10_doubtBy 51 = .ok (.ifCond .eq 213, 3) := by decide +kernel
theorem dX10_doubtBy_54 : decode cX10_doubtBy 54 = .ok (.iconst 0, 1) := by decide +kernel
theorem dX10_doubtBy_55 : decode cX10_doubtBy 55 = .ok (.istore 4, 2) := by decide +kernel
theorem dX10_doubtBy_57 : decode cX10_doubtBy 57 = .ok (.iconst 0, 1) := by decide +kernel
theorem dX10_doubtBy_58 : decode cX10_doubtBy 58 = .ok (.istore 5, 2) := by decide +kernel
theorem dX10_doubtBy_60 : decode cX10_doubtBy 60 = .ok (.iconst 0, 1) := by decide +kernel
theorem dX10_doubtBy_61 : decode cX10_doubtBy 61 = .ok (.istore 6, 2) := by decide +kernel
theorem dX10_doubtBy_63 : decode cX10_doubtBy 63 = .ok (.iload 6, 2) := by decide +kernel
theorem dX10_doubtBy_65 : decode cX10_doubtBy 65 = .ok (.iload_n 1, 1) := by decide +kernel
theorem dX10_doubtBy_66 : decode cX10_doubtBy 66 = .ok (.if_icmp .ge 36, 3) := by decide +kernel
theorem dX10_doubtBy_69 : decode cX10_doubtBy 69 = .ok (.iload 4, 2) := by decide +kernel
theorem dX10_doubtBy_71 : decode cX10_doubtBy 71 = .ok (.aload_n 0, 1) := by decide +kernel
theorem dX10_doubtBy_72 : decode cX10_doubtBy 72 = .ok (.iload 5, 2) := by decide +kernel
theorem dX10_doubtBy_74 : decode cX10_doubtBy 74 = .ok (.aload_n 0, 1) := by decide +kernel
theorem dX10_doubtBy_75 : decode cX10_doubtBy 75 = .ok (.getfield 67, 3) := by decide +kernel
theorem dX10_doubtBy_78 : decode cX10_doubtBy 78 = .ok (.iload 6, 2) := by decide +kernel
theorem dX10_doubtBy_80 : decode cX10_doubtBy 80 = .ok (.iaload, 1) := by decide +kernel
theorem dX10_doubtBy_81 : decode cX10_doubtBy 81 = .ok (.invokevirtual 216, 3) := by decide +kernel
theorem dX10_doubtBy_84 : decode cX10_doubtBy 84 = .ok (.iadd, 1) := by decide +kernel
theorem dX10_doubtBy_85 : decode cX10_doubtBy 85 = .ok (.istore 4, 2) := by decide +kernel
theorem dX10_doubtBy_87 : decode cX10_doubtBy 87 = .ok (.aload_n 0, 1) := by decide +kernel
theorem dX10_doubtBy_88 : decode cX10_doubtBy 88 = .ok (.getfield 67, 3) := by decide +kernel
theorem dX10_doubtBy_91 : decode cX10_doubtBy 91 = .ok (.iload 6, 2) := by decide +kernel
theorem dX10_doubtBy_93 : decode cX10_doubtBy 93 = .ok (.iaload, 1) := by decide +kernel
theorem dX10_doubtBy_94 : decode cX10_doubtBy 94 = .ok (.istore 5, 2) := by decide +kernel
theorem dX10_doubtBy_96 : decode cX10_doubtBy 96 = .ok (.iinc 6 1, 3) := by decide +kernel
theorem dX10_doubtBy_99 : decode cX10_doubtBy 99 = .ok (.goto (-36), 3) := by decide +kernel
theorem dX10_doubtBy_102 : decode cX10_doubtBy 102 = .ok (.iload 4, 2) := by decide +kernel
theorem dX10_doubtBy_104 : decode cX10_doubtBy 104 = .ok (.aload_n 0, 1) := by decide +kernel
theorem dX10_doubtBy_105 : decode cX10_doubtBy 105 = .ok (.iload 5, 2) := by decide +kernel
theorem dX10_doubtBy_107 : decode cX10_doubtBy 107 = .ok (.aload_n 0, 1) := by decide +kernel
theorem dX10_doubtBy_108 : decode cX10_doubtBy 108 = .ok (.getfield 213, 3) := by decide +kernel
theorem dX10_doubtBy_111 : decode cX10_doubtBy 111 = .ok (.iconst 1, 1) := by decide +kernel
theorem dX10_doubtBy_112 : decode cX10_doubtBy 112 = .ok (.isub, 1) := by decide +kernel
theorem dX10_doubtBy_113 : decode cX10_doubtBy 113 = .ok (.invokevirtual 216, 3) := by decide +kernel
theorem dX10_doubtBy_116 : decode cX10_doubtBy 116 = .ok (.iadd, 1) := by decide +kernel
theorem dX10_doubtBy_117 : decode cX10_doubtBy 117 = .ok (.istore 4, 2) := by decide +kernel
theorem dX10_doubtBy_119 : decode cX10_doubtBy 119 = .ok (.iload_n 2, 1) := by decide +kernel
theorem dX10_doubtBy_120 : decode cX10_doubtBy 120 = .ok (.iconst (-1), 1) := by decide +kernel
theorem dX10_doubtBy_121 : decode cX10_doubtBy 121 = .ok (.if_icmp .eq 9, 3) := by decide +kernel
theorem dX10_doubtBy_124 : decode cX10_doubtBy 124 = .ok (.iload 4, 2) := by decide +kernel
theorem dX10_doubtBy_126 : decode cX10_doubtBy 126 = .ok (.iload_n 2, 1) := by decide +kernel
theorem dX10_doubtBy_127 : decode cX10_doubtBy 127 = .ok (.if_icmp .ge 35, 3) := by decide +kernel
theorem dX10_doubtBy_130 : decode cX10_doubtBy 130 = .ok (.iload 4, 2) := by decide +kernel
theorem dX10_doubtBy_132 : decode cX10_doubtBy 132 = .ok (.istore_n 2, 1) := by decide +kernel
theorem dX10_doubtBy_133 : decode cX10_doubtBy 133 = .ok (.iconst 0, 1) := by decide +kernel
theorem dX10_doubtBy_134 : decode cX10_doubtBy 134 = .ok (.istore 6, 2) := by decide +kernel
theorem dX10_doubtBy_136 : decode cX10_doubtBy 136 = .ok (.iload 6, 2) := by decide +kernel
theorem dX10_doubtBy_138 : decode cX10_doubtBy 138 = .ok (.iload_n 1, 1) := by decide +kernel
theorem dX10_doubtBy_139 : decode cX10_doubtBy 139 = .ok (.if_icmp .ge 23, 3) := by decide +kernel
theorem dX10_doubtBy_142 : decode cX10_doubtBy 142 = .ok (.aload_n 0, 1) := by decide +kernel
theorem dX10_doubtBy_143 : decode cX10_doubtBy 143 = .ok (.getfield 70, 3) := by decide +kernel
theorem dX10_doubtBy_146 : decode cX10_doubtBy 146 = .ok (.iload 6, 2) := by decide +kernel
theorem dX10_doubtBy_148 : decode cX10_doubtBy 148 = .ok (.aload_n 0, 1) := by decide +kernel
theorem dX10_doubtBy_149 : decode cX10_doubtBy 149 = .ok (.getfield 67, 3) := by decide +kernel
theorem dX10_doubtBy_152 : decode cX10_doubtBy 152 = .ok (.iload 6, 2) := by decide +kernel
theorem dX10_doubtBy_154 : decode cX10_doubtBy 154 = .ok (.iaload, 1) := by decide +kernel
theorem dX10_doubtBy_155 : decode cX10_doubtBy 155 = .ok (.iastore, 1) := by decide +kernel
theorem dX10_doubtBy_156 : decode cX10_doubtBy 156 = .ok (.iinc 6 1, 3) := by decide +kernel
theorem dX10_doubtBy_159 : decode cX10_doubtBy 159 = .ok (.goto (-23), 3) := by decide +kernel
theorem dX10_doubtBy_162 : decode cX10_doubtBy 162 = .ok (.iload_n 1, 1) := by decide +kernel
theorem dX10_doubtBy_163 : decode cX10_doubtBy 163 = .ok (.iconst 1, 1) := by decide +kernel
theorem dX10_doubtBy_164 : decode cX10_doubtBy 164 = .ok (.isub, 1) := by decide +kernel
theorem dX10_doubtBy_165 : decode cX10_doubtBy 165 = .ok (.istore 6, 2) := by decide +kernel
theorem dX10_doubtBy_167 : decode cX10_doubtBy 167 = .ok (.iload 6, 2) := by decide +kernel
theorem dX10_doubtBy_169 : decode cX10_doubtBy 169 = .ok (.ifCond .lt 30, 3) := by decide +kernel
theorem dX10_doubtBy_172 : decode cX10_doubtBy 172 = .ok (.aload_n 0, 1) := by decide +kernel
theorem dX10_doubtBy_173 : decode cX10_doubtBy 173 = .ok (.getfield 67, 3) := by decide +kernel
theorem dX10_doubtBy_176 : decode cX10_doubtBy 176 = .ok (.iload 6, 2) := by decide +kernel
theorem dX10_doubtBy_178 : decode cX10_doubtBy 178 = .ok (.iaload, 1) := by decide +kernel
theorem dX10_doubtBy_179 : decode cX10_doubtBy 179 = .ok (.aload_n 0, 1) := by decide +kernel
theorem dX10_doubtBy_180 : decode cX10_doubtBy 180 = .ok (.getfield 213, 3) := by decide +kernel
theorem dX10_doubtBy_183 : decode cX10_doubtBy 183 = .ok (.iconst 1, 1) := by decide +kernel
theorem dX10_doubtBy_184 : decode cX10_doubtBy 184 = .ok (.isub, 1) := by decide +kernel
theorem dX10_doubtBy_185 : decode cX10_doubtBy 185 = .ok (.iload_n 1, 1) := by decide +kernel
theorem dX10_doubtBy_186 : decode cX10_doubtBy 186 = .ok (.isub, 1) := by decide +kernel
theorem dX10_doubtBy_187 : decode cX10_doubtBy 187 = .ok (.iload 6, 2) := by decide +kernel
theorem dX10_doubtBy_189 : decode cX10_doubtBy 189 = .ok (.iadd, 1) := by decide +kernel
theorem dX10_doubtBy_190 : decode cX10_doubtBy 190 = .ok (.if_icmp .ne 9, 3) := by decide +kernel
theorem dX10_doubtBy_193 : decode cX10_doubtBy 193 = .ok (.iinc 6 (-1), 3) := by decide +kernel
theorem dX10_doubtBy_196 : decode cX10_doubtBy 196 = .ok (.goto (-29), 3) := by decide +kernel
theorem dX10_doubtBy_199 : decode cX10_doubtBy 199 = .ok (.iload 6, 2) := by decide +kernel
theorem dX10_doubtBy_201 : decode cX10_doubtBy 201 = .ok (.ifCond .lt 7, 3) := by decide +kernel
theorem dX10_doubtBy_204 : decode cX10_doubtBy 204 = .ok (.iconst 1, 1) := by decide +kernel
theorem dX10_doubtBy_205 : decode cX10_doubtBy 205 = .ok (.goto 4, 3) := by decide +kernel
theorem dX10_doubtBy_208 : decode cX10_doubtBy 208 = .ok (.iconst 0, 1) := by decide +kernel
theorem dX10_doubtBy_209 : decode cX10_doubtBy 209 = .ok (.istore_n 3, 1) := by decide +kernel
theorem dX10_doubtBy_210 : decode cX10_doubtBy 210 = .ok (.iload_n 3, 1) := by decide +kernel
theorem dX10_doubtBy_211 : decode cX10_doubtBy 211 = .ok (.ifCond .eq 50, 3) := by decide +kernel
theorem dX10_doubtBy_214 : decode cX10_doubtBy 214 = .ok (.aload_n 0, 1) := by decide +kernel
theorem dX10_doubtBy_215 : decode cX10_doubtBy 215 = .ok (.getfield 67, 3) := by decide +kernel
theorem dX10_doubtBy_218 : decode cX10_doubtBy 218 = .ok (.iload 6, 2) := by decide +kernel
theorem dX10_doubtBy_220 : decode cX10_doubtBy 220 = .ok (.dup2, 1) := by decide +kernel
theorem dX10_doubtBy_221 : decode cX10_doubtBy 221 = .ok (.iaload, 1) := by decide +kernel
theorem dX10_doubtBy_222 : decode cX10_doubtBy 222 = .ok (.iconst 1, 1) := by decide +kernel
theorem dX10_doubtBy_223 : decode cX10_doubtBy 223 = .ok (.iadd, 1) := by decide +kernel
theorem dX10_doubtBy_224 : decode cX10_doubtBy 224 = .ok (.iastore, 1) := by decide +kernel
theorem dX10_doubtBy_225 : decode cX10_doubtBy 225 = .ok (.iload 6, 2) := by decide +kernel
theorem dX10_doubtBy_227 : decode cX10_doubtBy 227 = .ok (.iconst 1, 1) := by decide +kernel
theorem dX10_doubtBy_228 : decode cX10_doubtBy 228 = .ok (.iadd, 1) := by decide +kernel
theorem dX10_doubtBy_229 : decode cX10_doubtBy 229 = .ok (.istore 7, 2) := by decide +kernel
theorem dX10_doubtBy_231 : decode cX10_doubtBy 231 = .ok (.iload 7, 2) := by decide +kernel
theorem dX10_doubtBy_233 : decode cX10_doubtBy 233 = .ok (.iload_n 1, 1) := by decide +kernel
theorem dX10_doubtBy_234 : decode cX10_doubtBy 234 = .ok (.if_icmp .ge 27, 3) := by decide +kernel
theorem dX10_doubtBy_237 : decode cX10_doubtBy 237 = .ok (.aload_n 0, 1) := by decide +kernel
theorem dX10_doubtBy_238 : decode cX10_doubtBy 238 = .ok (.getfield 67, 3) := by decide +kernel
theorem dX10_doubtBy_241 : decode cX10_doubtBy 241 = .ok (.iload 7, 2) := by decide +kernel
theorem dX10_doubtBy_243 : decode cX10_doubtBy 243 = .ok (.aload_n 0, 1) := by decide +kernel
theorem dX10_doubtBy_244 : decode cX10_doubtBy 244 = .ok (.getfield 67, 3) := by decide +kernel
theorem dX10_doubtBy_247 : decode cX10_doubtBy 247 = .ok (.iload 7, 2) := by decide +kernel
theorem dX10_doubtBy_249 : decode cX10_doubtBy 249 = .ok (.iconst 1, 1) := by decide +kernel
theorem dX10_doubtBy_250 : decode cX10_doubtBy 250 = .ok (.isub, 1) := by decide +kernel
theorem dX10_doubtBy_251 : decode cX10_doubtBy 251 = .ok (.iaload, 1) := by decide +kernel
theorem dX10_doubtBy_252 : decode cX10_doubtBy 252 = .ok (.iconst 1, 1) := by decide +kernel
theorem dX10_doubtBy_253 : decode cX10_doubtBy 253 = .ok (.iadd, 1) := by decide +kernel
theorem dX10_doubtBy_254 : decode cX10_doubtBy 254 = .ok (.iastore, 1) := by decide +kernel
theorem dX10_doubtBy_255 : decode cX10_doubtBy 255 = .ok (.iinc 7 1, 3) := by decide +kernel
theorem dX10_doubtBy_258 : decode cX10_doubtBy 258 = .ok (.goto (-27), 3) := by decide +kernel
theorem dX10_doubtBy_261 : decode cX10_doubtBy 261 = .ok (.goto (-211), 3) := by decide +kernel
theorem dX10_doubtBy_264 : decode cX10_doubtBy 264 = .ok (.iload_n 2, 1) := by decide +kernel
theorem dX10_doubtBy_265 : decode cX10_doubtBy 265 = .ok (.ireturn, 1) := by decide +kernel
set_option maxRecDepth 20000 in
theorem ggX10_doubtOf_X10_laysPosts : GoodIn wsX10_doubtOf wsX10_laysPosts := goodIn_r _ [7, 8, 9, 10, 11, 1, 12, 13, 14, 15, 6, 16, 17, 18, 19, 20, 21, 22, 23, 24, 25, 26, 27, 28, 29, 30, 31, 32, 33, 34, 35, 36, 37, 38, 39, 40, 41, 42, 43, 44, 45, 46, 47, 48, 49, 50, 51, 52, 53, 54, 55, 56, 57, 58, 59, 60, 61, 62, 63, 64, 65, 66, 67, 68, 69, 70, 71, 72, 73, 74, 75, 76, 77, 91, 92, 93, 94, 95, 96, 97, 98, 99, 100, 101, 102, 103, 104, 105, 106, 107, 108, 109, 110, 111, 112, 113, 114, 115, 116, 117, 118, 119, 120, 121, 122, 123, 124, 125, 126, 127] (by decide +kernel) (by decide +kernel)
set_option maxRecDepth 20000 in
theorem gX10_doubtOf_X10_laysPosts : GoodIn wsX10_doubtOf (wsV RX10 219 RX10 yX10_laysPosts wsX10_laysPosts) := goodIn_app (goodIn_of _ (by decide +kernel)) ggX10_doubtOf_X10_laysPosts
set_option maxRecDepth 20000 in
theorem ggX10_doubtOf_X10_doubtBy : GoodIn wsX10_doubtOf wsX10_doubtBy := goodIn_r _ [81, 8, 82, 2, 83, 84, 85, 6, 86, 12, 87, 88, 89, 90, 91, 92, 93, 94, 95, 96, 97, 98, 99, 100, 101, 102, 103, 104, 105, 106, 107, 108, 109, 110, 111, 112, 113, 114, 115, 116, 117, 118, 119, 120, 121, 122, 123, 124, 125, 126, 127] (by decide +kernel) (by decide +kernel)
set_option maxRecDepth 20000 in
theorem gX10_doubtOf_X10_doubtBy : GoodIn wsX10_doubtOf (wsV RX10 222 RX10 yX10_doubtBy wsX10_doubtBy) := goodIn_app (goodIn_of _ (by decide +kernel)) ggX10_doubtOf_X10_doubtBy
theorem dX10_doubtOf_0 : decode cX10_doubtOf 0 = .ok (.aload_n 0, 1) := by decide +kernel
theorem dX10_doubtOf_1 : decode cX10_doubtOf 1 = .ok (.invokevirtual 219, 3) := by decide +kernel
theorem dX10_doubtOf_4 : decode cX10_doubtOf 4 = .ok (.aload_n 0, 1) := by decide +kernel
theorem dX10_doubtOf_5 : decode cX10_doubtOf 5 = .ok (.iload_n 1, 1) := by decide +kernel
theorem dX10_doubtOf_6 : decode cX10_doubtOf 6 = .ok (.invokevirtual 222, 3) := by decide +kernel
theorem dX10_doubtOf_9 : decode cX10_doubtOf 9 = .ok (.istore_n 3, 1) := by decide +kernel
theorem dX10_doubtOf_10 : decode cX10_doubtOf 10 = .ok (.iload_n 3, 1) := by decide +kernel
theorem dX10_doubtOf_11 : decode cX10_doubtOf 11 = .ok (.bipush (-3), 2) := by decide +kernel
theorem dX10_doubtOf_13 : decode cX10_doubtOf 13 = .ok (.if_icmp .eq 8, 3) := by decide +kernel
theorem dX10_doubtOf_16 : decode cX10_doubtOf 16 = .ok (.iload_n 2, 1) := by decide +kernel
theorem dX10_doubtOf_17 : decode cX10_doubtOf 17 = .ok (.iconst (-1), 1) := by decide +kernel
theorem dX10_doubtOf_18 : decode cX10_doubtOf 18 = .ok (.if_icmp .ne 7, 3) := by decide +kernel
theorem dX10_doubtOf_21 : decode cX10_doubtOf 21 = .ok (.iload_n 3, 1) := by decide +kernel
theorem dX10_doubtOf_22 : decode cX10_doubtOf 22 = .ok (.goto 14, 3) := by decide +kernel
theorem dX10_doubtOf_25 : decode cX10_doubtOf 25 = .ok (.aload_n 0, 1) := by decide +kernel
theorem dX10_doubtOf_26 : decode cX10_doubtOf 26 = .ok (.getfield 61, 3) := by decide +kernel
theorem dX10_doubtOf_29 : decode cX10_doubtOf 29 = .ok (.aload_n 0, 1) := by decide +kernel
theorem dX10_doubtOf_30 : decode cX10_doubtOf 30 = .ok (.getfield 70, 3) := by decide +kernel
theorem dX10_doubtOf_33 : decode cX10_doubtOf 33 = .ok (.iload_n 2, 1) := by decide +kernel
theorem dX10_doubtOf_34 : decode cX10_doubtOf 34 = .ok (.iaload, 1) := by decide +kernel
theorem dX10_doubtOf_35 : decode cX10_doubtOf 35 = .ok (.iaload, 1) := by decide +kernel
theorem dX10_doubtOf_36 : decode cX10_doubtOf 36 = .ok (.ireturn, 1) := by decide +kernel
set_option maxRecDepth 20000 in
theorem ggX10_doubt_X10_in : GoodIn wsX10_doubt wsX10_in := goodIn_r _ [4] (by decide +kernel) (by decide +kernel)
set_option maxRecDepth 20000 in
theorem gX10_doubt_X10_in : GoodIn wsX10_doubt (va_wsS RX10 104 yX10_in wsX10_in) := goodIn_app (goodIn_of _ (by decide +kernel)) ggX10_doubt_X10_in
set_option maxRecDepth 20000 in
theorem ggX10_doubt_X10_doubtOf : GoodIn wsX10_doubt wsX10_doubtOf := goodIn_r _ [8, 9, 10, 11, 12, 13, 3, 14, 15, 16, 17, 18, 19, 20, 21, 22, 23, 24, 25, 26, 27, 28, 29, 30, 31, 32, 33, 34, 35, 36, 37, 38, 39, 40, 41, 42, 43, 44, 45, 46, 47, 48, 49, 50, 51, 52, 53, 1, 2, 4, 54, 55, 56, 57, 58, 59, 60, 61, 62, 63, 64, 65, 66, 67, 68, 69, 70, 71, 72, 73, 74, 75, 76, 77, 78, 79, 80, 81, 82, 83, 84, 85, 86, 87, 88, 89, 90, 91, 92, 93, 94, 95, 96, 97, 98, 99, 100, 101, 102, 103, 104, 105, 106, 107, 108, 109, 110, 111, 112, 113, 114, 115, 116, 117, 118, 119, 120, 121, 122, 123, 124, 125, 126, 127, 128, 129, 130, 131] (by decide +kernel) (by decide +kernel)
set_option maxRecDepth 20000 in
theorem gX10_doubt_X10_doubtOf : GoodIn wsX10_doubt (wsV RX10 225 RX10 yX10_doubtOf wsX10_doubtOf) := goodIn_app (goodIn_of _ (by decide +kernel)) ggX10_doubt_X10_doubtOf
theorem dX10_doubt_0 : decode cX10_doubt 0 = .ok (.iload_n 1, 1) := by decide +kernel
theorem dX10_doubt_1 : decode cX10_doubt 1 = .ok (.iconst 0, 1) := by decide +kernel
theorem dX10_doubt_2 : decode cX10_doubt 2 = .ok (.iconst 5, 1) := by decide +kernel
theorem dX10_doubt_3 : decode cX10_doubt 3 = .ok (.invokestatic 104, 3) := by decide +kernel
theorem dX10_doubt_6 : decode cX10_doubt 6 = .ok (.ifCond .eq 23, 3) := by decide +kernel
theorem dX10_doubt_9 : decode cX10_doubt 9 = .ok (.iload_n 2, 1) := by decide +kernel
theorem dX10_doubt_10 : decode cX10_doubt 10 = .ok (.iconst (-1), 1) := by decide +kernel
theorem dX10_doubt_11 : decode cX10_doubt 11 = .ok (.iload_n 1, 1) := by decide +kernel
theorem dX10_doubt_12 : decode cX10_doubt 12 = .ok (.iconst 1, 1) := by decide +kernel
theorem dX10_doubt_13 : decode cX10_doubt 13 = .ok (.isub, 1) := by decide +kernel
theorem dX10_doubt_14 : decode cX10_doubt 14 = .ok (.invokestatic 104, 3) := by decide +kernel
theorem dX10_doubt_17 : decode cX10_doubt 17 = .ok (.ifCond .eq 12, 3) := by decide +kernel
theorem dX10_doubt_20 : decode cX10_doubt 20 = .ok (.aload_n 0, 1) := by decide +kernel
theorem dX10_doubt_21 : decode cX10_doubt 21 = .ok (.iload_n 1, 1) := by decide +kernel
theorem dX10_doubt_22 : decode cX10_doubt 22 = .ok (.iload_n 2, 1) := by decide +kernel
theorem dX10_doubt_23 : decode cX10_doubt 23 = .ok (.invokevirtual 225, 3) := by decide +kernel
theorem dX10_doubt_26 : decode cX10_doubt 26 = .ok (.goto 5, 3) := by decide +kernel
theorem dX10_doubt_29 : decode cX10_doubt 29 = .ok (.bipush (-2), 2) := by decide +kernel
theorem dX10_doubt_31 : decode cX10_doubt 31 = .ok (.ireturn, 1) := by decide +kernel
set_option maxRecDepth 20000 in
theorem ggX10_postsOf_X10_laysPosts : GoodIn wsX10_postsOf wsX10_laysPosts := goodIn_r _ [6, 1, 7, 8, 9, 10, 11, 12, 13, 14, 5, 15, 16, 17, 18, 19, 20, 21, 22, 23, 24, 25, 26, 27, 28, 29, 30, 31, 32, 33, 34, 35, 36, 37, 38, 39, 40, 41, 42, 43, 44, 45, 46, 47, 48, 49, 50, 51, 52, 53, 54, 55, 56, 57, 58, 59, 60, 61, 62, 63, 64, 65, 66, 67, 68, 69, 70, 71, 72, 73, 74, 75, 76, 91, 92, 93, 94, 95, 96, 97, 98, 99, 100, 101, 102, 103, 104, 105, 106, 107, 108, 109, 110, 111, 112, 113, 114, 115, 116, 117, 118, 119, 120, 121, 122, 123, 124, 125, 126, 127] (by decide +kernel) (by decide +kernel)
set_option maxRecDepth 20000 in
theorem gX10_postsOf_X10_laysPosts : GoodIn wsX10_postsOf (wsV RX10 219 RX10 yX10_laysPosts wsX10_laysPosts) := goodIn_app (goodIn_of _ (by decide +kernel)) ggX10_postsOf_X10_laysPosts
set_option maxRecDepth 20000 in
theorem ggX10_postsOf_X10_doubtBy : GoodIn wsX10_postsOf wsX10_doubtBy := goodIn_r _ [80, 1, 81, 82, 83, 84, 85, 5, 86, 11, 87, 88, 89, 90, 91, 92, 93, 94, 95, 96, 97, 98, 99, 100, 101, 102, 103, 104, 105, 106, 107, 108, 109, 110, 111, 112, 113, 114, 115, 116, 117, 118, 119, 120, 121, 122, 123, 124, 125, 126, 127] (by decide +kernel) (by decide +kernel)
set_option maxRecDepth 20000 in
theorem gX10_postsOf_X10_doubtBy : GoodIn wsX10_postsOf (wsV RX10 222 RX10 yX10_doubtBy wsX10_doubtBy) := goodIn_app (goodIn_of _ (by decide +kernel)) ggX10_postsOf_X10_doubtBy
theorem dX10_postsOf_0 : decode cX10_postsOf 0 = .ok (.aload_n 0, 1) := by decide +kernel
theorem dX10_postsOf_1 : decode cX10_postsOf 1 = .ok (.invokevirtual 219, 3) := by decide +kernel
theorem dX10_postsOf_4 : decode cX10_postsOf 4 = .ok (.aload_n 0, 1) := by decide +kernel
theorem dX10_postsOf_5 : decode cX10_postsOf 5 = .ok (.getfield 213, 3) := by decide +kernel
theorem dX10_postsOf_8 : decode cX10_postsOf 8 = .ok (.ifCond .ne 6, 3) := by decide +kernel
theorem dX10_postsOf_11 : decode cX10_postsOf 11 = .ok (.bipush (-3), 2) := by decide +kernel
theorem dX10_postsOf_13 : decode cX10_postsOf 13 = .ok (.ireturn, 1) := by decide +kernel
theorem dX10_postsOf_14 : decode cX10_postsOf 14 = .ok (.iconst 0, 1) := by decide +kernel
theorem dX10_postsOf_15 : decode cX10_postsOf 15 = .ok (.istore_n 2, 1) := by decide +kernel
theorem dX10_postsOf_16 : decode cX10_postsOf 16 = .ok (.iload_n 2, 1) := by decide +kernel
theorem dX10_postsOf_17 : decode cX10_postsOf 17 = .ok (.bipush 6, 2) := by decide +kernel
theorem dX10_postsOf_19 : decode cX10_postsOf 19 = .ok (.if_icmp .ge 28, 3) := by decide +kernel
theorem dX10_postsOf_22 : decode cX10_postsOf 22 = .ok (.aload_n 0, 1) := by decide +kernel
theorem dX10_postsOf_23 : decode cX10_postsOf 23 = .ok (.iload_n 2, 1) := by decide +kernel
theorem dX10_postsOf_24 : decode cX10_postsOf 24 = .ok (.invokevirtual 222, 3) := by decide +kernel
theorem dX10_postsOf_27 : decode cX10_postsOf 27 = .ok (.istore_n 3, 1) := by decide +kernel
theorem dX10_postsOf_28 : decode cX10_postsOf 28 = .ok (.iload_n 3, 1) := by decide +kernel
theorem dX10_postsOf_29 : decode cX10_postsOf 29 = .ok (.bipush (-3), 2) := by decide +kernel
theorem dX10_postsOf_31 : decode cX10_postsOf 31 = .ok (.if_icmp .eq 10, 3) := by decide +kernel
theorem dX10_postsOf_34 : decode cX10_postsOf 34 = .ok (.iload_n 3, 1) := by decide +kernel
theorem dX10_postsOf_35 : decode cX10_postsOf 35 = .ok (.iload_n 1, 1) := by decide +kernel
theorem dX10_postsOf_36 : decode cX10_postsOf 36 = .ok (.if_icmp .gt 5, 3) := by decide +kernel
theorem dX10_postsOf_39 : decode cX10_postsOf 39 = .ok (.iload_n 2, 1) := by decide +kernel
theorem dX10_postsOf_40 : decode cX10_postsOf 40 = .ok (.ireturn, 1) := by decide +kernel
theorem dX10_postsOf_41 : decode cX10_postsOf 41 = .ok (.iinc 2 1, 3) := by decide +kernel
theorem dX10_postsOf_44 : decode cX10_postsOf 44 = .ok (.goto (-28), 3) := by decide +kernel
theorem dX10_postsOf_47 : decode cX10_postsOf 47 = .ok (.iconst (-1), 1) := by decide +kernel
theorem dX10_postsOf_48 : decode cX10_postsOf 48 = .ok (.ireturn, 1) := by decide +kernel
set_option maxRecDepth 20000 in
theorem ggX10_posts_X10_in : GoodIn wsX10_posts wsX10_in := goodIn_r _ [4] (by decide +kernel) (by decide +kernel)
set_option maxRecDepth 20000 in
theorem gX10_posts_X10_in : GoodIn wsX10_posts (va_wsS RX10 104 yX10_in wsX10_in) := goodIn_app (goodIn_of _ (by decide +kernel)) ggX10_posts_X10_in
set_option maxRecDepth 20000 in
theorem ggX10_posts_X10_postsOf : GoodIn wsX10_posts wsX10_postsOf := goodIn_r _ [8, 9, 10, 11, 12, 3, 13, 14, 15, 16, 17, 18, 19, 20, 21, 22, 23, 24, 25, 26, 27, 28, 29, 30, 31, 32, 33, 34, 35, 36, 37, 38, 39, 40, 41, 42, 43, 44, 45, 46, 47, 48, 49, 50, 51, 52, 1, 2, 4, 53, 54, 55, 56, 57, 58, 59, 60, 61, 62, 63, 64, 65, 66, 67, 68, 69, 70, 71, 72, 73, 74, 75, 76, 77, 78, 79, 80, 81, 82, 83, 84, 85, 86, 87, 88, 89, 90, 91, 92, 93, 94, 95, 96, 97, 98, 99, 100, 101, 102, 103, 104, 105, 106, 107, 108, 109, 110, 111, 112, 113, 114, 115, 116, 117, 118, 119, 120, 121, 122, 123, 124, 125, 126, 127, 128, 129, 130, 131] (by decide +kernel) (by decide +kernel)
set_option maxRecDepth 20000 in
theorem gX10_posts_X10_postsOf : GoodIn wsX10_posts (wsV RX10 228 RX10 yX10_postsOf wsX10_postsOf) := goodIn_app (goodIn_of _ (by decide +kernel)) ggX10_posts_X10_postsOf
theorem dX10_posts_0 : decode cX10_posts 0 = .ok (.iload_n 1, 1) := by decide +kernel
theorem dX10_posts_1 : decode cX10_posts 1 = .ok (.iconst 0, 1) := by decide +kernel
theorem dX10_posts_2 : decode cX10_posts 2 = .ok (.sipush 9999, 3) := by decide +kernel
theorem dX10_posts_5 : decode cX10_posts 5 = .ok (.invokestatic 104, 3) := by decide +kernel
theorem dX10_posts_8 : decode cX10_posts 8 = .ok (.ifCond .eq 11, 3) := by decide +kernel
theorem dX10_posts_11 : decode cX10_posts 11 = .ok (.aload_n 0, 1) := by decide +kernel
theorem dX10_posts_12 : decode cX10_posts 12 = .ok (.iload_n 1, 1) := by decide +kernel
theorem dX10_posts_13 : decode cX10_posts 13 = .ok (.invokevirtual 228, 3) := by decide +kernel
theorem dX10_posts_16 : decode cX10_posts 16 = .ok (.goto 5, 3) := by decide +kernel
theorem dX10_posts_19 : decode cX10_posts 19 = .ok (.bipush (-2), 2) := by decide +kernel
theorem dX10_posts_21 : decode cX10_posts 21 = .ok (.ireturn, 1) := by decide +kernel
set_option maxRecDepth 20000 in
theorem ggX10_heardMore_X10_in : GoodIn wsX10_heardMore wsX10_in := goodIn_r _ [7] (by decide +kernel) (by decide +kernel)
set_option maxRecDepth 20000 in
theorem gX10_heardMore_X10_in : GoodIn wsX10_heardMore (va_wsS RX10 104 yX10_in wsX10_in) := goodIn_app (goodIn_of _ (by decide +kernel)) ggX10_heardMore_X10_in
theorem dX10_heardMore_0 : decode cX10_heardMore 0 = .ok (.iload_n 1, 1) := by decide +kernel
theorem dX10_heardMore_1 : decode cX10_heardMore 1 = .ok (.iconst 0, 1) := by decide +kernel
theorem dX10_heardMore_2 : decode cX10_heardMore 2 = .ok (.bipush 19, 2) := by decide +kernel
theorem dX10_heardMore_4 : decode cX10_heardMore 4 = .ok (.invokestatic 104, 3) := by decide +kernel
theorem dX10_heardMore_7 : decode cX10_heardMore 7 = .ok (.ifCond .eq 14, 3) := by decide +kernel
theorem dX10_heardMore_10 : decode cX10_heardMore 10 = .ok (.iload_n 2, 1) := by decide +kernel
theorem dX10_heardMore_11 : decode cX10_heardMore 11 = .ok (.iconst (-1), 1) := by decide +kernel
theorem dX10_heardMore_12 : decode cX10_heardMore 12 = .ok (.sipush 400, 3) := by decide +kernel
theorem dX10_heardMore_15 : decode cX10_heardMore 15 = .ok (.invokestatic 104, 3) := by decide +kernel
theorem dX10_heardMore_18 : decode cX10_heardMore 18 = .ok (.ifCond .ne 6, 3) := by decide +kernel
theorem dX10_heardMore_21 : decode cX10_heardMore 21 = .ok (.bipush (-2), 2) := by decide +kernel
theorem dX10_heardMore_23 : decode cX10_heardMore 23 = .ok (.ireturn, 1) := by decide +kernel
theorem dX10_heardMore_24 : decode cX10_heardMore 24 = .ok (.aload_n 0, 1) := by decide +kernel
theorem dX10_heardMore_25 : decode cX10_heardMore 25 = .ok (.getfield 231, 3) := by decide +kernel
theorem dX10_heardMore_28 : decode cX10_heardMore 28 = .ok (.bipush 12, 2) := by decide +kernel
theorem dX10_heardMore_30 : decode cX10_heardMore 30 = .ok (.if_icmp .ne 6, 3) := by decide +kernel
theorem dX10_heardMore_33 : decode cX10_heardMore 33 = .ok (.bipush (-4), 2) := by decide +kernel
theorem dX10_heardMore_35 : decode cX10_heardMore 35 = .ok (.ireturn, 1) := by decide +kernel
theorem dX10_heardMore_36 : decode cX10_heardMore 36 = .ok (.aload_n 0, 1) := by decide +kernel
theorem dX10_heardMore_37 : decode cX10_heardMore 37 = .ok (.getfield 73, 3) := by decide +kernel
theorem dX10_heardMore_40 : decode cX10_heardMore 40 = .ok (.aload_n 0, 1) := by decide +kernel
theorem dX10_heardMore_41 : decode cX10_heardMore 41 = .ok (.getfield 231, 3) := by decide +kernel
theorem dX10_heardMore_44 : decode cX10_heardMore 44 = .ok (.iload_n 1, 1) := by decide +kernel
theorem dX10_heardMore_45 : decode cX10_heardMore 45 = .ok (.iastore, 1) := by decide +kernel
theorem dX10_heardMore_46 : decode cX10_heardMore 46 = .ok (.aload_n 0, 1) := by decide +kernel
theorem dX10_heardMore_47 : decode cX10_heardMore 47 = .ok (.getfield 76, 3) := by decide +kernel
theorem dX10_heardMore_50 : decode cX10_heardMore 50 = .ok (.aload_n 0, 1) := by decide +kernel
theorem dX10_heardMore_51 : decode cX10_heardMore 51 = .ok (.getfield 231, 3) := by decide +kernel
theorem dX10_heardMore_54 : decode cX10_heardMore 54 = .ok (.iload_n 2, 1) := by decide +kernel
theorem dX10_heardMore_55 : decode cX10_heardMore 55 = .ok (.iastore, 1) := by decide +kernel
theorem dX10_heardMore_56 : decode cX10_heardMore 56 = .ok (.aload_n 0, 1) := by decide +kernel
theorem dX10_heardMore_57 : decode cX10_heardMore 57 = .ok (.dup, 1) := by decide +kernel
theorem dX10_heardMore_58 : decode cX10_heardMore 58 = .ok (.getfield 231, 3) := by decide +kernel
theorem dX10_heardMore_61 : decode cX10_heardMore 61 = .ok (.iconst 1, 1) := by decide +kernel
theorem dX10_heardMore_62 : decode cX10_heardMore 62 = .ok (.iadd, 1) := by decide +kernel
theorem dX10_heardMore_63 : decode cX10_heardMore 63 = .ok (.putfield 231, 3) := by decide +kernel
theorem dX10_heardMore_66 : decode cX10_heardMore 66 = .ok (.aload_n 0, 1) := by decide +kernel
theorem dX10_heardMore_67 : decode cX10_heardMore 67 = .ok (.getfield 231, 3) := by decide +kernel
theorem dX10_heardMore_70 : decode cX10_heardMore 70 = .ok (.ireturn, 1) := by decide +kernel
set_option maxRecDepth 20000 in
theorem ggX10_heard_X10_heardMore : GoodIn wsX10_heard wsX10_heardMore := goodIn_r _ [5, 6, 7, 8, 9, 10, 4, 11, 12, 13, 14, 15, 16, 17, 18, 19, 20, 21, 22, 23, 24, 25, 26, 27, 28, 29, 30, 31, 32, 33, 34, 35, 36, 37, 38, 39, 40, 41, 42, 43, 44, 45, 46, 47, 48] (by decide +kernel) (by decide +kernel)
set_option maxRecDepth 20000 in
theorem gX10_heard_X10_heardMore : GoodIn wsX10_heard (wsV RX10 234 RX10 yX10_heardMore wsX10_heardMore) := goodIn_app (goodIn_of _ (by decide +kernel)) ggX10_heard_X10_heardMore
theorem dX10_heard_0 : decode cX10_heard 0 = .ok (.aload_n 0, 1) := by decide +kernel
theorem dX10_heard_1 : decode cX10_heard 1 = .ok (.iload_n 1, 1) := by decide +kernel
theorem dX10_heard_2 : decode cX10_heard 2 = .ok (.iload_n 2, 1) := by decide +kernel
theorem dX10_heard_3 : decode cX10_heard 3 = .ok (.invokevirtual 234, 3) := by decide +kernel
theorem dX10_heard_6 : decode cX10_heard 6 = .ok (.ireturn, 1) := by decide +kernel
set_option maxRecDepth 20000 in
theorem ggX10_read_X10_isSheet : GoodIn wsX10_read wsX10_isSheet := goodIn_r _ [7, 8, 9, 6, 10] (by decide +kernel) (by decide +kernel)
set_option maxRecDepth 20000 in
theorem gX10_read_X10_isSheet : GoodIn wsX10_read (va_wsS RX10 237 yX10_isSheet wsX10_isSheet) := goodIn_app (goodIn_of _ (by decide +kernel)) ggX10_read_X10_isSheet
set_option maxRecDepth 20000 in
theorem ggX10_read_X10_meets : GoodIn wsX10_read wsX10_meets := goodIn_r _ [14, 15, 23, 24, 25, 26, 27, 28, 29, 30, 31, 32, 33, 34, 35, 36, 37, 38, 39, 40, 41, 42, 43, 44, 45, 46, 47, 48, 49, 50, 51, 52, 53, 54, 55, 56, 57, 58, 59] (by decide +kernel) (by decide +kernel)
set_option maxRecDepth 20000 in
theorem gX10_read_X10_meets : GoodIn wsX10_read (wsV RX10 240 RX10 yX10_meets wsX10_meets) := goodIn_app (goodIn_of _ (by decide +kernel)) ggX10_read_X10_meets
set_option maxRecDepth 20000 in
theorem ggX10_read_X10_heardMore : GoodIn wsX10_read wsX10_heardMore := goodIn_r _ [19, 20, 21, 22, 8, 9, 6, 10, 23, 24, 25, 26, 27, 28, 29, 30, 31, 32, 33, 34, 35, 36, 37, 38, 39, 40, 41, 42, 43, 44, 45, 46, 47, 48, 49, 50, 51, 52, 53, 54, 55, 56, 57, 58, 59] (by decide +kernel) (by decide +kernel)
set_option maxRecDepth 20000 in
theorem gX10_read_X10_heardMore : GoodIn wsX10_read (wsV RX10 234 RX10 yX10_heardMore wsX10_heardMore) := goodIn_app (goodIn_of _ (by decide +kernel)) ggX10_read_X10_heardMore
theorem dX10_read_0 : decode cX10_read 0 = .ok (.iload_n 1, 1) := by decide +kernel
theorem dX10_read_1 : decode cX10_read 1 = .ok (.invokestatic 237, 3) := by decide +kernel
theorem dX10_read_4 : decode cX10_read 4 = .ok (.ifCond .ne 6, 3) := by decide +kernel
theorem dX10_read_7 : decode cX10_read 7 = .ok (.bipush (-2), 2) := by decide +kernel
theorem dX10_read_9 : decode cX10_read 9 = .ok (.ireturn, 1) := by decide +kernel
theorem dX10_read_10 : decode cX10_read 10 = .ok (.aload_n 0, 1) := by decide +kernel
theorem dX10_read_11 : decode cX10_read 11 = .ok (.getfield 88, 3) := by decide +kernel
theorem dX10_read_14 : decode cX10_read 14 = .ok (.iload_n 1, 1) := by decide +kernel
theorem dX10_read_15 : decode cX10_read 15 = .ok (.baload, 1) := by decide +kernel
theorem dX10_read_16 : decode cX10_read 16 = .ok (.ifCond .ne 9, 3) := by decide +kernel
theorem dX10_read_19 : decode cX10_read 19 = .ok (.aload_n 0, 1) := by decide +kernel
theorem dX10_read_20 : decode cX10_read 20 = .ok (.iconst 1, 1) := by decide +kernel
theorem dX10_read_21 : decode cX10_read 21 = .ok (.invokevirtual 240, 3) := by decide +kernel
theorem dX10_read_24 : decode cX10_read 24 = .ok (.ireturn, 1) := by decide +kernel
theorem dX10_read_25 : decode cX10_read 25 = .ok (.iconst 0, 1) := by decide +kernel
theorem dX10_read_26 : decode cX10_read 26 = .ok (.istore_n 2, 1) := by decide +kernel
theorem dX10_read_27 : decode cX10_read 27 = .ok (.iconst 2, 1) := by decide +kernel
theorem dX10_read_28 : decode cX10_read 28 = .ok (.iload_n 2, 1) := by decide +kernel
theorem dX10_read_29 : decode cX10_read 29 = .ok (.imul, 1) := by decide +kernel
theorem dX10_read_30 : decode cX10_read 30 = .ok (.iconst 1, 1) := by decide +kernel
theorem dX10_read_31 : decode cX10_read 31 = .ok (.iadd, 1) := by decide +kernel
theorem dX10_read_32 : decode cX10_read 32 = .ok (.aload_n 0, 1) := by decide +kernel
theorem dX10_read_33 : decode cX10_read 33 = .ok (.getfield 95, 3) := by decide +kernel
theorem dX10_read_36 : decode cX10_read 36 = .ok (.iload_n 1, 1) := by decide +kernel
theorem dX10_read_37 : decode cX10_read 37 = .ok (.iaload, 1) := by decide +kernel
theorem dX10_read_38 : decode cX10_read 38 = .ok (.if_icmp .ge 44, 3) := by decide +kernel
theorem dX10_read_41 : decode cX10_read 41 = .ok (.aload_n 0, 1) := by decide +kernel
theorem dX10_read_42 : decode cX10_read 42 = .ok (.aload_n 0, 1) := by decide +kernel
theorem dX10_read_43 : decode cX10_read 43 = .ok (.getfield 98, 3) := by decide +kernel
theorem dX10_read_46 : decode cX10_read 46 = .ok (.bipush 60, 2) := by decide +kernel
theorem dX10_read_48 : decode cX10_read 48 = .ok (.iload_n 1, 1) := by decide +kernel
theorem dX10_read_49 : decode cX10_read 49 = .ok (.imul, 1) := by decide +kernel
theorem dX10_read_50 : decode cX10_read 50 = .ok (.iconst 2, 1) := by decide +kernel
theorem dX10_read_51 : decode cX10_read 51 = .ok (.iload_n 2, 1) := by decide +kernel
theorem dX10_read_52 : decode cX10_read 52 = .ok (.imul, 1) := by decide +kernel
theorem dX10_read_53 : decode cX10_read 53 = .ok (.iadd, 1) := by decide +kernel
theorem dX10_read_54 : decode cX10_read 54 = .ok (.iaload, 1) := by decide +kernel
theorem dX10_read_55 : decode cX10_read 55 = .ok (.aload_n 0, 1) := by decide +kernel
theorem dX10_read_56 : decode cX10_read 56 = .ok (.getfield 98, 3) := by decide +kernel
theorem dX10_read_59 : decode cX10_read 59 = .ok (.bipush 60, 2) := by decide +kernel
theorem dX10_read_61 : decode cX10_read 61 = .ok (.iload_n 1, 1) := by decide +kernel
theorem dX10_read_62 : decode cX10_read 62 = .ok (.imul, 1) := by decide +kernel
theorem dX10_read_63 : decode cX10_read 63 = .ok (.iconst 2, 1) := by decide +kernel
theorem dX10_read_64 : decode cX10_read 64 = .ok (.iload_n 2, 1) := by decide +kernel
theorem dX10_read_65 : decode cX10_read 65 = .ok (.imul, 1) := by decide +kernel
theorem dX10_read_66 : decode cX10_read 66 = .ok (.iadd, 1) := by decide +kernel
theorem dX10_read_67 : decode cX10_read 67 = .ok (.iconst 1, 1) := by decide +kernel
theorem dX10_read_68 : decode cX10_read 68 = .ok (.iadd, 1) := by decide +kernel
theorem dX10_read_69 : decode cX10_read 69 = .ok (.iaload, 1) := by decide +kernel
theorem dX10_read_70 : decode cX10_read 70 = .ok (.invokevirtual 234, 3) := by decide +kernel
theorem dX10_read_73 : decode cX10_read 73 = .ok (.ifCond .le 9, 3) := by decide +kernel
theorem dX10_read_76 : decode cX10_read 76 = .ok (.iinc 2 1, 3) := by decide +kernel
theorem dX10_read_79 : decode cX10_read 79 = .ok (.goto (-52), 3) := by decide +kernel
theorem dX10_read_82 : decode cX10_read 82 = .ok (.iload_n 2, 1) := by decide +kernel
theorem dX10_read_83 : decode cX10_read 83 = .ok (.ireturn, 1) := by decide +kernel
theorem dX10_forget_0 : decode cX10_forget 0 = .ok (.aload_n 0, 1) := by decide +kernel
theorem dX10_forget_1 : decode cX10_forget 1 = .ok (.getfield 231, 3) := by decide +kernel
theorem dX10_forget_4 : decode cX10_forget 4 = .ok (.istore_n 1, 1) := by decide +kernel
theorem dX10_forget_5 : decode cX10_forget 5 = .ok (.aload_n 0, 1) := by decide +kernel
theorem dX10_forget_6 : decode cX10_forget 6 = .ok (.iconst 0, 1) := by decide +kernel
theorem dX10_forget_7 : decode cX10_forget 7 = .ok (.putfield 231, 3) := by decide +kernel
theorem dX10_forget_10 : decode cX10_forget 10 = .ok (.iload_n 1, 1) := by decide +kernel
theorem dX10_forget_11 : decode cX10_forget 11 = .ok (.ireturn, 1) := by decide +kernel
set_option maxRecDepth 20000 in
theorem ggX10_unlikeBy_X10_feltBy : GoodIn wsX10_unlikeBy wsX10_feltBy := goodIn_r _ [9, 10, 11, 12, 13, 8, 14, 15, 16, 17, 18, 19, 20, 21, 22, 23, 24, 25, 26, 27, 28, 29, 30, 31, 32, 33, 34, 35, 36, 37, 38, 39, 40, 41, 42, 43, 44, 45, 46, 47, 48, 49, 50, 51] (by decide +kernel) (by decide +kernel)
set_option maxRecDepth 20000 in
theorem gX10_unlikeBy_X10_feltBy : GoodIn wsX10_unlikeBy (wsV RX10 164 RX10 yX10_feltBy wsX10_feltBy) := goodIn_app (goodIn_of _ (by decide +kernel)) ggX10_unlikeBy_X10_feltBy
theorem dX10_unlikeBy_0 : decode cX10_unlikeBy 0 = .ok (.iconst 0, 1) := by decide +kernel
theorem dX10_unlikeBy_1 : decode cX10_unlikeBy 1 = .ok (.istore_n 1, 1) := by decide +kernel
theorem dX10_unlikeBy_2 : decode cX10_unlikeBy 2 = .ok (.iconst 0, 1) := by decide +kernel
theorem dX10_unlikeBy_3 : decode cX10_unlikeBy 3 = .ok (.istore_n 2, 1) := by decide +kernel
theorem dX10_unlikeBy_4 : decode cX10_unlikeBy 4 = .ok (.iload_n 2, 1) := by decide +kernel
theorem dX10_unlikeBy_5 : decode cX10_unlikeBy 5 = .ok (.aload_n 0, 1) := by decide +kernel
theorem dX10_unlikeBy_6 : decode cX10_unlikeBy 6 = .ok (.getfield 231, 3) := by decide +kernel
theorem dX10_unlikeBy_9 : decode cX10_unlikeBy 9 = .ok (.if_icmp .ge 56, 3) := by decide +kernel
theorem dX10_unlikeBy_12 : decode cX10_unlikeBy 12 = .ok (.aload_n 0, 1) := by decide +kernel
theorem dX10_unlikeBy_13 : decode cX10_unlikeBy 13 = .ok (.getfield 73, 3) := by decide +kernel
theorem dX10_unlikeBy_16 : decode cX10_unlikeBy 16 = .ok (.iload_n 2, 1) := by decide +kernel
theorem dX10_unlikeBy_17 : decode cX10_unlikeBy 17 = .ok (.iaload, 1) := by decide +kernel
theorem dX10_unlikeBy_18 : decode cX10_unlikeBy 18 = .ok (.aload_n 0, 1) := by decide +kernel
theorem dX10_unlikeBy_19 : decode cX10_unlikeBy 19 = .ok (.getfield 112, 3) := by decide +kernel
theorem dX10_unlikeBy_22 : decode cX10_unlikeBy 22 = .ok (.if_icmp .ge 17, 3) := by decide +kernel
theorem dX10_unlikeBy_25 : decode cX10_unlikeBy 25 = .ok (.aload_n 0, 1) := by decide +kernel
theorem dX10_unlikeBy_26 : decode cX10_unlikeBy 26 = .ok (.aload_n 0, 1) := by decide +kernel
theorem dX10_unlikeBy_27 : decode cX10_unlikeBy 27 = .ok (.getfield 73, 3) := by decide +kernel
theorem dX10_unlikeBy_30 : decode cX10_unlikeBy 30 = .ok (.iload_n 2, 1) := by decide +kernel
theorem dX10_unlikeBy_31 : decode cX10_unlikeBy 31 = .ok (.iaload, 1) := by decide +kernel
theorem dX10_unlikeBy_32 : decode cX10_unlikeBy 32 = .ok (.iconst 0, 1) := by decide +kernel
theorem dX10_unlikeBy_33 : decode cX10_unlikeBy 33 = .ok (.invokevirtual 164, 3) := by decide +kernel
theorem dX10_unlikeBy_36 : decode cX10_unlikeBy 36 = .ok (.goto 4, 3) := by decide +kernel
theorem dX10_unlikeBy_39 : decode cX10_unlikeBy 39 = .ok (.iconst (-1), 1) := by decide +kernel
theorem dX10_unlikeBy_40 : decode cX10_unlikeBy 40 = .ok (.istore_n 3, 1) := by decide +kernel
theorem dX10_unlikeBy_41 : decode cX10_unlikeBy 41 = .ok (.iload_n 1, 1) := by decide +kernel
theorem dX10_unlikeBy_42 : decode cX10_unlikeBy 42 = .ok (.iload_n 3, 1) := by decide +kernel
theorem dX10_unlikeBy_43 : decode cX10_unlikeBy 43 = .ok (.aload_n 0, 1) := by decide +kernel
theorem dX10_unlikeBy_44 : decode cX10_unlikeBy 44 = .ok (.getfield 76, 3) := by decide +kernel
theorem dX10_unlikeBy_47 : decode cX10_unlikeBy 47 = .ok (.iload_n 2, 1) := by decide +kernel
theorem dX10_unlikeBy_48 : decode cX10_unlikeBy 48 = .ok (.iaload, 1) := by decide +kernel
theorem dX10_unlikeBy_49 : decode cX10_unlikeBy 49 = .ok (.if_icmp .ne 7, 3) := by decide +kernel
theorem dX10_unlikeBy_52 : decode cX10_unlikeBy 52 = .ok (.iconst 0, 1) := by decide +kernel
theorem dX10_unlikeBy_53 : decode cX10_unlikeBy 53 = .ok (.goto 4, 3) := by decide +kernel
theorem dX10_unlikeBy_56 : decode cX10_unlikeBy 56 = .ok (.iconst 1, 1) := by decide +kernel
theorem dX10_unlikeBy_57 : decode cX10_unlikeBy 57 = .ok (.iadd, 1) := by decide +kernel
theorem dX10_unlikeBy_58 : decode cX10_unlikeBy 58 = .ok (.istore_n 1, 1) := by decide +kernel
theorem dX10_unlikeBy_59 : decode cX10_unlikeBy 59 = .ok (.iinc 2 1, 3) := by decide +kernel
theorem dX10_unlikeBy_62 : decode cX10_unlikeBy 62 = .ok (.goto (-58), 3) := by decide +kernel
theorem dX10_unlikeBy_65 : decode cX10_unlikeBy 65 = .ok (.iload_n 1, 1) := by decide +kernel
theorem dX10_unlikeBy_66 : decode cX10_unlikeBy 66 = .ok (.ireturn, 1) := by decide +kernel
set_option maxRecDepth 20000 in
theorem ggX10_unlikeNow_X10_lays : GoodIn wsX10_unlikeNow wsX10_lays := goodIn_r _ [5, 6, 7, 8, 9, 4, 10, 11, 12, 13, 14, 15, 16, 17, 18, 19, 20, 21, 22, 23, 24, 25, 26, 27, 28, 29, 30, 31, 32, 33, 34, 35, 36, 37, 38, 39, 40, 41, 42, 43, 44, 45, 46, 47, 48, 49, 50, 51, 52, 53, 54, 55, 56, 57, 58, 59, 60, 61, 62, 77, 78, 79, 80, 81, 82, 83, 84, 85, 86, 87, 88, 89, 90, 91, 92, 93, 94, 95, 96, 97, 98, 99, 100, 101, 102, 103, 104, 105, 106, 107, 108, 109, 110, 111, 112, 113] (by decide +kernel) (by decide +kernel)
set_option maxRecDepth 20000 in
theorem gX10_unlikeNow_X10_lays : GoodIn wsX10_unlikeNow (wsV RX10 161 RX10 yX10_lays wsX10_lays) := goodIn_app (goodIn_of _ (by decide +kernel)) ggX10_unlikeNow_X10_lays
set_option maxRecDepth 20000 in
theorem ggX10_unlikeNow_X10_unlikeBy : GoodIn wsX10_unlikeNow wsX10_unlikeBy := goodIn_r _ [66, 67, 68, 11, 69, 70, 71, 72, 4, 73, 49, 46, 74, 75, 76, 77, 78, 79, 80, 81, 82, 83, 84, 85, 86, 87, 88, 89, 90, 91, 92, 93, 94, 95, 96, 97, 98, 99, 100, 101, 102, 103, 104, 105, 106, 107, 108, 109, 110, 111, 112, 113] (by decide +kernel) (by decide +kernel)
set_option maxRecDepth 20000 in
theorem gX10_unlikeNow_X10_unlikeBy : GoodIn wsX10_unlikeNow (wsV RX10 243 RX10 yX10_unlikeBy wsX10_unlikeBy) := goodIn_app (goodIn_of _ (by decide +kernel)) ggX10_unlikeNow_X10_unlikeBy
theorem dX10_unlikeNow_0 : decode cX10_unlikeNow 0 = .ok (.aload_n 0, 1) := by decide +kernel
theorem dX10_unlikeNow_1 : decode cX10_unlikeNow 1 = .ok (.invokevirtual 161, 3) := by decide +kernel
theorem dX10_unlikeNow_4 : decode cX10_unlikeNow 4 = .ok (.aload_n 0, 1) := by decide +kernel
theorem dX10_unlikeNow_5 : decode cX10_unlikeNow 5 = .ok (.invokevirtual 243, 3) := by decide +kernel
theorem dX10_unlikeNow_8 : decode cX10_unlikeNow 8 = .ok (.ireturn, 1) := by decide +kernel
set_option maxRecDepth 20000 in
theorem ggX10_unlike_X10_unlikeNow : GoodIn wsX10_unlike wsX10_unlikeNow := goodIn_r _ [5, 6, 7, 8, 4, 9, 10, 11, 12, 13, 14, 15, 16, 17, 18, 19, 20, 21, 22, 23, 24, 25, 26, 27, 28, 29, 30, 31, 32, 33, 34, 35, 36, 37, 38, 39, 40, 41, 42, 43, 44, 45, 46, 47, 48, 49, 50, 51, 52, 53, 54, 55, 56, 57, 58, 59, 60, 61, 62, 63, 64, 65, 66, 67, 68, 69, 70, 71, 72, 73, 74, 75, 76, 77, 78, 79, 80, 81, 82, 83, 84, 85, 86, 87, 88, 89, 90, 91, 92, 93, 94, 95, 96, 97, 98, 99, 100, 101, 102, 103, 104, 105, 106, 107, 108, 109, 110, 111, 112, 113, 114, 115, 116, 117] (by decide +kernel) (by decide +kernel)
set_option maxRecDepth 20000 in
theorem gX10_unlike_X10_unlikeNow : GoodIn wsX10_unlike (wsV RX10 246 RX10 yX10_unlikeNow wsX10_unlikeNow) := goodIn_app (goodIn_of _ (by decide +kernel)) ggX10_unlike_X10_unlikeNow
theorem dX10_unlike_0 : decode cX10_unlike 0 = .ok (.aload_n 0, 1) := by decide +kernel
theorem dX10_unlike_1 : decode cX10_unlike 1 = .ok (.invokevirtual 246, 3) := by decide +kernel
theorem dX10_unlike_4 : decode cX10_unlike 4 = .ok (.ireturn, 1) := by decide +kernel
set_option maxRecDepth 20000 in
theorem ggX10_asleepOf_X10_unlikeNow : GoodIn wsX10_asleepOf wsX10_unlikeNow := goodIn_r _ [7, 8, 9, 10, 6, 11, 2, 12, 13, 14, 15, 1, 16, 17, 18, 19, 20, 21, 22, 23, 24, 25, 26, 27, 28, 29, 30, 31, 32, 33, 34, 35, 36, 37, 38, 39, 40, 41, 42, 43, 44, 45, 46, 47, 48, 49, 50, 51, 52, 53, 54, 55, 56, 57, 58, 59, 60, 61, 62, 63, 64, 65, 66, 67, 68, 69, 70, 71, 72, 73, 74, 75, 76, 77, 78, 79, 80, 81, 82, 83, 84, 85, 86, 87, 88, 89, 90, 91, 92, 93, 94, 95, 96, 97, 98, 99, 100, 101, 102, 103, 104, 105, 106, 107, 108, 109, 110, 111, 112, 113, 114, 115, 116, 117] (by decide +kernel) (by decide +kernel)
set_option maxRecDepth 20000 in
theorem gX10_asleepOf_X10_unlikeNow : GoodIn wsX10_asleepOf (wsV RX10 246 RX10 yX10_unlikeNow wsX10_unlikeNow) := goodIn_app (goodIn_of _ (by decide +kernel)) ggX10_asleepOf_X10_unlikeNow
set_option maxRecDepth 20000 in
theorem ggX10_asleepOf_X10_faultNow : GoodIn wsX10_asleepOf wsX10_faultNow := goodIn_r _ [15, 1, 16, 17, 18, 6, 19, 20, 21, 22, 23, 24, 25, 26, 27, 28, 29, 30, 31, 32, 33, 34, 35, 36, 37, 38, 39, 40, 41, 42, 43, 44, 81, 82, 83, 84, 85, 86, 87, 88, 89, 90, 91, 92, 93, 94, 95, 96, 97, 98, 99, 100, 101, 102, 103, 104, 105, 106, 107, 108, 109, 110, 111, 112, 113, 114, 115, 116, 117] (by decide +kernel) (by decide +kernel)
set_option maxRecDepth 20000 in
theorem gX10_asleepOf_X10_faultNow : GoodIn wsX10_asleepOf (wsV RX10 130 RX10 yX10_faultNow wsX10_faultNow) := goodIn_app (goodIn_of _ (by decide +kernel)) ggX10_asleepOf_X10_faultNow
set_option maxRecDepth 20000 in
theorem ggX10_asleepOf_X10_runs : GoodIn wsX10_asleepOf wsX10_runs := goodIn_r _ [48, 49, 50, 51, 1, 52, 53, 54, 55, 42, 43, 6, 44, 56, 57, 58, 59, 60, 61, 62, 26, 27, 63, 64, 65, 66, 29, 28, 25, 81, 82, 83, 84, 85, 86, 87, 88, 89, 90, 91, 92, 93, 94, 95, 96, 97, 98, 99, 100, 101, 102, 103, 104, 105, 106, 107, 108, 109, 110, 111, 112, 113, 114, 115, 116, 117] (by decide +kernel) (by decide +kernel)
set_option maxRecDepth 20000 in
theorem gX10_asleepOf_X10_runs : GoodIn wsX10_asleepOf (wsV RX10 155 RX10 yX10_runs wsX10_runs) := goodIn_app (goodIn_of _ (by decide +kernel)) ggX10_asleepOf_X10_runs
set_option maxRecDepth 20000 in
theorem ggX10_asleepOf_X10_unlikeBy : GoodIn wsX10_asleepOf wsX10_unlikeBy := goodIn_r _ [70, 71, 72, 1, 73, 74, 75, 76, 6, 77, 53, 50, 78, 79, 80, 81, 82, 83, 84, 85, 86, 87, 88, 89, 90, 91, 92, 93, 94, 95, 96, 97, 98, 99, 100, 101, 102, 103, 104, 105, 106, 107, 108, 109, 110, 111, 112, 113, 114, 115, 116, 117] (by decide +kernel) (by decide +kernel)
set_option maxRecDepth 20000 in
theorem gX10_asleepOf_X10_unlikeBy : GoodIn wsX10_asleepOf (wsV RX10 243 RX10 yX10_unlikeBy wsX10_unlikeBy) := goodIn_app (goodIn_of _ (by decide +kernel)) ggX10_asleepOf_X10_unlikeBy
theorem dX10_asleepOf_0 : decode cX10_asleepOf 0 = .ok (.iload_n 1, 1) := by decide +kernel
theorem dX10_asleepOf_1 : decode cX10_asleepOf 1 = .ok (.iconst 1, 1) := by decide +kernel
theorem dX10_asleepOf_2 : decode cX10_asleepOf 2 = .ok (.if_icmp .ne 16, 3) := by decide +kernel
theorem dX10_asleepOf_5 : decode cX10_asleepOf 5 = .ok (.aload_n 0, 1) := by decide +kernel
theorem dX10_asleepOf_6 : decode cX10_asleepOf 6 = .ok (.invokevirtual 246, 3) := by decide +kernel
theorem dX10_asleepOf_9 : decode cX10_asleepOf 9 = .ok (.ifCond .ne 7, 3) := by decide +kernel
theorem dX10_asleepOf_12 : decode cX10_asleepOf 12 = .ok (.iconst 1, 1) := by decide +kernel
theorem dX10_asleepOf_13 : decode cX10_asleepOf 13 = .ok (.goto 4, 3) := by decide +kernel
theorem dX10_asleepOf_16 : decode cX10_asleepOf 16 = .ok (.iconst 0, 1) := by decide +kernel
theorem dX10_asleepOf_17 : decode cX10_asleepOf 17 = .ok (.ireturn, 1) := by decide +kernel
theorem dX10_asleepOf_18 : decode cX10_asleepOf 18 = .ok (.aload_n 0, 1) := by decide +kernel
theorem dX10_asleepOf_19 : decode cX10_asleepOf 19 = .ok (.invokevirtual 130, 3) := by decide +kernel
theorem dX10_asleepOf_22 : decode cX10_asleepOf 22 = .ok (.istore_n 2, 1) := by decide +kernel
theorem dX10_asleepOf_23 : decode cX10_asleepOf 23 = .ok (.iconst 0, 1) := by decide +kernel
theorem dX10_asleepOf_24 : decode cX10_asleepOf 24 = .ok (.istore_n 3, 1) := by decide +kernel
theorem dX10_asleepOf_25 : decode cX10_asleepOf 25 = .ok (.iconst 0, 1) := by decide +kernel
theorem dX10_asleepOf_26 : decode cX10_asleepOf 26 = .ok (.istore 4, 2) := by decide +kernel
theorem dX10_asleepOf_28 : decode cX10_asleepOf 28 = .ok (.iload 4, 2) := by decide +kernel
theorem dX10_asleepOf_30 : decode cX10_asleepOf 30 = .ok (.aload_n 0, 1) := by decide +kernel
theorem dX10_asleepOf_31 : decode cX10_asleepOf 31 = .ok (.getfield 112, 3) := by decide +kernel
theorem dX10_asleepOf_34 : decode cX10_asleepOf 34 = .ok (.if_icmp .ge 51, 3) := by decide +kernel
theorem dX10_asleepOf_37 : decode cX10_asleepOf 37 = .ok (.aload_n 0, 1) := by decide +kernel
theorem dX10_asleepOf_38 : decode cX10_asleepOf 38 = .ok (.aload_n 0, 1) := by decide +kernel
theorem dX10_asleepOf_39 : decode cX10_asleepOf 39 = .ok (.getfield 40, 3) := by decide +kernel
theorem dX10_asleepOf_42 : decode cX10_asleepOf 42 = .ok (.iconst 0, 1) := by decide +kernel
theorem dX10_asleepOf_43 : decode cX10_asleepOf 43 = .ok (.iaload, 1) := by decide +kernel
theorem dX10_asleepOf_44 : decode cX10_asleepOf 44 = .ok (.aload_n 0, 1) := by decide +kernel
theorem dX10_asleepOf_45 : decode cX10_asleepOf 45 = .ok (.getfield 40, 3) := by decide +kernel
theorem dX10_asleepOf_48 : decode cX10_asleepOf 48 = .ok (.iconst 1, 1) := by decide +kernel
theorem dX10_asleepOf_49 : decode cX10_asleepOf 49 = .ok (.iaload, 1) := by decide +kernel
theorem dX10_asleepOf_50 : decode cX10_asleepOf 50 = .ok (.aload_n 0, 1) := by decide +kernel
theorem dX10_asleepOf_51 : decode cX10_asleepOf 51 = .ok (.getfield 40, 3) := by decide +kernel
theorem dX10_asleepOf_54 : decode cX10_asleepOf 54 = .ok (.iconst 2, 1) := by decide +kernel
theorem dX10_asleepOf_55 : decode cX10_asleepOf 55 = .ok (.iaload, 1) := by decide +kernel
theorem dX10_asleepOf_56 : decode cX10_asleepOf 56 = .ok (.iload 4, 2) := by decide +kernel
theorem dX10_asleepOf_58 : decode cX10_asleepOf 58 = .ok (.invokevirtual 155, 3) := by decide +kernel
theorem dX10_asleepOf_61 : decode cX10_asleepOf 61 = .ok (.iload_n 3, 1) := by decide +kernel
theorem dX10_asleepOf_62 : decode cX10_asleepOf 62 = .ok (.aload_n 0, 1) := by decide +kernel
theorem dX10_asleepOf_63 : decode cX10_asleepOf 63 = .ok (.invokevirtual 243, 3) := by decide +kernel
theorem dX10_asleepOf_66 : decode cX10_asleepOf 66 = .ok (.ifCond .ne 10, 3) := by decide +kernel
theorem dX10_asleepOf_69 : decode cX10_asleepOf 69 = .ok (.iconst 1, 1) := by decide +kernel
theorem dX10_asleepOf_70 : decode cX10_asleepOf 70 = .ok (.iload 4, 2) := by decide +kernel
theorem dX10_asleepOf_72 : decode cX10_asleepOf 72 = .ok (.ishl, 1) := by decide +kernel
theorem dX10_asleepOf_73 : decode cX10_asleepOf 73 = .ok (.goto 4, 3) := by decide +kernel
theorem dX10_asleepOf_76 : decode cX10_asleepOf 76 = .ok (.iconst 0, 1) := by decide +kernel
theorem dX10_asleepOf_77 : decode cX10_asleepOf 77 = .ok (.ior, 1) := by decide +kernel
theorem dX10_asleepOf_78 : decode cX10_asleepOf 78 = .ok (.istore_n 3, 1) := by decide +kernel
theorem dX10_asleepOf_79 : decode cX10_asleepOf 79 = .ok (.iinc 4 1, 3) := by decide +kernel
theorem dX10_asleepOf_82 : decode cX10_asleepOf 82 = .ok (.goto (-54), 3) := by decide +kernel
theorem dX10_asleepOf_85 : decode cX10_asleepOf 85 = .ok (.iload_n 3, 1) := by decide +kernel
theorem dX10_asleepOf_86 : decode cX10_asleepOf 86 = .ok (.ireturn, 1) := by decide +kernel
set_option maxRecDepth 20000 in
theorem ggX10_asleep_X10_in : GoodIn wsX10_asleep wsX10_in := goodIn_r _ [4] (by decide +kernel) (by decide +kernel)
set_option maxRecDepth 20000 in
theorem gX10_asleep_X10_in : GoodIn wsX10_asleep (va_wsS RX10 104 yX10_in wsX10_in) := goodIn_app (goodIn_of _ (by decide +kernel)) ggX10_asleep_X10_in
set_option maxRecDepth 20000 in
theorem ggX10_asleep_X10_asleepOf : GoodIn wsX10_asleep wsX10_asleepOf := goodIn_r _ [8, 9, 10, 11, 12, 13, 3, 14, 15, 16, 17, 18, 19, 20, 21, 22, 23, 24, 25, 26, 27, 28, 29, 30, 31, 32, 33, 34, 35, 36, 37, 38, 39, 40, 41, 42, 43, 44, 45, 46, 47, 48, 1, 2, 4, 49, 50, 51, 52, 53, 54, 55, 56, 57, 58, 59, 60, 61, 62, 63, 64, 65, 66, 67, 68, 69, 70, 71, 72, 73, 74, 75, 76, 77, 78, 79, 80, 81, 82, 83, 84, 85, 86, 87, 88, 89, 90, 91, 92, 93, 94, 95, 96, 97, 98, 99, 100, 101, 102, 103, 104, 105, 106, 107, 108, 109, 110, 111, 112, 113, 114, 115, 116, 117, 118, 119, 120, 121] (by decide +kernel) (by decide +kernel)
set_option maxRecDepth 20000 in
theorem gX10_asleep_X10_asleepOf : GoodIn wsX10_asleep (wsV RX10 249 RX10 yX10_asleepOf wsX10_asleepOf) := goodIn_app (goodIn_of _ (by decide +kernel)) ggX10_asleep_X10_asleepOf
theorem dX10_asleep_0 : decode cX10_asleep 0 = .ok (.iload_n 1, 1) := by decide +kernel
theorem dX10_asleep_1 : decode cX10_asleep 1 = .ok (.iconst 0, 1) := by decide +kernel
theorem dX10_asleep_2 : decode cX10_asleep 2 = .ok (.iconst 1, 1) := by decide +kernel
theorem dX10_asleep_3 : decode cX10_asleep 3 = .ok (.invokestatic 104, 3) := by decide +kernel
theorem dX10_asleep_6 : decode cX10_asleep 6 = .ok (.ifCond .eq 11, 3) := by decide +kernel
theorem dX10_asleep_9 : decode cX10_asleep 9 = .ok (.aload_n 0, 1) := by decide +kernel
theorem dX10_asleep_10 : decode cX10_asleep 10 = .ok (.iload_n 1, 1) := by decide +kernel
theorem dX10_asleep_11 : decode cX10_asleep 11 = .ok (.invokevirtual 249, 3) := by decide +kernel
theorem dX10_asleep_14 : decode cX10_asleep 14 = .ok (.goto 5, 3) := by decide +kernel
theorem dX10_asleep_17 : decode cX10_asleep 17 = .ok (.bipush (-2), 2) := by decide +kernel
theorem dX10_asleep_19 : decode cX10_asleep 19 = .ok (.ireturn, 1) := by decide +kernel
set_option maxRecDepth 20000 in
theorem ggX10_census_X10_in : GoodIn wsX10_census wsX10_in := goodIn_r _ [7] (by decide +kernel) (by decide +kernel)
set_option maxRecDepth 20000 in
theorem gX10_census_X10_in : GoodIn wsX10_census (va_wsS RX10 104 yX10_in wsX10_in) := goodIn_app (goodIn_of _ (by decide +kernel)) ggX10_census_X10_in
theorem dX10_census_0 : decode cX10_census 0 = .ok (.iload_n 1, 1) := by decide +kernel
theorem dX10_census_1 : decode cX10_census 1 = .ok (.iconst 0, 1) := by decide +kernel
theorem dX10_census_2 : decode cX10_census 2 = .ok (.bipush 99, 2) := by decide +kernel
theorem dX10_census_4 : decode cX10_census 4 = .ok (.invokestatic 104, 3) := by decide +kernel
theorem dX10_census_7 : decode cX10_census 7 = .ok (.ifCond .eq 14, 3) := by decide +kernel
theorem dX10_census_10 : decode cX10_census 10 = .ok (.iload_n 2, 1) := by decide +kernel
theorem dX10_census_11 : decode cX10_census 11 = .ok (.iconst 0, 1) := by decide +kernel
theorem dX10_census_12 : decode cX10_census 12 = .ok (.sipush 9999, 3) := by decide +kernel
theorem dX10_census_15 : decode cX10_census 15 = .ok (.invokestatic 104, 3) := by decide +kernel
theorem dX10_census_18 : decode cX10_census 18 = .ok (.ifCond .ne 6, 3) := by decide +kernel
theorem dX10_census_21 : decode cX10_census 21 = .ok (.bipush (-2), 2) := by decide +kernel
theorem dX10_census_23 : decode cX10_census 23 = .ok (.ireturn, 1) := by decide +kernel
theorem dX10_census_24 : decode cX10_census 24 = .ok (.aload_n 0, 1) := by decide +kernel
theorem dX10_census_25 : decode cX10_census 25 = .ok (.getfield 252, 3) := by decide +kernel
theorem dX10_census_28 : decode cX10_census 28 = .ok (.bipush 8, 2) := by decide +kernel
theorem dX10_census_30 : decode cX10_census 30 = .ok (.if_icmp .ne 6, 3) := by decide +kernel
theorem dX10_census_33 : decode cX10_census 33 = .ok (.bipush (-4), 2) := by decide +kernel
theorem dX10_census_35 : decode cX10_census 35 = .ok (.ireturn, 1) := by decide +kernel
theorem dX10_census_36 : decode cX10_census 36 = .ok (.aload_n 0, 1) := by decide +kernel
theorem dX10_census_37 : decode cX10_census 37 = .ok (.getfield 79, 3) := by decide +kernel
theorem dX10_census_40 : decode cX10_census 40 = .ok (.aload_n 0, 1) := by decide +kernel
theorem dX10_census_41 : decode cX10_census 41 = .ok (.getfield 252, 3) := by decide +kernel
theorem dX10_census_44 : decode cX10_census 44 = .ok (.iload_n 1, 1) := by decide +kernel
theorem dX10_census_45 : decode cX10_census 45 = .ok (.iastore, 1) := by decide +kernel
theorem dX10_census_46 : decode cX10_census 46 = .ok (.aload_n 0, 1) := by decide +kernel
theorem dX10_census_47 : decode cX10_census 47 = .ok (.getfield 82, 3) := by decide +kernel
theorem dX10_census_50 : decode cX10_census 50 = .ok (.aload_n 0, 1) := by decide +kernel
theorem dX10_census_51 : decode cX10_census 51 = .ok (.getfield 252, 3) := by decide +kernel
theorem dX10_census_54 : decode cX10_census 54 = .ok (.iload_n 2, 1) := by decide +kernel
theorem dX10_census_55 : decode cX10_census 55 = .ok (.iastore, 1) := by decide +kernel
theorem dX10_census_56 : decode cX10_census 56 = .ok (.aload_n 0, 1) := by decide +kernel
theorem dX10_census_57 : decode cX10_census 57 = .ok (.dup, 1) := by decide +kernel
theorem dX10_census_58 : decode cX10_census 58 = .ok (.getfield 252, 3) := by decide +kernel
theorem dX10_census_61 : decode cX10_census 61 = .ok (.iconst 1, 1) := by decide +kernel
theorem dX10_census_62 : decode cX10_census 62 = .ok (.iadd, 1) := by decide +kernel
theorem dX10_census_63 : decode cX10_census 63 = .ok (.putfield 252, 3) := by decide +kernel
theorem dX10_census_66 : decode cX10_census 66 = .ok (.aload_n 0, 1) := by decide +kernel
theorem dX10_census_67 : decode cX10_census 67 = .ok (.getfield 252, 3) := by decide +kernel
theorem dX10_census_70 : decode cX10_census 70 = .ok (.iconst 1, 1) := by decide +kernel
theorem dX10_census_71 : decode cX10_census 71 = .ok (.isub, 1) := by decide +kernel
theorem dX10_census_72 : decode cX10_census 72 = .ok (.ireturn, 1) := by decide +kernel
set_option maxRecDepth 20000 in
theorem ggX10_births_X10_in : GoodIn wsX10_births wsX10_in := goodIn_r _ [5] (by decide +kernel) (by decide +kernel)
set_option maxRecDepth 20000 in
theorem gX10_births_X10_in : GoodIn wsX10_births (va_wsS RX10 104 yX10_in wsX10_in) := goodIn_app (goodIn_of _ (by decide +kernel)) ggX10_births_X10_in
theorem dX10_births_0 : decode cX10_births 0 = .ok (.iload_n 1, 1) := by decide +kernel
theorem dX10_births_1 : decode cX10_births 1 = .ok (.iconst 0, 1) := by decide +kernel
theorem dX10_births_2 : decode cX10_births 2 = .ok (.bipush 99, 2) := by decide +kernel
theorem dX10_births_4 : decode cX10_births 4 = .ok (.invokestatic 104, 3) := by decide +kernel
theorem dX10_births_7 : decode cX10_births 7 = .ok (.ifCond .eq 14, 3) := by decide +kernel
theorem dX10_births_10 : decode cX10_births 10 = .ok (.iload_n 2, 1) := by decide +kernel
theorem dX10_births_11 : decode cX10_births 11 = .ok (.iconst 0, 1) := by decide +kernel
theorem dX10_births_12 : decode cX10_births 12 = .ok (.sipush 999, 3) := by decide +kernel
theorem dX10_births_15 : decode cX10_births 15 = .ok (.invokestatic 104, 3) := by decide +kernel
theorem dX10_births_18 : decode cX10_births 18 = .ok (.ifCond .ne 6, 3) := by decide +kernel
theorem dX10_births_21 : decode cX10_births 21 = .ok (.bipush (-2), 2) := by decide +kernel
theorem dX10_births_23 : decode cX10_births 23 = .ok (.ireturn, 1) := by decide +kernel
theorem dX10_births_24 : decode cX10_births 24 = .ok (.aload_n 0, 1) := by decide +kernel
theorem dX10_births_25 : decode cX10_births 25 = .ok (.getfield 85, 3) := by decide +kernel
theorem dX10_births_28 : decode cX10_births 28 = .ok (.iload_n 1, 1) := by decide +kernel
theorem dX10_births_29 : decode cX10_births 29 = .ok (.iaload, 1) := by decide +kernel
theorem dX10_births_30 : decode cX10_births 30 = .ok (.istore_n 3, 1) := by decide +kernel
theorem dX10_births_31 : decode cX10_births 31 = .ok (.aload_n 0, 1) := by decide +kernel
theorem dX10_births_32 : decode cX10_births 32 = .ok (.getfield 85, 3) := by decide +kernel
theorem dX10_births_35 : decode cX10_births 35 = .ok (.iload_n 1, 1) := by decide +kernel
theorem dX10_births_36 : decode cX10_births 36 = .ok (.iload_n 2, 1) := by decide +kernel
theorem dX10_births_37 : decode cX10_births 37 = .ok (.iastore, 1) := by decide +kernel
theorem dX10_births_38 : decode cX10_births 38 = .ok (.iload_n 3, 1) := by decide +kernel
theorem dX10_births_39 : decode cX10_births 39 = .ok (.ireturn, 1) := by decide +kernel
theorem dX10_isCannot_0 : decode cX10_isCannot 0 = .ok (.aload_n 0, 1) := by decide +kernel
theorem dX10_isCannot_1 : decode cX10_isCannot 1 = .ok (.getfield 79, 3) := by decide +kernel
theorem dX10_isCannot_4 : decode cX10_isCannot 4 = .ok (.iload_n 1, 1) := by decide +kernel
theorem dX10_isCannot_5 : decode cX10_isCannot 5 = .ok (.iaload, 1) := by decide +kernel
theorem dX10_isCannot_6 : decode cX10_isCannot 6 = .ok (.aload_n 0, 1) := by decide +kernel
theorem dX10_isCannot_7 : decode cX10_isCannot 7 = .ok (.getfield 79, 3) := by decide +kernel
theorem dX10_isCannot_10 : decode cX10_isCannot 10 = .ok (.iload_n 2, 1) := by decide +kernel
theorem dX10_isCannot_11 : decode cX10_isCannot 11 = .ok (.iaload, 1) := by decide +kernel
theorem dX10_isCannot_12 : decode cX10_isCannot 12 = .ok (.if_icmp .gt 7, 3) := by decide +kernel
theorem dX10_isCannot_15 : decode cX10_isCannot 15 = .ok (.iload_n 1, 1) := by decide +kernel
theorem dX10_isCannot_16 : decode cX10_isCannot 16 = .ok (.goto 4, 3) := by decide +kernel
theorem dX10_isCannot_19 : decode cX10_isCannot 19 = .ok (.iload_n 2, 1) := by decide +kernel
theorem dX10_isCannot_20 : decode cX10_isCannot 20 = .ok (.istore_n 3, 1) := by decide +kernel
theorem dX10_isCannot_21 : decode cX10_isCannot 21 = .ok (.iload_n 3, 1) := by decide +kernel
theorem dX10_isCannot_22 : decode cX10_isCannot 22 = .ok (.iload_n 1, 1) := by decide +kernel
theorem dX10_isCannot_23 : decode cX10_isCannot 23 = .ok (.if_icmp .ne 7, 3) := by decide +kernel
theorem dX10_isCannot_26 : decode cX10_isCannot 26 = .ok (.iload_n 2, 1) := by decide +kernel
theorem dX10_isCannot_27 : decode cX10_isCannot 27 = .ok (.goto 4, 3) := by decide +kernel
theorem dX10_isCannot_30 : decode cX10_isCannot 30 = .ok (.iload_n 1, 1) := by decide +kernel
theorem dX10_isCannot_31 : decode cX10_isCannot 31 = .ok (.istore 4, 2) := by decide +kernel
theorem dX10_isCannot_33 : decode cX10_isCannot 33 = .ok (.aload_n 0, 1) := by decide +kernel
theorem dX10_isCannot_34 : decode cX10_isCannot 34 = .ok (.getfield 82, 3) := by decide +kernel
theorem dX10_isCannot_37 : decode cX10_isCannot 37 = .ok (.iload_n 3, 1) := by decide +kernel
theorem dX10_isCannot_38 : decode cX10_isCannot 38 = .ok (.iaload, 1) := by decide +kernel
theorem dX10_isCannot_39 : decode cX10_isCannot 39 = .ok (.istore 5, 2) := by decide +kernel
theorem dX10_isCannot_41 : decode cX10_isCannot 41 = .ok (.aload_n 0, 1) := by decide +kernel
theorem dX10_isCannot_42 : decode cX10_isCannot 42 = .ok (.getfield 79, 3) := by decide +kernel
theorem dX10_isCannot_45 : decode cX10_isCannot 45 = .ok (.iload_n 3, 1) := by decide +kernel
theorem dX10_isCannot_46 : decode cX10_isCannot 46 = .ok (.iaload, 1) := by decide +kernel
theorem dX10_isCannot_47 : decode cX10_isCannot 47 = .ok (.istore 6, 2) := by decide +kernel
theorem dX10_isCannot_49 : decode cX10_isCannot 49 = .ok (.iload 6, 2) := by decide +kernel
theorem dX10_isCannot_51 : decode cX10_isCannot 51 = .ok (.aload_n 0, 1) := by decide +kernel
theorem dX10_isCannot_52 : decode cX10_isCannot 52 = .ok (.getfield 79, 3) := by decide +kernel
theorem dX10_isCannot_55 : decode cX10_isCannot 55 = .ok (.iload 4, 2) := by decide +kernel
theorem dX10_isCannot_57 : decode cX10_isCannot 57 = .ok (.iaload, 1) := by decide +kernel
theorem dX10_isCannot_58 : decode cX10_isCannot 58 = .ok (.if_icmp .ge 21, 3) := by decide +kernel
theorem dX10_isCannot_61 : decode cX10_isCannot 61 = .ok (.iload 5, 2) := by decide +kernel
theorem dX10_isCannot_63 : decode cX10_isCannot 63 = .ok (.aload_n 0, 1) := by decide +kernel
theorem dX10_isCannot_64 : decode cX10_isCannot 64 = .ok (.getfield 85, 3) := by decide +kernel
theorem dX10_isCannot_67 : decode cX10_isCannot 67 = .ok (.iload 6, 2) := by decide +kernel
theorem dX10_isCannot_69 : decode cX10_isCannot 69 = .ok (.iaload, 1) := by decide +kernel
theorem dX10_isCannot_70 : decode cX10_isCannot 70 = .ok (.iadd, 1) := by decide +kernel
theorem dX10_isCannot_71 : decode cX10_isCannot 71 = .ok (.istore 5, 2) := by decide +kernel
theorem dX10_isCannot_73 : decode cX10_isCannot 73 = .ok (.iinc 6 1, 3) := by decide +kernel
theorem dX10_isCannot_76 : decode cX10_isCannot 76 = .ok (.goto (-27), 3) := by decide +kernel
theorem dX10_isCannot_79 : decode cX10_isCannot 79 = .ok (.aload_n 0, 1) := by decide +kernel
theorem dX10_isCannot_80 : decode cX10_isCannot 80 = .ok (.getfield 82, 3) := by decide +kernel
theorem dX10_isCannot_83 : decode cX10_isCannot 83 = .ok (.iload 4, 2) := by decide +kernel
theorem dX10_isCannot_85 : decode cX10_isCannot 85 = .ok (.iaload, 1) := by decide +kernel
theorem dX10_isCannot_86 : decode cX10_isCannot 86 = .ok (.iload 5, 2) := by decide +kernel
theorem dX10_isCannot_88 : decode cX10_isCannot 88 = .ok (.if_icmp .gt 33, 3) := by decide +kernel
theorem dX10_isCannot_91 : decode cX10_isCannot 91 = .ok (.aload_n 0, 1) := by decide +kernel
theorem dX10_isCannot_92 : decode cX10_isCannot 92 = .ok (.getfield 79, 3) := by decide +kernel
theorem dX10_isCannot_95 : decode cX10_isCannot 95 = .ok (.iload_n 1, 1) := by decide +kernel
theorem dX10_isCannot_96 : decode cX10_isCannot 96 = .ok (.iaload, 1) := by decide +kernel
theorem dX10_isCannot_97 : decode cX10_isCannot 97 = .ok (.aload_n 0, 1) := by decide +kernel
theorem dX10_isCannot_98 : decode cX10_isCannot 98 = .ok (.getfield 79, 3) := by decide +kernel
theorem dX10_isCannot_101 : decode cX10_isCannot 101 = .ok (.iload_n 2, 1) := by decide +kernel
theorem dX10_isCannot_102 : decode cX10_isCannot 102 = .ok (.iaload, 1) := by decide +kernel
theorem dX10_isCannot_103 : decode cX10_isCannot 103 = .ok (.if_icmp .ne 22, 3) := by decide +kernel
theorem dX10_isCannot_106 : decode cX10_isCannot 106 = .ok (.aload_n 0, 1) := by decide +kernel
theorem dX10_isCannot_107 : decode cX10_isCannot 107 = .ok (.getfield 82, 3) := by decide +kernel
theorem dX10_isCannot_110 : decode cX10_isCannot 110 = .ok (.iload_n 1, 1) := by decide +kernel
theorem dX10_isCannot_111 : decode cX10_isCannot 111 = .ok (.iaload, 1) := by decide +kernel
theorem dX10_isCannot_112 : decode cX10_isCannot 112 = .ok (.aload_n 0, 1) := by decide +kernel
theorem dX10_isCannot_113 : decode cX10_isCannot 113 = .ok (.getfield 82, 3) := by decide +kernel
theorem dX10_isCannot_116 : decode cX10_isCannot 116 = .ok (.iload_n 2, 1) := by decide +kernel
theorem dX10_isCannot_117 : decode cX10_isCannot 117 = .ok (.iaload, 1) := by decide +kernel
theorem dX10_isCannot_118 : decode cX10_isCannot 118 = .ok (.if_icmp .eq 7, 3) := by decide +kernel
theorem dX10_isCannot_121 : decode cX10_isCannot 121 = .ok (.iconst 1, 1) := by decide +kernel
theorem dX10_isCannot_122 : decode cX10_isCannot 122 = .ok (.goto 4, 3) := by decide +kernel
theorem dX10_isCannot_125 : decode cX10_isCannot 125 = .ok (.iconst 0, 1) := by decide +kernel
theorem dX10_isCannot_126 : decode cX10_isCannot 126 = .ok (.ireturn, 1) := by decide +kernel
set_option maxRecDepth 20000 in
theorem ggX10_isCensus_X10_in : GoodIn wsX10_isCensus wsX10_in := goodIn_r _ [5] (by decide +kernel) (by decide +kernel)
set_option maxRecDepth 20000 in
theorem gX10_isCensus_X10_in : GoodIn wsX10_isCensus (va_wsS RX10 104 yX10_in wsX10_in) := goodIn_app (goodIn_of _ (by decide +kernel)) ggX10_isCensus_X10_in
theorem dX10_isCensus_0 : decode cX10_isCensus 0 = .ok (.iload_n 1, 1) := by decide +kernel
theorem dX10_isCensus_1 : decode cX10_isCensus 1 = .ok (.iconst 0, 1) := by decide +kernel
theorem dX10_isCensus_2 : decode cX10_isCensus 2 = .ok (.aload_n 0, 1) := by decide +kernel
theorem dX10_isCensus_3 : decode cX10_isCensus 3 = .ok (.getfield 252, 3) := by decide +kernel
theorem dX10_isCensus_6 : decode cX10_isCensus 6 = .ok (.iconst 1, 1) := by decide +kernel
theorem dX10_isCensus_7 : decode cX10_isCensus 7 = .ok (.isub, 1) := by decide +kernel
theorem dX10_isCensus_8 : decode cX10_isCensus 8 = .ok (.invokestatic 104, 3) := by decide +kernel
theorem dX10_isCensus_11 : decode cX10_isCensus 11 = .ok (.ireturn, 1) := by decide +kernel
set_option maxRecDepth 20000 in
theorem ggX10_cannot_X10_isCensus : GoodIn wsX10_cannot wsX10_isCensus := goodIn_r _ [5, 6, 7, 8, 4, 9, 17, 18, 19, 20, 21, 22, 23, 24, 25, 26, 27, 28, 29, 30, 31, 32, 33, 34, 35, 36, 37, 38, 39, 40, 41, 42, 43, 44, 45, 46, 47, 48, 49, 50, 51, 52, 53] (by decide +kernel) (by decide +kernel)
set_option maxRecDepth 20000 in
theorem gX10_cannot_X10_isCensus : GoodIn wsX10_cannot (wsV RX10 255 RX10 yX10_isCensus wsX10_isCensus) := goodIn_app (goodIn_of _ (by decide +kernel)) ggX10_cannot_X10_isCensus
set_option maxRecDepth 20000 in
theorem ggX10_cannot_X10_isCannot : GoodIn wsX10_cannot wsX10_isCannot := goodIn_r _ [13, 14, 15, 16, 17, 18, 19, 20, 21, 22, 23, 24, 25, 26, 27, 28, 29, 30, 31, 32, 33, 34, 35, 36, 37, 38, 39, 40, 41, 42, 43, 44, 45, 46, 47, 48, 49, 50, 51, 52, 53] (by decide +kernel) (by decide +kernel)
set_option maxRecDepth 20000 in
theorem gX10_cannot_X10_isCannot : GoodIn wsX10_cannot (wsV RX10 258 RX10 yX10_isCannot wsX10_isCannot) := goodIn_app (goodIn_of _ (by decide +kernel)) ggX10_cannot_X10_isCannot
theorem dX10_cannot_0 : decode cX10_cannot 0 = .ok (.aload_n 0, 1) := by decide +kernel
theorem dX10_cannot_1 : decode cX10_cannot 1 = .ok (.iload_n 1, 1) := by decide +kernel
theorem dX10_cannot_2 : decode cX10_cannot 2 = .ok (.invokevirtual 255, 3) := by decide +kernel
theorem dX10_cannot_5 : decode cX10_cannot 5 = .ok (.ifCond .eq 16, 3) := by decide +kernel
theorem dX10_cannot_8 : decode cX10_cannot 8 = .ok (.aload_n 0, 1) := by decide +kernel
theorem dX10_cannot_9 : decode cX10_cannot 9 = .ok (.iload_n 2, 1) := by decide +kernel
theorem dX10_cannot_10 : decode cX10_cannot 10 = .ok (.invokevirtual 255, 3) := by decide +kernel
theorem dX10_cannot_13 : decode cX10_cannot 13 = .ok (.ifCond .eq 8, 3) := by decide +kernel
theorem dX10_cannot_16 : decode cX10_cannot 16 = .ok (.iload_n 1, 1) := by decide +kernel
theorem dX10_cannot_17 : decode cX10_cannot 17 = .ok (.iload_n 2, 1) := by decide +kernel
theorem dX10_cannot_18 : decode cX10_cannot 18 = .ok (.if_icmp .ne 8, 3) := by decide +kernel
theorem dX10_cannot_21 : decode cX10_cannot 21 = .ok (.bipush (-2), 2) := by decide +kernel
theorem dX10_cannot_23 : decode cX10_cannot 23 = .ok (.goto 17, 3) := by decide +kernel
theorem dX10_cannot_26 : decode cX10_cannot 26 = .ok (.aload_n 0, 1) := by decide +kernel
theorem dX10_cannot_27 : decode cX10_cannot 27 = .ok (.iload_n 1, 1) := by decide +kernel
theorem dX10_cannot_28 : decode cX10_cannot 28 = .ok (.iload_n 2, 1) := by decide +kernel
theorem dX10_cannot_29 : decode cX10_cannot 29 = .ok (.invokevirtual 258, 3) := by decide +kernel
theorem dX10_cannot_32 : decode cX10_cannot 32 = .ok (.ifCond .eq 7, 3) := by decide +kernel
theorem dX10_cannot_35 : decode cX10_cannot 35 = .ok (.iconst 1, 1) := by decide +kernel
theorem dX10_cannot_36 : decode cX10_cannot 36 = .ok (.goto 4, 3) := by decide +kernel
theorem dX10_cannot_39 : decode cX10_cannot 39 = .ok (.iconst 0, 1) := by decide +kernel
theorem dX10_cannot_40 : decode cX10_cannot 40 = .ok (.ireturn, 1) := by decide +kernel
set_option maxRecDepth 20000 in
theorem ggX10_pairsBy_X10_isIn : GoodIn wsX10_pairsBy wsX10_isIn := goodIn_r _ [5] (by decide +kernel) (by decide +kernel)
set_option maxRecDepth 20000 in
theorem gX10_pairsBy_X10_isIn : GoodIn wsX10_pairsBy (va_wsS RX10 141 yX10_isIn wsX10_isIn) := goodIn_app (goodIn_of _ (by decide +kernel)) ggX10_pairsBy_X10_isIn
set_option maxRecDepth 20000 in
theorem ggX10_pairsBy_X10_isCannot : GoodIn wsX10_pairsBy wsX10_isCannot := goodIn_r _ [9, 10, 11, 12, 13, 14, 15, 16, 17, 18, 19, 20, 21, 22, 23, 24, 25, 26, 27, 28, 29, 30, 31, 32, 33, 34, 35, 36, 37, 38, 39, 40, 41, 42, 43, 44, 45, 46, 47, 48, 49] (by decide +kernel) (by decide +kernel)
set_option maxRecDepth 20000 in
theorem gX10_pairsBy_X10_isCannot : GoodIn wsX10_pairsBy (wsV RX10 258 RX10 yX10_isCannot wsX10_isCannot) := goodIn_app (goodIn_of _ (by decide +kernel)) ggX10_pairsBy_X10_isCannot
theorem dX10_pairsBy_0 : decode cX10_pairsBy 0 = .ok (.iconst 0, 1) := by decide +kernel
theorem dX10_pairsBy_1 : decode cX10_pairsBy 1 = .ok (.istore_n 2, 1) := by decide +kernel
theorem dX10_pairsBy_2 : decode cX10_pairsBy 2 = .ok (.iconst 0, 1) := by decide +kernel
theorem dX10_pairsBy_3 : decode cX10_pairsBy 3 = .ok (.istore_n 3, 1) := by decide +kernel
theorem dX10_pairsBy_4 : decode cX10_pairsBy 4 = .ok (.iload_n 3, 1) := by decide +kernel
theorem dX10_pairsBy_5 : decode cX10_pairsBy 5 = .ok (.aload_n 0, 1) := by decide +kernel
theorem dX10_pairsBy_6 : decode cX10_pairsBy 6 = .ok (.getfield 252, 3) := by decide +kernel
theorem dX10_pairsBy_9 : decode cX10_pairsBy 9 = .ok (.if_icmp .ge 59, 3) := by decide +kernel
theorem dX10_pairsBy_12 : decode cX10_pairsBy 12 = .ok (.iconst 0, 1) := by decide +kernel
theorem dX10_pairsBy_13 : decode cX10_pairsBy 13 = .ok (.istore 4, 2) := by decide +kernel
theorem dX10_pairsBy_15 : decode cX10_pairsBy 15 = .ok (.iload 4, 2) := by decide +kernel
theorem dX10_pairsBy_17 : decode cX10_pairsBy 17 = .ok (.iload_n 3, 1) := by decide +kernel
theorem dX10_pairsBy_18 : decode cX10_pairsBy 18 = .ok (.if_icmp .ge 44, 3) := by decide +kernel
theorem dX10_pairsBy_21 : decode cX10_pairsBy 21 = .ok (.iload_n 2, 1) := by decide +kernel
theorem dX10_pairsBy_22 : decode cX10_pairsBy 22 = .ok (.iload_n 1, 1) := by decide +kernel
theorem dX10_pairsBy_23 : decode cX10_pairsBy 23 = .ok (.iload_n 3, 1) := by decide +kernel
theorem dX10_pairsBy_24 : decode cX10_pairsBy 24 = .ok (.invokestatic 141, 3) := by decide +kernel
theorem dX10_pairsBy_27 : decode cX10_pairsBy 27 = .ok (.ifCond .ne 26, 3) := by decide +kernel
theorem dX10_pairsBy_30 : decode cX10_pairsBy 30 = .ok (.iload_n 1, 1) := by decide +kernel
theorem dX10_pairsBy_31 : decode cX10_pairsBy 31 = .ok (.iload 4, 2) := by decide +kernel
theorem dX10_pairsBy_33 : decode cX10_pairsBy 33 = .ok (.invokestatic 141, 3) := by decide +kernel
theorem dX10_pairsBy_36 : decode cX10_pairsBy 36 = .ok (.ifCond .ne 17, 3) := by decide +kernel
theorem dX10_pairsBy_39 : decode cX10_pairsBy 39 = .ok (.aload_n 0, 1) := by decide +kernel
theorem dX10_pairsBy_40 : decode cX10_pairsBy 40 = .ok (.iload_n 3, 1) := by decide +kernel
theorem dX10_pairsBy_41 : decode cX10_pairsBy 41 = .ok (.iload 4, 2) := by decide +kernel
theorem dX10_pairsBy_43 : decode cX10_pairsBy 43 = .ok (.invokevirtual 258, 3) := by decide +kernel
theorem dX10_pairsBy_46 : decode cX10_pairsBy 46 = .ok (.ifCond .eq 7, 3) := by decide +kernel
theorem dX10_pairsBy_49 : decode cX10_pairsBy 49 = .ok (.iconst 1, 1) := by decide +kernel
theorem dX10_pairsBy_50 : decode cX10_pairsBy 50 = .ok (.goto 4, 3) := by decide +kernel
theorem dX10_pairsBy_53 : decode cX10_pairsBy 53 = .ok (.iconst 0, 1) := by decide +kernel
theorem dX10_pairsBy_54 : decode cX10_pairsBy 54 = .ok (.iadd, 1) := by decide +kernel
theorem dX10_pairsBy_55 : decode cX10_pairsBy 55 = .ok (.istore_n 2, 1) := by decide +kernel
theorem dX10_pairsBy_56 : decode cX10_pairsBy 56 = .ok (.iinc 4 1, 3) := by decide +kernel
theorem dX10_pairsBy_59 : decode cX10_pairsBy 59 = .ok (.goto (-44), 3) := by decide +kernel
theorem dX10_pairsBy_62 : decode cX10_pairsBy 62 = .ok (.iinc 3 1, 3) := by decide +kernel
theorem dX10_pairsBy_65 : decode cX10_pairsBy 65 = .ok (.goto (-61), 3) := by decide +kernel
theorem dX10_pairsBy_68 : decode cX10_pairsBy 68 = .ok (.iload_n 2, 1) := by decide +kernel
theorem dX10_pairsBy_69 : decode cX10_pairsBy 69 = .ok (.ireturn, 1) := by decide +kernel
set_option maxRecDepth 20000 in
theorem ggX10_leaveOf_X10_pairsBy : GoodIn wsX10_leaveOf wsX10_pairsBy := goodIn_r _ [6, 1, 7, 8, 5, 9, 10, 11, 12, 13, 14, 15, 16, 20, 21, 22, 23, 24, 25, 26, 27, 28, 29, 30, 31, 32, 33, 34, 35, 36, 37, 38, 39, 40, 41, 42, 43, 44, 45, 46, 47, 48, 49, 50, 51, 52, 53, 54, 55, 56] (by decide +kernel) (by decide +kernel)
set_option maxRecDepth 20000 in
theorem gX10_leaveOf_X10_pairsBy : GoodIn wsX10_leaveOf (wsV RX10 261 RX10 yX10_pairsBy wsX10_pairsBy) := goodIn_app (goodIn_of _ (by decide +kernel)) ggX10_leaveOf_X10_pairsBy
set_option maxRecDepth 20000 in
theorem ggX10_leaveOf_X10_ones : GoodIn wsX10_leaveOf wsX10_ones := goodIn_r _ [19] (by decide +kernel) (by decide +kernel)
set_option maxRecDepth 20000 in
theorem gX10_leaveOf_X10_ones : GoodIn wsX10_leaveOf (va_wsS RX10 158 yX10_ones wsX10_ones) := goodIn_app (goodIn_of _ (by decide +kernel)) ggX10_leaveOf_X10_ones
theorem dX10_leaveOf_0 : decode cX10_leaveOf 0 = .ok (.iload_n 1, 1) := by decide +kernel
theorem dX10_leaveOf_1 : decode cX10_leaveOf 1 = .ok (.ifCond .ne 9, 3) := by decide +kernel
theorem dX10_leaveOf_4 : decode cX10_leaveOf 4 = .ok (.aload_n 0, 1) := by decide +kernel
theorem dX10_leaveOf_5 : decode cX10_leaveOf 5 = .ok (.iconst 0, 1) := by decide +kernel
theorem dX10_leaveOf_6 : decode cX10_leaveOf 6 = .ok (.invokevirtual 261, 3) := by decide +kernel
theorem dX10_leaveOf_9 : decode cX10_leaveOf 9 = .ok (.ireturn, 1) := by decide +kernel
theorem dX10_leaveOf_10 : decode cX10_leaveOf 10 = .ok (.iconst (-1), 1) := by decide +kernel
theorem dX10_leaveOf_11 : decode cX10_leaveOf 11 = .ok (.istore_n 2, 1) := by decide +kernel
theorem dX10_leaveOf_12 : decode cX10_leaveOf 12 = .ok (.iconst 0, 1) := by decide +kernel
theorem dX10_leaveOf_13 : decode cX10_leaveOf 13 = .ok (.istore_n 3, 1) := by decide +kernel
theorem dX10_leaveOf_14 : decode cX10_leaveOf 14 = .ok (.iload_n 3, 1) := by decide +kernel
theorem dX10_leaveOf_15 : decode cX10_leaveOf 15 = .ok (.iconst 1, 1) := by decide +kernel
theorem dX10_leaveOf_16 : decode cX10_leaveOf 16 = .ok (.aload_n 0, 1) := by decide +kernel
theorem dX10_leaveOf_17 : decode cX10_leaveOf 17 = .ok (.getfield 252, 3) := by decide +kernel
theorem dX10_leaveOf_20 : decode cX10_leaveOf 20 = .ok (.ishl, 1) := by decide +kernel
theorem dX10_leaveOf_21 : decode cX10_leaveOf 21 = .ok (.if_icmp .ge 51, 3) := by decide +kernel
theorem dX10_leaveOf_24 : decode cX10_leaveOf 24 = .ok (.iload_n 2, 1) := by decide +kernel
theorem dX10_leaveOf_25 : decode cX10_leaveOf 25 = .ok (.iconst (-1), 1) := by decide +kernel
theorem dX10_leaveOf_26 : decode cX10_leaveOf 26 = .ok (.if_icmp .eq 14, 3) := by decide +kernel
theorem dX10_leaveOf_29 : decode cX10_leaveOf 29 = .ok (.iload_n 3, 1) := by decide +kernel
theorem dX10_leaveOf_30 : decode cX10_leaveOf 30 = .ok (.invokestatic 158, 3) := by decide +kernel
theorem dX10_leaveOf_33 : decode cX10_leaveOf 33 = .ok (.iload_n 2, 1) := by decide +kernel
theorem dX10_leaveOf_34 : decode cX10_leaveOf 34 = .ok (.invokestatic 158, 3) := by decide +kernel
theorem dX10_leaveOf_37 : decode cX10_leaveOf 37 = .ok (.if_icmp .ge 7, 3) := by decide +kernel
theorem dX10_leaveOf_40 : decode cX10_leaveOf 40 = .ok (.iconst 1, 1) := by decide +kernel
theorem dX10_leaveOf_41 : decode cX10_leaveOf 41 = .ok (.goto 4, 3) := by decide +kernel
theorem dX10_leaveOf_44 : decode cX10_leaveOf 44 = .ok (.iconst 0, 1) := by decide +kernel
theorem dX10_leaveOf_45 : decode cX10_leaveOf 45 = .ok (.istore 4, 2) := by decide +kernel
theorem dX10_leaveOf_47 : decode cX10_leaveOf 47 = .ok (.iload 4, 2) := by decide +kernel
theorem dX10_leaveOf_49 : decode cX10_leaveOf 49 = .ok (.ifCond .eq 15, 3) := by decide +kernel
theorem dX10_leaveOf_52 : decode cX10_leaveOf 52 = .ok (.aload_n 0, 1) := by decide +kernel
theorem dX10_leaveOf_53 : decode cX10_leaveOf 53 = .ok (.iload_n 3, 1) := by decide +kernel
theorem dX10_leaveOf_54 : decode cX10_leaveOf 54 = .ok (.invokevirtual 261, 3) := by decide +kernel
theorem dX10_leaveOf_57 : decode cX10_leaveOf 57 = .ok (.ifCond .ne 7, 3) := by decide +kernel
theorem dX10_leaveOf_60 : decode cX10_leaveOf 60 = .ok (.iload_n 3, 1) := by decide +kernel
theorem dX10_leaveOf_61 : decode cX10_leaveOf 61 = .ok (.goto 4, 3) := by decide +kernel
theorem dX10_leaveOf_64 : decode cX10_leaveOf 64 = .ok (.iload_n 2, 1) := by decide +kernel
theorem dX10_leaveOf_65 : decode cX10_leaveOf 65 = .ok (.istore_n 2, 1) := by decide +kernel
theorem dX10_leaveOf_66 : decode cX10_leaveOf 66 = .ok (.iinc 3 1, 3) := by decide +kernel
theorem dX10_leaveOf_69 : decode cX10_leaveOf 69 = .ok (.goto (-55), 3) := by decide +kernel
theorem dX10_leaveOf_72 : decode cX10_leaveOf 72 = .ok (.iload_n 1, 1) := by decide +kernel
theorem dX10_leaveOf_73 : decode cX10_leaveOf 73 = .ok (.iconst 1, 1) := by decide +kernel
theorem dX10_leaveOf_74 : decode cX10_leaveOf 74 = .ok (.if_icmp .ne 10, 3) := by decide +kernel
theorem dX10_leaveOf_77 : decode cX10_leaveOf 77 = .ok (.iload_n 2, 1) := by decide +kernel
theorem dX10_leaveOf_78 : decode cX10_leaveOf 78 = .ok (.invokestatic 158, 3) := by decide +kernel
theorem dX10_leaveOf_81 : decode cX10_leaveOf 81 = .ok (.goto 4, 3) := by decide +kernel
theorem dX10_leaveOf_84 : decode cX10_leaveOf 84 = .ok (.iload_n 2, 1) := by decide +kernel
theorem dX10_leaveOf_85 : decode cX10_leaveOf 85 = .ok (.ireturn, 1) := by decide +kernel
set_option maxRecDepth 20000 in
theorem ggX10_leave_X10_in : GoodIn wsX10_leave wsX10_in := goodIn_r _ [4] (by decide +kernel) (by decide +kernel)
set_option maxRecDepth 20000 in
theorem gX10_leave_X10_in : GoodIn wsX10_leave (va_wsS RX10 104 yX10_in wsX10_in) := goodIn_app (goodIn_of _ (by decide +kernel)) ggX10_leave_X10_in
set_option maxRecDepth 20000 in
theorem ggX10_leave_X10_leaveOf : GoodIn wsX10_leave wsX10_leaveOf := goodIn_r _ [8, 9, 10, 11, 12, 3, 13, 14, 15, 16, 17, 18, 19, 20, 21, 22, 23, 24, 25, 26, 27, 28, 29, 30, 31, 32, 33, 34, 35, 36, 37, 38, 39, 40, 41, 42, 43, 44, 45, 46, 47, 48, 49, 50, 51, 52, 53, 54, 55, 56, 57, 58, 59, 60, 61, 62, 63] (by decide +kernel) (by decide +kernel)
set_option maxRecDepth 20000 in
theorem gX10_leave_X10_leaveOf : GoodIn wsX10_leave (wsV RX10 264 RX10 yX10_leaveOf wsX10_leaveOf) := goodIn_app (goodIn_of _ (by decide +kernel)) ggX10_leave_X10_leaveOf
theorem dX10_leave_0 : decode cX10_leave 0 = .ok (.iload_n 1, 1) := by decide +kernel
theorem dX10_leave_1 : decode cX10_leave 1 = .ok (.iconst 0, 1) := by decide +kernel
theorem dX10_leave_2 : decode cX10_leave 2 = .ok (.iconst 2, 1) := by decide +kernel
theorem dX10_leave_3 : decode cX10_leave 3 = .ok (.invokestatic 104, 3) := by decide +kernel
theorem dX10_leave_6 : decode cX10_leave 6 = .ok (.ifCond .eq 11, 3) := by decide +kernel
theorem dX10_leave_9 : decode cX10_leave 9 = .ok (.aload_n 0, 1) := by decide +kernel
theorem dX10_leave_10 : decode cX10_leave 10 = .ok (.iload_n 1, 1) := by decide +kernel
theorem dX10_leave_11 : decode cX10_leave 11 = .ok (.invokevirtual 264, 3) := by decide +kernel
theorem dX10_leave_14 : decode cX10_leave 14 = .ok (.goto 5, 3) := by decide +kernel
theorem dX10_leave_17 : decode cX10_leave 17 = .ok (.bipush (-2), 2) := by decide +kernel
theorem dX10_leave_19 : decode cX10_leave 19 = .ok (.ireturn, 1) := by decide +kernel
theorem dX10_meets_0 : decode cX10_meets 0 = .ok (.aload_n 0, 1) := by decide +kernel
theorem dX10_meets_1 : decode cX10_meets 1 = .ok (.iload_n 1, 1) := by decide +kernel
theorem dX10_meets_2 : decode cX10_meets 2 = .ok (.putfield 267, 3) := by decide +kernel
theorem dX10_meets_5 : decode cX10_meets 5 = .ok (.bipush (-10), 2) := by decide +kernel
theorem dX10_meets_7 : decode cX10_meets 7 = .ok (.iload_n 1, 1) := by decide +kernel
theorem dX10_meets_8 : decode cX10_meets 8 = .ok (.isub, 1) := by decide +kernel
theorem dX10_meets_9 : decode cX10_meets 9 = .ok (.ireturn, 1) := by decide +kernel
set_option maxRecDepth 20000 in
theorem ggX10_isSheet_X10_in : GoodIn wsX10_isSheet wsX10_in := goodIn_r _ [4] (by decide +kernel) (by decide +kernel)
set_option maxRecDepth 20000 in
theorem gX10_isSheet_X10_in : GoodIn wsX10_isSheet (va_wsS RX10 104 yX10_in wsX10_in) := goodIn_app (goodIn_of _ (by decide +kernel)) ggX10_isSheet_X10_in
theorem dX10_isSheet_0 : decode cX10_isSheet 0 = .ok (.iload_n 0, 1) := by decide +kernel
theorem dX10_isSheet_1 : decode cX10_isSheet 1 = .ok (.iconst 0, 1) := by decide +kernel
theorem dX10_isSheet_2 : decode cX10_isSheet 2 = .ok (.iconst 3, 1) := by decide +kernel
theorem dX10_isSheet_3 : decode cX10_isSheet 3 = .ok (.invokestatic 104, 3) := by decide +kernel
theorem dX10_isSheet_6 : decode cX10_isSheet 6 = .ok (.ireturn, 1) := by decide +kernel
set_option maxRecDepth 20000 in
theorem ggX10_sheet_X10_isSheet : GoodIn wsX10_sheet wsX10_isSheet := goodIn_r _ [8, 9, 10, 7, 11] (by decide +kernel) (by decide +kernel)
set_option maxRecDepth 20000 in
theorem gX10_sheet_X10_isSheet : GoodIn wsX10_sheet (va_wsS RX10 237 yX10_isSheet wsX10_isSheet) := goodIn_app (goodIn_of _ (by decide +kernel)) ggX10_sheet_X10_isSheet
set_option maxRecDepth 20000 in
theorem ggX10_sheet_X10_in : GoodIn wsX10_sheet wsX10_in := goodIn_r _ [11] (by decide +kernel) (by decide +kernel)
set_option maxRecDepth 20000 in
theorem gX10_sheet_X10_in : GoodIn wsX10_sheet (va_wsS RX10 104 yX10_in wsX10_in) := goodIn_app (goodIn_of _ (by decide +kernel)) ggX10_sheet_X10_in
set_option maxRecDepth 20000 in
theorem ggX10_sheet_X10_meets : GoodIn wsX10_sheet wsX10_meets := goodIn_r _ [15, 16, 17, 18, 19, 20, 21, 22, 23, 24, 25, 26, 27, 28, 29, 30, 31, 32, 33, 34, 35, 36, 37, 38, 39, 40, 41, 42, 43, 44, 45, 46, 47, 48, 49, 50, 51, 52, 53] (by decide +kernel) (by decide +kernel)
set_option maxRecDepth 20000 in
theorem gX10_sheet_X10_meets : GoodIn wsX10_sheet (wsV RX10 240 RX10 yX10_meets wsX10_meets) := goodIn_app (goodIn_of _ (by decide +kernel)) ggX10_sheet_X10_meets
theorem dX10_sheet_0 : decode cX10_sheet 0 = .ok (.iload_n 1, 1) := by decide +kernel
theorem dX10_sheet_1 : decode cX10_sheet 1 = .ok (.invokestatic 237, 3) := by decide +kernel
theorem dX10_sheet_4 : decode cX10_sheet 4 = .ok (.ifCond .eq 18, 3) := by decide +kernel
theorem dX10_sheet_7 : decode cX10_sheet 7 = .ok (.iload_n 2, 1) := by decide +kernel
theorem dX10_sheet_8 : decode cX10_sheet 8 = .ok (.iconst 0, 1) := by decide +kernel
theorem dX10_sheet_9 : decode cX10_sheet 9 = .ok (.iconst 2, 1) := by decide +kernel
theorem dX10_sheet_10 : decode cX10_sheet 10 = .ok (.invokestatic 104, 3) := by decide +kernel
theorem dX10_sheet_13 : decode cX10_sheet 13 = .ok (.ifCond .eq 9, 3) := by decide +kernel
theorem dX10_sheet_16 : decode cX10_sheet 16 = .ok (.iload_n 3, 1) := by decide +kernel
theorem dX10_sheet_17 : decode cX10_sheet 17 = .ok (.bipush 60, 2) := by decide +kernel
theorem dX10_sheet_19 : decode cX10_sheet 19 = .ok (.if_icmp .le 6, 3) := by decide +kernel
theorem dX10_sheet_22 : decode cX10_sheet 22 = .ok (.bipush (-2), 2) := by decide +kernel
theorem dX10_sheet_24 : decode cX10_sheet 24 = .ok (.ireturn, 1) := by decide +kernel
theorem dX10_sheet_25 : decode cX10_sheet 25 = .ok (.iload_n 3, 1) := by decide +kernel
theorem dX10_sheet_26 : decode cX10_sheet 26 = .ok (.ifCond .ge 9, 3) := by decide +kernel
theorem dX10_sheet_29 : decode cX10_sheet 29 = .ok (.aload_n 0, 1) := by decide +kernel
theorem dX10_sheet_30 : decode cX10_sheet 30 = .ok (.iconst 5, 1) := by decide +kernel
theorem dX10_sheet_31 : decode cX10_sheet 31 = .ok (.invokevirtual 240, 3) := by decide +kernel
theorem dX10_sheet_34 : decode cX10_sheet 34 = .ok (.ireturn, 1) := by decide +kernel
theorem dX10_sheet_35 : decode cX10_sheet 35 = .ok (.aload_n 0, 1) := by decide +kernel
theorem dX10_sheet_36 : decode cX10_sheet 36 = .ok (.getfield 88, 3) := by decide +kernel
theorem dX10_sheet_39 : decode cX10_sheet 39 = .ok (.iload_n 1, 1) := by decide +kernel
theorem dX10_sheet_40 : decode cX10_sheet 40 = .ok (.iconst 1, 1) := by decide +kernel
theorem dX10_sheet_41 : decode cX10_sheet 41 = .ok (.bastore, 1) := by decide +kernel
theorem dX10_sheet_42 : decode cX10_sheet 42 = .ok (.aload_n 0, 1) := by decide +kernel
theorem dX10_sheet_43 : decode cX10_sheet 43 = .ok (.getfield 92, 3) := by decide +kernel
theorem dX10_sheet_46 : decode cX10_sheet 46 = .ok (.iload_n 1, 1) := by decide +kernel
theorem dX10_sheet_47 : decode cX10_sheet 47 = .ok (.iload_n 2, 1) := by decide +kernel
theorem dX10_sheet_48 : decode cX10_sheet 48 = .ok (.iastore, 1) := by decide +kernel
theorem dX10_sheet_49 : decode cX10_sheet 49 = .ok (.aload_n 0, 1) := by decide +kernel
theorem dX10_sheet_50 : decode cX10_sheet 50 = .ok (.getfield 95, 3) := by decide +kernel
theorem dX10_sheet_53 : decode cX10_sheet 53 = .ok (.iload_n 1, 1) := by decide +kernel
theorem dX10_sheet_54 : decode cX10_sheet 54 = .ok (.iload_n 3, 1) := by decide +kernel
theorem dX10_sheet_55 : decode cX10_sheet 55 = .ok (.iastore, 1) := by decide +kernel
theorem dX10_sheet_56 : decode cX10_sheet 56 = .ok (.iconst 0, 1) := by decide +kernel
theorem dX10_sheet_57 : decode cX10_sheet 57 = .ok (.istore 4, 2) := by decide +kernel
theorem dX10_sheet_59 : decode cX10_sheet 59 = .ok (.iload 4, 2) := by decide +kernel
theorem dX10_sheet_61 : decode cX10_sheet 61 = .ok (.bipush 60, 2) := by decide +kernel
theorem dX10_sheet_63 : decode cX10_sheet 63 = .ok (.if_icmp .ge 22, 3) := by decide +kernel
theorem dX10_sheet_66 : decode cX10_sheet 66 = .ok (.aload_n 0, 1) := by decide +kernel
theorem dX10_sheet_67 : decode cX10_sheet 67 = .ok (.getfield 98, 3) := by decide +kernel
theorem dX10_sheet_70 : decode cX10_sheet 70 = .ok (.bipush 60, 2) := by decide +kernel
theorem dX10_sheet_72 : decode cX10_sheet 72 = .ok (.iload_n 1, 1) := by decide +kernel
theorem dX10_sheet_73 : decode cX10_sheet 73 = .ok (.imul, 1) := by decide +kernel
theorem dX10_sheet_74 : decode cX10_sheet 74 = .ok (.iload 4, 2) := by decide +kernel
theorem dX10_sheet_76 : decode cX10_sheet 76 = .ok (.iadd, 1) := by decide +kernel
theorem dX10_sheet_77 : decode cX10_sheet 77 = .ok (.iconst 0, 1) := by decide +kernel
theorem dX10_sheet_78 : decode cX10_sheet 78 = .ok (.iastore, 1) := by decide +kernel
theorem dX10_sheet_79 : decode cX10_sheet 79 = .ok (.iinc 4 1, 3) := by decide +kernel
theorem dX10_sheet_82 : decode cX10_sheet 82 = .ok (.goto (-23), 3) := by decide +kernel
theorem dX10_sheet_85 : decode cX10_sheet 85 = .ok (.iload_n 3, 1) := by decide +kernel
theorem dX10_sheet_86 : decode cX10_sheet 86 = .ok (.ireturn, 1) := by decide +kernel
set_option maxRecDepth 20000 in
theorem ggX10_lose_X10_isSheet : GoodIn wsX10_lose wsX10_isSheet := goodIn_r _ [6, 7, 8, 5, 9] (by decide +kernel) (by decide +kernel)
set_option maxRecDepth 20000 in
theorem gX10_lose_X10_isSheet : GoodIn wsX10_lose (va_wsS RX10 237 yX10_isSheet wsX10_isSheet) := goodIn_app (goodIn_of _ (by decide +kernel)) ggX10_lose_X10_isSheet
set_option maxRecDepth 20000 in
theorem ggX10_lose_X10_meets : GoodIn wsX10_lose wsX10_meets := goodIn_r _ [13, 14, 15, 16, 17, 18, 19, 20, 21, 22, 23, 24, 25, 26, 27, 28, 29, 30, 31, 32, 33, 34, 35, 36, 37, 38, 39, 40, 41, 42, 43, 44, 45, 46, 47, 48, 49, 50, 51] (by decide +kernel) (by decide +kernel)
set_option maxRecDepth 20000 in
theorem gX10_lose_X10_meets : GoodIn wsX10_lose (wsV RX10 240 RX10 yX10_meets wsX10_meets) := goodIn_app (goodIn_of _ (by decide +kernel)) ggX10_lose_X10_meets
theorem dX10_lose_0 : decode cX10_lose 0 = .ok (.iload_n 1, 1) := by decide +kernel
theorem dX10_lose_1 : decode cX10_lose 1 = .ok (.invokestatic 237, 3) := by decide +kernel
theorem dX10_lose_4 : decode cX10_lose 4 = .ok (.ifCond .ne 6, 3) := by decide +kernel
theorem dX10_lose_7 : decode cX10_lose 7 = .ok (.bipush (-2), 2) := by decide +kernel
theorem dX10_lose_9 : decode cX10_lose 9 = .ok (.ireturn, 1) := by decide +kernel
theorem dX10_lose_10 : decode cX10_lose 10 = .ok (.aload_n 0, 1) := by decide +kernel
theorem dX10_lose_11 : decode cX10_lose 11 = .ok (.getfield 88, 3) := by decide +kernel
theorem dX10_lose_14 : decode cX10_lose 14 = .ok (.iload_n 1, 1) := by decide +kernel
theorem dX10_lose_15 : decode cX10_lose 15 = .ok (.baload, 1) := by decide +kernel
theorem dX10_lose_16 : decode cX10_lose 16 = .ok (.ifCond .ne 9, 3) := by decide +kernel
theorem dX10_lose_19 : decode cX10_lose 19 = .ok (.aload_n 0, 1) := by decide +kernel
theorem dX10_lose_20 : decode cX10_lose 20 = .ok (.iconst 1, 1) := by decide +kernel
theorem dX10_lose_21 : decode cX10_lose 21 = .ok (.invokevirtual 240, 3) := by decide +kernel
theorem dX10_lose_24 : decode cX10_lose 24 = .ok (.ireturn, 1) := by decide +kernel
theorem dX10_lose_25 : decode cX10_lose 25 = .ok (.aload_n 0, 1) := by decide +kernel
theorem dX10_lose_26 : decode cX10_lose 26 = .ok (.getfield 88, 3) := by decide +kernel
theorem dX10_lose_29 : decode cX10_lose 29 = .ok (.iload_n 1, 1) := by decide +kernel
theorem dX10_lose_30 : decode cX10_lose 30 = .ok (.iconst 0, 1) := by decide +kernel
theorem dX10_lose_31 : decode cX10_lose 31 = .ok (.bastore, 1) := by decide +kernel
theorem dX10_lose_32 : decode cX10_lose 32 = .ok (.aload_n 0, 1) := by decide +kernel
theorem dX10_lose_33 : decode cX10_lose 33 = .ok (.getfield 95, 3) := by decide +kernel
theorem dX10_lose_36 : decode cX10_lose 36 = .ok (.iload_n 1, 1) := by decide +kernel
theorem dX10_lose_37 : decode cX10_lose 37 = .ok (.iaload, 1) := by decide +kernel
theorem dX10_lose_38 : decode cX10_lose 38 = .ok (.ireturn, 1) := by decide +kernel
set_option maxRecDepth 20000 in
theorem ggX10_lacks_X10_in : GoodIn wsX10_lacks wsX10_in := goodIn_r _ [7] (by decide +kernel) (by decide +kernel)
set_option maxRecDepth 20000 in
theorem gX10_lacks_X10_in : GoodIn wsX10_lacks (va_wsS RX10 104 yX10_in wsX10_in) := goodIn_app (goodIn_of _ (by decide +kernel)) ggX10_lacks_X10_in
theorem dX10_lacks_0 : decode cX10_lacks 0 = .ok (.aload_n 0, 1) := by decide +kernel
theorem dX10_lacks_1 : decode cX10_lacks 1 = .ok (.getfield 88, 3) := by decide +kernel
theorem dX10_lacks_4 : decode cX10_lacks 4 = .ok (.iload_n 1, 1) := by decide +kernel
theorem dX10_lacks_5 : decode cX10_lacks 5 = .ok (.baload, 1) := by decide +kernel
theorem dX10_lacks_6 : decode cX10_lacks 6 = .ok (.ifCond .ne 7, 3) := by decide +kernel
theorem dX10_lacks_9 : decode cX10_lacks 9 = .ok (.iconst 1, 1) := by decide +kernel
theorem dX10_lacks_10 : decode cX10_lacks 10 = .ok (.goto 38, 3) := by decide +kernel
theorem dX10_lacks_13 : decode cX10_lacks 13 = .ok (.aload_n 0, 1) := by decide +kernel
theorem dX10_lacks_14 : decode cX10_lacks 14 = .ok (.getfield 92, 3) := by decide +kernel
theorem dX10_lacks_17 : decode cX10_lacks 17 = .ok (.iload_n 1, 1) := by decide +kernel
theorem dX10_lacks_18 : decode cX10_lacks 18 = .ok (.iaload, 1) := by decide +kernel
theorem dX10_lacks_19 : decode cX10_lacks 19 = .ok (.iload_n 2, 1) := by decide +kernel
theorem dX10_lacks_20 : decode cX10_lacks 20 = .ok (.if_icmp .eq 7, 3) := by decide +kernel
theorem dX10_lacks_23 : decode cX10_lacks 23 = .ok (.iconst 3, 1) := by decide +kernel
theorem dX10_lacks_24 : decode cX10_lacks 24 = .ok (.goto 24, 3) := by decide +kernel
theorem dX10_lacks_27 : decode cX10_lacks 27 = .ok (.iload_n 3, 1) := by decide +kernel
theorem dX10_lacks_28 : decode cX10_lacks 28 = .ok (.iconst 0, 1) := by decide +kernel
theorem dX10_lacks_29 : decode cX10_lacks 29 = .ok (.aload_n 0, 1) := by decide +kernel
theorem dX10_lacks_30 : decode cX10_lacks 30 = .ok (.getfield 95, 3) := by decide +kernel
theorem dX10_lacks_33 : decode cX10_lacks 33 = .ok (.iload_n 1, 1) := by decide +kernel
theorem dX10_lacks_34 : decode cX10_lacks 34 = .ok (.iaload, 1) := by decide +kernel
theorem dX10_lacks_35 : decode cX10_lacks 35 = .ok (.iconst 1, 1) := by decide +kernel
theorem dX10_lacks_36 : decode cX10_lacks 36 = .ok (.isub, 1) := by decide +kernel
theorem dX10_lacks_37 : decode cX10_lacks 37 = .ok (.invokestatic 104, 3) := by decide +kernel
theorem dX10_lacks_40 : decode cX10_lacks 40 = .ok (.ifCond .eq 7, 3) := by decide +kernel
theorem dX10_lacks_43 : decode cX10_lacks 43 = .ok (.iconst 0, 1) := by decide +kernel
theorem dX10_lacks_44 : decode cX10_lacks 44 = .ok (.goto 4, 3) := by decide +kernel
theorem dX10_lacks_47 : decode cX10_lacks 47 = .ok (.iconst 2, 1) := by decide +kernel
theorem dX10_lacks_48 : decode cX10_lacks 48 = .ok (.ireturn, 1) := by decide +kernel
theorem dX10_keep_0 : decode cX10_keep 0 = .ok (.aload_n 0, 1) := by decide +kernel
theorem dX10_keep_1 : decode cX10_keep 1 = .ok (.getfield 98, 3) := by decide +kernel
theorem dX10_keep_4 : decode cX10_keep 4 = .ok (.bipush 60, 2) := by decide +kernel
theorem dX10_keep_6 : decode cX10_keep 6 = .ok (.iload_n 1, 1) := by decide +kernel
theorem dX10_keep_7 : decode cX10_keep 7 = .ok (.imul, 1) := by decide +kernel
theorem dX10_keep_8 : decode cX10_keep 8 = .ok (.iload_n 2, 1) := by decide +kernel
theorem dX10_keep_9 : decode cX10_keep 9 = .ok (.iadd, 1) := by decide +kernel
theorem dX10_keep_10 : decode cX10_keep 10 = .ok (.aload_n 0, 1) := by decide +kernel
theorem dX10_keep_11 : decode cX10_keep 11 = .ok (.getfield 92, 3) := by decide +kernel
theorem dX10_keep_14 : decode cX10_keep 14 = .ok (.iload_n 1, 1) := by decide +kernel
theorem dX10_keep_15 : decode cX10_keep 15 = .ok (.iaload, 1) := by decide +kernel
theorem dX10_keep_16 : decode cX10_keep 16 = .ok (.ifCond .ne 8, 3) := by decide +kernel
theorem dX10_keep_19 : decode cX10_keep 19 = .ok (.iload_n 3, 1) := by decide +kernel
theorem dX10_keep_20 : decode cX10_keep 20 = .ok (.i2b, 1) := by decide +kernel
theorem dX10_keep_21 : decode cX10_keep 21 = .ok (.goto 19, 3) := by decide +kernel
theorem dX10_keep_24 : decode cX10_keep 24 = .ok (.aload_n 0, 1) := by decide +kernel
theorem dX10_keep_25 : decode cX10_keep 25 = .ok (.getfield 92, 3) := by decide +kernel
theorem dX10_keep_28 : decode cX10_keep 28 = .ok (.iload_n 1, 1) := by decide +kernel
theorem dX10_keep_29 : decode cX10_keep 29 = .ok (.iaload, 1) := by decide +kernel
theorem dX10_keep_30 : decode cX10_keep 30 = .ok (.iconst 1, 1) := by decide +kernel
theorem dX10_keep_31 : decode cX10_keep 31 = .ok (.if_icmp .ne 8, 3) := by decide +kernel
theorem dX10_keep_34 : decode cX10_keep 34 = .ok (.iload_n 3, 1) := by decide +kernel
theorem dX10_keep_35 : decode cX10_keep 35 = .ok (.i2s, 1) := by decide +kernel
theorem dX10_keep_36 : decode cX10_keep 36 = .ok (.goto 4, 3) := by decide +kernel
theorem dX10_keep_39 : decode cX10_keep 39 = .ok (.iload_n 3, 1) := by decide +kernel
theorem dX10_keep_40 : decode cX10_keep 40 = .ok (.iastore, 1) := by decide +kernel
theorem dX10_keep_41 : decode cX10_keep 41 = .ok (.return_, 1) := by decide +kernel
set_option maxRecDepth 20000 in
theorem ggX10_put_X10_isSheet : GoodIn wsX10_put wsX10_isSheet := goodIn_r _ [4, 5, 6, 3, 7] (by decide +kernel) (by decide +kernel)
set_option maxRecDepth 20000 in
theorem gX10_put_X10_isSheet : GoodIn wsX10_put (va_wsS RX10 237 yX10_isSheet wsX10_isSheet) := goodIn_app (goodIn_of _ (by decide +kernel)) ggX10_put_X10_isSheet
set_option maxRecDepth 20000 in
theorem ggX10_put_X10_in : GoodIn wsX10_put wsX10_in := goodIn_r _ [7] (by decide +kernel) (by decide +kernel)
set_option maxRecDepth 20000 in
theorem gX10_put_X10_in : GoodIn wsX10_put (va_wsS RX10 104 yX10_in wsX10_in) := goodIn_app (goodIn_of _ (by decide +kernel)) ggX10_put_X10_in
set_option maxRecDepth 20000 in
theorem ggX10_put_X10_lacks : GoodIn wsX10_put wsX10_lacks := goodIn_r _ [11, 12, 13, 14, 5, 6, 3, 7, 25, 26, 27, 28, 29, 30, 31, 32, 33, 34, 35, 36, 37, 38, 39, 40, 41, 42, 43, 44, 45, 46, 47, 48, 49, 50, 51, 52, 53, 54, 55, 56, 57, 58, 59, 60, 61] (by decide +kernel) (by decide +kernel)
set_option maxRecDepth 20000 in
theorem gX10_put_X10_lacks : GoodIn wsX10_put (wsV RX10 270 RX10 yX10_lacks wsX10_lacks) := goodIn_app (goodIn_of _ (by decide +kernel)) ggX10_put_X10_lacks
set_option maxRecDepth 20000 in
theorem ggX10_put_X10_meets : GoodIn wsX10_put wsX10_meets := goodIn_r _ [18, 19, 25, 26, 27, 28, 29, 30, 31, 32, 33, 34, 35, 36, 37, 38, 39, 40, 41, 42, 43, 44, 45, 46, 47, 48, 49, 50, 51, 52, 53, 54, 55, 56, 57, 58, 59, 60, 61] (by decide +kernel) (by decide +kernel)
set_option maxRecDepth 20000 in
theorem gX10_put_X10_meets : GoodIn wsX10_put (wsV RX10 240 RX10 yX10_meets wsX10_meets) := goodIn_app (goodIn_of _ (by decide +kernel)) ggX10_put_X10_meets
set_option maxRecDepth 20000 in
theorem ggX10_put_X10_keep : GoodIn wsX10_put wsX10_keep := goodIn_r _ [23, 24, 13, 25, 26, 27, 28, 29, 30, 31, 32, 33, 34, 35, 36, 37, 38, 39, 40, 41, 42, 43, 44, 45, 46, 47, 48, 49, 50, 51, 52, 53, 54, 55, 56, 57, 58, 59, 60, 61] (by decide +kernel) (by decide +kernel)
set_option maxRecDepth 20000 in
theorem gX10_put_X10_keep : GoodIn wsX10_put (wsV RX10 273 RX10 yX10_keep wsX10_keep) := goodIn_app (goodIn_of _ (by decide +kernel)) ggX10_put_X10_keep
theorem dX10_put_0 : decode cX10_put 0 = .ok (.iload_n 1, 1) := by decide +kernel
theorem dX10_put_1 : decode cX10_put 1 = .ok (.invokestatic 237, 3) := by decide +kernel
theorem dX10_put_4 : decode cX10_put 4 = .ok (.ifCond .eq 12, 3) := by decide +kernel
theorem dX10_put_7 : decode cX10_put 7 = .ok (.iload_n 2, 1) := by decide +kernel
theorem dX10_put_8 : decode cX10_put 8 = .ok (.iconst 0, 1) := by decide +kernel
theorem dX10_put_9 : decode cX10_put 9 = .ok (.iconst 2, 1) := by decide +kernel
theorem dX10_put_10 : decode cX10_put 10 = .ok (.invokestatic 104, 3) := by decide +kernel
theorem dX10_put_13 : decode cX10_put 13 = .ok (.ifCond .ne 6, 3) := by decide +kernel
theorem dX10_put_16 : decode cX10_put 16 = .ok (.bipush (-2), 2) := by decide +kernel
theorem dX10_put_18 : decode cX10_put 18 = .ok (.ireturn, 1) := by decide +kernel
theorem dX10_put_19 : decode cX10_put 19 = .ok (.aload_n 0, 1) := by decide +kernel
theorem dX10_put_20 : decode cX10_put 20 = .ok (.iload_n 1, 1) := by decide +kernel
theorem dX10_put_21 : decode cX10_put 21 = .ok (.iload_n 2, 1) := by decide +kernel
theorem dX10_put_22 : decode cX10_put 22 = .ok (.iload_n 3, 1) := by decide +kernel
theorem dX10_put_23 : decode cX10_put 23 = .ok (.invokevirtual 270, 3) := by decide +kernel
theorem dX10_put_26 : decode cX10_put 26 = .ok (.istore 5, 2) := by decide +kernel
theorem dX10_put_28 : decode cX10_put 28 = .ok (.iload 5, 2) := by decide +kernel
theorem dX10_put_30 : decode cX10_put 30 = .ok (.ifCond .le 10, 3) := by decide +kernel
theorem dX10_put_33 : decode cX10_put 33 = .ok (.aload_n 0, 1) := by decide +kernel
theorem dX10_put_34 : decode cX10_put 34 = .ok (.iload 5, 2) := by decide +kernel
theorem dX10_put_36 : decode cX10_put 36 = .ok (.invokevirtual 240, 3) := by decide +kernel
theorem dX10_put_39 : decode cX10_put 39 = .ok (.ireturn, 1) := by decide +kernel
theorem dX10_put_40 : decode cX10_put 40 = .ok (.aload_n 0, 1) := by decide +kernel
theorem dX10_put_41 : decode cX10_put 41 = .ok (.iload_n 1, 1) := by decide +kernel
theorem dX10_put_42 : decode cX10_put 42 = .ok (.iload_n 3, 1) := by decide +kernel
theorem dX10_put_43 : decode cX10_put 43 = .ok (.iload 4, 2) := by decide +kernel
theorem dX10_put_45 : decode cX10_put 45 = .ok (.invokevirtual 273, 3) := by decide +kernel
theorem dX10_put_48 : decode cX10_put 48 = .ok (.iconst 1, 1) := by decide +kernel
theorem dX10_put_49 : decode cX10_put 49 = .ok (.ireturn, 1) := by decide +kernel
set_option maxRecDepth 20000 in
theorem ggX10_get_X10_isSheet : GoodIn wsX10_get wsX10_isSheet := goodIn_r _ [7, 8, 9, 6, 10] (by decide +kernel) (by decide +kernel)
set_option maxRecDepth 20000 in
theorem gX10_get_X10_isSheet : GoodIn wsX10_get (va_wsS RX10 237 yX10_isSheet wsX10_isSheet) := goodIn_app (goodIn_of _ (by decide +kernel)) ggX10_get_X10_isSheet
set_option maxRecDepth 20000 in
theorem ggX10_get_X10_in : GoodIn wsX10_get wsX10_in := goodIn_r _ [10] (by decide +kernel) (by decide +kernel)
set_option maxRecDepth 20000 in
theorem gX10_get_X10_in : GoodIn wsX10_get (va_wsS RX10 104 yX10_in wsX10_in) := goodIn_app (goodIn_of _ (by decide +kernel)) ggX10_get_X10_in
set_option maxRecDepth 20000 in
theorem ggX10_get_X10_lacks : GoodIn wsX10_get wsX10_lacks := goodIn_r _ [14, 15, 16, 17, 8, 9, 6, 10, 18, 19, 20, 21, 22, 23, 24, 25, 26, 27, 28, 29, 30, 31, 32, 33, 34, 35, 36, 37, 38, 39, 40, 41, 42, 43, 44, 45, 46, 47, 48, 49, 50, 51, 52, 53, 54] (by decide +kernel) (by decide +kernel)
set_option maxRecDepth 20000 in
theorem gX10_get_X10_lacks : GoodIn wsX10_get (wsV RX10 270 RX10 yX10_lacks wsX10_lacks) := goodIn_app (goodIn_of _ (by decide +kernel)) ggX10_get_X10_lacks
theorem dX10_get_0 : decode cX10_get 0 = .ok (.iload_n 1, 1) := by decide +kernel
theorem dX10_get_1 : decode cX10_get 1 = .ok (.invokestatic 237, 3) := by decide +kernel
theorem dX10_get_4 : decode cX10_get 4 = .ok (.ifCond .eq 12, 3) := by decide +kernel
theorem dX10_get_7 : decode cX10_get 7 = .ok (.iload_n 2, 1) := by decide +kernel
theorem dX10_get_8 : decode cX10_get 8 = .ok (.iconst 0, 1) := by decide +kernel
theorem dX10_get_9 : decode cX10_get 9 = .ok (.iconst 2, 1) := by decide +kernel
theorem dX10_get_10 : decode cX10_get 10 = .ok (.invokestatic 104, 3) := by decide +kernel
theorem dX10_get_13 : decode cX10_get 13 = .ok (.ifCond .ne 7, 3) := by decide +kernel
theorem dX10_get_16 : decode cX10_get 16 = .ok (.ldc_w 276, 3) := by decide +kernel
theorem dX10_get_19 : decode cX10_get 19 = .ok (.ireturn, 1) := by decide +kernel
theorem dX10_get_20 : decode cX10_get 20 = .ok (.aload_n 0, 1) := by decide +kernel
theorem dX10_get_21 : decode cX10_get 21 = .ok (.iload_n 1, 1) := by decide +kernel
theorem dX10_get_22 : decode cX10_get 22 = .ok (.iload_n 2, 1) := by decide +kernel
theorem dX10_get_23 : decode cX10_get 23 = .ok (.iload_n 3, 1) := by decide +kernel
theorem dX10_get_24 : decode cX10_get 24 = .ok (.invokevirtual 270, 3) := by decide +kernel
theorem dX10_get_27 : decode cX10_get 27 = .ok (.istore 4, 2) := by decide +kernel
theorem dX10_get_29 : decode cX10_get 29 = .ok (.iload 4, 2) := by decide +kernel
theorem dX10_get_31 : decode cX10_get 31 = .ok (.ifCond .le 13, 3) := by decide +kernel
theorem dX10_get_34 : decode cX10_get 34 = .ok (.aload_n 0, 1) := by decide +kernel
theorem dX10_get_35 : decode cX10_get 35 = .ok (.iload 4, 2) := by decide +kernel
theorem dX10_get_37 : decode cX10_get 37 = .ok (.putfield 267, 3) := by decide +kernel
theorem dX10_get_40 : decode cX10_get 40 = .ok (.ldc_w 276, 3) := by decide +kernel
theorem dX10_get_43 : decode cX10_get 43 = .ok (.ireturn, 1) := by decide +kernel
theorem dX10_get_44 : decode cX10_get 44 = .ok (.aload_n 0, 1) := by decide +kernel
theorem dX10_get_45 : decode cX10_get 45 = .ok (.getfield 98, 3) := by decide +kernel
theorem dX10_get_48 : decode cX10_get 48 = .ok (.bipush 60, 2) := by decide +kernel
theorem dX10_get_50 : decode cX10_get 50 = .ok (.iload_n 1, 1) := by decide +kernel
theorem dX10_get_51 : decode cX10_get 51 = .ok (.imul, 1) := by decide +kernel
theorem dX10_get_52 : decode cX10_get 52 = .ok (.iload_n 3, 1) := by decide +kernel
theorem dX10_get_53 : decode cX10_get 53 = .ok (.iadd, 1) := by decide +kernel
theorem dX10_get_54 : decode cX10_get 54 = .ok (.iaload, 1) := by decide +kernel
theorem dX10_get_55 : decode cX10_get 55 = .ok (.ireturn, 1) := by decide +kernel
set_option maxRecDepth 20000 in
theorem ggX10_copy_X10_isSheet : GoodIn wsX10_copy wsX10_isSheet := goodIn_r _ [9, 10, 11, 8, 12] (by decide +kernel) (by decide +kernel)
set_option maxRecDepth 20000 in
theorem gX10_copy_X10_isSheet : GoodIn wsX10_copy (va_wsS RX10 237 yX10_isSheet wsX10_isSheet) := goodIn_app (goodIn_of _ (by decide +kernel)) ggX10_copy_X10_isSheet
set_option maxRecDepth 20000 in
theorem ggX10_copy_X10_meets : GoodIn wsX10_copy wsX10_meets := goodIn_r _ [16, 17, 18, 19, 20, 21, 22, 23, 24, 25, 26, 27, 28, 29, 30, 31, 32, 33, 34, 35, 36, 37, 38, 39, 40, 41, 42, 43, 44, 45, 46, 47, 48, 49, 50, 51, 52, 53, 54] (by decide +kernel) (by decide +kernel)
set_option maxRecDepth 20000 in
theorem gX10_copy_X10_meets : GoodIn wsX10_copy (wsV RX10 240 RX10 yX10_meets wsX10_meets) := goodIn_app (goodIn_of _ (by decide +kernel)) ggX10_copy_X10_meets
theorem dX10_copy_0 : decode cX10_copy 0 = .ok (.iload_n 1, 1) := by decide +kernel
theorem dX10_copy_1 : decode cX10_copy 1 = .ok (.invokestatic 237, 3) := by decide +kernel
theorem dX10_copy_4 : decode cX10_copy 4 = .ok (.ifCond .eq 10, 3) := by decide +kernel
theorem dX10_copy_7 : decode cX10_copy 7 = .ok (.iload_n 3, 1) := by decide +kernel
theorem dX10_copy_8 : decode cX10_copy 8 = .ok (.invokestatic 237, 3) := by decide +kernel
theorem dX10_copy_11 : decode cX10_copy 11 = .ok (.ifCond .ne 6, 3) := by decide +kernel
theorem dX10_copy_14 : decode cX10_copy 14 = .ok (.bipush (-2), 2) := by decide +kernel
theorem dX10_copy_16 : decode cX10_copy 16 = .ok (.ireturn, 1) := by decide +kernel
theorem dX10_copy_17 : decode cX10_copy 17 = .ok (.aload_n 0, 1) := by decide +kernel
theorem dX10_copy_18 : decode cX10_copy 18 = .ok (.getfield 88, 3) := by decide +kernel
theorem dX10_copy_21 : decode cX10_copy 21 = .ok (.iload_n 1, 1) := by decide +kernel
theorem dX10_copy_22 : decode cX10_copy 22 = .ok (.baload, 1) := by decide +kernel
theorem dX10_copy_23 : decode cX10_copy 23 = .ok (.ifCond .eq 12, 3) := by decide +kernel
theorem dX10_copy_26 : decode cX10_copy 26 = .ok (.aload_n 0, 1) := by decide +kernel
theorem dX10_copy_27 : decode cX10_copy 27 = .ok (.getfield 88, 3) := by decide +kernel
theorem dX10_copy_30 : decode cX10_copy 30 = .ok (.iload_n 3, 1) := by decide +kernel
theorem dX10_copy_31 : decode cX10_copy 31 = .ok (.baload, 1) := by decide +kernel
theorem dX10_copy_32 : decode cX10_copy 32 = .ok (.ifCond .ne 9, 3) := by decide +kernel
theorem dX10_copy_35 : decode cX10_copy 35 = .ok (.aload_n 0, 1) := by decide +kernel
theorem dX10_copy_36 : decode cX10_copy 36 = .ok (.iconst 1, 1) := by decide +kernel
theorem dX10_copy_37 : decode cX10_copy 37 = .ok (.invokevirtual 240, 3) := by decide +kernel
theorem dX10_copy_40 : decode cX10_copy 40 = .ok (.ireturn, 1) := by decide +kernel
theorem dX10_copy_41 : decode cX10_copy 41 = .ok (.aload_n 0, 1) := by decide +kernel
theorem dX10_copy_42 : decode cX10_copy 42 = .ok (.getfield 92, 3) := by decide +kernel
theorem dX10_copy_45 : decode cX10_copy 45 = .ok (.iload_n 1, 1) := by decide +kernel
theorem dX10_copy_46 : decode cX10_copy 46 = .ok (.iaload, 1) := by decide +kernel
theorem dX10_copy_47 : decode cX10_copy 47 = .ok (.aload_n 0, 1) := by decide +kernel
theorem dX10_copy_48 : decode cX10_copy 48 = .ok (.getfield 92, 3) := by decide +kernel
theorem dX10_copy_51 : decode cX10_copy 51 = .ok (.iload_n 3, 1) := by decide +kernel
theorem dX10_copy_52 : decode cX10_copy 52 = .ok (.iaload, 1) := by decide +kernel
theorem dX10_copy_53 : decode cX10_copy 53 = .ok (.if_icmp .eq 9, 3) := by decide +kernel
theorem dX10_copy_56 : decode cX10_copy 56 = .ok (.aload_n 0, 1) := by decide +kernel
theorem dX10_copy_57 : decode cX10_copy 57 = .ok (.iconst 4, 1) := by decide +kernel
theorem dX10_copy_58 : decode cX10_copy 58 = .ok (.invokevirtual 240, 3) := by decide +kernel
theorem dX10_copy_61 : decode cX10_copy 61 = .ok (.ireturn, 1) := by decide +kernel
theorem dX10_copy_62 : decode cX10_copy 62 = .ok (.iload_n 2, 1) := by decide +kernel
theorem dX10_copy_63 : decode cX10_copy 63 = .ok (.ifCond .lt 48, 3) := by decide +kernel
theorem dX10_copy_66 : decode cX10_copy 66 = .ok (.iload 4, 2) := by decide +kernel
theorem dX10_copy_68 : decode cX10_copy 68 = .ok (.ifCond .lt 43, 3) := by decide +kernel
theorem dX10_copy_71 : decode cX10_copy 71 = .ok (.iload 5, 2) := by decide +kernel
theorem dX10_copy_73 : decode cX10_copy 73 = .ok (.ifCond .lt 38, 3) := by decide +kernel
theorem dX10_copy_76 : decode cX10_copy 76 = .ok (.iload_n 2, 1) := by decide +kernel
theorem dX10_copy_77 : decode cX10_copy 77 = .ok (.i2l, 1) := by decide +kernel
theorem dX10_copy_78 : decode cX10_copy 78 = .ok (.iload 5, 2) := by decide +kernel
theorem dX10_copy_80 : decode cX10_copy 80 = .ok (.i2l, 1) := by decide +kernel
theorem dX10_copy_81 : decode cX10_copy 81 = .ok (.ladd, 1) := by decide +kernel
theorem dX10_copy_82 : decode cX10_copy 82 = .ok (.aload_n 0, 1) := by decide +kernel
theorem dX10_copy_83 : decode cX10_copy 83 = .ok (.getfield 95, 3) := by decide +kernel
theorem dX10_copy_86 : decode cX10_copy 86 = .ok (.iload_n 1, 1) := by decide +kernel
theorem dX10_copy_87 : decode cX10_copy 87 = .ok (.iaload, 1) := by decide +kernel
theorem dX10_copy_88 : decode cX10_copy 88 = .ok (.i2l, 1) := by decide +kernel
theorem dX10_copy_89 : decode cX10_copy 89 = .ok (.lcmp, 1) := by decide +kernel
theorem dX10_copy_90 : decode cX10_copy 90 = .ok (.ifCond .gt 21, 3) := by decide +kernel
theorem dX10_copy_93 : decode cX10_copy 93 = .ok (.iload 4, 2) := by decide +kernel
theorem dX10_copy_95 : decode cX10_copy 95 = .ok (.i2l, 1) := by decide +kernel
theorem dX10_copy_96 : decode cX10_copy 96 = .ok (.iload 5, 2) := by decide +kernel
theorem dX10_copy_98 : decode cX10_copy 98 = .ok (.i2l, 1) := by decide +kernel
theorem dX10_copy_99 : decode cX10_copy 99 = .ok (.ladd, 1) := by decide +kernel
theorem dX10_copy_100 : decode cX10_copy 100 = .ok (.aload_n 0, 1) := by decide +kernel
theorem dX10_copy_101 : decode cX10_copy 101 = .ok (.getfield 95, 3) := by decide +kernel
theorem dX10_copy_104 : decode cX10_copy 104 = .ok (.iload_n 3, 1) := by decide +kernel
theorem dX10_copy_105 : decode cX10_copy 105 = .ok (.iaload, 1) := by decide +kernel
theorem dX10_copy_106 : decode cX10_copy 106 = .ok (.i2l, 1) := by decide +kernel
theorem dX10_copy_107 : decode cX10_copy 107 = .ok (.lcmp, 1) := by decide +kernel
theorem dX10_copy_108 : decode cX10_copy 108 = .ok (.ifCond .le 9, 3) := by decide +kernel
theorem dX10_copy_111 : decode cX10_copy 111 = .ok (.aload_n 0, 1) := by decide +kernel
theorem dX10_copy_112 : decode cX10_copy 112 = .ok (.iconst 2, 1) := by decide +kernel
theorem dX10_copy_113 : decode cX10_copy 113 = .ok (.invokevirtual 240, 3) := by decide +kernel
theorem dX10_copy_116 : decode cX10_copy 116 = .ok (.ireturn, 1) := by decide +kernel
theorem dX10_copy_117 : decode cX10_copy 117 = .ok (.iconst 0, 1) := by decide +kernel
theorem dX10_copy_118 : decode cX10_copy 118 = .ok (.istore 6, 2) := by decide +kernel
theorem dX10_copy_120 : decode cX10_copy 120 = .ok (.iload 6, 2) := by decide +kernel
theorem dX10_copy_122 : decode cX10_copy 122 = .ok (.iload 5, 2) := by decide +kernel
theorem dX10_copy_124 : decode cX10_copy 124 = .ok (.if_icmp .ge 30, 3) := by decide +kernel
theorem dX10_copy_127 : decode cX10_copy 127 = .ok (.aload_n 0, 1) := by decide +kernel
theorem dX10_copy_128 : decode cX10_copy 128 = .ok (.getfield 101, 3) := by decide +kernel
theorem dX10_copy_131 : decode cX10_copy 131 = .ok (.iload 6, 2) := by decide +kernel
theorem dX10_copy_133 : decode cX10_copy 133 = .ok (.aload_n 0, 1) := by decide +kernel
theorem dX10_copy_134 : decode cX10_copy 134 = .ok (.getfield 98, 3) := by decide +kernel
theorem dX10_copy_137 : decode cX10_copy 137 = .ok (.bipush 60, 2) := by decide +kernel
theorem dX10_copy_139 : decode cX10_copy 139 = .ok (.iload_n 1, 1) := by decide +kernel
theorem dX10_copy_140 : decode cX10_copy 140 = .ok (.imul, 1) := by decide +kernel
theorem dX10_copy_141 : decode cX10_copy 141 = .ok (.iload_n 2, 1) := by decide +kernel
theorem dX10_copy_142 : decode cX10_copy 142 = .ok (.iadd, 1) := by decide +kernel
theorem dX10_copy_143 : decode cX10_copy 143 = .ok (.iload 6, 2) := by decide +kernel
theorem dX10_copy_145 : decode cX10_copy 145 = .ok (.iadd, 1) := by decide +kernel
theorem dX10_copy_146 : decode cX10_copy 146 = .ok (.iaload, 1) := by decide +kernel
theorem dX10_copy_147 : decode cX10_copy 147 = .ok (.iastore, 1) := by decide +kernel
theorem dX10_copy_148 : decode cX10_copy 148 = .ok (.iinc 6 1, 3) := by decide +kernel
theorem dX10_copy_151 : decode cX10_copy 151 = .ok (.goto (-31), 3) := by decide +kernel
theorem dX10_copy_154 : decode cX10_copy 154 = .ok (.iconst 0, 1) := by decide +kernel
theorem dX10_copy_155 : decode cX10_copy 155 = .ok (.istore 6, 2) := by decide +kernel
theorem dX10_copy_157 : decode cX10_copy 157 = .ok (.iload 6, 2) := by decide +kernel
theorem dX10_copy_159 : decode cX10_copy 159 = .ok (.iload 5, 2) := by decide +kernel
theorem dX10_copy_161 : decode cX10_copy 161 = .ok (.if_icmp .ge 31, 3) := by decide +kernel
theorem dX10_copy_164 : decode cX10_copy 164 = .ok (.aload_n 0, 1) := by decide +kernel
theorem dX10_copy_165 : decode cX10_copy 165 = .ok (.getfield 98, 3) := by decide +kernel
theorem dX10_copy_168 : decode cX10_copy 168 = .ok (.bipush 60, 2) := by decide +kernel
theorem dX10_copy_170 : decode cX10_copy 170 = .ok (.iload_n 3, 1) := by decide +kernel
theorem dX10_copy_171 : decode cX10_copy 171 = .ok (.imul, 1) := by decide +kernel
theorem dX10_copy_172 : decode cX10_copy 172 = .ok (.iload 4, 2) := by decide +kernel
theorem dX10_copy_174 : decode cX10_copy 174 = .ok (.iadd, 1) := by decide +kernel
theorem dX10_copy_175 : decode cX10_copy 175 = .ok (.iload 6, 2) := by decide +kernel
theorem dX10_copy_177 : decode cX10_copy 177 = .ok (.iadd, 1) := by decide +kernel
theorem dX10_copy_178 : decode cX10_copy 178 = .ok (.aload_n 0, 1) := by decide +kernel
theorem dX10_copy_179 : decode cX10_copy 179 = .ok (.getfield 101, 3) := by decide +kernel
theorem dX10_copy_182 : decode cX10_copy 182 = .ok (.iload 6, 2) := by decide +kernel
theorem dX10_copy_184 : decode cX10_copy 184 = .ok (.iaload, 1) := by decide +kernel
theorem dX10_copy_185 : decode cX10_copy 185 = .ok (.iastore, 1) := by decide +kernel
theorem dX10_copy_186 : decode cX10_copy 186 = .ok (.iinc 6 1, 3) := by decide +kernel
theorem dX10_copy_189 : decode cX10_copy 189 = .ok (.goto (-32), 3) := by decide +kernel
theorem dX10_copy_192 : decode cX10_copy 192 = .ok (.iconst 1, 1) := by decide +kernel
theorem dX10_copy_193 : decode cX10_copy 193 = .ok (.ireturn, 1) := by decide +kernel
set_option maxRecDepth 20000 in
theorem ggX10_write_X10_isSheet : GoodIn wsX10_write wsX10_isSheet := goodIn_r _ [7, 8, 9, 6, 10] (by decide +kernel) (by decide +kernel)
set_option maxRecDepth 20000 in
theorem gX10_write_X10_isSheet : GoodIn wsX10_write (va_wsS RX10 237 yX10_isSheet wsX10_isSheet) := goodIn_app (goodIn_of _ (by decide +kernel)) ggX10_write_X10_isSheet
set_option maxRecDepth 20000 in
theorem ggX10_write_X10_meets : GoodIn wsX10_write wsX10_meets := goodIn_r _ [14, 15, 86, 87, 88, 89, 90, 91, 92, 93, 94, 95, 96, 97, 98, 99, 100, 101, 102, 103, 104, 105, 106, 107, 108, 109, 110, 111, 112, 113, 114, 115, 116, 117, 118, 119, 120, 121, 122] (by decide +kernel) (by decide +kernel)
set_option maxRecDepth 20000 in
theorem gX10_write_X10_meets : GoodIn wsX10_write (wsV RX10 240 RX10 yX10_meets wsX10_meets) := goodIn_app (goodIn_of _ (by decide +kernel)) ggX10_write_X10_meets
set_option maxRecDepth 20000 in
theorem ggX10_write_X10_lays : GoodIn wsX10_write wsX10_lays := goodIn_r _ [19, 20, 21, 22, 23, 6, 24, 3, 25, 26, 27, 28, 29, 30, 31, 32, 33, 34, 35, 36, 37, 38, 39, 40, 41, 42, 43, 44, 45, 46, 47, 48, 49, 50, 8, 9, 10, 51, 52, 53, 54, 55, 56, 57, 58, 59, 60, 61, 62, 63, 64, 65, 66, 67, 68, 69, 70, 71, 72, 86, 87, 88, 89, 90, 91, 92, 93, 94, 95, 96, 97, 98, 99, 100, 101, 102, 103, 104, 105, 106, 107, 108, 109, 110, 111, 112, 113, 114, 115, 116, 117, 118, 119, 120, 121, 122] (by decide +kernel) (by decide +kernel)
set_option maxRecDepth 20000 in
theorem gX10_write_X10_lays : GoodIn wsX10_write (wsV RX10 161 RX10 yX10_lays wsX10_lays) := goodIn_app (goodIn_of _ (by decide +kernel)) ggX10_write_X10_lays
set_option maxRecDepth 20000 in
theorem ggX10_write_X10_feltBy : GoodIn wsX10_write wsX10_feltBy := goodIn_r _ [76, 59, 56, 77, 78, 6, 79, 86, 87, 88, 89, 90, 91, 92, 93, 94, 95, 96, 97, 98, 99, 100, 101, 102, 103, 104, 105, 106, 107, 108, 109, 110, 111, 112, 113, 114, 115, 116, 117, 118, 119, 120, 121, 122] (by decide +kernel) (by decide +kernel)
set_option maxRecDepth 20000 in
theorem gX10_write_X10_feltBy : GoodIn wsX10_write (wsV RX10 164 RX10 yX10_feltBy wsX10_feltBy) := goodIn_app (goodIn_of _ (by decide +kernel)) ggX10_write_X10_feltBy
set_option maxRecDepth 20000 in
theorem ggX10_write_X10_keep : GoodIn wsX10_write wsX10_keep := goodIn_r _ [83, 84, 85, 86, 87, 88, 89, 90, 91, 92, 93, 94, 95, 96, 97, 98, 99, 100, 101, 102, 103, 104, 105, 106, 107, 108, 109, 110, 111, 112, 113, 114, 115, 116, 117, 118, 119, 120, 121, 122] (by decide +kernel) (by decide +kernel)
set_option maxRecDepth 20000 in
theorem gX10_write_X10_keep : GoodIn wsX10_write (wsV RX10 273 RX10 yX10_keep wsX10_keep) := goodIn_app (goodIn_of _ (by decide +kernel)) ggX10_write_X10_keep
theorem dX10_write_0 : decode cX10_write 0 = .ok (.iload_n 1, 1) := by decide +kernel
theorem dX10_write_1 : decode cX10_write 1 = .ok (.invokestatic 237, 3) := by decide +kernel
theorem dX10_write_4 : decode cX10_write 4 = .ok (.ifCond .ne 6, 3) := by decide +kernel
theorem dX10_write_7 : decode cX10_write 7 = .ok (.bipush (-2), 2) := by decide +kernel
theorem dX10_write_9 : decode cX10_write 9 = .ok (.ireturn, 1) := by decide +kernel
theorem dX10_write_10 : decode cX10_write 10 = .ok (.aload_n 0, 1) := by decide +kernel
theorem dX10_write_11 : decode cX10_write 11 = .ok (.getfield 88, 3) := by decide +kernel
theorem dX10_write_14 : decode cX10_write 14 = .ok (.iload_n 1, 1) := by decide +kernel
theorem dX10_write_15 : decode cX10_write 15 = .ok (.baload, 1) := by decide +kernel
theorem dX10_write_16 : decode cX10_write 16 = .ok (.ifCond .ne 9, 3) := by decide +kernel
theorem dX10_write_19 : decode cX10_write 19 = .ok (.aload_n 0, 1) := by decide +kernel
theorem dX10_write_20 : decode cX10_write 20 = .ok (.iconst 1, 1) := by decide +kernel
theorem dX10_write_21 : decode cX10_write 21 = .ok (.invokevirtual 240, 3) := by decide +kernel
theorem dX10_write_24 : decode cX10_write 24 = .ok (.ireturn, 1) := by decide +kernel
theorem dX10_write_25 : decode cX10_write 25 = .ok (.aload_n 0, 1) := by decide +kernel
theorem dX10_write_26 : decode cX10_write 26 = .ok (.invokevirtual 161, 3) := by decide +kernel
theorem dX10_write_29 : decode cX10_write 29 = .ok (.iconst 0, 1) := by decide +kernel
theorem dX10_write_30 : decode cX10_write 30 = .ok (.istore_n 2, 1) := by decide +kernel
theorem dX10_write_31 : decode cX10_write 31 = .ok (.iload_n 2, 1) := by decide +kernel
theorem dX10_write_32 : decode cX10_write 32 = .ok (.aload_n 0, 1) := by decide +kernel
theorem dX10_write_33 : decode cX10_write 33 = .ok (.getfield 95, 3) := by decide +kernel
theorem dX10_write_36 : decode cX10_write 36 = .ok (.iload_n 1, 1) := by decide +kernel
theorem dX10_write_37 : decode cX10_write 37 = .ok (.iaload, 1) := by decide +kernel
theorem dX10_write_38 : decode cX10_write 38 = .ok (.if_icmp .ge 29, 3) := by decide +kernel
theorem dX10_write_41 : decode cX10_write 41 = .ok (.iload_n 2, 1) := by decide +kernel
theorem dX10_write_42 : decode cX10_write 42 = .ok (.aload_n 0, 1) := by decide +kernel
theorem dX10_write_43 : decode cX10_write 43 = .ok (.getfield 112, 3) := by decide +kernel
theorem dX10_write_46 : decode cX10_write 46 = .ok (.if_icmp .ge 21, 3) := by decide +kernel
theorem dX10_write_49 : decode cX10_write 49 = .ok (.aload_n 0, 1) := by decide +kernel
theorem dX10_write_50 : decode cX10_write 50 = .ok (.iload_n 1, 1) := by decide +kernel
theorem dX10_write_51 : decode cX10_write 51 = .ok (.iload_n 2, 1) := by decide +kernel
theorem dX10_write_52 : decode cX10_write 52 = .ok (.aload_n 0, 1) := by decide +kernel
theorem dX10_write_53 : decode cX10_write 53 = .ok (.iload_n 2, 1) := by decide +kernel
theorem dX10_write_54 : decode cX10_write 54 = .ok (.iconst 0, 1) := by decide +kernel
theorem dX10_write_55 : decode cX10_write 55 = .ok (.invokevirtual 164, 3) := by decide +kernel
theorem dX10_write_58 : decode cX10_write 58 = .ok (.invokevirtual 273, 3) := by decide +kernel
theorem dX10_write_61 : decode cX10_write 61 = .ok (.iinc 2 1, 3) := by decide +kernel
theorem dX10_write_64 : decode cX10_write 64 = .ok (.goto (-33), 3) := by decide +kernel
theorem dX10_write_67 : decode cX10_write 67 = .ok (.iload_n 2, 1) := by decide +kernel
theorem dX10_write_68 : decode cX10_write 68 = .ok (.ireturn, 1) := by decide +kernel
set_option maxRecDepth 20000 in
theorem ggX10_sumOf_X10_lays : GoodIn wsX10_sumOf wsX10_lays := goodIn_r _ [9, 10, 11, 12, 13, 8, 14, 1, 15, 16, 17, 18, 19, 20, 21, 22, 23, 24, 25, 26, 27, 3, 2, 28, 29, 30, 31, 32, 33, 34, 35, 36, 37, 38, 39, 40, 41, 42, 43, 44, 45, 46, 47, 48, 49, 50, 51, 52, 53, 54, 55, 56, 57, 58, 59, 60, 61, 62, 63, 71, 72, 73, 74, 75, 76, 77, 78, 79, 80, 81, 82, 83, 84, 85, 86, 87, 88, 89, 90, 91, 92, 93, 94, 95, 96, 97, 98, 99, 100, 101, 102, 103, 104, 105, 106, 107] (by decide +kernel) (by decide +kernel)
set_option maxRecDepth 20000 in
theorem gX10_sumOf_X10_lays : GoodIn wsX10_sumOf (wsV RX10 161 RX10 yX10_lays wsX10_lays) := goodIn_app (goodIn_of _ (by decide +kernel)) ggX10_sumOf_X10_lays
set_option maxRecDepth 20000 in
theorem ggX10_sumOf_X10_ones : GoodIn wsX10_sumOf wsX10_ones := goodIn_r _ [66] (by decide +kernel) (by decide +kernel)
set_option maxRecDepth 20000 in
theorem gX10_sumOf_X10_ones : GoodIn wsX10_sumOf (va_wsS RX10 158 yX10_ones wsX10_ones) := goodIn_app (goodIn_of _ (by decide +kernel)) ggX10_sumOf_X10_ones
set_option maxRecDepth 20000 in
theorem ggX10_sumOf_X10_lostBy : GoodIn wsX10_sumOf wsX10_lostBy := goodIn_r _ [70, 48, 64, 65, 8, 66, 71, 72, 73, 74, 75, 76, 77, 78, 79, 80, 81, 82, 83, 84, 85, 86, 87, 88, 89, 90, 91, 92, 93, 94, 95, 96, 97, 98, 99, 100, 101, 102, 103, 104, 105, 106, 107] (by decide +kernel) (by decide +kernel)
set_option maxRecDepth 20000 in
theorem gX10_sumOf_X10_lostBy : GoodIn wsX10_sumOf (wsV RX10 179 RX10 yX10_lostBy wsX10_lostBy) := goodIn_app (goodIn_of _ (by decide +kernel)) ggX10_sumOf_X10_lostBy
theorem dX10_sumOf_0 : decode cX10_sumOf 0 = .ok (.aload_n 0, 1) := by decide +kernel
theorem dX10_sumOf_1 : decode cX10_sumOf 1 = .ok (.invokevirtual 161, 3) := by decide +kernel
theorem dX10_sumOf_4 : decode cX10_sumOf 4 = .ok (.iconst 0, 1) := by decide +kernel
theorem dX10_sumOf_5 : decode cX10_sumOf 5 = .ok (.istore_n 2, 1) := by decide +kernel
theorem dX10_sumOf_6 : decode cX10_sumOf 6 = .ok (.iconst 0, 1) := by decide +kernel
theorem dX10_sumOf_7 : decode cX10_sumOf 7 = .ok (.istore_n 3, 1) := by decide +kernel
theorem dX10_sumOf_8 : decode cX10_sumOf 8 = .ok (.iload_n 3, 1) := by decide +kernel
theorem dX10_sumOf_9 : decode cX10_sumOf 9 = .ok (.aload_n 0, 1) := by decide +kernel
theorem dX10_sumOf_10 : decode cX10_sumOf 10 = .ok (.getfield 112, 3) := by decide +kernel
theorem dX10_sumOf_13 : decode cX10_sumOf 13 = .ok (.if_icmp .ge 61, 3) := by decide +kernel
theorem dX10_sumOf_16 : decode cX10_sumOf 16 = .ok (.iload_n 2, 1) := by decide +kernel
theorem dX10_sumOf_17 : decode cX10_sumOf 17 = .ok (.iload_n 1, 1) := by decide +kernel
theorem dX10_sumOf_18 : decode cX10_sumOf 18 = .ok (.iconst 2, 1) := by decide +kernel
theorem dX10_sumOf_19 : decode cX10_sumOf 19 = .ok (.if_icmp .ne 12, 3) := by decide +kernel
theorem dX10_sumOf_22 : decode cX10_sumOf 22 = .ok (.aload_n 0, 1) := by decide +kernel
theorem dX10_sumOf_23 : decode cX10_sumOf 23 = .ok (.getfield 28, 3) := by decide +kernel
theorem dX10_sumOf_26 : decode cX10_sumOf 26 = .ok (.iload_n 3, 1) := by decide +kernel
theorem dX10_sumOf_27 : decode cX10_sumOf 27 = .ok (.iaload, 1) := by decide +kernel
theorem dX10_sumOf_28 : decode cX10_sumOf 28 = .ok (.goto 38, 3) := by decide +kernel
theorem dX10_sumOf_31 : decode cX10_sumOf 31 = .ok (.iload_n 1, 1) := by decide +kernel
theorem dX10_sumOf_32 : decode cX10_sumOf 32 = .ok (.iconst 3, 1) := by decide +kernel
theorem dX10_sumOf_33 : decode cX10_sumOf 33 = .ok (.if_icmp .ne 15, 3) := by decide +kernel
theorem dX10_sumOf_36 : decode cX10_sumOf 36 = .ok (.aload_n 0, 1) := by decide +kernel
theorem dX10_sumOf_37 : decode cX10_sumOf 37 = .ok (.getfield 22, 3) := by decide +kernel
theorem dX10_sumOf_40 : decode cX10_sumOf 40 = .ok (.iload_n 3, 1) := by decide +kernel
theorem dX10_sumOf_41 : decode cX10_sumOf 41 = .ok (.iaload, 1) := by decide +kernel
theorem dX10_sumOf_42 : decode cX10_sumOf 42 = .ok (.invokestatic 158, 3) := by decide +kernel
theorem dX10_sumOf_45 : decode cX10_sumOf 45 = .ok (.goto 21, 3) := by decide +kernel
theorem dX10_sumOf_48 : decode cX10_sumOf 48 = .ok (.iload_n 1, 1) := by decide +kernel
theorem dX10_sumOf_49 : decode cX10_sumOf 49 = .ok (.bipush 7, 2) := by decide +kernel
theorem dX10_sumOf_51 : decode cX10_sumOf 51 = .ok (.if_icmp .ne 14, 3) := by decide +kernel
theorem dX10_sumOf_54 : decode cX10_sumOf 54 = .ok (.aload_n 0, 1) := by decide +kernel
theorem dX10_sumOf_55 : decode cX10_sumOf 55 = .ok (.iload_n 3, 1) := by decide +kernel
theorem dX10_sumOf_56 : decode cX10_sumOf 56 = .ok (.sipush 400, 3) := by decide +kernel
theorem dX10_sumOf_59 : decode cX10_sumOf 59 = .ok (.invokevirtual 179, 3) := by decide +kernel
theorem dX10_sumOf_62 : decode cX10_sumOf 62 = .ok (.goto 4, 3) := by decide +kernel
theorem dX10_sumOf_65 : decode cX10_sumOf 65 = .ok (.iconst 0, 1) := by decide +kernel
theorem dX10_sumOf_66 : decode cX10_sumOf 66 = .ok (.iadd, 1) := by decide +kernel
theorem dX10_sumOf_67 : decode cX10_sumOf 67 = .ok (.istore_n 2, 1) := by decide +kernel
theorem dX10_sumOf_68 : decode cX10_sumOf 68 = .ok (.iinc 3 1, 3) := by decide +kernel
theorem dX10_sumOf_71 : decode cX10_sumOf 71 = .ok (.goto (-63), 3) := by decide +kernel
theorem dX10_sumOf_74 : decode cX10_sumOf 74 = .ok (.iconst 0, 1) := by decide +kernel
theorem dX10_sumOf_75 : decode cX10_sumOf 75 = .ok (.istore_n 3, 1) := by decide +kernel
theorem dX10_sumOf_76 : decode cX10_sumOf 76 = .ok (.iload_n 3, 1) := by decide +kernel
theorem dX10_sumOf_77 : decode cX10_sumOf 77 = .ok (.bipush 100, 2) := by decide +kernel
theorem dX10_sumOf_79 : decode cX10_sumOf 79 = .ok (.if_icmp .ge 24, 3) := by decide +kernel
theorem dX10_sumOf_82 : decode cX10_sumOf 82 = .ok (.iload_n 1, 1) := by decide +kernel
theorem dX10_sumOf_83 : decode cX10_sumOf 83 = .ok (.bipush 6, 2) := by decide +kernel
theorem dX10_sumOf_85 : decode cX10_sumOf 85 = .ok (.if_icmp .ne 18, 3) := by decide +kernel
theorem dX10_sumOf_88 : decode cX10_sumOf 88 = .ok (.iload_n 2, 1) := by decide +kernel
theorem dX10_sumOf_89 : decode cX10_sumOf 89 = .ok (.aload_n 0, 1) := by decide +kernel
theorem dX10_sumOf_90 : decode cX10_sumOf 90 = .ok (.getfield 85, 3) := by decide +kernel
theorem dX10_sumOf_93 : decode cX10_sumOf 93 = .ok (.iload_n 3, 1) := by decide +kernel
theorem dX10_sumOf_94 : decode cX10_sumOf 94 = .ok (.iaload, 1) := by decide +kernel
theorem dX10_sumOf_95 : decode cX10_sumOf 95 = .ok (.iadd, 1) := by decide +kernel
theorem dX10_sumOf_96 : decode cX10_sumOf 96 = .ok (.istore_n 2, 1) := by decide +kernel
theorem dX10_sumOf_97 : decode cX10_sumOf 97 = .ok (.iinc 3 1, 3) := by decide +kernel
theorem dX10_sumOf_100 : decode cX10_sumOf 100 = .ok (.goto (-24), 3) := by decide +kernel
theorem dX10_sumOf_103 : decode cX10_sumOf 103 = .ok (.iload_n 1, 1) := by decide +kernel
theorem dX10_sumOf_104 : decode cX10_sumOf 104 = .ok (.ifCond .ne 10, 3) := by decide +kernel
theorem dX10_sumOf_107 : decode cX10_sumOf 107 = .ok (.aload_n 0, 1) := by decide +kernel
theorem dX10_sumOf_108 : decode cX10_sumOf 108 = .ok (.getfield 112, 3) := by decide +kernel
theorem dX10_sumOf_111 : decode cX10_sumOf 111 = .ok (.goto 15, 3) := by decide +kernel
theorem dX10_sumOf_114 : decode cX10_sumOf 114 = .ok (.iload_n 1, 1) := by decide +kernel
theorem dX10_sumOf_115 : decode cX10_sumOf 115 = .ok (.iconst 3, 1) := by decide +kernel
theorem dX10_sumOf_116 : decode cX10_sumOf 116 = .ok (.if_icmp .ne 9, 3) := by decide +kernel
theorem dX10_sumOf_119 : decode cX10_sumOf 119 = .ok (.iload_n 2, 1) := by decide +kernel
theorem dX10_sumOf_120 : decode cX10_sumOf 120 = .ok (.iconst 2, 1) := by decide +kernel
theorem dX10_sumOf_121 : decode cX10_sumOf 121 = .ok (.idiv, 1) := by decide +kernel
theorem dX10_sumOf_122 : decode cX10_sumOf 122 = .ok (.goto 4, 3) := by decide +kernel
theorem dX10_sumOf_125 : decode cX10_sumOf 125 = .ok (.iload_n 2, 1) := by decide +kernel
theorem dX10_sumOf_126 : decode cX10_sumOf 126 = .ok (.ireturn, 1) := by decide +kernel
set_option maxRecDepth 20000 in
theorem ggX10_count_X10_sumOf : GoodIn wsX10_count wsX10_sumOf := goodIn_r _ [9, 10, 11, 12, 13, 14, 15, 16, 8, 17, 18, 19, 20, 21, 22, 23, 24, 25, 26, 27, 28, 29, 1, 30, 31, 32, 33, 34, 35, 36, 37, 38, 39, 40, 41, 42, 43, 44, 45, 46, 47, 48, 49, 50, 51, 52, 53, 54, 55, 56, 57, 58, 59, 60, 61, 62, 63, 64, 65, 66, 67, 68, 69, 70, 71, 72, 73, 74, 75, 76, 77, 78, 79, 80, 81, 82, 83, 84, 85, 86, 87, 88, 89, 90, 91, 92, 93, 94, 95, 96, 97, 98, 99, 100, 101, 102, 103, 104, 105, 106, 107, 108, 109, 110, 111, 112, 113, 114] (by decide +kernel) (by decide +kernel)
set_option maxRecDepth 20000 in
theorem gX10_count_X10_sumOf : GoodIn wsX10_count (wsV RX10 277 RX10 yX10_sumOf wsX10_sumOf) := goodIn_app (goodIn_of _ (by decide +kernel)) ggX10_count_X10_sumOf
theorem dX10_count_0 : decode cX10_count 0 = .ok (.iload_n 1, 1) := by decide +kernel
theorem dX10_count_1 : decode cX10_count 1 = .ok (.tableswitch 77 0 8 #[51, 57, 51, 51, 62, 67, 51, 51, 72], 51) := by decide +kernel
theorem dX10_count_52 : decode cX10_count 52 = .ok (.aload_n 0, 1) := by decide +kernel
theorem dX10_count_53 : decode cX10_count 53 = .ok (.iload_n 1, 1) := by decide +kernel
theorem dX10_count_54 : decode cX10_count 54 = .ok (.invokevirtual 277, 3) := by decide +kernel
theorem dX10_count_57 : decode cX10_count 57 = .ok (.ireturn, 1) := by decide +kernel
theorem dX10_count_58 : decode cX10_count 58 = .ok (.aload_n 0, 1) := by decide +kernel
theorem dX10_count_59 : decode cX10_count 59 = .ok (.getfield 108, 3) := by decide +kernel
theorem dX10_count_62 : decode cX10_count 62 = .ok (.ireturn, 1) := by decide +kernel
theorem dX10_count_63 : decode cX10_count 63 = .ok (.aload_n 0, 1) := by decide +kernel
theorem dX10_count_64 : decode cX10_count 64 = .ok (.getfield 231, 3) := by decide +kernel
theorem dX10_count_67 : decode cX10_count 67 = .ok (.ireturn, 1) := by decide +kernel
theorem dX10_count_68 : decode cX10_count 68 = .ok (.aload_n 0, 1) := by decide +kernel
theorem dX10_count_69 : decode cX10_count 69 = .ok (.getfield 252, 3) := by decide +kernel
theorem dX10_count_72 : decode cX10_count 72 = .ok (.ireturn, 1) := by decide +kernel
theorem dX10_count_73 : decode cX10_count 73 = .ok (.aload_n 0, 1) := by decide +kernel
theorem dX10_count_74 : decode cX10_count 74 = .ok (.getfield 267, 3) := by decide +kernel
theorem dX10_count_77 : decode cX10_count 77 = .ok (.ireturn, 1) := by decide +kernel
theorem dX10_count_78 : decode cX10_count 78 = .ok (.bipush (-2), 2) := by decide +kernel
theorem dX10_count_80 : decode cX10_count 80 = .ok (.ireturn, 1) := by decide +kernel
set_option maxRecDepth 20000 in
theorem ggX10_digest_X10_count : GoodIn wsX10_digest wsX10_count := goodIn_r _ [8, 9, 10, 11, 12, 13, 14, 15, 7, 16, 3, 17, 18, 19, 20, 21, 22, 23, 24, 25, 26, 27, 28, 29, 30, 31, 32, 33, 34, 35, 36, 37, 38, 39, 40, 41, 42, 43, 44, 45, 46, 47, 48, 49, 50, 51, 52, 53, 54, 55, 56, 57, 58, 59, 60, 61, 62, 63, 64, 65, 66, 67, 68, 69, 70, 71, 72, 73, 74, 75, 76, 77, 78, 79, 80, 81, 82, 83, 193, 194, 195, 196, 197, 198, 199, 200, 201, 202, 203, 204, 205, 206, 207, 208, 209, 210, 211, 212, 213, 214, 215, 216, 217, 218, 219, 220, 221, 222, 223, 224, 225, 226, 227, 228, 229] (by decide +kernel) (by decide +kernel)
set_option maxRecDepth 20000 in
theorem gX10_digest_X10_count : GoodIn wsX10_digest (wsV RX10 284 RX10 yX10_count wsX10_count) := goodIn_app (goodIn_of _ (by decide +kernel)) ggX10_digest_X10_count
set_option maxRecDepth 20000 in
theorem ggX10_digest_X10_faultNow : GoodIn wsX10_digest wsX10_faultNow := goodIn_r _ [28, 3, 29, 30, 31, 7, 32, 33, 34, 35, 9, 36, 37, 38, 39, 40, 18, 17, 41, 42, 43, 44, 45, 46, 47, 48, 49, 50, 51, 52, 53, 54, 193, 194, 195, 196, 197, 198, 199, 200, 201, 202, 203, 204, 205, 206, 207, 208, 209, 210, 211, 212, 213, 214, 215, 216, 217, 218, 219, 220, 221, 222, 223, 224, 225, 226, 227, 228, 229] (by decide +kernel) (by decide +kernel)
set_option maxRecDepth 20000 in
theorem gX10_digest_X10_faultNow : GoodIn wsX10_digest (wsV RX10 130 RX10 yX10_faultNow wsX10_faultNow) := goodIn_app (goodIn_of _ (by decide +kernel)) ggX10_digest_X10_faultNow
set_option maxRecDepth 20000 in
theorem ggX10_digest_X10_personOf : GoodIn wsX10_digest wsX10_personOf := goodIn_r _ [87, 38, 39, 40, 18, 17, 193, 194, 195, 196, 197, 198, 199, 200, 201, 202, 203, 204, 205, 206, 207, 208, 209, 210, 211, 212, 213, 214, 215, 216, 217, 218, 219, 220, 221, 222, 223, 224, 225, 226, 227, 228, 229] (by decide +kernel) (by decide +kernel)
set_option maxRecDepth 20000 in
theorem gX10_digest_X10_personOf : GoodIn wsX10_digest (wsV RX10 137 RX10 yX10_personOf wsX10_personOf) := goodIn_app (goodIn_of _ (by decide +kernel)) ggX10_digest_X10_personOf
set_option maxRecDepth 20000 in
theorem ggX10_digest_X10_feltOf : GoodIn wsX10_digest wsX10_feltOf := goodIn_r _ [91, 20, 21, 22, 7, 23, 24, 25, 26, 27, 28, 3, 29, 30, 31, 32, 33, 34, 35, 9, 36, 37, 38, 39, 40, 18, 17, 41, 42, 43, 44, 45, 46, 47, 48, 49, 50, 51, 52, 53, 54, 55, 56, 57, 58, 59, 60, 61, 62, 63, 64, 65, 66, 67, 68, 69, 70, 71, 72, 73, 74, 75, 76, 92, 93, 94, 95, 77, 78, 79, 193, 194, 195, 196, 197, 198, 199, 200, 201, 202, 203, 204, 205, 206, 207, 208, 209, 210, 211, 212, 213, 214, 215, 216, 217, 218, 219, 220, 221, 222, 223, 224, 225, 226, 227, 228, 229] (by decide +kernel) (by decide +kernel)
set_option maxRecDepth 20000 in
theorem gX10_digest_X10_feltOf : GoodIn wsX10_digest (wsV RX10 167 RX10 yX10_feltOf wsX10_feltOf) := goodIn_app (goodIn_of _ (by decide +kernel)) ggX10_digest_X10_feltOf
set_option maxRecDepth 20000 in
theorem ggX10_digest_X10_manyOf : GoodIn wsX10_digest wsX10_manyOf := goodIn_r _ [99, 20, 21, 22, 7, 23, 24, 25, 26, 27, 28, 3, 29, 30, 31, 32, 33, 34, 35, 9, 36, 37, 38, 39, 40, 18, 17, 41, 42, 43, 44, 45, 46, 47, 48, 49, 50, 51, 52, 53, 54, 55, 56, 57, 58, 59, 60, 61, 62, 63, 64, 65, 66, 67, 68, 69, 70, 71, 72, 73, 74, 75, 76, 100, 101, 102, 103, 77, 78, 79, 193, 194, 195, 196, 197, 198, 199, 200, 201, 202, 203, 204, 205, 206, 207, 208, 209, 210, 211, 212, 213, 214, 215, 216, 217, 218, 219, 220, 221, 222, 223, 224, 225, 226, 227, 228, 229] (by decide +kernel) (by decide +kernel)
set_option maxRecDepth 20000 in
theorem gX10_digest_X10_manyOf : GoodIn wsX10_digest (wsV RX10 176 RX10 yX10_manyOf wsX10_manyOf) := goodIn_app (goodIn_of _ (by decide +kernel)) ggX10_digest_X10_manyOf
set_option maxRecDepth 20000 in
theorem ggX10_digest_X10_lostOf : GoodIn wsX10_digest wsX10_lostOf := goodIn_r _ [107, 20, 21, 22, 7, 23, 24, 25, 26, 27, 28, 3, 29, 30, 31, 32, 33, 34, 35, 9, 36, 37, 38, 39, 40, 18, 17, 41, 42, 43, 44, 45, 46, 47, 48, 49, 50, 51, 52, 53, 54, 55, 56, 57, 58, 59, 60, 61, 62, 63, 64, 65, 66, 67, 68, 69, 70, 71, 72, 73, 74, 75, 76, 80, 81, 82, 83, 77, 78, 79, 193, 194, 195, 196, 197, 198, 199, 200, 201, 202, 203, 204, 205, 206, 207, 208, 209, 210, 211, 212, 213, 214, 215, 216, 217, 218, 219, 220, 221, 222, 223, 224, 225, 226, 227, 228, 229] (by decide +kernel) (by decide +kernel)
set_option maxRecDepth 20000 in
theorem gX10_digest_X10_lostOf : GoodIn wsX10_digest (wsV RX10 182 RX10 yX10_lostOf wsX10_lostOf) := goodIn_app (goodIn_of _ (by decide +kernel)) ggX10_digest_X10_lostOf
set_option maxRecDepth 20000 in
theorem ggX10_digest_X10_roundOf : GoodIn wsX10_digest wsX10_roundOf := goodIn_r _ [111, 63, 20, 21, 22, 7, 23, 24, 25, 26, 27, 28, 3, 29, 30, 31, 32, 33, 34, 35, 9, 36, 37, 38, 39, 40, 18, 17, 41, 42, 43, 44, 45, 46, 47, 48, 49, 50, 51, 52, 53, 54, 55, 56, 57, 58, 59, 60, 61, 62, 64, 65, 66, 67, 68, 69, 70, 71, 72, 73, 74, 75, 76, 92, 93, 94, 95, 77, 78, 79, 193, 194, 195, 196, 197, 198, 199, 200, 201, 202, 203, 204, 205, 206, 207, 208, 209, 210, 211, 212, 213, 214, 215, 216, 217, 218, 219, 220, 221, 222, 223, 224, 225, 226, 227, 228, 229] (by decide +kernel) (by decide +kernel)
set_option maxRecDepth 20000 in
theorem gX10_digest_X10_roundOf : GoodIn wsX10_digest (wsV RX10 197 RX10 yX10_roundOf wsX10_roundOf) := goodIn_app (goodIn_of _ (by decide +kernel)) ggX10_digest_X10_roundOf
set_option maxRecDepth 20000 in
theorem ggX10_digest_X10_reachedNow : GoodIn wsX10_digest wsX10_reachedNow := goodIn_r _ [115, 20, 21, 22, 7, 23, 24, 25, 26, 27, 28, 3, 29, 30, 31, 32, 33, 34, 35, 9, 36, 37, 38, 39, 40, 18, 17, 41, 42, 43, 44, 45, 46, 47, 48, 49, 50, 51, 52, 53, 54, 55, 56, 57, 58, 59, 60, 61, 62, 63, 64, 65, 66, 67, 68, 69, 70, 71, 72, 73, 74, 75, 76, 116, 117, 118, 119, 193, 194, 195, 196, 197, 198, 199, 200, 201, 202, 203, 204, 205, 206, 207, 208, 209, 210, 211, 212, 213, 214, 215, 216, 217, 218, 219, 220, 221, 222, 223, 224, 225, 226, 227, 228, 229] (by decide +kernel) (by decide +kernel)
set_option maxRecDepth 20000 in
theorem gX10_digest_X10_reachedNow : GoodIn wsX10_digest (wsV RX10 188 RX10 yX10_reachedNow wsX10_reachedNow) := goodIn_app (goodIn_of _ (by decide +kernel)) ggX10_digest_X10_reachedNow
set_option maxRecDepth 20000 in
theorem ggX10_digest_X10_lastNow : GoodIn wsX10_digest wsX10_lastNow := goodIn_r _ [123, 20, 21, 22, 7, 23, 24, 25, 26, 27, 28, 3, 29, 30, 31, 32, 33, 34, 35, 9, 36, 37, 38, 39, 40, 18, 17, 41, 42, 43, 44, 45, 46, 47, 48, 49, 50, 51, 52, 53, 54, 55, 56, 57, 58, 59, 60, 61, 62, 63, 64, 65, 66, 67, 68, 69, 70, 71, 72, 73, 74, 75, 76, 124, 125, 126, 127, 92, 93, 94, 95, 77, 78, 79, 193, 194, 195, 196, 197, 198, 199, 200, 201, 202, 203, 204, 205, 206, 207, 208, 209, 210, 211, 212, 213, 214, 215, 216, 217, 218, 219, 220, 221, 222, 223, 224, 225, 226, 227, 228, 229] (by decide +kernel) (by decide +kernel)
set_option maxRecDepth 20000 in
theorem gX10_digest_X10_lastNow : GoodIn wsX10_digest (wsV RX10 194 RX10 yX10_lastNow wsX10_lastNow) := goodIn_app (goodIn_of _ (by decide +kernel)) ggX10_digest_X10_lastNow
set_option maxRecDepth 20000 in
theorem ggX10_digest_X10_beginOf : GoodIn wsX10_digest wsX10_beginOf := goodIn_r _ [131, 3, 25, 26, 27, 7, 28, 29, 30, 31, 32, 33, 34, 35, 9, 36, 37, 38, 39, 40, 18, 17, 41, 42, 43, 44, 45, 46, 47, 48, 49, 50, 51, 52, 53, 54, 55, 56, 57, 58, 59, 60, 61, 62, 63, 64, 65, 66, 67, 68, 69, 70, 71, 72, 73, 74, 75, 76, 116, 117, 118, 119, 77, 78, 79, 124, 125, 126, 127, 92, 93, 94, 95, 193, 194, 195, 196, 197, 198, 199, 200, 201, 202, 203, 204, 205, 206, 207, 208, 209, 210, 211, 212, 213, 214, 215, 216, 217, 218, 219, 220, 221, 222, 223, 224, 225, 226, 227, 228, 229] (by decide +kernel) (by decide +kernel)
set_option maxRecDepth 20000 in
theorem gX10_digest_X10_beginOf : GoodIn wsX10_digest (wsV RX10 200 RX10 yX10_beginOf wsX10_beginOf) := goodIn_app (goodIn_of _ (by decide +kernel)) ggX10_digest_X10_beginOf
set_option maxRecDepth 20000 in
theorem ggX10_digest_X10_passedOf : GoodIn wsX10_digest wsX10_passedOf := goodIn_r _ [135, 3, 20, 21, 22, 7, 23, 24, 25, 26, 27, 28, 29, 30, 31, 32, 33, 34, 35, 9, 36, 37, 38, 39, 40, 18, 17, 41, 42, 43, 44, 45, 46, 47, 48, 49, 50, 51, 52, 53, 54, 55, 56, 57, 58, 59, 60, 61, 62, 63, 64, 65, 66, 67, 68, 69, 70, 71, 72, 73, 74, 75, 76, 100, 101, 102, 103, 77, 78, 79, 193, 194, 195, 196, 197, 198, 199, 200, 201, 202, 203, 204, 205, 206, 207, 208, 209, 210, 211, 212, 213, 214, 215, 216, 217, 218, 219, 220, 221, 222, 223, 224, 225, 226, 227, 228, 229] (by decide +kernel) (by decide +kernel)
set_option maxRecDepth 20000 in
theorem gX10_digest_X10_passedOf : GoodIn wsX10_digest (wsV RX10 203 RX10 yX10_passedOf wsX10_passedOf) := goodIn_app (goodIn_of _ (by decide +kernel)) ggX10_digest_X10_passedOf
set_option maxRecDepth 20000 in
theorem ggX10_digest_X10_doubtOf : GoodIn wsX10_digest wsX10_doubtOf := goodIn_r _ [139, 140, 141, 142, 143, 144, 7, 145, 146, 3, 17, 63, 147, 20, 21, 22, 23, 24, 25, 26, 27, 28, 29, 30, 31, 32, 33, 34, 35, 9, 36, 37, 38, 39, 40, 18, 41, 42, 43, 44, 45, 46, 47, 48, 49, 50, 51, 52, 53, 54, 55, 56, 57, 58, 59, 60, 61, 62, 64, 65, 66, 67, 68, 69, 70, 71, 72, 73, 74, 75, 76, 92, 93, 94, 95, 77, 78, 79, 148, 149, 150, 151, 152, 153, 154, 155, 156, 157, 158, 159, 160, 193, 194, 195, 196, 197, 198, 199, 200, 201, 202, 203, 204, 205, 206, 207, 208, 209, 210, 211, 212, 213, 214, 215, 216, 217, 218, 219, 220, 221, 222, 223, 224, 225, 226, 227, 228, 229] (by decide +kernel) (by decide +kernel)
set_option maxRecDepth 20000 in
theorem gX10_digest_X10_doubtOf : GoodIn wsX10_digest (wsV RX10 225 RX10 yX10_doubtOf wsX10_doubtOf) := goodIn_app (goodIn_of _ (by decide +kernel)) ggX10_digest_X10_doubtOf
set_option maxRecDepth 20000 in
theorem ggX10_digest_X10_postsOf : GoodIn wsX10_digest wsX10_postsOf := goodIn_r _ [164, 146, 142, 143, 144, 7, 145, 3, 17, 63, 140, 147, 20, 21, 22, 23, 24, 25, 26, 27, 28, 29, 30, 31, 32, 33, 34, 35, 9, 36, 37, 38, 39, 40, 18, 41, 42, 43, 44, 45, 46, 47, 48, 49, 50, 51, 52, 53, 54, 55, 56, 57, 58, 59, 60, 61, 62, 64, 65, 66, 67, 68, 69, 70, 71, 72, 73, 74, 75, 76, 92, 93, 94, 95, 77, 78, 79, 148, 149, 150, 151, 152, 141, 153, 154, 155, 156, 157, 158, 159, 160, 193, 194, 195, 196, 197, 198, 199, 200, 201, 202, 203, 204, 205, 206, 207, 208, 209, 210, 211, 212, 213, 214, 215, 216, 217, 218, 219, 220, 221, 222, 223, 224, 225, 226, 227, 228, 229] (by decide +kernel) (by decide +kernel)
set_option maxRecDepth 20000 in
theorem gX10_digest_X10_postsOf : GoodIn wsX10_digest (wsV RX10 228 RX10 yX10_postsOf wsX10_postsOf) := goodIn_app (goodIn_of _ (by decide +kernel)) ggX10_digest_X10_postsOf
set_option maxRecDepth 20000 in
theorem ggX10_digest_X10_unlikeNow : GoodIn wsX10_digest wsX10_unlikeNow := goodIn_r _ [168, 20, 21, 22, 7, 23, 24, 25, 26, 27, 28, 3, 29, 30, 31, 32, 33, 34, 35, 9, 36, 37, 38, 39, 40, 18, 17, 41, 42, 43, 44, 45, 46, 47, 48, 49, 50, 51, 52, 53, 54, 55, 56, 57, 58, 59, 60, 61, 62, 63, 64, 65, 66, 67, 68, 69, 70, 71, 72, 73, 74, 75, 76, 169, 170, 171, 172, 10, 173, 174, 92, 93, 94, 95, 77, 78, 79, 193, 194, 195, 196, 197, 198, 199, 200, 201, 202, 203, 204, 205, 206, 207, 208, 209, 210, 211, 212, 213, 214, 215, 216, 217, 218, 219, 220, 221, 222, 223, 224, 225, 226, 227, 228, 229] (by decide +kernel) (by decide +kernel)
set_option maxRecDepth 20000 in
theorem gX10_digest_X10_unlikeNow : GoodIn wsX10_digest (wsV RX10 246 RX10 yX10_unlikeNow wsX10_unlikeNow) := goodIn_app (goodIn_of _ (by decide +kernel)) ggX10_digest_X10_unlikeNow
set_option maxRecDepth 20000 in
theorem ggX10_digest_X10_asleepOf : GoodIn wsX10_digest wsX10_asleepOf := goodIn_r _ [178, 3, 24, 165, 166, 167, 7, 168, 20, 21, 22, 23, 25, 26, 27, 28, 29, 30, 31, 32, 33, 34, 35, 9, 36, 37, 38, 39, 40, 18, 17, 41, 42, 43, 44, 45, 46, 47, 48, 49, 50, 51, 52, 53, 54, 55, 56, 57, 58, 59, 60, 61, 62, 63, 64, 65, 66, 67, 68, 69, 70, 71, 72, 73, 74, 75, 76, 169, 170, 171, 172, 10, 173, 174, 92, 93, 94, 95, 77, 78, 79, 193, 194, 195, 196, 197, 198, 199, 200, 201, 202, 203, 204, 205, 206, 207, 208, 209, 210, 211, 212, 213, 214, 215, 216, 217, 218, 219, 220, 221, 222, 223, 224, 225, 226, 227, 228, 229] (by decide +kernel) (by decide +kernel)
set_option maxRecDepth 20000 in
theorem gX10_digest_X10_asleepOf : GoodIn wsX10_digest (wsV RX10 249 RX10 yX10_asleepOf wsX10_asleepOf) := goodIn_app (goodIn_of _ (by decide +kernel)) ggX10_digest_X10_asleepOf
set_option maxRecDepth 20000 in
theorem ggX10_digest_X10_leaveOf : GoodIn wsX10_digest wsX10_leaveOf := goodIn_r _ [182, 11, 183, 184, 185, 7, 186, 66, 67, 68, 187, 188, 189, 190, 191, 192, 19, 77, 78, 79, 193, 194, 195, 196, 197, 198, 199, 200, 201, 202, 203, 204, 205, 206, 207, 208, 209, 210, 211, 212, 213, 214, 215, 216, 217, 218, 219, 220, 221, 222, 223, 224, 225, 226, 227, 228, 229] (by decide +kernel) (by decide +kernel)
set_option maxRecDepth 20000 in
theorem gX10_digest_X10_leaveOf : GoodIn wsX10_digest (wsV RX10 264 RX10 yX10_leaveOf wsX10_leaveOf) := goodIn_app (goodIn_of _ (by decide +kernel)) ggX10_digest_X10_leaveOf
theorem dX10_digest_0 : decode cX10_digest 0 = .ok (.ldc2_w 280, 3) := by decide +kernel
theorem dX10_digest_3 : decode cX10_digest 3 = .ok (.lstore_n 1, 1) := by decide +kernel
theorem dX10_digest_4 : decode cX10_digest 4 = .ok (.iconst 0, 1) := by decide +kernel
theorem dX10_digest_5 : decode cX10_digest 5 = .ok (.istore_n 3, 1) := by decide +kernel
theorem dX10_digest_6 : decode cX10_digest 6 = .ok (.iload_n 3, 1) := by decide +kernel
theorem dX10_digest_7 : decode cX10_digest 7 = .ok (.bipush 8, 2) := by decide +kernel
theorem dX10_digest_9 : decode cX10_digest 9 = .ok (.if_icmp .ge 22, 3) := by decide +kernel
theorem dX10_digest_12 : decode cX10_digest 12 = .ok (.ldc2_w 282, 3) := by decide +kernel
theorem dX10_digest_15 : decode cX10_digest 15 = .ok (.lload_n 1, 1) := by decide +kernel
theorem dX10_digest_16 : decode cX10_digest 16 = .ok (.lmul, 1) := by decide +kernel
theorem dX10_digest_17 : decode cX10_digest 17 = .ok (.aload_n 0, 1) := by decide +kernel
theorem dX10_digest_18 : decode cX10_digest 18 = .ok (.iload_n 3, 1) := by decide +kernel
theorem dX10_digest_19 : decode cX10_digest 19 = .ok (.invokevirtual 284, 3) := by decide +kernel
theorem dX10_digest_22 : decode cX10_digest 22 = .ok (.i2l, 1) := by decide +kernel
theorem dX10_digest_23 : decode cX10_digest 23 = .ok (.ladd, 1) := by decide +kernel
theorem dX10_digest_24 : decode cX10_digest 24 = .ok (.lstore_n 1, 1) := by decide +kernel
theorem dX10_digest_25 : decode cX10_digest 25 = .ok (.iinc 3 1, 3) := by decide +kernel
theorem dX10_digest_28 : decode cX10_digest 28 = .ok (.goto (-22), 3) := by decide +kernel
theorem dX10_digest_31 : decode cX10_digest 31 = .ok (.ldc2_w 282, 3) := by decide +kernel
theorem dX10_digest_34 : decode cX10_digest 34 = .ok (.lload_n 1, 1) := by decide +kernel
theorem dX10_digest_35 : decode cX10_digest 35 = .ok (.lmul, 1) := by decide +kernel
theorem dX10_digest_36 : decode cX10_digest 36 = .ok (.aload_n 0, 1) := by decide +kernel
theorem dX10_digest_37 : decode cX10_digest 37 = .ok (.invokevirtual 130, 3) := by decide +kernel
theorem dX10_digest_40 : decode cX10_digest 40 = .ok (.i2l, 1) := by decide +kernel
theorem dX10_digest_41 : decode cX10_digest 41 = .ok (.ladd, 1) := by decide +kernel
theorem dX10_digest_42 : decode cX10_digest 42 = .ok (.lstore_n 1, 1) := by decide +kernel
theorem dX10_digest_43 : decode cX10_digest 43 = .ok (.iconst 0, 1) := by decide +kernel
theorem dX10_digest_44 : decode cX10_digest 44 = .ok (.istore_n 3, 1) := by decide +kernel
theorem dX10_digest_45 : decode cX10_digest 45 = .ok (.iload_n 3, 1) := by decide +kernel
theorem dX10_digest_46 : decode cX10_digest 46 = .ok (.aload_n 0, 1) := by decide +kernel
theorem dX10_digest_47 : decode cX10_digest 47 = .ok (.getfield 112, 3) := by decide +kernel
theorem dX10_digest_50 : decode cX10_digest 50 = .ok (.if_icmp .ge 111, 3) := by decide +kernel
theorem dX10_digest_53 : decode cX10_digest 53 = .ok (.iconst 0, 1) := by decide +kernel
theorem dX10_digest_54 : decode cX10_digest 54 = .ok (.istore 4, 2) := by decide +kernel
theorem dX10_digest_56 : decode cX10_digest 56 = .ok (.iload 4, 2) := by decide +kernel
theorem dX10_digest_58 : decode cX10_digest 58 = .ok (.iconst 5, 1) := by decide +kernel
theorem dX10_digest_59 : decode cX10_digest 59 = .ok (.if_icmp .ge 24, 3) := by decide +kernel
theorem dX10_digest_62 : decode cX10_digest 62 = .ok (.ldc2_w 282, 3) := by decide +kernel
theorem dX10_digest_65 : decode cX10_digest 65 = .ok (.lload_n 1, 1) := by decide +kernel
theorem dX10_digest_66 : decode cX10_digest 66 = .ok (.lmul, 1) := by decide +kernel
theorem dX10_digest_67 : decode cX10_digest 67 = .ok (.aload_n 0, 1) := by decide +kernel
theorem dX10_digest_68 : decode cX10_digest 68 = .ok (.iload_n 3, 1) := by decide +kernel
theorem dX10_digest_69 : decode cX10_digest 69 = .ok (.iload 4, 2) := by decide +kernel
theorem dX10_digest_71 : decode cX10_digest 71 = .ok (.invokevirtual 137, 3) := by decide +kernel
theorem dX10_digest_74 : decode cX10_digest 74 = .ok (.i2l, 1) := by decide +kernel
theorem dX10_digest_75 : decode cX10_digest 75 = .ok (.ladd, 1) := by decide +kernel
