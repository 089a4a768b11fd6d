theorem dX10_reads_48 : decode cX10_reads 48 = .ok (.if_icmp .ne 57, 3) := by decide +kernel
theorem dX10_reads_51 : decode cX10_reads 51 = .ok (.iload_n 1, 1) := by decide +kernel
theorem dX10_reads_52 : decode cX10_reads 52 = .ok (.iconst 3, 1) := by decide +kernel
theorem dX10_reads_53 : decode cX10_reads 53 = .ok (.if_icmp .eq 13, 3) := by decide +kernel
theorem dX10_reads_56 : decode cX10_reads 56 = .ok (.aload_n 0, 1) := by decide +kernel
theorem dX10_reads_57 : decode cX10_reads 57 = .ok (.getfield 34, 3) := by decide +kernel
theorem dX10_reads_60 : decode cX10_reads 60 = .ok (.iload_n 1, 1) := by decide +kernel
theorem dX10_reads_61 : decode cX10_reads 61 = .ok (.iaload, 1) := by decide +kernel
theorem dX10_reads_62 : decode cX10_reads 62 = .ok (.iconst (-1), 1) := by decide +kernel
theorem dX10_reads_63 : decode cX10_reads 63 = .ok (.if_icmp .ne 5, 3) := by decide +kernel
theorem dX10_reads_66 : decode cX10_reads 66 = .ok (.iload_n 2, 1) := by decide +kernel
theorem dX10_reads_67 : decode cX10_reads 67 = .ok (.ireturn, 1) := by decide +kernel
theorem dX10_reads_68 : decode cX10_reads 68 = .ok (.aload_n 0, 1) := by decide +kernel
theorem dX10_reads_69 : decode cX10_reads 69 = .ok (.getfield 31, 3) := by decide +kernel
theorem dX10_reads_72 : decode cX10_reads 72 = .ok (.iload_n 1, 1) := by decide +kernel
theorem dX10_reads_73 : decode cX10_reads 73 = .ok (.iconst 1, 1) := by decide +kernel
theorem dX10_reads_74 : decode cX10_reads 74 = .ok (.iadd, 1) := by decide +kernel
theorem dX10_reads_75 : decode cX10_reads 75 = .ok (.aload_n 0, 1) := by decide +kernel
theorem dX10_reads_76 : decode cX10_reads 76 = .ok (.getfield 34, 3) := by decide +kernel
theorem dX10_reads_79 : decode cX10_reads 79 = .ok (.iload_n 1, 1) := by decide +kernel
theorem dX10_reads_80 : decode cX10_reads 80 = .ok (.iaload, 1) := by decide +kernel
theorem dX10_reads_81 : decode cX10_reads 81 = .ok (.iastore, 1) := by decide +kernel
theorem dX10_reads_82 : decode cX10_reads 82 = .ok (.iinc 1 1, 3) := by decide +kernel
theorem dX10_reads_85 : decode cX10_reads 85 = .ok (.aload_n 0, 1) := by decide +kernel
theorem dX10_reads_86 : decode cX10_reads 86 = .ok (.getfield 34, 3) := by decide +kernel
theorem dX10_reads_89 : decode cX10_reads 89 = .ok (.iload_n 1, 1) := by decide +kernel
theorem dX10_reads_90 : decode cX10_reads 90 = .ok (.iconst (-1), 1) := by decide +kernel
theorem dX10_reads_91 : decode cX10_reads 91 = .ok (.iastore, 1) := by decide +kernel
theorem dX10_reads_92 : decode cX10_reads 92 = .ok (.aload_n 0, 1) := by decide +kernel
theorem dX10_reads_93 : decode cX10_reads 93 = .ok (.getfield 37, 3) := by decide +kernel
theorem dX10_reads_96 : decode cX10_reads 96 = .ok (.iload_n 1, 1) := by decide +kernel
theorem dX10_reads_97 : decode cX10_reads 97 = .ok (.iconst 0, 1) := by decide +kernel
theorem dX10_reads_98 : decode cX10_reads 98 = .ok (.iastore, 1) := by decide +kernel
theorem dX10_reads_99 : decode cX10_reads 99 = .ok (.iinc 2 1, 3) := by decide +kernel
theorem dX10_reads_102 : decode cX10_reads 102 = .ok (.goto 345, 3) := by decide +kernel
theorem dX10_reads_105 : decode cX10_reads 105 = .ok (.iload_n 3, 1) := by decide +kernel
theorem dX10_reads_106 : decode cX10_reads 106 = .ok (.bipush 41, 2) := by decide +kernel
theorem dX10_reads_108 : decode cX10_reads 108 = .ok (.if_icmp .eq 9, 3) := by decide +kernel
theorem dX10_reads_111 : decode cX10_reads 111 = .ok (.iload_n 3, 1) := by decide +kernel
theorem dX10_reads_112 : decode cX10_reads 112 = .ok (.bipush 111, 2) := by decide +kernel
theorem dX10_reads_114 : decode cX10_reads 114 = .ok (.if_icmp .ne 104, 3) := by decide +kernel
theorem dX10_reads_117 : decode cX10_reads 117 = .ok (.iload_n 1, 1) := by decide +kernel
theorem dX10_reads_118 : decode cX10_reads 118 = .ok (.ifCond .eq 23, 3) := by decide +kernel
theorem dX10_reads_121 : decode cX10_reads 121 = .ok (.aload_n 0, 1) := by decide +kernel
theorem dX10_reads_122 : decode cX10_reads 122 = .ok (.getfield 37, 3) := by decide +kernel
theorem dX10_reads_125 : decode cX10_reads 125 = .ok (.iload_n 1, 1) := by decide +kernel
theorem dX10_reads_126 : decode cX10_reads 126 = .ok (.iaload, 1) := by decide +kernel
theorem dX10_reads_127 : decode cX10_reads 127 = .ok (.iload_n 3, 1) := by decide +kernel
theorem dX10_reads_128 : decode cX10_reads 128 = .ok (.bipush 111, 2) := by decide +kernel
theorem dX10_reads_130 : decode cX10_reads 130 = .ok (.if_icmp .ne 7, 3) := by decide +kernel
theorem dX10_reads_133 : decode cX10_reads 133 = .ok (.iconst 2, 1) := by decide +kernel
theorem dX10_reads_134 : decode cX10_reads 134 = .ok (.goto 4, 3) := by decide +kernel
theorem dX10_reads_137 : decode cX10_reads 137 = .ok (.iconst 1, 1) := by decide +kernel
theorem dX10_reads_138 : decode cX10_reads 138 = .ok (.if_icmp .ge 5, 3) := by decide +kernel
theorem dX10_reads_141 : decode cX10_reads 141 = .ok (.iload_n 2, 1) := by decide +kernel
theorem dX10_reads_142 : decode cX10_reads 142 = .ok (.ireturn, 1) := by decide +kernel
theorem dX10_reads_143 : decode cX10_reads 143 = .ok (.iload_n 3, 1) := by decide +kernel
theorem dX10_reads_144 : decode cX10_reads 144 = .ok (.bipush 111, 2) := by decide +kernel
theorem dX10_reads_146 : decode cX10_reads 146 = .ok (.if_icmp .ne 63, 3) := by decide +kernel
theorem dX10_reads_149 : decode cX10_reads 149 = .ok (.aload_n 0, 1) := by decide +kernel
theorem dX10_reads_150 : decode cX10_reads 150 = .ok (.aload_n 0, 1) := by decide +kernel
theorem dX10_reads_151 : decode cX10_reads 151 = .ok (.getfield 34, 3) := by decide +kernel
theorem dX10_reads_154 : decode cX10_reads 154 = .ok (.iload_n 1, 1) := by decide +kernel
theorem dX10_reads_155 : decode cX10_reads 155 = .ok (.iaload, 1) := by decide +kernel
theorem dX10_reads_156 : decode cX10_reads 156 = .ok (.aload_n 0, 1) := by decide +kernel
theorem dX10_reads_157 : decode cX10_reads 157 = .ok (.getfield 31, 3) := by decide +kernel
theorem dX10_reads_160 : decode cX10_reads 160 = .ok (.iload_n 1, 1) := by decide +kernel
theorem dX10_reads_161 : decode cX10_reads 161 = .ok (.iaload, 1) := by decide +kernel
theorem dX10_reads_162 : decode cX10_reads 162 = .ok (.invokevirtual 115, 3) := by decide +kernel
theorem dX10_reads_165 : decode cX10_reads 165 = .ok (.aload_n 0, 1) := by decide +kernel
theorem dX10_reads_166 : decode cX10_reads 166 = .ok (.getfield 25, 3) := by decide +kernel
theorem dX10_reads_169 : decode cX10_reads 169 = .ok (.aload_n 0, 1) := by decide +kernel
theorem dX10_reads_170 : decode cX10_reads 170 = .ok (.getfield 34, 3) := by decide +kernel
theorem dX10_reads_173 : decode cX10_reads 173 = .ok (.iload_n 1, 1) := by decide +kernel
theorem dX10_reads_174 : decode cX10_reads 174 = .ok (.iaload, 1) := by decide +kernel
theorem dX10_reads_175 : decode cX10_reads 175 = .ok (.dup2, 1) := by decide +kernel
theorem dX10_reads_176 : decode cX10_reads 176 = .ok (.iaload, 1) := by decide +kernel
theorem dX10_reads_177 : decode cX10_reads 177 = .ok (.iconst 1, 1) := by decide +kernel
theorem dX10_reads_178 : decode cX10_reads 178 = .ok (.aload_n 0, 1) := by decide +kernel
theorem dX10_reads_179 : decode cX10_reads 179 = .ok (.getfield 31, 3) := by decide +kernel
theorem dX10_reads_182 : decode cX10_reads 182 = .ok (.iload_n 1, 1) := by decide +kernel
theorem dX10_reads_183 : decode cX10_reads 183 = .ok (.iaload, 1) := by decide +kernel
theorem dX10_reads_184 : decode cX10_reads 184 = .ok (.ishl, 1) := by decide +kernel
theorem dX10_reads_185 : decode cX10_reads 185 = .ok (.ior, 1) := by decide +kernel
theorem dX10_reads_186 : decode cX10_reads 186 = .ok (.iastore, 1) := by decide +kernel
theorem dX10_reads_187 : decode cX10_reads 187 = .ok (.aload_n 0, 1) := by decide +kernel
theorem dX10_reads_188 : decode cX10_reads 188 = .ok (.getfield 25, 3) := by decide +kernel
theorem dX10_reads_191 : decode cX10_reads 191 = .ok (.aload_n 0, 1) := by decide +kernel
theorem dX10_reads_192 : decode cX10_reads 192 = .ok (.getfield 31, 3) := by decide +kernel
theorem dX10_reads_195 : decode cX10_reads 195 = .ok (.iload_n 1, 1) := by decide +kernel
theorem dX10_reads_196 : decode cX10_reads 196 = .ok (.iaload, 1) := by decide +kernel
theorem dX10_reads_197 : decode cX10_reads 197 = .ok (.dup2, 1) := by decide +kernel
theorem dX10_reads_198 : decode cX10_reads 198 = .ok (.iaload, 1) := by decide +kernel
theorem dX10_reads_199 : decode cX10_reads 199 = .ok (.iconst 1, 1) := by decide +kernel
theorem dX10_reads_200 : decode cX10_reads 200 = .ok (.aload_n 0, 1) := by decide +kernel
theorem dX10_reads_201 : decode cX10_reads 201 = .ok (.getfield 34, 3) := by decide +kernel
theorem dX10_reads_204 : decode cX10_reads 204 = .ok (.iload_n 1, 1) := by decide +kernel
theorem dX10_reads_205 : decode cX10_reads 205 = .ok (.iaload, 1) := by decide +kernel
theorem dX10_reads_206 : decode cX10_reads 206 = .ok (.ishl, 1) := by decide +kernel
theorem dX10_reads_207 : decode cX10_reads 207 = .ok (.ior, 1) := by decide +kernel
theorem dX10_reads_208 : decode cX10_reads 208 = .ok (.iastore, 1) := by decide +kernel
theorem dX10_reads_209 : decode cX10_reads 209 = .ok (.iinc 1 (-1), 3) := by decide +kernel
theorem dX10_reads_212 : decode cX10_reads 212 = .ok (.iinc 2 1, 3) := by decide +kernel
theorem dX10_reads_215 : decode cX10_reads 215 = .ok (.goto 232, 3) := by decide +kernel
theorem dX10_reads_218 : decode cX10_reads 218 = .ok (.iload_n 3, 1) := by decide +kernel
theorem dX10_reads_219 : decode cX10_reads 219 = .ok (.bipush 115, 2) := by decide +kernel
theorem dX10_reads_221 : decode cX10_reads 221 = .ok (.if_icmp .ne 7, 3) := by decide +kernel
theorem dX10_reads_224 : decode cX10_reads 224 = .ok (.iconst 1, 1) := by decide +kernel
theorem dX10_reads_225 : decode cX10_reads 225 = .ok (.goto 4, 3) := by decide +kernel
theorem dX10_reads_228 : decode cX10_reads 228 = .ok (.iconst 0, 1) := by decide +kernel
theorem dX10_reads_229 : decode cX10_reads 229 = .ok (.istore 4, 2) := by decide +kernel
theorem dX10_reads_231 : decode cX10_reads 231 = .ok (.aload_n 0, 1) := by decide +kernel
theorem dX10_reads_232 : decode cX10_reads 232 = .ok (.getfield 112, 3) := by decide +kernel
theorem dX10_reads_235 : decode cX10_reads 235 = .ok (.bipush 20, 2) := by decide +kernel
theorem dX10_reads_237 : decode cX10_reads 237 = .ok (.if_icmp .ne 19, 3) := by decide +kernel
theorem dX10_reads_240 : decode cX10_reads 240 = .ok (.iload 4, 2) := by decide +kernel
theorem dX10_reads_242 : decode cX10_reads 242 = .ok (.iconst 1, 1) := by decide +kernel
theorem dX10_reads_243 : decode cX10_reads 243 = .ok (.if_icmp .eq 11, 3) := by decide +kernel
theorem dX10_reads_246 : decode cX10_reads 246 = .ok (.iload_n 3, 1) := by decide +kernel
theorem dX10_reads_247 : decode cX10_reads 247 = .ok (.invokestatic 119, 3) := by decide +kernel
theorem dX10_reads_250 : decode cX10_reads 250 = .ok (.iconst (-1), 1) := by decide +kernel
theorem dX10_reads_251 : decode cX10_reads 251 = .ok (.if_icmp .eq 5, 3) := by decide +kernel
theorem dX10_reads_254 : decode cX10_reads 254 = .ok (.iload_n 2, 1) := by decide +kernel
theorem dX10_reads_255 : decode cX10_reads 255 = .ok (.ireturn, 1) := by decide +kernel
theorem dX10_reads_256 : decode cX10_reads 256 = .ok (.iload_n 2, 1) := by decide +kernel
theorem dX10_reads_257 : decode cX10_reads 257 = .ok (.iload 4, 2) := by decide +kernel
theorem dX10_reads_259 : decode cX10_reads 259 = .ok (.iadd, 1) := by decide +kernel
theorem dX10_reads_260 : decode cX10_reads 260 = .ok (.istore_n 2, 1) := by decide +kernel
theorem dX10_reads_261 : decode cX10_reads 261 = .ok (.aload_n 0, 1) := by decide +kernel
theorem dX10_reads_262 : decode cX10_reads 262 = .ok (.iload_n 2, 1) := by decide +kernel
theorem dX10_reads_263 : decode cX10_reads 263 = .ok (.invokevirtual 123, 3) := by decide +kernel
theorem dX10_reads_266 : decode cX10_reads 266 = .ok (.invokestatic 119, 3) := by decide +kernel
theorem dX10_reads_269 : decode cX10_reads 269 = .ok (.iconst (-1), 1) := by decide +kernel
theorem dX10_reads_270 : decode cX10_reads 270 = .ok (.if_icmp .ne 5, 3) := by decide +kernel
theorem dX10_reads_273 : decode cX10_reads 273 = .ok (.iload_n 2, 1) := by decide +kernel
theorem dX10_reads_274 : decode cX10_reads 274 = .ok (.ireturn, 1) := by decide +kernel
theorem dX10_reads_275 : decode cX10_reads 275 = .ok (.aload_n 0, 1) := by decide +kernel
theorem dX10_reads_276 : decode cX10_reads 276 = .ok (.iload_n 2, 1) := by decide +kernel
theorem dX10_reads_277 : decode cX10_reads 277 = .ok (.iconst 1, 1) := by decide +kernel
theorem dX10_reads_278 : decode cX10_reads 278 = .ok (.iadd, 1) := by decide +kernel
theorem dX10_reads_279 : decode cX10_reads 279 = .ok (.invokevirtual 123, 3) := by decide +kernel
theorem dX10_reads_282 : decode cX10_reads 282 = .ok (.bipush 49, 2) := by decide +kernel
theorem dX10_reads_284 : decode cX10_reads 284 = .ok (.bipush 57, 2) := by decide +kernel
theorem dX10_reads_286 : decode cX10_reads 286 = .ok (.invokestatic 104, 3) := by decide +kernel
theorem dX10_reads_289 : decode cX10_reads 289 = .ok (.ifCond .ne 7, 3) := by decide +kernel
theorem dX10_reads_292 : decode cX10_reads 292 = .ok (.iload_n 2, 1) := by decide +kernel
theorem dX10_reads_293 : decode cX10_reads 293 = .ok (.iconst 1, 1) := by decide +kernel
theorem dX10_reads_294 : decode cX10_reads 294 = .ok (.iadd, 1) := by decide +kernel
theorem dX10_reads_295 : decode cX10_reads 295 = .ok (.ireturn, 1) := by decide +kernel
theorem dX10_reads_296 : decode cX10_reads 296 = .ok (.aload_n 0, 1) := by decide +kernel
theorem dX10_reads_297 : decode cX10_reads 297 = .ok (.getfield 112, 3) := by decide +kernel
theorem dX10_reads_300 : decode cX10_reads 300 = .ok (.istore 5, 2) := by decide +kernel
theorem dX10_reads_302 : decode cX10_reads 302 = .ok (.aload_n 0, 1) := by decide +kernel
theorem dX10_reads_303 : decode cX10_reads 303 = .ok (.getfield 13, 3) := by decide +kernel
theorem dX10_reads_306 : decode cX10_reads 306 = .ok (.iload 5, 2) := by decide +kernel
theorem dX10_reads_308 : decode cX10_reads 308 = .ok (.aload_n 0, 1) := by decide +kernel
theorem dX10_reads_309 : decode cX10_reads 309 = .ok (.iload_n 2, 1) := by decide +kernel
theorem dX10_reads_310 : decode cX10_reads 310 = .ok (.invokevirtual 123, 3) := by decide +kernel
theorem dX10_reads_313 : decode cX10_reads 313 = .ok (.invokestatic 119, 3) := by decide +kernel
theorem dX10_reads_316 : decode cX10_reads 316 = .ok (.iastore, 1) := by decide +kernel
theorem dX10_reads_317 : decode cX10_reads 317 = .ok (.aload_n 0, 1) := by decide +kernel
theorem dX10_reads_318 : decode cX10_reads 318 = .ok (.getfield 16, 3) := by decide +kernel
theorem dX10_reads_321 : decode cX10_reads 321 = .ok (.iload 5, 2) := by decide +kernel
theorem dX10_reads_323 : decode cX10_reads 323 = .ok (.aload_n 0, 1) := by decide +kernel
theorem dX10_reads_324 : decode cX10_reads 324 = .ok (.iload_n 2, 1) := by decide +kernel
theorem dX10_reads_325 : decode cX10_reads 325 = .ok (.iconst 1, 1) := by decide +kernel
theorem dX10_reads_326 : decode cX10_reads 326 = .ok (.iadd, 1) := by decide +kernel
theorem dX10_reads_327 : decode cX10_reads 327 = .ok (.invokevirtual 123, 3) := by decide +kernel
theorem dX10_reads_330 : decode cX10_reads 330 = .ok (.bipush 48, 2) := by decide +kernel
theorem dX10_reads_332 : decode cX10_reads 332 = .ok (.isub, 1) := by decide +kernel
theorem dX10_reads_333 : decode cX10_reads 333 = .ok (.iastore, 1) := by decide +kernel
theorem dX10_reads_334 : decode cX10_reads 334 = .ok (.aload_n 0, 1) := by decide +kernel
theorem dX10_reads_335 : decode cX10_reads 335 = .ok (.getfield 19, 3) := by decide +kernel
theorem dX10_reads_338 : decode cX10_reads 338 = .ok (.iload 5, 2) := by decide +kernel
theorem dX10_reads_340 : decode cX10_reads 340 = .ok (.iload 4, 2) := by decide +kernel
theorem dX10_reads_342 : decode cX10_reads 342 = .ok (.iastore, 1) := by decide +kernel
theorem dX10_reads_343 : decode cX10_reads 343 = .ok (.aload_n 0, 1) := by decide +kernel
theorem dX10_reads_344 : decode cX10_reads 344 = .ok (.getfield 22, 3) := by decide +kernel
theorem dX10_reads_347 : decode cX10_reads 347 = .ok (.iload 5, 2) := by decide +kernel
theorem dX10_reads_349 : decode cX10_reads 349 = .ok (.iconst 0, 1) := by decide +kernel
theorem dX10_reads_350 : decode cX10_reads 350 = .ok (.iastore, 1) := by decide +kernel
theorem dX10_reads_351 : decode cX10_reads 351 = .ok (.aload_n 0, 1) := by decide +kernel
theorem dX10_reads_352 : decode cX10_reads 352 = .ok (.getfield 25, 3) := by decide +kernel
theorem dX10_reads_355 : decode cX10_reads 355 = .ok (.iload 5, 2) := by decide +kernel
theorem dX10_reads_357 : decode cX10_reads 357 = .ok (.iconst 0, 1) := by decide +kernel
theorem dX10_reads_358 : decode cX10_reads 358 = .ok (.iastore, 1) := by decide +kernel
theorem dX10_reads_359 : decode cX10_reads 359 = .ok (.aload_n 0, 1) := by decide +kernel
theorem dX10_reads_360 : decode cX10_reads 360 = .ok (.getfield 28, 3) := by decide +kernel
theorem dX10_reads_363 : decode cX10_reads 363 = .ok (.iload 5, 2) := by decide +kernel
theorem dX10_reads_365 : decode cX10_reads 365 = .ok (.iload_n 1, 1) := by decide +kernel
theorem dX10_reads_366 : decode cX10_reads 366 = .ok (.ifCond .ne 7, 3) := by decide +kernel
theorem dX10_reads_369 : decode cX10_reads 369 = .ok (.iconst 1, 1) := by decide +kernel
theorem dX10_reads_370 : decode cX10_reads 370 = .ok (.goto 4, 3) := by decide +kernel
theorem dX10_reads_373 : decode cX10_reads 373 = .ok (.iconst 0, 1) := by decide +kernel
theorem dX10_reads_374 : decode cX10_reads 374 = .ok (.iastore, 1) := by decide +kernel
theorem dX10_reads_375 : decode cX10_reads 375 = .ok (.aload_n 0, 1) := by decide +kernel
theorem dX10_reads_376 : decode cX10_reads 376 = .ok (.getfield 34, 3) := by decide +kernel
theorem dX10_reads_379 : decode cX10_reads 379 = .ok (.iload_n 1, 1) := by decide +kernel
theorem dX10_reads_380 : decode cX10_reads 380 = .ok (.iaload, 1) := by decide +kernel
theorem dX10_reads_381 : decode cX10_reads 381 = .ok (.iconst (-1), 1) := by decide +kernel
theorem dX10_reads_382 : decode cX10_reads 382 = .ok (.if_icmp .eq 12, 3) := by decide +kernel
theorem dX10_reads_385 : decode cX10_reads 385 = .ok (.aload_n 0, 1) := by decide +kernel
theorem dX10_reads_386 : decode cX10_reads 386 = .ok (.getfield 34, 3) := by decide +kernel
theorem dX10_reads_389 : decode cX10_reads 389 = .ok (.iload_n 1, 1) := by decide +kernel
theorem dX10_reads_390 : decode cX10_reads 390 = .ok (.iaload, 1) := by decide +kernel
theorem dX10_reads_391 : decode cX10_reads 391 = .ok (.goto 9, 3) := by decide +kernel
theorem dX10_reads_394 : decode cX10_reads 394 = .ok (.aload_n 0, 1) := by decide +kernel
theorem dX10_reads_395 : decode cX10_reads 395 = .ok (.getfield 31, 3) := by decide +kernel
theorem dX10_reads_398 : decode cX10_reads 398 = .ok (.iload_n 1, 1) := by decide +kernel
theorem dX10_reads_399 : decode cX10_reads 399 = .ok (.iaload, 1) := by decide +kernel
theorem dX10_reads_400 : decode cX10_reads 400 = .ok (.istore 6, 2) := by decide +kernel
theorem dX10_reads_402 : decode cX10_reads 402 = .ok (.iload 6, 2) := by decide +kernel
theorem dX10_reads_404 : decode cX10_reads 404 = .ok (.iconst (-1), 1) := by decide +kernel
theorem dX10_reads_405 : decode cX10_reads 405 = .ok (.if_icmp .eq 11, 3) := by decide +kernel
theorem dX10_reads_408 : decode cX10_reads 408 = .ok (.aload_n 0, 1) := by decide +kernel
theorem dX10_reads_409 : decode cX10_reads 409 = .ok (.iload 5, 2) := by decide +kernel
theorem dX10_reads_411 : decode cX10_reads 411 = .ok (.iload 6, 2) := by decide +kernel
theorem dX10_reads_413 : decode cX10_reads 413 = .ok (.invokevirtual 115, 3) := by decide +kernel
theorem dX10_reads_416 : decode cX10_reads 416 = .ok (.aload_n 0, 1) := by decide +kernel
theorem dX10_reads_417 : decode cX10_reads 417 = .ok (.getfield 34, 3) := by decide +kernel
theorem dX10_reads_420 : decode cX10_reads 420 = .ok (.iload_n 1, 1) := by decide +kernel
theorem dX10_reads_421 : decode cX10_reads 421 = .ok (.iload 5, 2) := by decide +kernel
theorem dX10_reads_423 : decode cX10_reads 423 = .ok (.iastore, 1) := by decide +kernel
theorem dX10_reads_424 : decode cX10_reads 424 = .ok (.aload_n 0, 1) := by decide +kernel
theorem dX10_reads_425 : decode cX10_reads 425 = .ok (.getfield 37, 3) := by decide +kernel
theorem dX10_reads_428 : decode cX10_reads 428 = .ok (.iload_n 1, 1) := by decide +kernel
theorem dX10_reads_429 : decode cX10_reads 429 = .ok (.dup2, 1) := by decide +kernel
theorem dX10_reads_430 : decode cX10_reads 430 = .ok (.iaload, 1) := by decide +kernel
theorem dX10_reads_431 : decode cX10_reads 431 = .ok (.iconst 1, 1) := by decide +kernel
theorem dX10_reads_432 : decode cX10_reads 432 = .ok (.iadd, 1) := by decide +kernel
theorem dX10_reads_433 : decode cX10_reads 433 = .ok (.iastore, 1) := by decide +kernel
theorem dX10_reads_434 : decode cX10_reads 434 = .ok (.aload_n 0, 1) := by decide +kernel
theorem dX10_reads_435 : decode cX10_reads 435 = .ok (.dup, 1) := by decide +kernel
theorem dX10_reads_436 : decode cX10_reads 436 = .ok (.getfield 112, 3) := by decide +kernel
theorem dX10_reads_439 : decode cX10_reads 439 = .ok (.iconst 1, 1) := by decide +kernel
theorem dX10_reads_440 : decode cX10_reads 440 = .ok (.iadd, 1) := by decide +kernel
theorem dX10_reads_441 : decode cX10_reads 441 = .ok (.putfield 112, 3) := by decide +kernel
theorem dX10_reads_444 : decode cX10_reads 444 = .ok (.iinc 2 2, 3) := by decide +kernel
theorem dX10_reads_447 : decode cX10_reads 447 = .ok (.goto (-417), 3) := by decide +kernel
theorem dX10_reads_450 : decode cX10_reads 450 = .ok (.iload_n 1, 1) := by decide +kernel
theorem dX10_reads_451 : decode cX10_reads 451 = .ok (.ifCond .le 10, 3) := by decide +kernel
theorem dX10_reads_454 : decode cX10_reads 454 = .ok (.aload_n 0, 1) := by decide +kernel
theorem dX10_reads_455 : decode cX10_reads 455 = .ok (.getfield 108, 3) := by decide +kernel
theorem dX10_reads_458 : decode cX10_reads 458 = .ok (.goto 4, 3) := by decide +kernel
theorem dX10_reads_461 : decode cX10_reads 461 = .ok (.iconst (-1), 1) := by decide +kernel
theorem dX10_reads_462 : decode cX10_reads 462 = .ok (.ireturn, 1) := by decide +kernel
theorem dX10_faultNow_0 : decode cX10_faultNow 0 = .ok (.aload_n 0, 1) := by decide +kernel
theorem dX10_faultNow_1 : decode cX10_faultNow 1 = .ok (.invokevirtual 126, 3) := by decide +kernel
theorem dX10_faultNow_4 : decode cX10_faultNow 4 = .ok (.istore_n 1, 1) := by decide +kernel
theorem dX10_faultNow_5 : decode cX10_faultNow 5 = .ok (.aload_n 0, 1) := by decide +kernel
theorem dX10_faultNow_6 : decode cX10_faultNow 6 = .ok (.iload_n 1, 1) := by decide +kernel
theorem dX10_faultNow_7 : decode cX10_faultNow 7 = .ok (.iconst (-1), 1) := by decide +kernel
theorem dX10_faultNow_8 : decode cX10_faultNow 8 = .ok (.if_icmp .ne 10, 3) := by decide +kernel
theorem dX10_faultNow_11 : decode cX10_faultNow 11 = .ok (.aload_n 0, 1) := by decide +kernel
theorem dX10_faultNow_12 : decode cX10_faultNow 12 = .ok (.getfield 112, 3) := by decide +kernel
theorem dX10_faultNow_15 : decode cX10_faultNow 15 = .ok (.goto 4, 3) := by decide +kernel
theorem dX10_faultNow_18 : decode cX10_faultNow 18 = .ok (.iconst 0, 1) := by decide +kernel
theorem dX10_faultNow_19 : decode cX10_faultNow 19 = .ok (.putfield 112, 3) := by decide +kernel
theorem dX10_faultNow_22 : decode cX10_faultNow 22 = .ok (.iload_n 1, 1) := by decide +kernel
theorem dX10_faultNow_23 : decode cX10_faultNow 23 = .ok (.ireturn, 1) := by decide +kernel
theorem dX10_fault_0 : decode cX10_fault 0 = .ok (.aload_n 0, 1) := by decide +kernel
theorem dX10_fault_1 : decode cX10_fault 1 = .ok (.invokevirtual 130, 3) := by decide +kernel
theorem dX10_fault_4 : decode cX10_fault 4 = .ok (.ireturn, 1) := by decide +kernel
theorem dX10_isPerson_0 : decode cX10_isPerson 0 = .ok (.aload_n 0, 1) := by decide +kernel
theorem dX10_isPerson_1 : decode cX10_isPerson 1 = .ok (.invokevirtual 130, 3) := by decide +kernel
theorem dX10_isPerson_4 : decode cX10_isPerson 4 = .ok (.istore_n 2, 1) := by decide +kernel
theorem dX10_isPerson_5 : decode cX10_isPerson 5 = .ok (.iload_n 1, 1) := by decide +kernel
theorem dX10_isPerson_6 : decode cX10_isPerson 6 = .ok (.iconst 0, 1) := by decide +kernel
theorem dX10_isPerson_7 : decode cX10_isPerson 7 = .ok (.aload_n 0, 1) := by decide +kernel
theorem dX10_isPerson_8 : decode cX10_isPerson 8 = .ok (.getfield 112, 3) := by decide +kernel
theorem dX10_isPerson_11 : decode cX10_isPerson 11 = .ok (.iconst 1, 1) := by decide +kernel
theorem dX10_isPerson_12 : decode cX10_isPerson 12 = .ok (.isub, 1) := by decide +kernel
theorem dX10_isPerson_13 : decode cX10_isPerson 13 = .ok (.invokestatic 104, 3) := by decide +kernel
theorem dX10_isPerson_16 : decode cX10_isPerson 16 = .ok (.ireturn, 1) := by decide +kernel
theorem dX10_personOf_0 : decode cX10_personOf 0 = .ok (.iload_n 2, 1) := by decide +kernel
theorem dX10_personOf_1 : decode cX10_personOf 1 = .ok (.ifCond .ne 12, 3) := by decide +kernel
theorem dX10_personOf_4 : decode cX10_personOf 4 = .ok (.aload_n 0, 1) := by decide +kernel
theorem dX10_personOf_5 : decode cX10_personOf 5 = .ok (.getfield 13, 3) := by decide +kernel
theorem dX10_personOf_8 : decode cX10_personOf 8 = .ok (.iload_n 1, 1) := by decide +kernel
theorem dX10_personOf_9 : decode cX10_personOf 9 = .ok (.iaload, 1) := by decide +kernel
theorem dX10_personOf_10 : decode cX10_personOf 10 = .ok (.goto 51, 3) := by decide +kernel
theorem dX10_personOf_13 : decode cX10_personOf 13 = .ok (.iload_n 2, 1) := by decide +kernel
theorem dX10_personOf_14 : decode cX10_personOf 14 = .ok (.iconst 1, 1) := by decide +kernel
theorem dX10_personOf_15 : decode cX10_personOf 15 = .ok (.if_icmp .ne 12, 3) := by decide +kernel
theorem dX10_personOf_18 : decode cX10_personOf 18 = .ok (.aload_n 0, 1) := by decide +kernel
theorem dX10_personOf_19 : decode cX10_personOf 19 = .ok (.getfield 16, 3) := by decide +kernel
theorem dX10_personOf_22 : decode cX10_personOf 22 = .ok (.iload_n 1, 1) := by decide +kernel
theorem dX10_personOf_23 : decode cX10_personOf 23 = .ok (.iaload, 1) := by decide +kernel
theorem dX10_personOf_24 : decode cX10_personOf 24 = .ok (.goto 37, 3) := by decide +kernel
theorem dX10_personOf_27 : decode cX10_personOf 27 = .ok (.iload_n 2, 1) := by decide +kernel
theorem dX10_personOf_28 : decode cX10_personOf 28 = .ok (.iconst 2, 1) := by decide +kernel
theorem dX10_personOf_29 : decode cX10_personOf 29 = .ok (.if_icmp .ne 12, 3) := by decide +kernel
theorem dX10_personOf_32 : decode cX10_personOf 32 = .ok (.aload_n 0, 1) := by decide +kernel
theorem dX10_personOf_33 : decode cX10_personOf 33 = .ok (.getfield 19, 3) := by decide +kernel
theorem dX10_personOf_36 : decode cX10_personOf 36 = .ok (.iload_n 1, 1) := by decide +kernel
theorem dX10_personOf_37 : decode cX10_personOf 37 = .ok (.iaload, 1) := by decide +kernel
theorem dX10_personOf_38 : decode cX10_personOf 38 = .ok (.goto 23, 3) := by decide +kernel
theorem dX10_personOf_41 : decode cX10_personOf 41 = .ok (.iload_n 2, 1) := by decide +kernel
theorem dX10_personOf_42 : decode cX10_personOf 42 = .ok (.iconst 3, 1) := by decide +kernel
theorem dX10_personOf_43 : decode cX10_personOf 43 = .ok (.if_icmp .ne 12, 3) := by decide +kernel
theorem dX10_personOf_46 : decode cX10_personOf 46 = .ok (.aload_n 0, 1) := by decide +kernel
theorem dX10_personOf_47 : decode cX10_personOf 47 = .ok (.getfield 22, 3) := by decide +kernel
theorem dX10_personOf_50 : decode cX10_personOf 50 = .ok (.iload_n 1, 1) := by decide +kernel
theorem dX10_personOf_51 : decode cX10_personOf 51 = .ok (.iaload, 1) := by decide +kernel
theorem dX10_personOf_52 : decode cX10_personOf 52 = .ok (.goto 9, 3) := by decide +kernel
theorem dX10_personOf_55 : decode cX10_personOf 55 = .ok (.aload_n 0, 1) := by decide +kernel
theorem dX10_personOf_56 : decode cX10_personOf 56 = .ok (.getfield 28, 3) := by decide +kernel
theorem dX10_personOf_59 : decode cX10_personOf 59 = .ok (.iload_n 1, 1) := by decide +kernel
theorem dX10_personOf_60 : decode cX10_personOf 60 = .ok (.iaload, 1) := by decide +kernel
theorem dX10_personOf_61 : decode cX10_personOf 61 = .ok (.ireturn, 1) := by decide +kernel
theorem dX10_person_0 : decode cX10_person 0 = .ok (.aload_n 0, 1) := by decide +kernel
theorem dX10_person_1 : decode cX10_person 1 = .ok (.iload_n 1, 1) := by decide +kernel
theorem dX10_person_2 : decode cX10_person 2 = .ok (.invokevirtual 133, 3) := by decide +kernel
theorem dX10_person_5 : decode cX10_person 5 = .ok (.ifCond .eq 21, 3) := by decide +kernel
theorem dX10_person_8 : decode cX10_person 8 = .ok (.iload_n 2, 1) := by decide +kernel
theorem dX10_person_9 : decode cX10_person 9 = .ok (.iconst 0, 1) := by decide +kernel
theorem dX10_person_10 : decode cX10_person 10 = .ok (.iconst 4, 1) := by decide +kernel
theorem dX10_person_11 : decode cX10_person 11 = .ok (.invokestatic 104, 3) := by decide +kernel
theorem dX10_person_14 : decode cX10_person 14 = .ok (.ifCond .eq 12, 3) := by decide +kernel
theorem dX10_person_17 : decode cX10_person 17 = .ok (.aload_n 0, 1) := by decide +kernel
theorem dX10_person_18 : decode cX10_person 18 = .ok (.iload_n 1, 1) := by decide +kernel
theorem dX10_person_19 : decode cX10_person 19 = .ok (.iload_n 2, 1) := by decide +kernel
theorem dX10_person_20 : decode cX10_person 20 = .ok (.invokevirtual 137, 3) := by decide +kernel
theorem dX10_person_23 : decode cX10_person 23 = .ok (.goto 5, 3) := by decide +kernel
theorem dX10_person_26 : decode cX10_person 26 = .ok (.bipush (-2), 2) := by decide +kernel
theorem dX10_person_28 : decode cX10_person 28 = .ok (.ireturn, 1) := by decide +kernel
theorem dX10_set_0 : decode cX10_set 0 = .ok (.iload_n 1, 1) := by decide +kernel
theorem dX10_set_1 : decode cX10_set 1 = .ok (.iconst 0, 1) := by decide +kernel
theorem dX10_set_2 : decode cX10_set 2 = .ok (.iconst 2, 1) := by decide +kernel
theorem dX10_set_3 : decode cX10_set 3 = .ok (.invokestatic 104, 3) := by decide +kernel
theorem dX10_set_6 : decode cX10_set 6 = .ok (.ifCond .eq 32, 3) := by decide +kernel
theorem dX10_set_9 : decode cX10_set 9 = .ok (.iload_n 2, 1) := by decide +kernel
theorem dX10_set_10 : decode cX10_set 10 = .ok (.iload_n 1, 1) := by decide +kernel
theorem dX10_set_11 : decode cX10_set 11 = .ok (.iconst 1, 1) := by decide +kernel
theorem dX10_set_12 : decode cX10_set 12 = .ok (.if_icmp .ne 7, 3) := by decide +kernel
theorem dX10_set_15 : decode cX10_set 15 = .ok (.iconst (-1), 1) := by decide +kernel
theorem dX10_set_16 : decode cX10_set 16 = .ok (.goto 4, 3) := by decide +kernel
theorem dX10_set_19 : decode cX10_set 19 = .ok (.iconst 0, 1) := by decide +kernel
theorem dX10_set_20 : decode cX10_set 20 = .ok (.iload_n 1, 1) := by decide +kernel
theorem dX10_set_21 : decode cX10_set 21 = .ok (.iconst 2, 1) := by decide +kernel
theorem dX10_set_22 : decode cX10_set 22 = .ok (.if_icmp .ne 8, 3) := by decide +kernel
theorem dX10_set_25 : decode cX10_set 25 = .ok (.bipush 99, 2) := by decide +kernel
theorem dX10_set_27 : decode cX10_set 27 = .ok (.goto 5, 3) := by decide +kernel
theorem dX10_set_30 : decode cX10_set 30 = .ok (.bipush 19, 2) := by decide +kernel
theorem dX10_set_32 : decode cX10_set 32 = .ok (.invokestatic 104, 3) := by decide +kernel
theorem dX10_set_35 : decode cX10_set 35 = .ok (.ifCond .ne 6, 3) := by decide +kernel
theorem dX10_set_38 : decode cX10_set 38 = .ok (.bipush (-5), 2) := by decide +kernel
theorem dX10_set_40 : decode cX10_set 40 = .ok (.ireturn, 1) := by decide +kernel
theorem dX10_set_41 : decode cX10_set 41 = .ok (.aload_n 0, 1) := by decide +kernel
theorem dX10_set_42 : decode cX10_set 42 = .ok (.getfield 40, 3) := by decide +kernel
theorem dX10_set_45 : decode cX10_set 45 = .ok (.iload_n 1, 1) := by decide +kernel
theorem dX10_set_46 : decode cX10_set 46 = .ok (.iaload, 1) := by decide +kernel
theorem dX10_set_47 : decode cX10_set 47 = .ok (.istore_n 3, 1) := by decide +kernel
theorem dX10_set_48 : decode cX10_set 48 = .ok (.aload_n 0, 1) := by decide +kernel
theorem dX10_set_49 : decode cX10_set 49 = .ok (.getfield 40, 3) := by decide +kernel
theorem dX10_set_52 : decode cX10_set 52 = .ok (.iload_n 1, 1) := by decide +kernel
theorem dX10_set_53 : decode cX10_set 53 = .ok (.iload_n 2, 1) := by decide +kernel
theorem dX10_set_54 : decode cX10_set 54 = .ok (.iastore, 1) := by decide +kernel
theorem dX10_set_55 : decode cX10_set 55 = .ok (.iload_n 3, 1) := by decide +kernel
theorem dX10_set_56 : decode cX10_set 56 = .ok (.ireturn, 1) := by decide +kernel
theorem dX10_passes_0 : decode cX10_passes 0 = .ok (.iconst 0, 1) := by decide +kernel
theorem dX10_passes_1 : decode cX10_passes 1 = .ok (.istore 4, 2) := by decide +kernel
theorem dX10_passes_3 : decode cX10_passes 3 = .ok (.iload 4, 2) := by decide +kernel
theorem dX10_passes_5 : decode cX10_passes 5 = .ok (.aload_n 0, 1) := by decide +kernel
theorem dX10_passes_6 : decode cX10_passes 6 = .ok (.getfield 112, 3) := by decide +kernel
theorem dX10_passes_9 : decode cX10_passes 9 = .ok (.if_icmp .ge 104, 3) := by decide +kernel
theorem dX10_passes_12 : decode cX10_passes 12 = .ok (.aload_n 0, 1) := by decide +kernel
theorem dX10_passes_13 : decode cX10_passes 13 = .ok (.getfield 22, 3) := by decide +kernel
theorem dX10_passes_16 : decode cX10_passes 16 = .ok (.iload_n 1, 1) := by decide +kernel
theorem dX10_passes_17 : decode cX10_passes 17 = .ok (.iaload, 1) := by decide +kernel
theorem dX10_passes_18 : decode cX10_passes 18 = .ok (.iload 4, 2) := by decide +kernel
theorem dX10_passes_20 : decode cX10_passes 20 = .ok (.invokestatic 141, 3) := by decide +kernel
theorem dX10_passes_23 : decode cX10_passes 23 = .ok (.ifCond .eq 84, 3) := by decide +kernel
theorem dX10_passes_26 : decode cX10_passes 26 = .ok (.iload 4, 2) := by decide +kernel
theorem dX10_passes_28 : decode cX10_passes 28 = .ok (.iload_n 3, 1) := by decide +kernel
theorem dX10_passes_29 : decode cX10_passes 29 = .ok (.if_icmp .eq 78, 3) := by decide +kernel
theorem dX10_passes_32 : decode cX10_passes 32 = .ok (.iload_n 1, 1) := by decide +kernel
theorem dX10_passes_33 : decode cX10_passes 33 = .ok (.iload 4, 2) := by decide +kernel
theorem dX10_passes_35 : decode cX10_passes 35 = .ok (.if_icmp .le 7, 3) := by decide +kernel
theorem dX10_passes_38 : decode cX10_passes 38 = .ok (.iload_n 1, 1) := by decide +kernel
theorem dX10_passes_39 : decode cX10_passes 39 = .ok (.goto 5, 3) := by decide +kernel
theorem dX10_passes_42 : decode cX10_passes 42 = .ok (.iload 4, 2) := by decide +kernel
theorem dX10_passes_44 : decode cX10_passes 44 = .ok (.istore 5, 2) := by decide +kernel
theorem dX10_passes_46 : decode cX10_passes 46 = .ok (.iload_n 2, 1) := by decide +kernel
theorem dX10_passes_47 : decode cX10_passes 47 = .ok (.aload_n 0, 1) := by decide +kernel
theorem dX10_passes_48 : decode cX10_passes 48 = .ok (.getfield 19, 3) := by decide +kernel
theorem dX10_passes_51 : decode cX10_passes 51 = .ok (.iload 5, 2) := by decide +kernel
theorem dX10_passes_53 : decode cX10_passes 53 = .ok (.iaload, 1) := by decide +kernel
theorem dX10_passes_54 : decode cX10_passes 54 = .ok (.iconst 1, 1) := by decide +kernel
theorem dX10_passes_55 : decode cX10_passes 55 = .ok (.if_icmp .ne 21, 3) := by decide +kernel
theorem dX10_passes_58 : decode cX10_passes 58 = .ok (.aload_n 0, 1) := by decide +kernel
theorem dX10_passes_59 : decode cX10_passes 59 = .ok (.getfield 25, 3) := by decide +kernel
theorem dX10_passes_62 : decode cX10_passes 62 = .ok (.iload_n 1, 1) := by decide +kernel
theorem dX10_passes_63 : decode cX10_passes 63 = .ok (.iaload, 1) := by decide +kernel
theorem dX10_passes_64 : decode cX10_passes 64 = .ok (.iload 4, 2) := by decide +kernel
theorem dX10_passes_66 : decode cX10_passes 66 = .ok (.invokestatic 141, 3) := by decide +kernel
theorem dX10_passes_69 : decode cX10_passes 69 = .ok (.ifCond .ne 7, 3) := by decide +kernel
theorem dX10_passes_72 : decode cX10_passes 72 = .ok (.iconst 3, 1) := by decide +kernel
theorem dX10_passes_73 : decode cX10_passes 73 = .ok (.goto 4, 3) := by decide +kernel
theorem dX10_passes_76 : decode cX10_passes 76 = .ok (.iconst 0, 1) := by decide +kernel
theorem dX10_passes_77 : decode cX10_passes 77 = .ok (.iadd, 1) := by decide +kernel
theorem dX10_passes_78 : decode cX10_passes 78 = .ok (.istore 6, 2) := by decide +kernel
theorem dX10_passes_80 : decode cX10_passes 80 = .ok (.iload 6, 2) := by decide +kernel
theorem dX10_passes_82 : decode cX10_passes 82 = .ok (.sipush 400, 3) := by decide +kernel
theorem dX10_passes_85 : decode cX10_passes 85 = .ok (.if_icmp .gt 22, 3) := by decide +kernel
theorem dX10_passes_88 : decode cX10_passes 88 = .ok (.aload_n 0, 1) := by decide +kernel
theorem dX10_passes_89 : decode cX10_passes 89 = .ok (.getfield 46, 3) := by decide +kernel
theorem dX10_passes_92 : decode cX10_passes 92 = .ok (.bipush 20, 2) := by decide +kernel
theorem dX10_passes_94 : decode cX10_passes 94 = .ok (.iload 6, 2) := by decide +kernel
theorem dX10_passes_96 : decode cX10_passes 96 = .ok (.imul, 1) := by decide +kernel
theorem dX10_passes_97 : decode cX10_passes 97 = .ok (.iload 4, 2) := by decide +kernel
theorem dX10_passes_99 : decode cX10_passes 99 = .ok (.iadd, 1) := by decide +kernel
theorem dX10_passes_100 : decode cX10_passes 100 = .ok (.dup2, 1) := by decide +kernel
theorem dX10_passes_101 : decode cX10_passes 101 = .ok (.iaload, 1) := by decide +kernel
theorem dX10_passes_102 : decode cX10_passes 102 = .ok (.iconst 1, 1) := by decide +kernel
theorem dX10_passes_103 : decode cX10_passes 103 = .ok (.iload_n 1, 1) := by decide +kernel
theorem dX10_passes_104 : decode cX10_passes 104 = .ok (.ishl, 1) := by decide +kernel
theorem dX10_passes_105 : decode cX10_passes 105 = .ok (.ior, 1) := by decide +kernel
theorem dX10_passes_106 : decode cX10_passes 106 = .ok (.iastore, 1) := by decide +kernel
theorem dX10_passes_107 : decode cX10_passes 107 = .ok (.iinc 4 1, 3) := by decide +kernel
theorem dX10_passes_110 : decode cX10_passes 110 = .ok (.goto (-107), 3) := by decide +kernel
theorem dX10_passes_113 : decode cX10_passes 113 = .ok (.return_, 1) := by decide +kernel
theorem dX10_feels_0 : decode cX10_feels 0 = .ok (.iload_n 2, 1) := by decide +kernel
theorem dX10_feels_1 : decode cX10_feels 1 = .ok (.aload_n 0, 1) := by decide +kernel
theorem dX10_feels_2 : decode cX10_feels 2 = .ok (.getfield 49, 3) := by decide +kernel
theorem dX10_feels_5 : decode cX10_feels 5 = .ok (.iload_n 1, 1) := by decide +kernel
theorem dX10_feels_6 : decode cX10_feels 6 = .ok (.iaload, 1) := by decide +kernel
theorem dX10_feels_7 : decode cX10_feels 7 = .ok (.if_icmp .ge 21, 3) := by decide +kernel
theorem dX10_feels_10 : decode cX10_feels 10 = .ok (.aload_n 0, 1) := by decide +kernel
theorem dX10_feels_11 : decode cX10_feels 11 = .ok (.getfield 58, 3) := by decide +kernel
theorem dX10_feels_14 : decode cX10_feels 14 = .ok (.bipush 20, 2) := by decide +kernel
theorem dX10_feels_16 : decode cX10_feels 16 = .ok (.iload_n 2, 1) := by decide +kernel
theorem dX10_feels_17 : decode cX10_feels 17 = .ok (.imul, 1) := by decide +kernel
theorem dX10_feels_18 : decode cX10_feels 18 = .ok (.iload_n 1, 1) := by decide +kernel
theorem dX10_feels_19 : decode cX10_feels 19 = .ok (.iadd, 1) := by decide +kernel
theorem dX10_feels_20 : decode cX10_feels 20 = .ok (.dup2, 1) := by decide +kernel
theorem dX10_feels_21 : decode cX10_feels 21 = .ok (.iaload, 1) := by decide +kernel
theorem dX10_feels_22 : decode cX10_feels 22 = .ok (.iconst 1, 1) := by decide +kernel
theorem dX10_feels_23 : decode cX10_feels 23 = .ok (.iload_n 3, 1) := by decide +kernel
theorem dX10_feels_24 : decode cX10_feels 24 = .ok (.ishl, 1) := by decide +kernel
theorem dX10_feels_25 : decode cX10_feels 25 = .ok (.ior, 1) := by decide +kernel
theorem dX10_feels_26 : decode cX10_feels 26 = .ok (.iastore, 1) := by decide +kernel
theorem dX10_feels_27 : decode cX10_feels 27 = .ok (.return_, 1) := by decide +kernel
theorem dX10_feels_28 : decode cX10_feels 28 = .ok (.aload_n 0, 1) := by decide +kernel
theorem dX10_feels_29 : decode cX10_feels 29 = .ok (.getfield 55, 3) := by decide +kernel
theorem dX10_feels_32 : decode cX10_feels 32 = .ok (.bipush 20, 2) := by decide +kernel
theorem dX10_feels_34 : decode cX10_feels 34 = .ok (.iload_n 2, 1) := by decide +kernel
theorem dX10_feels_35 : decode cX10_feels 35 = .ok (.imul, 1) := by decide +kernel
theorem dX10_feels_36 : decode cX10_feels 36 = .ok (.iload_n 1, 1) := by decide +kernel
theorem dX10_feels_37 : decode cX10_feels 37 = .ok (.iadd, 1) := by decide +kernel
theorem dX10_feels_38 : decode cX10_feels 38 = .ok (.dup2, 1) := by decide +kernel
theorem dX10_feels_39 : decode cX10_feels 39 = .ok (.iaload, 1) := by decide +kernel
theorem dX10_feels_40 : decode cX10_feels 40 = .ok (.iconst 1, 1) := by decide +kernel
theorem dX10_feels_41 : decode cX10_feels 41 = .ok (.iload_n 3, 1) := by decide +kernel
theorem dX10_feels_42 : decode cX10_feels 42 = .ok (.ishl, 1) := by decide +kernel
theorem dX10_feels_43 : decode cX10_feels 43 = .ok (.ior, 1) := by decide +kernel
theorem dX10_feels_44 : decode cX10_feels 44 = .ok (.iastore, 1) := by decide +kernel
theorem dX10_feels_45 : decode cX10_feels 45 = .ok (.aload_n 0, 1) := by decide +kernel
theorem dX10_feels_46 : decode cX10_feels 46 = .ok (.getfield 52, 3) := by decide +kernel
theorem dX10_feels_49 : decode cX10_feels 49 = .ok (.iload_n 1, 1) := by decide +kernel
theorem dX10_feels_50 : decode cX10_feels 50 = .ok (.dup2, 1) := by decide +kernel
theorem dX10_feels_51 : decode cX10_feels 51 = .ok (.iaload, 1) := by decide +kernel
theorem dX10_feels_52 : decode cX10_feels 52 = .ok (.iconst 1, 1) := by decide +kernel
theorem dX10_feels_53 : decode cX10_feels 53 = .ok (.iadd, 1) := by decide +kernel
theorem dX10_feels_54 : decode cX10_feels 54 = .ok (.iastore, 1) := by decide +kernel
theorem dX10_feels_55 : decode cX10_feels 55 = .ok (.iload_n 1, 1) := by decide +kernel
theorem dX10_feels_56 : decode cX10_feels 56 = .ok (.iload 4, 2) := by decide +kernel
theorem dX10_feels_58 : decode cX10_feels 58 = .ok (.if_icmp .ne 7, 3) := by decide +kernel
theorem dX10_feels_61 : decode cX10_feels 61 = .ok (.iconst 3, 1) := by decide +kernel
theorem dX10_feels_62 : decode cX10_feels 62 = .ok (.goto 9, 3) := by decide +kernel
theorem dX10_feels_65 : decode cX10_feels 65 = .ok (.aload_n 0, 1) := by decide +kernel
theorem dX10_feels_66 : decode cX10_feels 66 = .ok (.getfield 13, 3) := by decide +kernel
theorem dX10_feels_69 : decode cX10_feels 69 = .ok (.iload_n 1, 1) := by decide +kernel
theorem dX10_feels_70 : decode cX10_feels 70 = .ok (.iaload, 1) := by decide +kernel
theorem dX10_feels_71 : decode cX10_feels 71 = .ok (.istore 5, 2) := by decide +kernel
theorem dX10_feels_73 : decode cX10_feels 73 = .ok (.iload 5, 2) := by decide +kernel
theorem dX10_feels_75 : decode cX10_feels 75 = .ok (.iconst 2, 1) := by decide +kernel
theorem dX10_feels_76 : decode cX10_feels 76 = .ok (.if_icmp .lt 20, 3) := by decide +kernel
theorem dX10_feels_79 : decode cX10_feels 79 = .ok (.iload 5, 2) := by decide +kernel
theorem dX10_feels_81 : decode cX10_feels 81 = .ok (.iconst 2, 1) := by decide +kernel
theorem dX10_feels_82 : decode cX10_feels 82 = .ok (.if_icmp .ne 18, 3) := by decide +kernel
theorem dX10_feels_85 : decode cX10_feels 85 = .ok (.aload_n 0, 1) := by decide +kernel
theorem dX10_feels_86 : decode cX10_feels 86 = .ok (.getfield 52, 3) := by decide +kernel
theorem dX10_feels_89 : decode cX10_feels 89 = .ok (.iload_n 1, 1) := by decide +kernel
theorem dX10_feels_90 : decode cX10_feels 90 = .ok (.iaload, 1) := by decide +kernel
theorem dX10_feels_91 : decode cX10_feels 91 = .ok (.iconst 2, 1) := by decide +kernel
theorem dX10_feels_92 : decode cX10_feels 92 = .ok (.irem, 1) := by decide +kernel
theorem dX10_feels_93 : decode cX10_feels 93 = .ok (.ifCond .ne 7, 3) := by decide +kernel
theorem dX10_feels_96 : decode cX10_feels 96 = .ok (.iconst 1, 1) := by decide +kernel
theorem dX10_feels_97 : decode cX10_feels 97 = .ok (.goto 4, 3) := by decide +kernel
theorem dX10_feels_100 : decode cX10_feels 100 = .ok (.iconst 0, 1) := by decide +kernel
theorem dX10_feels_101 : decode cX10_feels 101 = .ok (.istore 6, 2) := by decide +kernel
theorem dX10_feels_103 : decode cX10_feels 103 = .ok (.iload 6, 2) := by decide +kernel
theorem dX10_feels_105 : decode cX10_feels 105 = .ok (.ifCond .eq 61, 3) := by decide +kernel
theorem dX10_feels_108 : decode cX10_feels 108 = .ok (.iload_n 2, 1) := by decide +kernel
theorem dX10_feels_109 : decode cX10_feels 109 = .ok (.aload_n 0, 1) := by decide +kernel
theorem dX10_feels_110 : decode cX10_feels 110 = .ok (.getfield 16, 3) := by decide +kernel
theorem dX10_feels_113 : decode cX10_feels 113 = .ok (.iload_n 1, 1) := by decide +kernel
theorem dX10_feels_114 : decode cX10_feels 114 = .ok (.iaload, 1) := by decide +kernel
theorem dX10_feels_115 : decode cX10_feels 115 = .ok (.iload 5, 2) := by decide +kernel
theorem dX10_feels_117 : decode cX10_feels 117 = .ok (.iconst 1, 1) := by decide +kernel
theorem dX10_feels_118 : decode cX10_feels 118 = .ok (.if_icmp .ne 7, 3) := by decide +kernel
theorem dX10_feels_121 : decode cX10_feels 121 = .ok (.iconst 2, 1) := by decide +kernel
theorem dX10_feels_122 : decode cX10_feels 122 = .ok (.goto 4, 3) := by decide +kernel
theorem dX10_feels_125 : decode cX10_feels 125 = .ok (.iconst 1, 1) := by decide +kernel
theorem dX10_feels_126 : decode cX10_feels 126 = .ok (.imul, 1) := by decide +kernel
theorem dX10_feels_127 : decode cX10_feels 127 = .ok (.iadd, 1) := by decide +kernel
theorem dX10_feels_128 : decode cX10_feels 128 = .ok (.istore 7, 2) := by decide +kernel
theorem dX10_feels_130 : decode cX10_feels 130 = .ok (.aload_n 0, 1) := by decide +kernel
theorem dX10_feels_131 : decode cX10_feels 131 = .ok (.iload_n 1, 1) := by decide +kernel
theorem dX10_feels_132 : decode cX10_feels 132 = .ok (.iload_n 2, 1) := by decide +kernel
theorem dX10_feels_133 : decode cX10_feels 133 = .ok (.aload_n 0, 1) := by decide +kernel
theorem dX10_feels_134 : decode cX10_feels 134 = .ok (.getfield 16, 3) := by decide +kernel
theorem dX10_feels_137 : decode cX10_feels 137 = .ok (.iload_n 1, 1) := by decide +kernel
theorem dX10_feels_138 : decode cX10_feels 138 = .ok (.iaload, 1) := by decide +kernel
theorem dX10_feels_139 : decode cX10_feels 139 = .ok (.iadd, 1) := by decide +kernel
theorem dX10_feels_140 : decode cX10_feels 140 = .ok (.iload_n 3, 1) := by decide +kernel
theorem dX10_feels_141 : decode cX10_feels 141 = .ok (.invokevirtual 145, 3) := by decide +kernel
theorem dX10_feels_144 : decode cX10_feels 144 = .ok (.iload 5, 2) := by decide +kernel
theorem dX10_feels_146 : decode cX10_feels 146 = .ok (.iconst 1, 1) := by decide +kernel
theorem dX10_feels_147 : decode cX10_feels 147 = .ok (.if_icmp .ne 11, 3) := by decide +kernel
theorem dX10_feels_150 : decode cX10_feels 150 = .ok (.aload_n 0, 1) := by decide +kernel
theorem dX10_feels_151 : decode cX10_feels 151 = .ok (.iload_n 1, 1) := by decide +kernel
theorem dX10_feels_152 : decode cX10_feels 152 = .ok (.iload 7, 2) := by decide +kernel
theorem dX10_feels_154 : decode cX10_feels 154 = .ok (.iload_n 3, 1) := by decide +kernel
theorem dX10_feels_155 : decode cX10_feels 155 = .ok (.invokevirtual 145, 3) := by decide +kernel
theorem dX10_feels_158 : decode cX10_feels 158 = .ok (.aload_n 0, 1) := by decide +kernel
theorem dX10_feels_159 : decode cX10_feels 159 = .ok (.getfield 49, 3) := by decide +kernel
theorem dX10_feels_162 : decode cX10_feels 162 = .ok (.iload_n 1, 1) := by decide +kernel
theorem dX10_feels_163 : decode cX10_feels 163 = .ok (.iload 7, 2) := by decide +kernel
theorem dX10_feels_165 : decode cX10_feels 165 = .ok (.iastore, 1) := by decide +kernel
theorem dX10_feels_166 : decode cX10_feels 166 = .ok (.return_, 1) := by decide +kernel
theorem dX10_runs_0 : decode cX10_runs 0 = .ok (.iconst 0, 1) := by decide +kernel
theorem dX10_runs_1 : decode cX10_runs 1 = .ok (.istore 5, 2) := by decide +kernel
theorem dX10_runs_3 : decode cX10_runs 3 = .ok (.iload 5, 2) := by decide +kernel
theorem dX10_runs_5 : decode cX10_runs 5 = .ok (.sipush 8020, 3) := by decide +kernel
theorem dX10_runs_8 : decode cX10_runs 8 = .ok (.if_icmp .ge 33, 3) := by decide +kernel
theorem dX10_runs_11 : decode cX10_runs 11 = .ok (.aload_n 0, 1) := by decide +kernel
theorem dX10_runs_12 : decode cX10_runs 12 = .ok (.getfield 46, 3) := by decide +kernel
theorem dX10_runs_15 : decode cX10_runs 15 = .ok (.iload 5, 2) := by decide +kernel
theorem dX10_runs_17 : decode cX10_runs 17 = .ok (.iconst 0, 1) := by decide +kernel
theorem dX10_runs_18 : decode cX10_runs 18 = .ok (.iastore, 1) := by decide +kernel
theorem dX10_runs_19 : decode cX10_runs 19 = .ok (.aload_n 0, 1) := by decide +kernel
theorem dX10_runs_20 : decode cX10_runs 20 = .ok (.getfield 55, 3) := by decide +kernel
theorem dX10_runs_23 : decode cX10_runs 23 = .ok (.iload 5, 2) := by decide +kernel
theorem dX10_runs_25 : decode cX10_runs 25 = .ok (.iconst 0, 1) := by decide +kernel
theorem dX10_runs_26 : decode cX10_runs 26 = .ok (.iastore, 1) := by decide +kernel
theorem dX10_runs_27 : decode cX10_runs 27 = .ok (.aload_n 0, 1) := by decide +kernel
theorem dX10_runs_28 : decode cX10_runs 28 = .ok (.getfield 58, 3) := by decide +kernel
theorem dX10_runs_31 : decode cX10_runs 31 = .ok (.iload 5, 2) := by decide +kernel
theorem dX10_runs_33 : decode cX10_runs 33 = .ok (.iconst 0, 1) := by decide +kernel
theorem dX10_runs_34 : decode cX10_runs 34 = .ok (.iastore, 1) := by decide +kernel
theorem dX10_runs_35 : decode cX10_runs 35 = .ok (.iinc 5 1, 3) := by decide +kernel
theorem dX10_runs_38 : decode cX10_runs 38 = .ok (.goto (-35), 3) := by decide +kernel
theorem dX10_runs_41 : decode cX10_runs 41 = .ok (.iconst 0, 1) := by decide +kernel
theorem dX10_runs_42 : decode cX10_runs 42 = .ok (.istore 5, 2) := by decide +kernel
theorem dX10_runs_44 : decode cX10_runs 44 = .ok (.iload 5, 2) := by decide +kernel
theorem dX10_runs_46 : decode cX10_runs 46 = .ok (.aload_n 0, 1) := by decide +kernel
theorem dX10_runs_47 : decode cX10_runs 47 = .ok (.getfield 112, 3) := by decide +kernel
theorem dX10_runs_50 : decode cX10_runs 50 = .ok (.if_icmp .ge 25, 3) := by decide +kernel
theorem dX10_runs_53 : decode cX10_runs 53 = .ok (.aload_n 0, 1) := by decide +kernel
theorem dX10_runs_54 : decode cX10_runs 54 = .ok (.getfield 49, 3) := by decide +kernel
theorem dX10_runs_57 : decode cX10_runs 57 = .ok (.iload 5, 2) := by decide +kernel
theorem dX10_runs_59 : decode cX10_runs 59 = .ok (.iconst 0, 1) := by decide +kernel
theorem dX10_runs_60 : decode cX10_runs 60 = .ok (.iastore, 1) := by decide +kernel
theorem dX10_runs_61 : decode cX10_runs 61 = .ok (.aload_n 0, 1) := by decide +kernel
theorem dX10_runs_62 : decode cX10_runs 62 = .ok (.getfield 52, 3) := by decide +kernel
theorem dX10_runs_65 : decode cX10_runs 65 = .ok (.iload 5, 2) := by decide +kernel
theorem dX10_runs_67 : decode cX10_runs 67 = .ok (.iconst 0, 1) := by decide +kernel
theorem dX10_runs_68 : decode cX10_runs 68 = .ok (.iastore, 1) := by decide +kernel
theorem dX10_runs_69 : decode cX10_runs 69 = .ok (.iinc 5 1, 3) := by decide +kernel
theorem dX10_runs_72 : decode cX10_runs 72 = .ok (.goto (-28), 3) := by decide +kernel
theorem dX10_runs_75 : decode cX10_runs 75 = .ok (.iload_n 1, 1) := by decide +kernel
theorem dX10_runs_76 : decode cX10_runs 76 = .ok (.iconst 0, 1) := by decide +kernel
theorem dX10_runs_77 : decode cX10_runs 77 = .ok (.aload_n 0, 1) := by decide +kernel
theorem dX10_runs_78 : decode cX10_runs 78 = .ok (.getfield 112, 3) := by decide +kernel
theorem dX10_runs_81 : decode cX10_runs 81 = .ok (.iconst 1, 1) := by decide +kernel
theorem dX10_runs_82 : decode cX10_runs 82 = .ok (.isub, 1) := by decide +kernel
theorem dX10_runs_83 : decode cX10_runs 83 = .ok (.invokestatic 104, 3) := by decide +kernel
theorem dX10_runs_86 : decode cX10_runs 86 = .ok (.ifCond .eq 14, 3) := by decide +kernel
theorem dX10_runs_89 : decode cX10_runs 89 = .ok (.aload_n 0, 1) := by decide +kernel
theorem dX10_runs_90 : decode cX10_runs 90 = .ok (.getfield 46, 3) := by decide +kernel
theorem dX10_runs_93 : decode cX10_runs 93 = .ok (.iload_n 1, 1) := by decide +kernel
theorem dX10_runs_94 : decode cX10_runs 94 = .ok (.dup2, 1) := by decide +kernel
theorem dX10_runs_95 : decode cX10_runs 95 = .ok (.iaload, 1) := by decide +kernel
theorem dX10_runs_96 : decode cX10_runs 96 = .ok (.ldc 149, 2) := by decide +kernel
theorem dX10_runs_98 : decode cX10_runs 98 = .ok (.ior, 1) := by decide +kernel
theorem dX10_runs_99 : decode cX10_runs 99 = .ok (.iastore, 1) := by decide +kernel
theorem dX10_runs_100 : decode cX10_runs 100 = .ok (.iload_n 2, 1) := by decide +kernel
theorem dX10_runs_101 : decode cX10_runs 101 = .ok (.iconst 0, 1) := by decide +kernel
theorem dX10_runs_102 : decode cX10_runs 102 = .ok (.aload_n 0, 1) := by decide +kernel
theorem dX10_runs_103 : decode cX10_runs 103 = .ok (.getfield 112, 3) := by decide +kernel
theorem dX10_runs_106 : decode cX10_runs 106 = .ok (.iconst 1, 1) := by decide +kernel
theorem dX10_runs_107 : decode cX10_runs 107 = .ok (.isub, 1) := by decide +kernel
theorem dX10_runs_108 : decode cX10_runs 108 = .ok (.invokestatic 104, 3) := by decide +kernel
theorem dX10_runs_111 : decode cX10_runs 111 = .ok (.ifCond .eq 19, 3) := by decide +kernel
theorem dX10_runs_114 : decode cX10_runs 114 = .ok (.aload_n 0, 1) := by decide +kernel
theorem dX10_runs_115 : decode cX10_runs 115 = .ok (.getfield 46, 3) := by decide +kernel
theorem dX10_runs_118 : decode cX10_runs 118 = .ok (.bipush 20, 2) := by decide +kernel
theorem dX10_runs_120 : decode cX10_runs 120 = .ok (.iload_n 3, 1) := by decide +kernel
theorem dX10_runs_121 : decode cX10_runs 121 = .ok (.imul, 1) := by decide +kernel
theorem dX10_runs_122 : decode cX10_runs 122 = .ok (.iload_n 2, 1) := by decide +kernel
theorem dX10_runs_123 : decode cX10_runs 123 = .ok (.iadd, 1) := by decide +kernel
theorem dX10_runs_124 : decode cX10_runs 124 = .ok (.dup2, 1) := by decide +kernel
theorem dX10_runs_125 : decode cX10_runs 125 = .ok (.iaload, 1) := by decide +kernel
theorem dX10_runs_126 : decode cX10_runs 126 = .ok (.ldc 150, 2) := by decide +kernel
theorem dX10_runs_128 : decode cX10_runs 128 = .ok (.ior, 1) := by decide +kernel
theorem dX10_runs_129 : decode cX10_runs 129 = .ok (.iastore, 1) := by decide +kernel
theorem dX10_runs_130 : decode cX10_runs 130 = .ok (.iconst 0, 1) := by decide +kernel
theorem dX10_runs_131 : decode cX10_runs 131 = .ok (.istore 5, 2) := by decide +kernel
theorem dX10_runs_133 : decode cX10_runs 133 = .ok (.iload 5, 2) := by decide +kernel
theorem dX10_runs_135 : decode cX10_runs 135 = .ok (.sipush 400, 3) := by decide +kernel
theorem dX10_runs_138 : decode cX10_runs 138 = .ok (.if_icmp .gt 105, 3) := by decide +kernel
theorem dX10_runs_141 : decode cX10_runs 141 = .ok (.iconst 0, 1) := by decide +kernel
theorem dX10_runs_142 : decode cX10_runs 142 = .ok (.istore 6, 2) := by decide +kernel
theorem dX10_runs_144 : decode cX10_runs 144 = .ok (.iload 6, 2) := by decide +kernel
theorem dX10_runs_146 : decode cX10_runs 146 = .ok (.aload_n 0, 1) := by decide +kernel
theorem dX10_runs_147 : decode cX10_runs 147 = .ok (.getfield 112, 3) := by decide +kernel
theorem dX10_runs_150 : decode cX10_runs 150 = .ok (.if_icmp .ge 87, 3) := by decide +kernel
theorem dX10_runs_153 : decode cX10_runs 153 = .ok (.aload_n 0, 1) := by decide +kernel
theorem dX10_runs_154 : decode cX10_runs 154 = .ok (.getfield 46, 3) := by decide +kernel
theorem dX10_runs_157 : decode cX10_runs 157 = .ok (.bipush 20, 2) := by decide +kernel
theorem dX10_runs_159 : decode cX10_runs 159 = .ok (.iload 5, 2) := by decide +kernel
theorem dX10_runs_161 : decode cX10_runs 161 = .ok (.imul, 1) := by decide +kernel
theorem dX10_runs_162 : decode cX10_runs 162 = .ok (.iload 6, 2) := by decide +kernel
theorem dX10_runs_164 : decode cX10_runs 164 = .ok (.iadd, 1) := by decide +kernel
theorem dX10_runs_165 : decode cX10_runs 165 = .ok (.iaload, 1) := by decide +kernel
theorem dX10_runs_166 : decode cX10_runs 166 = .ok (.istore 7, 2) := by decide +kernel
theorem dX10_runs_168 : decode cX10_runs 168 = .ok (.iconst 0, 1) := by decide +kernel
theorem dX10_runs_169 : decode cX10_runs 169 = .ok (.istore 8, 2) := by decide +kernel
theorem dX10_runs_171 : decode cX10_runs 171 = .ok (.iload 8, 2) := by decide +kernel
theorem dX10_runs_173 : decode cX10_runs 173 = .ok (.bipush 22, 2) := by decide +kernel
theorem dX10_runs_175 : decode cX10_runs 175 = .ok (.if_icmp .ge 56, 3) := by decide +kernel
theorem dX10_runs_178 : decode cX10_runs 178 = .ok (.iload 7, 2) := by decide +kernel
theorem dX10_runs_180 : decode cX10_runs 180 = .ok (.ifCond .eq 51, 3) := by decide +kernel
theorem dX10_runs_183 : decode cX10_runs 183 = .ok (.iload 8, 2) := by decide +kernel
theorem dX10_runs_185 : decode cX10_runs 185 = .ok (.iconst 2, 1) := by decide +kernel
theorem dX10_runs_186 : decode cX10_runs 186 = .ok (.if_icmp .ge 11, 3) := by decide +kernel
theorem dX10_runs_189 : decode cX10_runs 189 = .ok (.bipush 20, 2) := by decide +kernel
theorem dX10_runs_191 : decode cX10_runs 191 = .ok (.iload 8, 2) := by decide +kernel
theorem dX10_runs_193 : decode cX10_runs 193 = .ok (.iadd, 1) := by decide +kernel
theorem dX10_runs_194 : decode cX10_runs 194 = .ok (.goto 7, 3) := by decide +kernel
theorem dX10_runs_197 : decode cX10_runs 197 = .ok (.iload 8, 2) := by decide +kernel
theorem dX10_runs_199 : decode cX10_runs 199 = .ok (.iconst 2, 1) := by decide +kernel
theorem dX10_runs_200 : decode cX10_runs 200 = .ok (.isub, 1) := by decide +kernel
theorem dX10_runs_201 : decode cX10_runs 201 = .ok (.istore 9, 2) := by decide +kernel
theorem dX10_runs_203 : decode cX10_runs 203 = .ok (.iload 7, 2) := by decide +kernel
theorem dX10_runs_205 : decode cX10_runs 205 = .ok (.iload 9, 2) := by decide +kernel
theorem dX10_runs_207 : decode cX10_runs 207 = .ok (.invokestatic 141, 3) := by decide +kernel
theorem dX10_runs_210 : decode cX10_runs 210 = .ok (.ifCond .eq 15, 3) := by decide +kernel
theorem dX10_runs_213 : decode cX10_runs 213 = .ok (.aload_n 0, 1) := by decide +kernel
theorem dX10_runs_214 : decode cX10_runs 214 = .ok (.iload 6, 2) := by decide +kernel
theorem dX10_runs_216 : decode cX10_runs 216 = .ok (.iload 5, 2) := by decide +kernel
theorem dX10_runs_218 : decode cX10_runs 218 = .ok (.iload 9, 2) := by decide +kernel
theorem dX10_runs_220 : decode cX10_runs 220 = .ok (.iload 4, 2) := by decide +kernel
theorem dX10_runs_222 : decode cX10_runs 222 = .ok (.invokevirtual 151, 3) := by decide +kernel
theorem dX10_runs_225 : decode cX10_runs 225 = .ok (.iinc 8 1, 3) := by decide +kernel
theorem dX10_runs_228 : decode cX10_runs 228 = .ok (.goto (-57), 3) := by decide +kernel
theorem dX10_runs_231 : decode cX10_runs 231 = .ok (.iinc 6 1, 3) := by decide +kernel
theorem dX10_runs_234 : decode cX10_runs 234 = .ok (.goto (-90), 3) := by decide +kernel
theorem dX10_runs_237 : decode cX10_runs 237 = .ok (.iinc 5 1, 3) := by decide +kernel
theorem dX10_runs_240 : decode cX10_runs 240 = .ok (.goto (-107), 3) := by decide +kernel
theorem dX10_runs_243 : decode cX10_runs 243 = .ok (.return_, 1) := by decide +kernel
theorem dX10_lays_0 : decode cX10_lays 0 = .ok (.aload_n 0, 1) := by decide +kernel
theorem dX10_lays_1 : decode cX10_lays 1 = .ok (.invokevirtual 130, 3) := by decide +kernel
theorem dX10_lays_4 : decode cX10_lays 4 = .ok (.istore_n 1, 1) := by decide +kernel
theorem dX10_lays_5 : decode cX10_lays 5 = .ok (.aload_n 0, 1) := by decide +kernel
theorem dX10_lays_6 : decode cX10_lays 6 = .ok (.aload_n 0, 1) := by decide +kernel
theorem dX10_lays_7 : decode cX10_lays 7 = .ok (.getfield 40, 3) := by decide +kernel
theorem dX10_lays_10 : decode cX10_lays 10 = .ok (.iconst 0, 1) := by decide +kernel
theorem dX10_lays_11 : decode cX10_lays 11 = .ok (.iaload, 1) := by decide +kernel
theorem dX10_lays_12 : decode cX10_lays 12 = .ok (.aload_n 0, 1) := by decide +kernel
theorem dX10_lays_13 : decode cX10_lays 13 = .ok (.getfield 40, 3) := by decide +kernel
theorem dX10_lays_16 : decode cX10_lays 16 = .ok (.iconst 1, 1) := by decide +kernel
theorem dX10_lays_17 : decode cX10_lays 17 = .ok (.iaload, 1) := by decide +kernel
theorem dX10_lays_18 : decode cX10_lays 18 = .ok (.aload_n 0, 1) := by decide +kernel
theorem dX10_lays_19 : decode cX10_lays 19 = .ok (.getfield 40, 3) := by decide +kernel
theorem dX10_lays_22 : decode cX10_lays 22 = .ok (.iconst 2, 1) := by decide +kernel
theorem dX10_lays_23 : decode cX10_lays 23 = .ok (.iaload, 1) := by decide +kernel
theorem dX10_lays_24 : decode cX10_lays 24 = .ok (.iconst (-1), 1) := by decide +kernel
theorem dX10_lays_25 : decode cX10_lays 25 = .ok (.invokevirtual 155, 3) := by decide +kernel
theorem dX10_lays_28 : decode cX10_lays 28 = .ok (.return_, 1) := by decide +kernel
theorem dX10_isTime_0 : decode cX10_isTime 0 = .ok (.iload_n 0, 1) := by decide +kernel
theorem dX10_isTime_1 : decode cX10_isTime 1 = .ok (.iconst 0, 1) := by decide +kernel
theorem dX10_isTime_2 : decode cX10_isTime 2 = .ok (.sipush 400, 3) := by decide +kernel
theorem dX10_isTime_5 : decode cX10_isTime 5 = .ok (.invokestatic 104, 3) := by decide +kernel
theorem dX10_isTime_8 : decode cX10_isTime 8 = .ok (.ireturn, 1) := by decide +kernel
theorem dX10_feltBy_0 : decode cX10_feltBy 0 = .ok (.iconst 0, 1) := by decide +kernel
theorem dX10_feltBy_1 : decode cX10_feltBy 1 = .ok (.istore_n 3, 1) := by decide +kernel
theorem dX10_feltBy_2 : decode cX10_feltBy 2 = .ok (.iconst 0, 1) := by decide +kernel
theorem dX10_feltBy_3 : decode cX10_feltBy 3 = .ok (.istore 4, 2) := by decide +kernel
theorem dX10_feltBy_5 : decode cX10_feltBy 5 = .ok (.iload 4, 2) := by decide +kernel
theorem dX10_feltBy_7 : decode cX10_feltBy 7 = .ok (.sipush 400, 3) := by decide +kernel
theorem dX10_feltBy_10 : decode cX10_feltBy 10 = .ok (.if_icmp .gt 45, 3) := by decide +kernel
theorem dX10_feltBy_13 : decode cX10_feltBy 13 = .ok (.iload_n 2, 1) := by decide +kernel
theorem dX10_feltBy_14 : decode cX10_feltBy 14 = .ok (.aload_n 0, 1) := by decide +kernel
theorem dX10_feltBy_15 : decode cX10_feltBy 15 = .ok (.getfield 52, 3) := by decide +kernel
theorem dX10_feltBy_18 : decode cX10_feltBy 18 = .ok (.iload_n 1, 1) := by decide +kernel
theorem dX10_feltBy_19 : decode cX10_feltBy 19 = .ok (.iaload, 1) := by decide +kernel
theorem dX10_feltBy_20 : decode cX10_feltBy 20 = .ok (.if_icmp .ge 35, 3) := by decide +kernel
theorem dX10_feltBy_23 : decode cX10_feltBy 23 = .ok (.iload_n 3, 1) := by decide +kernel
theorem dX10_feltBy_24 : decode cX10_feltBy 24 = .ok (.aload_n 0, 1) := by decide +kernel
theorem dX10_feltBy_25 : decode cX10_feltBy 25 = .ok (.getfield 55, 3) := by decide +kernel
theorem dX10_feltBy_28 : decode cX10_feltBy 28 = .ok (.bipush 20, 2) := by decide +kernel
theorem dX10_feltBy_30 : decode cX10_feltBy 30 = .ok (.iload 4, 2) := by decide +kernel
theorem dX10_feltBy_32 : decode cX10_feltBy 32 = .ok (.imul, 1) := by decide +kernel
theorem dX10_feltBy_33 : decode cX10_feltBy 33 = .ok (.iload_n 1, 1) := by decide +kernel
theorem dX10_feltBy_34 : decode cX10_feltBy 34 = .ok (.iadd, 1) := by decide +kernel
theorem dX10_feltBy_35 : decode cX10_feltBy 35 = .ok (.iaload, 1) := by decide +kernel
theorem dX10_feltBy_36 : decode cX10_feltBy 36 = .ok (.invokestatic 158, 3) := by decide +kernel
theorem dX10_feltBy_39 : decode cX10_feltBy 39 = .ok (.iadd, 1) := by decide +kernel
theorem dX10_feltBy_40 : decode cX10_feltBy 40 = .ok (.istore_n 3, 1) := by decide +kernel
theorem dX10_feltBy_41 : decode cX10_feltBy 41 = .ok (.iload_n 3, 1) := by decide +kernel
theorem dX10_feltBy_42 : decode cX10_feltBy 42 = .ok (.iload_n 2, 1) := by decide +kernel
theorem dX10_feltBy_43 : decode cX10_feltBy 43 = .ok (.if_icmp .le 6, 3) := by decide +kernel
theorem dX10_feltBy_46 : decode cX10_feltBy 46 = .ok (.iload 4, 2) := by decide +kernel
theorem dX10_feltBy_48 : decode cX10_feltBy 48 = .ok (.ireturn, 1) := by decide +kernel
theorem dX10_feltBy_49 : decode cX10_feltBy 49 = .ok (.iinc 4 1, 3) := by decide +kernel
theorem dX10_feltBy_52 : decode cX10_feltBy 52 = .ok (.goto (-47), 3) := by decide +kernel
theorem dX10_feltBy_55 : decode cX10_feltBy 55 = .ok (.iconst (-1), 1) := by decide +kernel
theorem dX10_feltBy_56 : decode cX10_feltBy 56 = .ok (.ireturn, 1) := by decide +kernel
theorem dX10_feltOf_0 : decode cX10_feltOf 0 = .ok (.aload_n 0, 1) := by decide +kernel
theorem dX10_feltOf_1 : decode cX10_feltOf 1 = .ok (.invokevirtual 161, 3) := by decide +kernel
theorem dX10_feltOf_4 : decode cX10_feltOf 4 = .ok (.aload_n 0, 1) := by decide +kernel
theorem dX10_feltOf_5 : decode cX10_feltOf 5 = .ok (.iload_n 1, 1) := by decide +kernel
theorem dX10_feltOf_6 : decode cX10_feltOf 6 = .ok (.iload_n 2, 1) := by decide +kernel
theorem dX10_feltOf_7 : decode cX10_feltOf 7 = .ok (.invokevirtual 164, 3) := by decide +kernel
theorem dX10_feltOf_10 : decode cX10_feltOf 10 = .ok (.ireturn, 1) := by decide +kernel
theorem dX10_felt_0 : decode cX10_felt 0 = .ok (.aload_n 0, 1) := by decide +kernel
theorem dX10_felt_1 : decode cX10_felt 1 = .ok (.iload_n 1, 1) := by decide +kernel
theorem dX10_felt_2 : decode cX10_felt 2 = .ok (.invokevirtual 133, 3) := by decide +kernel
theorem dX10_felt_5 : decode cX10_felt 5 = .ok (.ifCond .eq 16, 3) := by decide +kernel
theorem dX10_felt_8 : decode cX10_felt 8 = .ok (.iload_n 2, 1) := by decide +kernel
theorem dX10_felt_9 : decode cX10_felt 9 = .ok (.ifCond .lt 12, 3) := by decide +kernel
theorem dX10_felt_12 : decode cX10_felt 12 = .ok (.aload_n 0, 1) := by decide +kernel
theorem dX10_felt_13 : decode cX10_felt 13 = .ok (.iload_n 1, 1) := by decide +kernel
theorem dX10_felt_14 : decode cX10_felt 14 = .ok (.iload_n 2, 1) := by decide +kernel
theorem dX10_felt_15 : decode cX10_felt 15 = .ok (.invokevirtual 167, 3) := by decide +kernel
theorem dX10_felt_18 : decode cX10_felt 18 = .ok (.goto 5, 3) := by decide +kernel
theorem dX10_felt_21 : decode cX10_felt 21 = .ok (.bipush (-2), 2) := by decide +kernel
theorem dX10_felt_23 : decode cX10_felt 23 = .ok (.ireturn, 1) := by decide +kernel
theorem dX10_manyBy_0 : decode cX10_manyBy 0 = .ok (.iconst 0, 1) := by decide +kernel
theorem dX10_manyBy_1 : decode cX10_manyBy 1 = .ok (.istore_n 3, 1) := by decide +kernel
theorem dX10_manyBy_2 : decode cX10_manyBy 2 = .ok (.iconst 0, 1) := by decide +kernel
theorem dX10_manyBy_3 : decode cX10_manyBy 3 = .ok (.istore 4, 2) := by decide +kernel
theorem dX10_manyBy_5 : decode cX10_manyBy 5 = .ok (.iload 4, 2) := by decide +kernel
theorem dX10_manyBy_7 : decode cX10_manyBy 7 = .ok (.iload_n 2, 1) := by decide +kernel
theorem dX10_manyBy_8 : decode cX10_manyBy 8 = .ok (.if_icmp .gt 27, 3) := by decide +kernel
theorem dX10_manyBy_11 : decode cX10_manyBy 11 = .ok (.iload_n 3, 1) := by decide +kernel
theorem dX10_manyBy_12 : decode cX10_manyBy 12 = .ok (.aload_n 0, 1) := by decide +kernel
theorem dX10_manyBy_13 : decode cX10_manyBy 13 = .ok (.getfield 55, 3) := by decide +kernel
theorem dX10_manyBy_16 : decode cX10_manyBy 16 = .ok (.bipush 20, 2) := by decide +kernel
theorem dX10_manyBy_18 : decode cX10_manyBy 18 = .ok (.iload 4, 2) := by decide +kernel
theorem dX10_manyBy_20 : decode cX10_manyBy 20 = .ok (.imul, 1) := by decide +kernel
theorem dX10_manyBy_21 : decode cX10_manyBy 21 = .ok (.iload_n 1, 1) := by decide +kernel
theorem dX10_manyBy_22 : decode cX10_manyBy 22 = .ok (.iadd, 1) := by decide +kernel
theorem dX10_manyBy_23 : decode cX10_manyBy 23 = .ok (.iaload, 1) := by decide +kernel
theorem dX10_manyBy_24 : decode cX10_manyBy 24 = .ok (.invokestatic 158, 3) := by decide +kernel
theorem dX10_manyBy_27 : decode cX10_manyBy 27 = .ok (.iadd, 1) := by decide +kernel
theorem dX10_manyBy_28 : decode cX10_manyBy 28 = .ok (.istore_n 3, 1) := by decide +kernel
theorem dX10_manyBy_29 : decode cX10_manyBy 29 = .ok (.iinc 4 1, 3) := by decide +kernel
theorem dX10_manyBy_32 : decode cX10_manyBy 32 = .ok (.goto (-27), 3) := by decide +kernel
theorem dX10_manyBy_35 : decode cX10_manyBy 35 = .ok (.iload_n 3, 1) := by decide +kernel
theorem dX10_manyBy_36 : decode cX10_manyBy 36 = .ok (.ireturn, 1) := by decide +kernel
theorem dX10_manyOf_0 : decode cX10_manyOf 0 = .ok (.aload_n 0, 1) := by decide +kernel
theorem dX10_manyOf_1 : decode cX10_manyOf 1 = .ok (.invokevirtual 161, 3) := by decide +kernel
theorem dX10_manyOf_4 : decode cX10_manyOf 4 = .ok (.aload_n 0, 1) := by decide +kernel
theorem dX10_manyOf_5 : decode cX10_manyOf 5 = .ok (.iload_n 1, 1) := by decide +kernel
theorem dX10_manyOf_6 : decode cX10_manyOf 6 = .ok (.iload_n 2, 1) := by decide +kernel
theorem dX10_manyOf_7 : decode cX10_manyOf 7 = .ok (.invokevirtual 170, 3) := by decide +kernel
theorem dX10_manyOf_10 : decode cX10_manyOf 10 = .ok (.ireturn, 1) := by decide +kernel
theorem dX10_many_0 : decode cX10_many 0 = .ok (.aload_n 0, 1) := by decide +kernel
theorem dX10_many_1 : decode cX10_many 1 = .ok (.iload_n 1, 1) := by decide +kernel
theorem dX10_many_2 : decode cX10_many 2 = .ok (.invokevirtual 133, 3) := by decide +kernel
theorem dX10_many_5 : decode cX10_many 5 = .ok (.ifCond .eq 19, 3) := by decide +kernel
theorem dX10_many_8 : decode cX10_many 8 = .ok (.iload_n 2, 1) := by decide +kernel
theorem dX10_many_9 : decode cX10_many 9 = .ok (.invokestatic 173, 3) := by decide +kernel
theorem dX10_many_12 : decode cX10_many 12 = .ok (.ifCond .eq 12, 3) := by decide +kernel
theorem dX10_many_15 : decode cX10_many 15 = .ok (.aload_n 0, 1) := by decide +kernel
theorem dX10_many_16 : decode cX10_many 16 = .ok (.iload_n 1, 1) := by decide +kernel
theorem dX10_many_17 : decode cX10_many 17 = .ok (.iload_n 2, 1) := by decide +kernel
theorem dX10_many_18 : decode cX10_many 18 = .ok (.invokevirtual 176, 3) := by decide +kernel
theorem dX10_many_21 : decode cX10_many 21 = .ok (.goto 5, 3) := by decide +kernel
theorem dX10_many_24 : decode cX10_many 24 = .ok (.bipush (-2), 2) := by decide +kernel
theorem dX10_many_26 : decode cX10_many 26 = .ok (.ireturn, 1) := by decide +kernel
theorem dX10_lostBy_0 : decode cX10_lostBy 0 = .ok (.iconst 0, 1) := by decide +kernel
theorem dX10_lostBy_1 : decode cX10_lostBy 1 = .ok (.istore_n 3, 1) := by decide +kernel
theorem dX10_lostBy_2 : decode cX10_lostBy 2 = .ok (.iconst 0, 1) := by decide +kernel
theorem dX10_lostBy_3 : decode cX10_lostBy 3 = .ok (.istore 4, 2) := by decide +kernel
theorem dX10_lostBy_5 : decode cX10_lostBy 5 = .ok (.iload 4, 2) := by decide +kernel
theorem dX10_lostBy_7 : decode cX10_lostBy 7 = .ok (.iload_n 2, 1) := by decide +kernel
theorem dX10_lostBy_8 : decode cX10_lostBy 8 = .ok (.if_icmp .gt 27, 3) := by decide +kernel
theorem dX10_lostBy_11 : decode cX10_lostBy 11 = .ok (.iload_n 3, 1) := by decide +kernel
theorem dX10_lostBy_12 : decode cX10_lostBy 12 = .ok (.aload_n 0, 1) := by decide +kernel
theorem dX10_lostBy_13 : decode cX10_lostBy 13 = .ok (.getfield 58, 3) := by decide +kernel
theorem dX10_lostBy_16 : decode cX10_lostBy 16 = .ok (.bipush 20, 2) := by decide +kernel
theorem dX10_lostBy_18 : decode cX10_lostBy 18 = .ok (.iload 4, 2) := by decide +kernel
theorem dX10_lostBy_20 : decode cX10_lostBy 20 = .ok (.imul, 1) := by decide +kernel
theorem dX10_lostBy_21 : decode cX10_lostBy 21 = .ok (.iload_n 1, 1) := by decide +kernel
theorem dX10_lostBy_22 : decode cX10_lostBy 22 = .ok (.iadd, 1) := by decide +kernel
theorem dX10_lostBy_23 : decode cX10_lostBy 23 = .ok (.iaload, 1) := by decide +kernel
theorem dX10_lostBy_24 : decode cX10_lostBy 24 = .ok (.invokestatic 158, 3) := by decide +kernel
theorem dX10_lostBy_27 : decode cX10_lostBy 27 = .ok (.iadd, 1) := by decide +kernel
theorem dX10_lostBy_28 : decode cX10_lostBy 28 = .ok (.istore_n 3, 1) := by decide +kernel
theorem dX10_lostBy_29 : decode cX10_lostBy 29 = .ok (.iinc 4 1, 3) := by decide +kernel
theorem dX10_lostBy_32 : decode cX10_lostBy 32 = .ok (.goto (-27), 3) := by decide +kernel
theorem dX10_lostBy_35 : decode cX10_lostBy 35 = .ok (.iload_n 3, 1) := by decide +kernel
theorem dX10_lostBy_36 : decode cX10_lostBy 36 = .ok (.ireturn, 1) := by decide +kernel
theorem dX10_lostOf_0 : decode cX10_lostOf 0 = .ok (.aload_n 0, 1) := by decide +kernel
theorem dX10_lostOf_1 : decode cX10_lostOf 1 = .ok (.invokevirtual 161, 3) := by decide +kernel
theorem dX10_lostOf_4 : decode cX10_lostOf 4 = .ok (.aload_n 0, 1) := by decide +kernel
theorem dX10_lostOf_5 : decode cX10_lostOf 5 = .ok (.iload_n 1, 1) := by decide +kernel
theorem dX10_lostOf_6 : decode cX10_lostOf 6 = .ok (.iload_n 2, 1) := by decide +kernel
theorem dX10_lostOf_7 : decode cX10_lostOf 7 = .ok (.invokevirtual 179, 3) := by decide +kernel
theorem dX10_lostOf_10 : decode cX10_lostOf 10 = .ok (.ireturn, 1) := by decide +kernel
theorem dX10_lost_0 : decode cX10_lost 0 = .ok (.aload_n 0, 1) := by decide +kernel
theorem dX10_lost_1 : decode cX10_lost 1 = .ok (.iload_n 1, 1) := by decide +kernel
theorem dX10_lost_2 : decode cX10_lost 2 = .ok (.invokevirtual 133, 3) := by decide +kernel
theorem dX10_lost_5 : decode cX10_lost 5 = .ok (.ifCond .eq 19, 3) := by decide +kernel
theorem dX10_lost_8 : decode cX10_lost 8 = .ok (.iload_n 2, 1) := by decide +kernel
theorem dX10_lost_9 : decode cX10_lost 9 = .ok (.invokestatic 173, 3) := by decide +kernel
theorem dX10_lost_12 : decode cX10_lost 12 = .ok (.ifCond .eq 12, 3) := by decide +kernel
theorem dX10_lost_15 : decode cX10_lost 15 = .ok (.aload_n 0, 1) := by decide +kernel
theorem dX10_lost_16 : decode cX10_lost 16 = .ok (.iload_n 1, 1) := by decide +kernel
theorem dX10_lost_17 : decode cX10_lost 17 = .ok (.iload_n 2, 1) := by decide +kernel
theorem dX10_lost_18 : decode cX10_lost 18 = .ok (.invokevirtual 182, 3) := by decide +kernel
theorem dX10_lost_21 : decode cX10_lost 21 = .ok (.goto 5, 3) := by decide +kernel
theorem dX10_lost_24 : decode cX10_lost 24 = .ok (.bipush (-2), 2) := by decide +kernel
theorem dX10_lost_26 : decode cX10_lost 26 = .ok (.ireturn, 1) := by decide +kernel
theorem dX10_from_0 : decode cX10_from 0 = .ok (.aload_n 0, 1) := by decide +kernel
theorem dX10_from_1 : decode cX10_from 1 = .ok (.iload_n 1, 1) := by decide +kernel
theorem dX10_from_2 : decode cX10_from 2 = .ok (.invokevirtual 133, 3) := by decide +kernel
theorem dX10_from_5 : decode cX10_from 5 = .ok (.ifCond .eq 7, 3) := by decide +kernel
theorem dX10_from_8 : decode cX10_from 8 = .ok (.iload_n 2, 1) := by decide +kernel
theorem dX10_from_9 : decode cX10_from 9 = .ok (.ifCond .ge 6, 3) := by decide +kernel
theorem dX10_from_12 : decode cX10_from 12 = .ok (.bipush (-2), 2) := by decide +kernel
theorem dX10_from_14 : decode cX10_from 14 = .ok (.ireturn, 1) := by decide +kernel
theorem dX10_from_15 : decode cX10_from 15 = .ok (.aload_n 0, 1) := by decide +kernel
theorem dX10_from_16 : decode cX10_from 16 = .ok (.invokevirtual 161, 3) := by decide +kernel
theorem dX10_from_19 : decode cX10_from 19 = .ok (.aload_n 0, 1) := by decide +kernel
theorem dX10_from_20 : decode cX10_from 20 = .ok (.iload_n 1, 1) := by decide +kernel
theorem dX10_from_21 : decode cX10_from 21 = .ok (.iload_n 2, 1) := by decide +kernel
theorem dX10_from_22 : decode cX10_from 22 = .ok (.invokevirtual 164, 3) := by decide +kernel
theorem dX10_from_25 : decode cX10_from 25 = .ok (.istore_n 3, 1) := by decide +kernel
theorem dX10_from_26 : decode cX10_from 26 = .ok (.iload_n 3, 1) := by decide +kernel
theorem dX10_from_27 : decode cX10_from 27 = .ok (.iconst (-1), 1) := by decide +kernel
theorem dX10_from_28 : decode cX10_from 28 = .ok (.if_icmp .ne 5, 3) := by decide +kernel
theorem dX10_from_31 : decode cX10_from 31 = .ok (.iconst (-1), 1) := by decide +kernel
theorem dX10_from_32 : decode cX10_from 32 = .ok (.ireturn, 1) := by decide +kernel
theorem dX10_from_33 : decode cX10_from 33 = .ok (.iload_n 2, 1) := by decide +kernel
theorem dX10_from_34 : decode cX10_from 34 = .ok (.iload_n 3, 1) := by decide +kernel
theorem dX10_from_35 : decode cX10_from 35 = .ok (.ifCond .ne 7, 3) := by decide +kernel
theorem dX10_from_38 : decode cX10_from 38 = .ok (.iconst 0, 1) := by decide +kernel
theorem dX10_from_39 : decode cX10_from 39 = .ok (.goto 11, 3) := by decide +kernel
theorem dX10_from_42 : decode cX10_from 42 = .ok (.aload_n 0, 1) := by decide +kernel
theorem dX10_from_43 : decode cX10_from 43 = .ok (.iload_n 1, 1) := by decide +kernel
theorem dX10_from_44 : decode cX10_from 44 = .ok (.iload_n 3, 1) := by decide +kernel
theorem dX10_from_45 : decode cX10_from 45 = .ok (.iconst 1, 1) := by decide +kernel
theorem dX10_from_46 : decode cX10_from 46 = .ok (.isub, 1) := by decide +kernel
theorem dX10_from_47 : decode cX10_from 47 = .ok (.invokevirtual 170, 3) := by decide +kernel
theorem dX10_from_50 : decode cX10_from 50 = .ok (.isub, 1) := by decide +kernel
theorem dX10_from_51 : decode cX10_from 51 = .ok (.istore 4, 2) := by decide +kernel
theorem dX10_from_53 : decode cX10_from 53 = .ok (.iconst 0, 1) := by decide +kernel
theorem dX10_from_54 : decode cX10_from 54 = .ok (.istore 5, 2) := by decide +kernel
theorem dX10_from_56 : decode cX10_from 56 = .ok (.iload 5, 2) := by decide +kernel
theorem dX10_from_58 : decode cX10_from 58 = .ok (.bipush 22, 2) := by decide +kernel
theorem dX10_from_60 : decode cX10_from 60 = .ok (.if_icmp .ge 70, 3) := by decide +kernel
theorem dX10_from_63 : decode cX10_from 63 = .ok (.iload 5, 2) := by decide +kernel
theorem dX10_from_65 : decode cX10_from 65 = .ok (.iconst 2, 1) := by decide +kernel
theorem dX10_from_66 : decode cX10_from 66 = .ok (.if_icmp .ge 11, 3) := by decide +kernel
theorem dX10_from_69 : decode cX10_from 69 = .ok (.bipush 20, 2) := by decide +kernel
theorem dX10_from_71 : decode cX10_from 71 = .ok (.iload 5, 2) := by decide +kernel
theorem dX10_from_73 : decode cX10_from 73 = .ok (.iadd, 1) := by decide +kernel
theorem dX10_from_74 : decode cX10_from 74 = .ok (.goto 7, 3) := by decide +kernel
theorem dX10_from_77 : decode cX10_from 77 = .ok (.iload 5, 2) := by decide +kernel
theorem dX10_from_79 : decode cX10_from 79 = .ok (.iconst 2, 1) := by decide +kernel
theorem dX10_from_80 : decode cX10_from 80 = .ok (.isub, 1) := by decide +kernel
theorem dX10_from_81 : decode cX10_from 81 = .ok (.istore 6, 2) := by decide +kernel
theorem dX10_from_83 : decode cX10_from 83 = .ok (.aload_n 0, 1) := by decide +kernel
theorem dX10_from_84 : decode cX10_from 84 = .ok (.getfield 55, 3) := by decide +kernel
theorem dX10_from_87 : decode cX10_from 87 = .ok (.bipush 20, 2) := by decide +kernel
theorem dX10_from_89 : decode cX10_from 89 = .ok (.iload_n 3, 1) := by decide +kernel
theorem dX10_from_90 : decode cX10_from 90 = .ok (.imul, 1) := by decide +kernel
theorem dX10_from_91 : decode cX10_from 91 = .ok (.iload_n 1, 1) := by decide +kernel
theorem dX10_from_92 : decode cX10_from 92 = .ok (.iadd, 1) := by decide +kernel
theorem dX10_from_93 : decode cX10_from 93 = .ok (.iaload, 1) := by decide +kernel
theorem dX10_from_94 : decode cX10_from 94 = .ok (.iload 6, 2) := by decide +kernel
theorem dX10_from_96 : decode cX10_from 96 = .ok (.invokestatic 141, 3) := by decide +kernel
theorem dX10_from_99 : decode cX10_from 99 = .ok (.ifCond .eq 25, 3) := by decide +kernel
theorem dX10_from_102 : decode cX10_from 102 = .ok (.iload 4, 2) := by decide +kernel
theorem dX10_from_104 : decode cX10_from 104 = .ok (.ifCond .ne 17, 3) := by decide +kernel
theorem dX10_from_107 : decode cX10_from 107 = .ok (.iload 6, 2) := by decide +kernel
theorem dX10_from_109 : decode cX10_from 109 = .ok (.bipush 19, 2) := by decide +kernel
theorem dX10_from_111 : decode cX10_from 111 = .ok (.if_icmp .le 7, 3) := by decide +kernel
theorem dX10_from_114 : decode cX10_from 114 = .ok (.iconst (-1), 1) := by decide +kernel
theorem dX10_from_115 : decode cX10_from 115 = .ok (.goto 5, 3) := by decide +kernel
theorem dX10_from_118 : decode cX10_from 118 = .ok (.iload 6, 2) := by decide +kernel
theorem dX10_from_120 : decode cX10_from 120 = .ok (.ireturn, 1) := by decide +kernel
theorem dX10_from_121 : decode cX10_from 121 = .ok (.iinc 4 (-1), 3) := by decide +kernel
theorem dX10_from_124 : decode cX10_from 124 = .ok (.iinc 5 1, 3) := by decide +kernel
theorem dX10_from_127 : decode cX10_from 127 = .ok (.goto (-71), 3) := by decide +kernel
theorem dX10_from_130 : decode cX10_from 130 = .ok (.iconst (-1), 1) := by decide +kernel
theorem dX10_from_131 : decode cX10_from 131 = .ok (.ireturn, 1) := by decide +kernel
theorem dX10_reachedBy_0 : decode cX10_reachedBy 0 = .ok (.iconst 0, 1) := by decide +kernel
theorem dX10_reachedBy_1 : decode cX10_reachedBy 1 = .ok (.istore_n 2, 1) := by decide +kernel
theorem dX10_reachedBy_2 : decode cX10_reachedBy 2 = .ok (.iconst 0, 1) := by decide +kernel
theorem dX10_reachedBy_3 : decode cX10_reachedBy 3 = .ok (.istore_n 3, 1) := by decide +kernel
theorem dX10_reachedBy_4 : decode cX10_reachedBy 4 = .ok (.iload_n 3, 1) := by decide +kernel
theorem dX10_reachedBy_5 : decode cX10_reachedBy 5 = .ok (.aload_n 0, 1) := by decide +kernel
theorem dX10_reachedBy_6 : decode cX10_reachedBy 6 = .ok (.getfield 112, 3) := by decide +kernel
theorem dX10_reachedBy_9 : decode cX10_reachedBy 9 = .ok (.if_icmp .ge 29, 3) := by decide +kernel
theorem dX10_reachedBy_12 : decode cX10_reachedBy 12 = .ok (.iload_n 2, 1) := by decide +kernel
theorem dX10_reachedBy_13 : decode cX10_reachedBy 13 = .ok (.aload_n 0, 1) := by decide +kernel
theorem dX10_reachedBy_14 : decode cX10_reachedBy 14 = .ok (.getfield 52, 3) := by decide +kernel
theorem dX10_reachedBy_17 : decode cX10_reachedBy 17 = .ok (.iload_n 3, 1) := by decide +kernel
theorem dX10_reachedBy_18 : decode cX10_reachedBy 18 = .ok (.iaload, 1) := by decide +kernel
theorem dX10_reachedBy_19 : decode cX10_reachedBy 19 = .ok (.iload_n 1, 1) := by decide +kernel
theorem dX10_reachedBy_20 : decode cX10_reachedBy 20 = .ok (.if_icmp .lt 9, 3) := by decide +kernel
theorem dX10_reachedBy_23 : decode cX10_reachedBy 23 = .ok (.iconst 1, 1) := by decide +kernel
theorem dX10_reachedBy_24 : decode cX10_reachedBy 24 = .ok (.iload_n 3, 1) := by decide +kernel
theorem dX10_reachedBy_25 : decode cX10_reachedBy 25 = .ok (.ishl, 1) := by decide +kernel
theorem dX10_reachedBy_26 : decode cX10_reachedBy 26 = .ok (.goto 4, 3) := by decide +kernel
theorem dX10_reachedBy_29 : decode cX10_reachedBy 29 = .ok (.iconst 0, 1) := by decide +kernel
theorem dX10_reachedBy_30 : decode cX10_reachedBy 30 = .ok (.ior, 1) := by decide +kernel
theorem dX10_reachedBy_31 : decode cX10_reachedBy 31 = .ok (.istore_n 2, 1) := by decide +kernel
theorem dX10_reachedBy_32 : decode cX10_reachedBy 32 = .ok (.iinc 3 1, 3) := by decide +kernel
theorem dX10_reachedBy_35 : decode cX10_reachedBy 35 = .ok (.goto (-31), 3) := by decide +kernel
theorem dX10_reachedBy_38 : decode cX10_reachedBy 38 = .ok (.iload_n 2, 1) := by decide +kernel
theorem dX10_reachedBy_39 : decode cX10_reachedBy 39 = .ok (.ireturn, 1) := by decide +kernel
theorem dX10_reachedNow_0 : decode cX10_reachedNow 0 = .ok (.aload_n 0, 1) := by decide +kernel
theorem dX10_reachedNow_1 : decode cX10_reachedNow 1 = .ok (.invokevirtual 161, 3) := by decide +kernel
theorem dX10_reachedNow_4 : decode cX10_reachedNow 4 = .ok (.aload_n 0, 1) := by decide +kernel
theorem dX10_reachedNow_5 : decode cX10_reachedNow 5 = .ok (.iload_n 1, 1) := by decide +kernel
theorem dX10_reachedNow_6 : decode cX10_reachedNow 6 = .ok (.invokevirtual 185, 3) := by decide +kernel
theorem dX10_reachedNow_9 : decode cX10_reachedNow 9 = .ok (.ireturn, 1) := by decide +kernel
theorem dX10_reached_0 : decode cX10_reached 0 = .ok (.aload_n 0, 1) := by decide +kernel
theorem dX10_reached_1 : decode cX10_reached 1 = .ok (.iconst 1, 1) := by decide +kernel
theorem dX10_reached_2 : decode cX10_reached 2 = .ok (.invokevirtual 188, 3) := by decide +kernel
theorem dX10_reached_5 : decode cX10_reached 5 = .ok (.ireturn, 1) := by decide +kernel
theorem dX10_lastBy_0 : decode cX10_lastBy 0 = .ok (.iconst (-1), 1) := by decide +kernel
theorem dX10_lastBy_1 : decode cX10_lastBy 1 = .ok (.istore_n 1, 1) := by decide +kernel
theorem dX10_lastBy_2 : decode cX10_lastBy 2 = .ok (.iconst 0, 1) := by decide +kernel
theorem dX10_lastBy_3 : decode cX10_lastBy 3 = .ok (.istore_n 2, 1) := by decide +kernel
theorem dX10_lastBy_4 : decode cX10_lastBy 4 = .ok (.iload_n 2, 1) := by decide +kernel
theorem dX10_lastBy_5 : decode cX10_lastBy 5 = .ok (.aload_n 0, 1) := by decide +kernel
theorem dX10_lastBy_6 : decode cX10_lastBy 6 = .ok (.getfield 112, 3) := by decide +kernel
theorem dX10_lastBy_9 : decode cX10_lastBy 9 = .ok (.if_icmp .ge 30, 3) := by decide +kernel
theorem dX10_lastBy_12 : decode cX10_lastBy 12 = .ok (.aload_n 0, 1) := by decide +kernel
theorem dX10_lastBy_13 : decode cX10_lastBy 13 = .ok (.iload_n 2, 1) := by decide +kernel
theorem dX10_lastBy_14 : decode cX10_lastBy 14 = .ok (.iconst 0, 1) := by decide +kernel
theorem dX10_lastBy_15 : decode cX10_lastBy 15 = .ok (.invokevirtual 164, 3) := by decide +kernel
theorem dX10_lastBy_18 : decode cX10_lastBy 18 = .ok (.iload_n 1, 1) := by decide +kernel
theorem dX10_lastBy_19 : decode cX10_lastBy 19 = .ok (.if_icmp .le 12, 3) := by decide +kernel
theorem dX10_lastBy_22 : decode cX10_lastBy 22 = .ok (.aload_n 0, 1) := by decide +kernel
theorem dX10_lastBy_23 : decode cX10_lastBy 23 = .ok (.iload_n 2, 1) := by decide +kernel
theorem dX10_lastBy_24 : decode cX10_lastBy 24 = .ok (.iconst 0, 1) := by decide +kernel
theorem dX10_lastBy_25 : decode cX10_lastBy 25 = .ok (.invokevirtual 164, 3) := by decide +kernel
theorem dX10_lastBy_28 : decode cX10_lastBy 28 = .ok (.goto 4, 3) := by decide +kernel
theorem dX10_lastBy_31 : decode cX10_lastBy 31 = .ok (.iload_n 1, 1) := by decide +kernel
theorem dX10_lastBy_32 : decode cX10_lastBy 32 = .ok (.istore_n 1, 1) := by decide +kernel
theorem dX10_lastBy_33 : decode cX10_lastBy 33 = .ok (.iinc 2 1, 3) := by decide +kernel
theorem dX10_lastBy_36 : decode cX10_lastBy 36 = .ok (.goto (-32), 3) := by decide +kernel
theorem dX10_lastBy_39 : decode cX10_lastBy 39 = .ok (.iload_n 1, 1) := by decide +kernel
theorem dX10_lastBy_40 : decode cX10_lastBy 40 = .ok (.ireturn, 1) := by decide +kernel
theorem dX10_lastNow_0 : decode cX10_lastNow 0 = .ok (.aload_n 0, 1) := by decide +kernel
theorem dX10_lastNow_1 : decode cX10_lastNow 1 = .ok (.invokevirtual 161, 3) := by decide +kernel
theorem dX10_lastNow_4 : decode cX10_lastNow 4 = .ok (.aload_n 0, 1) := by decide +kernel
theorem dX10_lastNow_5 : decode cX10_lastNow 5 = .ok (.invokevirtual 191, 3) := by decide +kernel
theorem dX10_lastNow_8 : decode cX10_lastNow 8 = .ok (.ireturn, 1) := by decide +kernel
theorem dX10_last_0 : decode cX10_last 0 = .ok (.aload_n 0, 1) := by decide +kernel
theorem dX10_last_1 : decode cX10_last 1 = .ok (.invokevirtual 194, 3) := by decide +kernel
theorem dX10_last_4 : decode cX10_last 4 = .ok (.ireturn, 1) := by decide +kernel
theorem dX10_twice_0 : decode cX10_twice 0 = .ok (.aload_n 0, 1) := by decide +kernel
theorem dX10_twice_1 : decode cX10_twice 1 = .ok (.iconst 2, 1) := by decide +kernel
theorem dX10_twice_2 : decode cX10_twice 2 = .ok (.invokevirtual 188, 3) := by decide +kernel
theorem dX10_twice_5 : decode cX10_twice 5 = .ok (.ireturn, 1) := by decide +kernel
theorem dX10_roundOf_0 : decode cX10_roundOf 0 = .ok (.aload_n 0, 1) := by decide +kernel
theorem dX10_roundOf_1 : decode cX10_roundOf 1 = .ok (.invokevirtual 161, 3) := by decide +kernel
theorem dX10_roundOf_4 : decode cX10_roundOf 4 = .ok (.aload_n 0, 1) := by decide +kernel
theorem dX10_roundOf_5 : decode cX10_roundOf 5 = .ok (.getfield 52, 3) := by decide +kernel
theorem dX10_roundOf_8 : decode cX10_roundOf 8 = .ok (.iload_n 1, 1) := by decide +kernel
theorem dX10_roundOf_9 : decode cX10_roundOf 9 = .ok (.iaload, 1) := by decide +kernel
theorem dX10_roundOf_10 : decode cX10_roundOf 10 = .ok (.iconst 2, 1) := by decide +kernel
theorem dX10_roundOf_11 : decode cX10_roundOf 11 = .ok (.if_icmp .ge 7, 3) := by decide +kernel
theorem dX10_roundOf_14 : decode cX10_roundOf 14 = .ok (.iconst (-1), 1) := by decide +kernel
theorem dX10_roundOf_15 : decode cX10_roundOf 15 = .ok (.goto 16, 3) := by decide +kernel
theorem dX10_roundOf_18 : decode cX10_roundOf 18 = .ok (.aload_n 0, 1) := by decide +kernel
theorem dX10_roundOf_19 : decode cX10_roundOf 19 = .ok (.iload_n 1, 1) := by decide +kernel
theorem dX10_roundOf_20 : decode cX10_roundOf 20 = .ok (.iconst 1, 1) := by decide +kernel
theorem dX10_roundOf_21 : decode cX10_roundOf 21 = .ok (.invokevirtual 164, 3) := by decide +kernel
theorem dX10_roundOf_24 : decode cX10_roundOf 24 = .ok (.aload_n 0, 1) := by decide +kernel
theorem dX10_roundOf_25 : decode cX10_roundOf 25 = .ok (.iload_n 1, 1) := by decide +kernel
theorem dX10_roundOf_26 : decode cX10_roundOf 26 = .ok (.iconst 0, 1) := by decide +kernel
theorem dX10_roundOf_27 : decode cX10_roundOf 27 = .ok (.invokevirtual 164, 3) := by decide +kernel
theorem dX10_roundOf_30 : decode cX10_roundOf 30 = .ok (.isub, 1) := by decide +kernel
theorem dX10_roundOf_31 : decode cX10_roundOf 31 = .ok (.ireturn, 1) := by decide +kernel
theorem dX10_round_0 : decode cX10_round 0 = .ok (.aload_n 0, 1) := by decide +kernel
theorem dX10_round_1 : decode cX10_round 1 = .ok (.iload_n 1, 1) := by decide +kernel
theorem dX10_round_2 : decode cX10_round 2 = .ok (.invokevirtual 133, 3) := by decide +kernel
theorem dX10_round_5 : decode cX10_round 5 = .ok (.ifCond .eq 11, 3) := by decide +kernel
theorem dX10_round_8 : decode cX10_round 8 = .ok (.aload_n 0, 1) := by decide +kernel
theorem dX10_round_9 : decode cX10_round 9 = .ok (.iload_n 1, 1) := by decide +kernel
theorem dX10_round_10 : decode cX10_round 10 = .ok (.invokevirtual 197, 3) := by decide +kernel
theorem dX10_round_13 : decode cX10_round 13 = .ok (.goto 5, 3) := by decide +kernel
theorem dX10_round_16 : decode cX10_round 16 = .ok (.bipush (-2), 2) := by decide +kernel
theorem dX10_round_18 : decode cX10_round 18 = .ok (.ireturn, 1) := by decide +kernel
theorem dX10_beginOf_0 : decode cX10_beginOf 0 = .ok (.aload_n 0, 1) := by decide +kernel
theorem dX10_beginOf_1 : decode cX10_beginOf 1 = .ok (.invokevirtual 130, 3) := by decide +kernel
theorem dX10_beginOf_4 : decode cX10_beginOf 4 = .ok (.istore_n 2, 1) := by decide +kernel
theorem dX10_beginOf_5 : decode cX10_beginOf 5 = .ok (.iconst (-1), 1) := by decide +kernel
theorem dX10_beginOf_6 : decode cX10_beginOf 6 = .ok (.istore_n 3, 1) := by decide +kernel
theorem dX10_beginOf_7 : decode cX10_beginOf 7 = .ok (.iconst 0, 1) := by decide +kernel
theorem dX10_beginOf_8 : decode cX10_beginOf 8 = .ok (.istore 4, 2) := by decide +kernel
theorem dX10_beginOf_10 : decode cX10_beginOf 10 = .ok (.iconst (-1), 1) := by decide +kernel
theorem dX10_beginOf_11 : decode cX10_beginOf 11 = .ok (.istore 5, 2) := by decide +kernel
theorem dX10_beginOf_13 : decode cX10_beginOf 13 = .ok (.iconst 0, 1) := by decide +kernel
theorem dX10_beginOf_14 : decode cX10_beginOf 14 = .ok (.istore 6, 2) := by decide +kernel
theorem dX10_beginOf_16 : decode cX10_beginOf 16 = .ok (.iload 6, 2) := by decide +kernel
theorem dX10_beginOf_18 : decode cX10_beginOf 18 = .ok (.aload_n 0, 1) := by decide +kernel
theorem dX10_beginOf_19 : decode cX10_beginOf 19 = .ok (.getfield 112, 3) := by decide +kernel
theorem dX10_beginOf_22 : decode cX10_beginOf 22 = .ok (.if_icmp .ge 107, 3) := by decide +kernel
theorem dX10_beginOf_25 : decode cX10_beginOf 25 = .ok (.aload_n 0, 1) := by decide +kernel
theorem dX10_beginOf_26 : decode cX10_beginOf 26 = .ok (.iload 6, 2) := by decide +kernel
theorem dX10_beginOf_28 : decode cX10_beginOf 28 = .ok (.iconst (-1), 1) := by decide +kernel
theorem dX10_beginOf_29 : decode cX10_beginOf 29 = .ok (.iconst 0, 1) := by decide +kernel
theorem dX10_beginOf_30 : decode cX10_beginOf 30 = .ok (.iconst (-1), 1) := by decide +kernel
theorem dX10_beginOf_31 : decode cX10_beginOf 31 = .ok (.invokevirtual 155, 3) := by decide +kernel
theorem dX10_beginOf_34 : decode cX10_beginOf 34 = .ok (.aload_n 0, 1) := by decide +kernel
theorem dX10_beginOf_35 : decode cX10_beginOf 35 = .ok (.iconst 1, 1) := by decide +kernel
theorem dX10_beginOf_36 : decode cX10_beginOf 36 = .ok (.invokevirtual 185, 3) := by decide +kernel
theorem dX10_beginOf_39 : decode cX10_beginOf 39 = .ok (.invokestatic 158, 3) := by decide +kernel
theorem dX10_beginOf_42 : decode cX10_beginOf 42 = .ok (.istore 7, 2) := by decide +kernel
theorem dX10_beginOf_44 : decode cX10_beginOf 44 = .ok (.aload_n 0, 1) := by decide +kernel
theorem dX10_beginOf_45 : decode cX10_beginOf 45 = .ok (.invokevirtual 191, 3) := by decide +kernel
theorem dX10_beginOf_48 : decode cX10_beginOf 48 = .ok (.istore 8, 2) := by decide +kernel
theorem dX10_beginOf_50 : decode cX10_beginOf 50 = .ok (.iload_n 3, 1) := by decide +kernel
theorem dX10_beginOf_51 : decode cX10_beginOf 51 = .ok (.iconst (-1), 1) := by decide +kernel
theorem dX10_beginOf_52 : decode cX10_beginOf 52 = .ok (.if_icmp .eq 24, 3) := by decide +kernel
theorem dX10_beginOf_55 : decode cX10_beginOf 55 = .ok (.iload 7, 2) := by decide +kernel
theorem dX10_beginOf_57 : decode cX10_beginOf 57 = .ok (.iload 4, 2) := by decide +kernel
theorem dX10_beginOf_59 : decode cX10_beginOf 59 = .ok (.if_icmp .gt 17, 3) := by decide +kernel
theorem dX10_beginOf_62 : decode cX10_beginOf 62 = .ok (.iload 7, 2) := by decide +kernel
theorem dX10_beginOf_64 : decode cX10_beginOf 64 = .ok (.iload 4, 2) := by decide +kernel
theorem dX10_beginOf_66 : decode cX10_beginOf 66 = .ok (.if_icmp .ne 14, 3) := by decide +kernel
theorem dX10_beginOf_69 : decode cX10_beginOf 69 = .ok (.iload 8, 2) := by decide +kernel
theorem dX10_beginOf_71 : decode cX10_beginOf 71 = .ok (.iload 5, 2) := by decide +kernel
theorem dX10_beginOf_73 : decode cX10_beginOf 73 = .ok (.if_icmp .ge 7, 3) := by decide +kernel
theorem dX10_beginOf_76 : decode cX10_beginOf 76 = .ok (.iconst 1, 1) := by decide +kernel
theorem dX10_beginOf_77 : decode cX10_beginOf 77 = .ok (.goto 4, 3) := by decide +kernel
theorem dX10_beginOf_80 : decode cX10_beginOf 80 = .ok (.iconst 0, 1) := by decide +kernel
theorem dX10_beginOf_81 : decode cX10_beginOf 81 = .ok (.istore 9, 2) := by decide +kernel
theorem dX10_beginOf_83 : decode cX10_beginOf 83 = .ok (.iload 9, 2) := by decide +kernel
theorem dX10_beginOf_85 : decode cX10_beginOf 85 = .ok (.ifCond .eq 8, 3) := by decide +kernel
theorem dX10_beginOf_88 : decode cX10_beginOf 88 = .ok (.iload 6, 2) := by decide +kernel
theorem dX10_beginOf_90 : decode cX10_beginOf 90 = .ok (.goto 4, 3) := by decide +kernel
theorem dX10_beginOf_93 : decode cX10_beginOf 93 = .ok (.iload_n 3, 1) := by decide +kernel
theorem dX10_beginOf_94 : decode cX10_beginOf 94 = .ok (.istore_n 3, 1) := by decide +kernel
theorem dX10_beginOf_95 : decode cX10_beginOf 95 = .ok (.iload 9, 2) := by decide +kernel
theorem dX10_beginOf_97 : decode cX10_beginOf 97 = .ok (.ifCond .eq 8, 3) := by decide +kernel
theorem dX10_beginOf_100 : decode cX10_beginOf 100 = .ok (.iload 7, 2) := by decide +kernel
theorem dX10_beginOf_102 : decode cX10_beginOf 102 = .ok (.goto 5, 3) := by decide +kernel
theorem dX10_beginOf_105 : decode cX10_beginOf 105 = .ok (.iload 4, 2) := by decide +kernel
theorem dX10_beginOf_107 : decode cX10_beginOf 107 = .ok (.istore 4, 2) := by decide +kernel
theorem dX10_beginOf_109 : decode cX10_beginOf 109 = .ok (.iload 9, 2) := by decide +kernel
theorem dX10_beginOf_111 : decode cX10_beginOf 111 = .ok (.ifCond .eq 8, 3) := by decide +kernel
theorem dX10_beginOf_114 : decode cX10_beginOf 114 = .ok (.iload 8, 2) := by decide +kernel
theorem dX10_beginOf_116 : decode cX10_beginOf 116 = .ok (.goto 5, 3) := by decide +kernel
theorem dX10_beginOf_119 : decode cX10_beginOf 119 = .ok (.iload 5, 2) := by decide +kernel
theorem dX10_beginOf_121 : decode cX10_beginOf 121 = .ok (.istore 5, 2) := by decide +kernel
theorem dX10_beginOf_123 : decode cX10_beginOf 123 = .ok (.iinc 6 1, 3) := by decide +kernel
theorem dX10_beginOf_126 : decode cX10_beginOf 126 = .ok (.goto (-110), 3) := by decide +kernel
theorem dX10_beginOf_129 : decode cX10_beginOf 129 = .ok (.iload_n 1, 1) := by decide +kernel
theorem dX10_beginOf_130 : decode cX10_beginOf 130 = .ok (.ifCond .ne 7, 3) := by decide +kernel
theorem dX10_beginOf_133 : decode cX10_beginOf 133 = .ok (.iload_n 3, 1) := by decide +kernel
theorem dX10_beginOf_134 : decode cX10_beginOf 134 = .ok (.goto 15, 3) := by decide +kernel
theorem dX10_beginOf_137 : decode cX10_beginOf 137 = .ok (.iload_n 1, 1) := by decide +kernel
theorem dX10_beginOf_138 : decode cX10_beginOf 138 = .ok (.iconst 1, 1) := by decide +kernel
theorem dX10_beginOf_139 : decode cX10_beginOf 139 = .ok (.if_icmp .ne 8, 3) := by decide +kernel
theorem dX10_beginOf_142 : decode cX10_beginOf 142 = .ok (.iload 4, 2) := by decide +kernel
theorem dX10_beginOf_144 : decode cX10_beginOf 144 = .ok (.goto 5, 3) := by decide +kernel
theorem dX10_beginOf_147 : decode cX10_beginOf 147 = .ok (.iload 5, 2) := by decide +kernel
theorem dX10_beginOf_149 : decode cX10_beginOf 149 = .ok (.ireturn, 1) := by decide +kernel
theorem dX10_begin_0 : decode cX10_begin 0 = .ok (.iload_n 1, 1) := by decide +kernel
theorem dX10_begin_1 : decode cX10_begin 1 = .ok (.iconst 0, 1) := by decide +kernel
theorem dX10_begin_2 : decode cX10_begin 2 = .ok (.iconst 2, 1) := by decide +kernel
theorem dX10_begin_3 : decode cX10_begin 3 = .ok (.invokestatic 104, 3) := by decide +kernel
theorem dX10_begin_6 : decode cX10_begin 6 = .ok (.ifCond .eq 11, 3) := by decide +kernel
theorem dX10_begin_9 : decode cX10_begin 9 = .ok (.aload_n 0, 1) := by decide +kernel
theorem dX10_begin_10 : decode cX10_begin 10 = .ok (.iload_n 1, 1) := by decide +kernel
theorem dX10_begin_11 : decode cX10_begin 11 = .ok (.invokevirtual 200, 3) := by decide +kernel
theorem dX10_begin_14 : decode cX10_begin 14 = .ok (.goto 5, 3) := by decide +kernel
theorem dX10_begin_17 : decode cX10_begin 17 = .ok (.bipush (-2), 2) := by decide +kernel
theorem dX10_begin_19 : decode cX10_begin 19 = .ok (.ireturn, 1) := by decide +kernel
theorem dX10_passedOf_0 : decode cX10_passedOf 0 = .ok (.aload_n 0, 1) := by decide +kernel
theorem dX10_passedOf_1 : decode cX10_passedOf 1 = .ok (.invokevirtual 161, 3) := by decide +kernel
theorem dX10_passedOf_4 : decode cX10_passedOf 4 = .ok (.iconst 0, 1) := by decide +kernel
theorem dX10_passedOf_5 : decode cX10_passedOf 5 = .ok (.istore_n 2, 1) := by decide +kernel
theorem dX10_passedOf_6 : decode cX10_passedOf 6 = .ok (.iconst 0, 1) := by decide +kernel
theorem dX10_passedOf_7 : decode cX10_passedOf 7 = .ok (.istore_n 3, 1) := by decide +kernel
theorem dX10_passedOf_8 : decode cX10_passedOf 8 = .ok (.iload_n 3, 1) := by decide +kernel
theorem dX10_passedOf_9 : decode cX10_passedOf 9 = .ok (.aload_n 0, 1) := by decide +kernel
theorem dX10_passedOf_10 : decode cX10_passedOf 10 = .ok (.getfield 112, 3) := by decide +kernel
theorem dX10_passedOf_13 : decode cX10_passedOf 13 = .ok (.if_icmp .ge 18, 3) := by decide +kernel
theorem dX10_passedOf_16 : decode cX10_passedOf 16 = .ok (.iload_n 2, 1) := by decide +kernel
theorem dX10_passedOf_17 : decode cX10_passedOf 17 = .ok (.aload_n 0, 1) := by decide +kernel
theorem dX10_passedOf_18 : decode cX10_passedOf 18 = .ok (.iload_n 3, 1) := by decide +kernel
theorem dX10_passedOf_19 : decode cX10_passedOf 19 = .ok (.iload_n 1, 1) := by decide +kernel
theorem dX10_passedOf_20 : decode cX10_passedOf 20 = .ok (.invokevirtual 170, 3) := by decide +kernel
theorem dX10_passedOf_23 : decode cX10_passedOf 23 = .ok (.iadd, 1) := by decide +kernel
theorem dX10_passedOf_24 : decode cX10_passedOf 24 = .ok (.istore_n 2, 1) := by decide +kernel
theorem dX10_passedOf_25 : decode cX10_passedOf 25 = .ok (.iinc 3 1, 3) := by decide +kernel
theorem dX10_passedOf_28 : decode cX10_passedOf 28 = .ok (.goto (-20), 3) := by decide +kernel
theorem dX10_passedOf_31 : decode cX10_passedOf 31 = .ok (.iload_n 2, 1) := by decide +kernel
theorem dX10_passedOf_32 : decode cX10_passedOf 32 = .ok (.ireturn, 1) := by decide +kernel
theorem dX10_passed_0 : decode cX10_passed 0 = .ok (.iload_n 1, 1) := by decide +kernel
theorem dX10_passed_1 : decode cX10_passed 1 = .ok (.invokestatic 173, 3) := by decide +kernel
theorem dX10_passed_4 : decode cX10_passed 4 = .ok (.ifCond .eq 11, 3) := by decide +kernel
theorem dX10_passed_7 : decode cX10_passed 7 = .ok (.aload_n 0, 1) := by decide +kernel
theorem dX10_passed_8 : decode cX10_passed 8 = .ok (.iload_n 1, 1) := by decide +kernel
theorem dX10_passed_9 : decode cX10_passed 9 = .ok (.invokevirtual 203, 3) := by decide +kernel
theorem dX10_passed_12 : decode cX10_passed 12 = .ok (.goto 5, 3) := by decide +kernel
theorem dX10_passed_15 : decode cX10_passed 15 = .ok (.bipush (-2), 2) := by decide +kernel
theorem dX10_passed_17 : decode cX10_passed 17 = .ok (.ireturn, 1) := by decide +kernel
theorem dX10_fewestBy_0 : decode cX10_fewestBy 0 = .ok (.iload_n 0, 1) := by decide +kernel
theorem dX10_fewestBy_1 : decode cX10_fewestBy 1 = .ok (.iload_n 2, 1) := by decide +kernel
theorem dX10_fewestBy_2 : decode cX10_fewestBy 2 = .ok (.if_icmp .gt 7, 3) := by decide +kernel
theorem dX10_fewestBy_5 : decode cX10_fewestBy 5 = .ok (.iconst 0, 1) := by decide +kernel
theorem dX10_fewestBy_6 : decode cX10_fewestBy 6 = .ok (.goto 12, 3) := by decide +kernel
theorem dX10_fewestBy_9 : decode cX10_fewestBy 9 = .ok (.iload_n 0, 1) := by decide +kernel
theorem dX10_fewestBy_10 : decode cX10_fewestBy 10 = .ok (.iload_n 2, 1) := by decide +kernel
theorem dX10_fewestBy_11 : decode cX10_fewestBy 11 = .ok (.isub, 1) := by decide +kernel
theorem dX10_fewestBy_12 : decode cX10_fewestBy 12 = .ok (.iload_n 1, 1) := by decide +kernel
theorem dX10_fewestBy_13 : decode cX10_fewestBy 13 = .ok (.iadd, 1) := by decide +kernel
theorem dX10_fewestBy_14 : decode cX10_fewestBy 14 = .ok (.iconst 1, 1) := by decide +kernel
theorem dX10_fewestBy_15 : decode cX10_fewestBy 15 = .ok (.isub, 1) := by decide +kernel
theorem dX10_fewestBy_16 : decode cX10_fewestBy 16 = .ok (.iload_n 1, 1) := by decide +kernel
theorem dX10_fewestBy_17 : decode cX10_fewestBy 17 = .ok (.idiv, 1) := by decide +kernel
theorem dX10_fewestBy_18 : decode cX10_fewestBy 18 = .ok (.ireturn, 1) := by decide +kernel
theorem dX10_areLimits_0 : decode cX10_areLimits 0 = .ok (.iload_n 0, 1) := by decide +kernel
theorem dX10_areLimits_1 : decode cX10_areLimits 1 = .ok (.iconst 1, 1) := by decide +kernel
theorem dX10_areLimits_2 : decode cX10_areLimits 2 = .ok (.bipush 9, 2) := by decide +kernel
theorem dX10_areLimits_4 : decode cX10_areLimits 4 = .ok (.invokestatic 104, 3) := by decide +kernel
theorem dX10_areLimits_7 : decode cX10_areLimits 7 = .ok (.ifCond .eq 27, 3) := by decide +kernel
theorem dX10_areLimits_10 : decode cX10_areLimits 10 = .ok (.iload_n 1, 1) := by decide +kernel
theorem dX10_areLimits_11 : decode cX10_areLimits 11 = .ok (.iload_n 0, 1) := by decide +kernel
theorem dX10_areLimits_12 : decode cX10_areLimits 12 = .ok (.bipush 9, 2) := by decide +kernel
theorem dX10_areLimits_14 : decode cX10_areLimits 14 = .ok (.invokestatic 104, 3) := by decide +kernel
theorem dX10_areLimits_17 : decode cX10_areLimits 17 = .ok (.ifCond .eq 17, 3) := by decide +kernel
theorem dX10_areLimits_20 : decode cX10_areLimits 20 = .ok (.iload_n 2, 1) := by decide +kernel
theorem dX10_areLimits_21 : decode cX10_areLimits 21 = .ok (.iconst 0, 1) := by decide +kernel
theorem dX10_areLimits_22 : decode cX10_areLimits 22 = .ok (.bipush 20, 2) := by decide +kernel
theorem dX10_areLimits_24 : decode cX10_areLimits 24 = .ok (.invokestatic 104, 3) := by decide +kernel
theorem dX10_areLimits_27 : decode cX10_areLimits 27 = .ok (.ifCond .eq 7, 3) := by decide +kernel
theorem dX10_areLimits_30 : decode cX10_areLimits 30 = .ok (.iconst 1, 1) := by decide +kernel
theorem dX10_areLimits_31 : decode cX10_areLimits 31 = .ok (.goto 4, 3) := by decide +kernel
theorem dX10_areLimits_34 : decode cX10_areLimits 34 = .ok (.iconst 0, 1) := by decide +kernel
theorem dX10_areLimits_35 : decode cX10_areLimits 35 = .ok (.ireturn, 1) := by decide +kernel
theorem dX10_spans_0 : decode cX10_spans 0 = .ok (.iload_n 1, 1) := by decide +kernel
theorem dX10_spans_1 : decode cX10_spans 1 = .ok (.invokestatic 173, 3) := by decide +kernel
theorem dX10_spans_4 : decode cX10_spans 4 = .ok (.ifCond .eq 23, 3) := by decide +kernel
theorem dX10_spans_7 : decode cX10_spans 7 = .ok (.iload_n 2, 1) := by decide +kernel
theorem dX10_spans_8 : decode cX10_spans 8 = .ok (.iload_n 3, 1) := by decide +kernel
theorem dX10_spans_9 : decode cX10_spans 9 = .ok (.iload 4, 2) := by decide +kernel
theorem dX10_spans_11 : decode cX10_spans 11 = .ok (.invokestatic 206, 3) := by decide +kernel
theorem dX10_spans_14 : decode cX10_spans 14 = .ok (.ifCond .eq 13, 3) := by decide +kernel
theorem dX10_spans_17 : decode cX10_spans 17 = .ok (.iload 5, 2) := by decide +kernel
theorem dX10_spans_19 : decode cX10_spans 19 = .ok (.iconst 0, 1) := by decide +kernel
theorem dX10_spans_20 : decode cX10_spans 20 = .ok (.iconst 1, 1) := by decide +kernel
theorem dX10_spans_21 : decode cX10_spans 21 = .ok (.invokestatic 104, 3) := by decide +kernel
theorem dX10_spans_24 : decode cX10_spans 24 = .ok (.ifCond .ne 6, 3) := by decide +kernel
theorem dX10_spans_27 : decode cX10_spans 27 = .ok (.bipush (-2), 2) := by decide +kernel
theorem dX10_spans_29 : decode cX10_spans 29 = .ok (.ireturn, 1) := by decide +kernel
theorem dX10_spans_30 : decode cX10_spans 30 = .ok (.iload_n 1, 1) := by decide +kernel
theorem dX10_spans_31 : decode cX10_spans 31 = .ok (.iload_n 3, 1) := by decide +kernel
theorem dX10_spans_32 : decode cX10_spans 32 = .ok (.iload 4, 2) := by decide +kernel
theorem dX10_spans_34 : decode cX10_spans 34 = .ok (.invokestatic 209, 3) := by decide +kernel
theorem dX10_spans_37 : decode cX10_spans 37 = .ok (.istore 6, 2) := by decide +kernel
theorem dX10_spans_39 : decode cX10_spans 39 = .ok (.iload_n 1, 1) := by decide +kernel
theorem dX10_spans_40 : decode cX10_spans 40 = .ok (.iload 4, 2) := by decide +kernel
theorem dX10_spans_42 : decode cX10_spans 42 = .ok (.iadd, 1) := by decide +kernel
theorem dX10_spans_43 : decode cX10_spans 43 = .ok (.iload_n 2, 1) := by decide +kernel
theorem dX10_spans_44 : decode cX10_spans 44 = .ok (.idiv, 1) := by decide +kernel
theorem dX10_spans_45 : decode cX10_spans 45 = .ok (.istore 7, 2) := by decide +kernel
theorem dX10_spans_47 : decode cX10_spans 47 = .ok (.iload 7, 2) := by decide +kernel
theorem dX10_spans_49 : decode cX10_spans 49 = .ok (.iload 6, 2) := by decide +kernel
theorem dX10_spans_51 : decode cX10_spans 51 = .ok (.if_icmp .ge 7, 3) := by decide +kernel
theorem dX10_spans_54 : decode cX10_spans 54 = .ok (.iconst (-1), 1) := by decide +kernel
theorem dX10_spans_55 : decode cX10_spans 55 = .ok (.goto 15, 3) := by decide +kernel
theorem dX10_spans_58 : decode cX10_spans 58 = .ok (.iload 5, 2) := by decide +kernel
theorem dX10_spans_60 : decode cX10_spans 60 = .ok (.ifCond .ne 8, 3) := by decide +kernel
theorem dX10_spans_63 : decode cX10_spans 63 = .ok (.iload 6, 2) := by decide +kernel
theorem dX10_spans_65 : decode cX10_spans 65 = .ok (.goto 5, 3) := by decide +kernel
theorem dX10_spans_68 : decode cX10_spans 68 = .ok (.iload 7, 2) := by decide +kernel
theorem dX10_spans_70 : decode cX10_spans 70 = .ok (.ireturn, 1) := by decide +kernel
theorem dX10_limits_0 : decode cX10_limits 0 = .ok (.iload_n 1, 1) := by decide +kernel
theorem dX10_limits_1 : decode cX10_limits 1 = .ok (.iload_n 2, 1) := by decide +kernel
theorem dX10_limits_2 : decode cX10_limits 2 = .ok (.iload_n 3, 1) := by decide +kernel
theorem dX10_limits_3 : decode cX10_limits 3 = .ok (.invokestatic 206, 3) := by decide +kernel
theorem dX10_limits_6 : decode cX10_limits 6 = .ok (.ifCond .ne 6, 3) := by decide +kernel
theorem dX10_limits_9 : decode cX10_limits 9 = .ok (.bipush (-2), 2) := by decide +kernel
theorem dX10_limits_11 : decode cX10_limits 11 = .ok (.ireturn, 1) := by decide +kernel
theorem dX10_limits_12 : decode cX10_limits 12 = .ok (.bipush 100, 2) := by decide +kernel
theorem dX10_limits_14 : decode cX10_limits 14 = .ok (.aload_n 0, 1) := by decide +kernel
theorem dX10_limits_15 : decode cX10_limits 15 = .ok (.getfield 43, 3) := by decide +kernel
theorem dX10_limits_18 : decode cX10_limits 18 = .ok (.iconst 0, 1) := by decide +kernel
theorem dX10_limits_19 : decode cX10_limits 19 = .ok (.iaload, 1) := by decide +kernel
theorem dX10_limits_20 : decode cX10_limits 20 = .ok (.imul, 1) := by decide +kernel
theorem dX10_limits_21 : decode cX10_limits 21 = .ok (.bipush 10, 2) := by decide +kernel
theorem dX10_limits_23 : decode cX10_limits 23 = .ok (.aload_n 0, 1) := by decide +kernel
theorem dX10_limits_24 : decode cX10_limits 24 = .ok (.getfield 43, 3) := by decide +kernel
theorem dX10_limits_27 : decode cX10_limits 27 = .ok (.iconst 1, 1) := by decide +kernel
theorem dX10_limits_28 : decode cX10_limits 28 = .ok (.iaload, 1) := by decide +kernel
theorem dX10_limits_29 : decode cX10_limits 29 = .ok (.imul, 1) := by decide +kernel
theorem dX10_limits_30 : decode cX10_limits 30 = .ok (.iadd, 1) := by decide +kernel
theorem dX10_limits_31 : decode cX10_limits 31 = .ok (.aload_n 0, 1) := by decide +kernel
theorem dX10_limits_32 : decode cX10_limits 32 = .ok (.getfield 43, 3) := by decide +kernel
theorem dX10_limits_35 : decode cX10_limits 35 = .ok (.iconst 2, 1) := by decide +kernel
theorem dX10_limits_36 : decode cX10_limits 36 = .ok (.iaload, 1) := by decide +kernel
theorem dX10_limits_37 : decode cX10_limits 37 = .ok (.bipush 9, 2) := by decide +kernel
theorem dX10_limits_39 : decode cX10_limits 39 = .ok (.if_icmp .ge 12, 3) := by decide +kernel
theorem dX10_limits_42 : decode cX10_limits 42 = .ok (.aload_n 0, 1) := by decide +kernel
theorem dX10_limits_43 : decode cX10_limits 43 = .ok (.getfield 43, 3) := by decide +kernel
theorem dX10_limits_46 : decode cX10_limits 46 = .ok (.iconst 2, 1) := by decide +kernel
theorem dX10_limits_47 : decode cX10_limits 47 = .ok (.iaload, 1) := by decide +kernel
theorem dX10_limits_48 : decode cX10_limits 48 = .ok (.goto 5, 3) := by decide +kernel
theorem dX10_limits_51 : decode cX10_limits 51 = .ok (.bipush 9, 2) := by decide +kernel
theorem dX10_limits_53 : decode cX10_limits 53 = .ok (.iadd, 1) := by decide +kernel
theorem dX10_limits_54 : decode cX10_limits 54 = .ok (.istore 4, 2) := by decide +kernel
theorem dX10_limits_56 : decode cX10_limits 56 = .ok (.aload_n 0, 1) := by decide +kernel
theorem dX10_limits_57 : decode cX10_limits 57 = .ok (.getfield 43, 3) := by decide +kernel
theorem dX10_limits_60 : decode cX10_limits 60 = .ok (.iconst 0, 1) := by decide +kernel
theorem dX10_limits_61 : decode cX10_limits 61 = .ok (.iload_n 1, 1) := by decide +kernel
theorem dX10_limits_62 : decode cX10_limits 62 = .ok (.iastore, 1) := by decide +kernel
theorem dX10_limits_63 : decode cX10_limits 63 = .ok (.aload_n 0, 1) := by decide +kernel
theorem dX10_limits_64 : decode cX10_limits 64 = .ok (.getfield 43, 3) := by decide +kernel
theorem dX10_limits_67 : decode cX10_limits 67 = .ok (.iconst 1, 1) := by decide +kernel
theorem dX10_limits_68 : decode cX10_limits 68 = .ok (.iload_n 2, 1) := by decide +kernel
theorem dX10_limits_69 : decode cX10_limits 69 = .ok (.iastore, 1) := by decide +kernel
theorem dX10_limits_70 : decode cX10_limits 70 = .ok (.aload_n 0, 1) := by decide +kernel
theorem dX10_limits_71 : decode cX10_limits 71 = .ok (.getfield 43, 3) := by decide +kernel
theorem dX10_limits_74 : decode cX10_limits 74 = .ok (.iconst 2, 1) := by decide +kernel
theorem dX10_limits_75 : decode cX10_limits 75 = .ok (.iload_n 3, 1) := by decide +kernel
theorem dX10_limits_76 : decode cX10_limits 76 = .ok (.iastore, 1) := by decide +kernel
theorem dX10_limits_77 : decode cX10_limits 77 = .ok (.iload 4, 2) := by decide +kernel
theorem dX10_limits_79 : decode cX10_limits 79 = .ok (.ireturn, 1) := by decide +kernel
theorem dX10_laysPosts_0 : decode cX10_laysPosts 0 = .ok (.aload_n 0, 1) := by decide +kernel
theorem dX10_laysPosts_1 : decode cX10_laysPosts 1 = .ok (.invokevirtual 161, 3) := by decide +kernel
theorem dX10_laysPosts_4 : decode cX10_laysPosts 4 = .ok (.aload_n 0, 1) := by decide +kernel
theorem dX10_laysPosts_5 : decode cX10_laysPosts 5 = .ok (.iconst 0, 1) := by decide +kernel
theorem dX10_laysPosts_6 : decode cX10_laysPosts 6 = .ok (.putfield 213, 3) := by decide +kernel
theorem dX10_laysPosts_9 : decode cX10_laysPosts 9 = .ok (.iconst 0, 1) := by decide +kernel
theorem dX10_laysPosts_10 : decode cX10_laysPosts 10 = .ok (.istore_n 1, 1) := by decide +kernel
theorem dX10_laysPosts_11 : decode cX10_laysPosts 11 = .ok (.iload_n 1, 1) := by decide +kernel
theorem dX10_laysPosts_12 : decode cX10_laysPosts 12 = .ok (.aload_n 0, 1) := by decide +kernel
theorem dX10_laysPosts_13 : decode cX10_laysPosts 13 = .ok (.getfield 112, 3) := by decide +kernel
theorem dX10_laysPosts_16 : decode cX10_laysPosts 16 = .ok (.if_icmp .ge 63, 3) := by decide +kernel
theorem dX10_laysPosts_19 : decode cX10_laysPosts 19 = .ok (.aload_n 0, 1) := by decide +kernel
theorem dX10_laysPosts_20 : decode cX10_laysPosts 20 = .ok (.getfield 28, 3) := by decide +kernel
theorem dX10_laysPosts_23 : decode cX10_laysPosts 23 = .ok (.iload_n 1, 1) := by decide +kernel
theorem dX10_laysPosts_24 : decode cX10_laysPosts 24 = .ok (.iaload, 1) := by decide +kernel
theorem dX10_laysPosts_25 : decode cX10_laysPosts 25 = .ok (.iconst 1, 1) := by decide +kernel
theorem dX10_laysPosts_26 : decode cX10_laysPosts 26 = .ok (.if_icmp .ne 47, 3) := by decide +kernel
theorem dX10_laysPosts_29 : decode cX10_laysPosts 29 = .ok (.aload_n 0, 1) := by decide +kernel
theorem dX10_laysPosts_30 : decode cX10_laysPosts 30 = .ok (.getfield 52, 3) := by decide +kernel
theorem dX10_laysPosts_33 : decode cX10_laysPosts 33 = .ok (.iload_n 1, 1) := by decide +kernel
theorem dX10_laysPosts_34 : decode cX10_laysPosts 34 = .ok (.iaload, 1) := by decide +kernel
theorem dX10_laysPosts_35 : decode cX10_laysPosts 35 = .ok (.ifCond .le 38, 3) := by decide +kernel
theorem dX10_laysPosts_38 : decode cX10_laysPosts 38 = .ok (.aload_n 0, 1) := by decide +kernel
theorem dX10_laysPosts_39 : decode cX10_laysPosts 39 = .ok (.getfield 61, 3) := by decide +kernel
theorem dX10_laysPosts_42 : decode cX10_laysPosts 42 = .ok (.aload_n 0, 1) := by decide +kernel
theorem dX10_laysPosts_43 : decode cX10_laysPosts 43 = .ok (.getfield 213, 3) := by decide +kernel
theorem dX10_laysPosts_46 : decode cX10_laysPosts 46 = .ok (.iload_n 1, 1) := by decide +kernel
theorem dX10_laysPosts_47 : decode cX10_laysPosts 47 = .ok (.iastore, 1) := by decide +kernel
theorem dX10_laysPosts_48 : decode cX10_laysPosts 48 = .ok (.aload_n 0, 1) := by decide +kernel
theorem dX10_laysPosts_49 : decode cX10_laysPosts 49 = .ok (.getfield 64, 3) := by decide +kernel
theorem dX10_laysPosts_52 : decode cX10_laysPosts 52 = .ok (.aload_n 0, 1) := by decide +kernel
theorem dX10_laysPosts_53 : decode cX10_laysPosts 53 = .ok (.getfield 213, 3) := by decide +kernel
theorem dX10_laysPosts_56 : decode cX10_laysPosts 56 = .ok (.aload_n 0, 1) := by decide +kernel
theorem dX10_laysPosts_57 : decode cX10_laysPosts 57 = .ok (.iload_n 1, 1) := by decide +kernel
theorem dX10_laysPosts_58 : decode cX10_laysPosts 58 = .ok (.iconst 0, 1) := by decide +kernel
theorem dX10_laysPosts_59 : decode cX10_laysPosts 59 = .ok (.invokevirtual 164, 3) := by decide +kernel
theorem dX10_laysPosts_62 : decode cX10_laysPosts 62 = .ok (.iastore, 1) := by decide +kernel
theorem dX10_laysPosts_63 : decode cX10_laysPosts 63 = .ok (.aload_n 0, 1) := by decide +kernel
theorem dX10_laysPosts_64 : decode cX10_laysPosts 64 = .ok (.dup, 1) := by decide +kernel
theorem dX10_laysPosts_65 : decode cX10_laysPosts 65 = .ok (.getfield 213, 3) := by decide +kernel
theorem dX10_laysPosts_68 : decode cX10_laysPosts 68 = .ok (.iconst 1, 1) := by decide +kernel
theorem dX10_laysPosts_69 : decode cX10_laysPosts 69 = .ok (.iadd, 1) := by decide +kernel
theorem dX10_laysPosts_70 : decode cX10_laysPosts 70 = .ok (.putfield 213, 3) := by decide +kernel
theorem dX10_laysPosts_73 : decode cX10_laysPosts 73 = .ok (.iinc 1 1, 3) := by decide +kernel
theorem dX10_laysPosts_76 : decode cX10_laysPosts 76 = .ok (.goto (-65), 3) := by decide +kernel
theorem dX10_laysPosts_79 : decode cX10_laysPosts 79 = .ok (.return_, 1) := by decide +kernel
theorem dX10_doubtBetween_0 : decode cX10_doubtBetween 0 = .ok (.iload_n 1, 1) := by decide +kernel
theorem dX10_doubtBetween_1 : decode cX10_doubtBetween 1 = .ok (.iload_n 2, 1) := by decide +kernel
theorem dX10_doubtBetween_2 : decode cX10_doubtBetween 2 = .ok (.if_icmp .ne 5, 3) := by decide +kernel
theorem dX10_doubtBetween_5 : decode cX10_doubtBetween 5 = .ok (.iconst 0, 1) := by decide +kernel
theorem dX10_doubtBetween_6 : decode cX10_doubtBetween 6 = .ok (.ireturn, 1) := by decide +kernel
theorem dX10_doubtBetween_7 : decode cX10_doubtBetween 7 = .ok (.aload_n 0, 1) := by decide +kernel
theorem dX10_doubtBetween_8 : decode cX10_doubtBetween 8 = .ok (.getfield 64, 3) := by decide +kernel
theorem dX10_doubtBetween_11 : decode cX10_doubtBetween 11 = .ok (.iload_n 1, 1) := by decide +kernel
theorem dX10_doubtBetween_12 : decode cX10_doubtBetween 12 = .ok (.iaload, 1) := by decide +kernel
theorem dX10_doubtBetween_13 : decode cX10_doubtBetween 13 = .ok (.aload_n 0, 1) := by decide +kernel
theorem dX10_doubtBetween_14 : decode cX10_doubtBetween 14 = .ok (.getfield 64, 3) := by decide +kernel
theorem dX10_doubtBetween_17 : decode cX10_doubtBetween 17 = .ok (.iload_n 2, 1) := by decide +kernel
theorem dX10_doubtBetween_18 : decode cX10_doubtBetween 18 = .ok (.iaload, 1) := by decide +kernel
theorem dX10_doubtBetween_19 : decode cX10_doubtBetween 19 = .ok (.if_icmp .ge 19, 3) := by decide +kernel
theorem dX10_doubtBetween_22 : decode cX10_doubtBetween 22 = .ok (.aload_n 0, 1) := by decide +kernel
theorem dX10_doubtBetween_23 : decode cX10_doubtBetween 23 = .ok (.getfield 64, 3) := by decide +kernel
theorem dX10_doubtBetween_26 : decode cX10_doubtBetween 26 = .ok (.iload_n 2, 1) := by decide +kernel
theorem dX10_doubtBetween_27 : decode cX10_doubtBetween 27 = .ok (.iaload, 1) := by decide +kernel
theorem dX10_doubtBetween_28 : decode cX10_doubtBetween 28 = .ok (.aload_n 0, 1) := by decide +kernel
theorem dX10_doubtBetween_29 : decode cX10_doubtBetween 29 = .ok (.getfield 64, 3) := by decide +kernel
theorem dX10_doubtBetween_32 : decode cX10_doubtBetween 32 = .ok (.iload_n 1, 1) := by decide +kernel
theorem dX10_doubtBetween_33 : decode cX10_doubtBetween 33 = .ok (.iaload, 1) := by decide +kernel
theorem dX10_doubtBetween_34 : decode cX10_doubtBetween 34 = .ok (.isub, 1) := by decide +kernel
theorem dX10_doubtBetween_35 : decode cX10_doubtBetween 35 = .ok (.goto 16, 3) := by decide +kernel
theorem dX10_doubtBetween_38 : decode cX10_doubtBetween 38 = .ok (.aload_n 0, 1) := by decide +kernel
theorem dX10_doubtBetween_39 : decode cX10_doubtBetween 39 = .ok (.getfield 64, 3) := by decide +kernel
theorem dX10_doubtBetween_42 : decode cX10_doubtBetween 42 = .ok (.iload_n 1, 1) := by decide +kernel
theorem dX10_doubtBetween_43 : decode cX10_doubtBetween 43 = .ok (.iaload, 1) := by decide +kernel
theorem dX10_doubtBetween_44 : decode cX10_doubtBetween 44 = .ok (.aload_n 0, 1) := by decide +kernel
theorem dX10_doubtBetween_45 : decode cX10_doubtBetween 45 = .ok (.getfield 64, 3) := by decide +kernel
theorem dX10_doubtBetween_48 : decode cX10_doubtBetween 48 = .ok (.iload_n 2, 1) := by decide +kernel
theorem dX10_doubtBetween_49 : decode cX10_doubtBetween 49 = .ok (.iaload, 1) := by decide +kernel
theorem dX10_doubtBetween_50 : decode cX10_doubtBetween 50 = .ok (.isub, 1) := by decide +kernel
theorem dX10_doubtBetween_51 : decode cX10_doubtBetween 51 = .ok (.istore_n 3, 1) := by decide +kernel
theorem dX10_doubtBetween_52 : decode cX10_doubtBetween 52 = .ok (.iload_n 3, 1) := by decide +kernel
theorem dX10_doubtBetween_53 : decode cX10_doubtBetween 53 = .ok (.aload_n 0, 1) := by decide +kernel
theorem dX10_doubtBetween_54 : decode cX10_doubtBetween 54 = .ok (.getfield 43, 3) := by decide +kernel
theorem dX10_doubtBetween_57 : decode cX10_doubtBetween 57 = .ok (.iconst 2, 1) := by decide +kernel
theorem dX10_doubtBetween_58 : decode cX10_doubtBetween 58 = .ok (.iaload, 1) := by decide +kernel
theorem dX10_doubtBetween_59 : decode cX10_doubtBetween 59 = .ok (.iadd, 1) := by decide +kernel
theorem dX10_doubtBetween_60 : decode cX10_doubtBetween 60 = .ok (.aload_n 0, 1) := by decide +kernel
theorem dX10_doubtBetween_61 : decode cX10_doubtBetween 61 = .ok (.getfield 43, 3) := by decide +kernel
theorem dX10_doubtBetween_64 : decode cX10_doubtBetween 64 = .ok (.iconst 0, 1) := by decide +kernel
theorem dX10_doubtBetween_65 : decode cX10_doubtBetween 65 = .ok (.iaload, 1) := by decide +kernel
theorem dX10_doubtBetween_66 : decode cX10_doubtBetween 66 = .ok (.idiv, 1) := by decide +kernel
theorem dX10_doubtBetween_67 : decode cX10_doubtBetween 67 = .ok (.iload_n 3, 1) := by decide +kernel
theorem dX10_doubtBetween_68 : decode cX10_doubtBetween 68 = .ok (.aload_n 0, 1) := by decide +kernel
theorem dX10_doubtBetween_69 : decode cX10_doubtBetween 69 = .ok (.getfield 43, 3) := by decide +kernel
theorem dX10_doubtBetween_72 : decode cX10_doubtBetween 72 = .ok (.iconst 1, 1) := by decide +kernel
theorem dX10_doubtBetween_73 : decode cX10_doubtBetween 73 = .ok (.iaload, 1) := by decide +kernel
theorem dX10_doubtBetween_74 : decode cX10_doubtBetween 74 = .ok (.aload_n 0, 1) := by decide +kernel
theorem dX10_doubtBetween_75 : decode cX10_doubtBetween 75 = .ok (.getfield 43, 3) := by decide +kernel
theorem dX10_doubtBetween_78 : decode cX10_doubtBetween 78 = .ok (.iconst 2, 1) := by decide +kernel
theorem dX10_doubtBetween_79 : decode cX10_doubtBetween 79 = .ok (.iaload, 1) := by decide +kernel
theorem dX10_doubtBetween_80 : decode cX10_doubtBetween 80 = .ok (.invokestatic 209, 3) := by decide +kernel
theorem dX10_doubtBetween_83 : decode cX10_doubtBetween 83 = .ok (.isub, 1) := by decide +kernel
theorem dX10_doubtBetween_84 : decode cX10_doubtBetween 84 = .ok (.istore 4, 2) := by decide +kernel
theorem dX10_doubtBetween_86 : decode cX10_doubtBetween 86 = .ok (.iload 4, 2) := by decide +kernel
theorem dX10_doubtBetween_88 : decode cX10_doubtBetween 88 = .ok (.ifCond .ge 7, 3) := by decide +kernel
theorem dX10_doubtBetween_91 : decode cX10_doubtBetween 91 = .ok (.iconst 0, 1) := by decide +kernel
theorem dX10_doubtBetween_92 : decode cX10_doubtBetween 92 = .ok (.goto 5, 3) := by decide +kernel
theorem dX10_doubtBetween_95 : decode cX10_doubtBetween 95 = .ok (.iload 4, 2) := by decide +kernel
theorem dX10_doubtBetween_97 : decode cX10_doubtBetween 97 = .ok (.ireturn, 1) := by decide +kernel
theorem dX10_doubtBy_0 : decode cX10_doubtBy 0 = .ok (.aload_n 0, 1) := by decide +kernel
theorem dX10_doubtBy_1 : decode cX10_doubtBy 1 = .ok (.getfield 213, 3) := by decide +kernel
theorem dX10_doubtBy_4 : decode cX10_doubtBy 4 = .ok (.ifCond .eq 17, 3) := by decide +kernel
theorem dX10_doubtBy_7 : decode cX10_doubtBy 7 = .ok (.iload_n 1, 1) := by decide +kernel
theorem dX10_doubtBy_8 : decode cX10_doubtBy 8 = .ok (.ifCond .le 16, 3) := by decide +kernel
theorem dX10_doubtBy_11 : decode cX10_doubtBy 11 = .ok (.aload_n 0, 1) := by decide +kernel
theorem dX10_doubtBy_12 : decode cX10_doubtBy 12 = .ok (.getfield 213, 3) := by decide +kernel
theorem dX10_doubtBy_15 : decode cX10_doubtBy 15 = .ok (.iconst 2, 1) := by decide +kernel
theorem dX10_doubtBy_16 : decode cX10_doubtBy 16 = .ok (.isub, 1) := by decide +kernel
theorem dX10_doubtBy_17 : decode cX10_doubtBy 17 = .ok (.iload_n 1, 1) := by decide +kernel
theorem dX10_doubtBy_18 : decode cX10_doubtBy 18 = .ok (.if_icmp .ge 6, 3) := by decide +kernel
theorem dX10_doubtBy_21 : decode cX10_doubtBy 21 = .ok (.bipush (-3), 2) := by decide +kernel
theorem dX10_doubtBy_23 : decode cX10_doubtBy 23 = .ok (.ireturn, 1) := by decide +kernel
theorem dX10_doubtBy_24 : decode cX10_doubtBy 24 = .ok (.iconst 0, 1) := by decide +kernel
theorem dX10_doubtBy_25 : decode cX10_doubtBy 25 = .ok (.istore_n 2, 1) := by decide +kernel
theorem dX10_doubtBy_26 : decode cX10_doubtBy 26 = .ok (.iload_n 2, 1) := by decide +kernel
theorem dX10_doubtBy_27 : decode cX10_doubtBy 27 = .ok (.iload_n 1, 1) := by decide +kernel
theorem dX10_doubtBy_28 : decode cX10_doubtBy 28 = .ok (.if_icmp .ge 18, 3) := by decide +kernel
theorem dX10_doubtBy_31 : decode cX10_doubtBy 31 = .ok (.aload_n 0, 1) := by decide +kernel
theorem dX10_doubtBy_32 : decode cX10_doubtBy 32 = .ok (.getfield 67, 3) := by decide +kernel
theorem dX10_doubtBy_35 : decode cX10_doubtBy 35 = .ok (.iload_n 2, 1) := by decide +kernel
theorem dX10_doubtBy_36 : decode cX10_doubtBy 36 = .ok (.iload_n 2, 1) := by decide +kernel
theorem dX10_doubtBy_37 : decode cX10_doubtBy 37 = .ok (.iconst 1, 1) := by decide +kernel
theorem dX10_doubtBy_38 : decode cX10_doubtBy 38 = .ok (.iadd, 1) := by decide +kernel
theorem dX10_doubtBy_39 : decode cX10_doubtBy 39 = .ok (.iastore, 1) := by decide +kernel
theorem dX10_doubtBy_40 : decode cX10_doubtBy 40 = .ok (.iinc 2 1, 3) := by decide +kernel
theorem dX10_doubtBy_43 : decode cX10_doubtBy 43 = .ok (.goto (-17), 3) := by decide +kernel
theorem dX10_doubtBy_46 : decode cX10_doubtBy 46 = .ok (.iconst (-1), 1) := by decide +kernel
theorem dX10_doubtBy_47 : decode cX10_doubtBy 47 = .ok (.istore_n 2, 1) := by decide +kernel
theorem dX10_doubtBy_48 : decode cX10_doubtBy 48 = .ok (.iconst 1, 1) := by decide +kernel
theorem dX10_doubtBy_49 : decode cX10_doubtBy 49 = .ok (.istore_n 3, 1) := by decide +kernel
theorem dX10_doubtBy_50 : decode cX10_doubtBy 50 = .ok (.iload_n 3, 1) := by decide +kernel
theorem dX10_doubtBy_51 : decode cX10_doubtBy 51 = .ok (.ifCond .eq 213, 3) := by decide +kernel
theorem dX10_doubtBy_54 : decode cX10_doubtBy 54 = .ok (.iconst 0, 1) := by decide +kernel
theorem dX10_doubtBy_55 : decode cX10_doubtBy 55 = .ok (.istore 4, 2) := by decide +kernel
theorem dX10_doubtBy_57 : decode cX10_doubtBy 57 = .ok (.iconst 0, 1) := by decide +kernel
theorem dX10_doubtBy_58 : decode cX10_doubtBy 58 = .ok (.istore 5, 2) := by decide +kernel
theorem dX10_doubtBy_60 : decode cX10_doubtBy 60 = .ok (.iconst 0, 1) := by decide +kernel
theorem dX10_doubtBy_61 : decode cX10_doubtBy 61 = .ok (.istore 6, 2) := by decide +kernel
theorem dX10_doubtBy_63 : decode cX10_doubtBy 63 = .ok (.iload 6, 2) := by decide +kernel
theorem dX10_doubtBy_65 : decode cX10_doubtBy 65 = .ok (.iload_n 1, 1) := by decide +kernel
theorem dX10_doubtBy_66 : decode cX10_doubtBy 66 = .ok (.if_icmp .ge 36, 3) := by decide +kernel
theorem dX10_doubtBy_69 : decode cX10_doubtBy 69 = .ok (.iload 4, 2) := by decide +kernel
theorem dX10_doubtBy_71 : decode cX10_doubtBy 71 = .ok (.aload_n 0, 1) := by decide +kernel
theorem dX10_doubtBy_72 : decode cX10_doubtBy 72 = .ok (.iload 5, 2) := by decide +kernel
theorem dX10_doubtBy_74 : decode cX10_doubtBy 74 = .ok (.aload_n 0, 1) := by decide +kernel
theorem dX10_doubtBy_75 : decode cX10_doubtBy 75 = .ok (.getfield 67, 3) := by decide +kernel
theorem dX10_doubtBy_78 : decode cX10_doubtBy 78 = .ok (.iload 6, 2) := by decide +kernel
theorem dX10_doubtBy_80 : decode cX10_doubtBy 80 = .ok (.iaload, 1) := by decide +kernel
theorem dX10_doubtBy_81 : decode cX10_doubtBy 81 = .ok (.invokevirtual 216, 3) := by decide +kernel
theorem dX10_doubtBy_84 : decode cX10_doubtBy 84 = .ok (.iadd, 1) := by decide +kernel
theorem dX10_doubtBy_85 : decode cX10_doubtBy 85 = .ok (.istore 4, 2) := by decide +kernel
theorem dX10_doubtBy_87 : decode cX10_doubtBy 87 = .ok (.aload_n 0, 1) := by decide +kernel
theorem dX10_doubtBy_88 : decode cX10_doubtBy 88 = .ok (.getfield 67, 3) := by decide +kernel
theorem dX10_doubtBy_91 : decode cX10_doubtBy 91 = .ok (.iload 6, 2) := by decide +kernel
theorem dX10_doubtBy_93 : decode cX10_doubtBy 93 = .ok (.iaload, 1) := by decide +kernel
theorem dX10_doubtBy_94 : decode cX10_doubtBy 94 = .ok (.istore 5, 2) := by decide +kernel
theorem dX10_doubtBy_96 : decode cX10_doubtBy 96 = .ok (.iinc 6 1, 3) := by decide +kernel
theorem dX10_doubtBy_99 : decode cX10_doubtBy 99 = .ok (.goto (-36), 3) := by decide +kernel
theorem dX10_doubtBy_102 : decode cX10_doubtBy 102 = .ok (.iload 4, 2) := by decide +kernel
theorem dX10_doubtBy_104 : decode cX10_doubtBy 104 = .ok (.aload_n 0, 1) := by decide +kernel
theorem dX10_doubtBy_105 : decode cX10_doubtBy 105 = .ok (.iload 5, 2) := by decide +kernel
theorem dX10_doubtBy_107 : decode cX10_doubtBy 107 = .ok (.aload_n 0, 1) := by decide +kernel
theorem dX10_doubtBy_108 : decode cX10_doubtBy 108 = .ok (.getfield 213, 3) := by decide +kernel
theorem dX10_doubtBy_111 : decode cX10_doubtBy 111 = .ok (.iconst 1, 1) := by decide +kernel
theorem dX10_doubtBy_112 : decode cX10_doubtBy 112 = .ok (.isub, 1) := by decide +kernel
theorem dX10_doubtBy_113 : decode cX10_doubtBy 113 = .ok (.invokevirtual 216, 3) := by decide +kernel
theorem dX10_doubtBy_116 : decode cX10_doubtBy 116 = .ok (.iadd, 1) := by decide +kernel
theorem dX10_doubtBy_117 : decode cX10_doubtBy 117 = .ok (.istore 4, 2) := by decide +kernel
theorem dX10_doubtBy_119 : decode cX10_doubtBy 119 = .ok (.iload_n 2, 1) := by decide +kernel
theorem dX10_doubtBy_120 : decode cX10_doubtBy 120 = .ok (.iconst (-1), 1) := by decide +kernel
theorem dX10_doubtBy_121 : decode cX10_doubtBy 121 = .ok (.if_icmp .eq 9, 3) := by decide +kernel
theorem dX10_doubtBy_124 : decode cX10_doubtBy 124 = .ok (.iload 4, 2) := by decide +kernel
theorem dX10_doubtBy_126 : decode cX10_doubtBy 126 = .ok (.iload_n 2, 1) := by decide +kernel
theorem dX10_doubtBy_127 : decode cX10_doubtBy 127 = .ok (.if_icmp .ge 35, 3) := by decide +kernel
theorem dX10_doubtBy_130 : decode cX10_doubtBy 130 = .ok (.iload 4, 2) := by decide +kernel
theorem dX10_doubtBy_132 : decode cX10_doubtBy 132 = .ok (.istore_n 2, 1) := by decide +kernel
theorem dX10_doubtBy_133 : decode cX10_doubtBy 133 = .ok (.iconst 0, 1) := by decide +kernel
theorem dX10_doubtBy_134 : decode cX10_doubtBy 134 = .ok (.istore 6, 2) := by decide +kernel
theorem dX10_doubtBy_136 : decode cX10_doubtBy 136 = .ok (.iload 6, 2) := by decide +kernel
theorem dX10_doubtBy_138 : decode cX10_doubtBy 138 = .ok (.iload_n 1, 1) := by decide +kernel
theorem dX10_doubtBy_139 : decode cX10_doubtBy 139 = .ok (.if_icmp .ge 23, 3) := by decide +kernel
theorem dX10_doubtBy_142 : decode cX10_doubtBy 142 = .ok (.aload_n 0, 1) := by decide +kernel
theorem dX10_doubtBy_143 : decode cX10_doubtBy 143 = .ok (.getfield 70, 3) := by decide +kernel
theorem dX10_doubtBy_146 : decode cX10_doubtBy 146 = .ok (.iload 6, 2) := by decide +kernel
theorem dX10_doubtBy_148 : decode cX10_doubtBy 148 = .ok (.aload_n 0, 1) := by decide +kernel
theorem dX10_doubtBy_149 : decode cX10_doubtBy 149 = .ok (.getfield 67, 3) := by decide +kernel
theorem dX10_doubtBy_152 : decode cX10_doubtBy 152 = .ok (.iload 6, 2) := by decide +kernel
theorem dX10_doubtBy_154 : decode cX10_doubtBy 154 = .ok (.iaload, 1) := by decide +kernel
theorem dX10_doubtBy_155 : decode cX10_doubtBy 155 = .ok (.iastore, 1) := by decide +kernel
theorem dX10_doubtBy_156 : decode cX10_doubtBy 156 = .ok (.iinc 6 1, 3) := by decide +kernel
theorem dX10_doubtBy_159 : decode cX10_doubtBy 159 = .ok (.goto (-23), 3) := by decide +kernel
theorem dX10_doubtBy_162 : decode cX10_doubtBy 162 = .ok (.iload_n 1, 1) := by decide +kernel
theorem dX10_doubtBy_163 : decode cX10_doubtBy 163 = .ok (.iconst 1, 1) := by decide +kernel
theorem dX10_doubtBy_164 : decode cX10_doubtBy 164 = .ok (.isub, 1) := by decide +kernel
theorem dX10_doubtBy_165 : decode cX10_doubtBy 165 = .ok (.istore 6, 2) := by decide +kernel
theorem dX10_doubtBy_167 : decode cX10_doubtBy 167 = .ok (.iload 6, 2) := by decide +kernel
theorem dX10_doubtBy_169 : decode cX10_doubtBy 169 = .ok (.ifCond .lt 30, 3) := by decide +kernel
theorem dX10_doubtBy_172 : decode cX10_doubtBy 172 = .ok (.aload_n 0, 1) := by decide +kernel
theorem dX10_doubtBy_173 : decode cX10_doubtBy 173 = .ok (.getfield 67, 3) := by decide +kernel
theorem dX10_doubtBy_176 : decode cX10_doubtBy 176 = .ok (.iload 6, 2) := by decide +kernel
theorem dX10_doubtBy_178 : decode cX10_doubtBy 178 = .ok (.iaload, 1) := by decide +kernel
theorem dX10_doubtBy_179 : decode cX10_doubtBy 179 = .ok (.aload_n 0, 1) := by decide +kernel
theorem dX10_doubtBy_180 : decode cX10_doubtBy 180 = .ok (.getfield 213, 3) := by decide +kernel
theorem dX10_doubtBy_183 : decode cX10_doubtBy 183 = .ok (.iconst 1, 1) := by decide +kernel
theorem dX10_doubtBy_184 : decode cX10_doubtBy 184 = .ok (.isub, 1) := by decide +kernel
theorem dX10_doubtBy_185 : decode cX10_doubtBy 185 = .ok (.iload_n 1, 1) := by decide +kernel
theorem dX10_doubtBy_186 : decode cX10_doubtBy 186 = .ok (.isub, 1) := by decide +kernel
theorem dX10_doubtBy_187 : decode cX10_doubtBy 187 = .ok (.iload 6, 2) := by decide +kernel
theorem dX10_doubtBy_189 : decode cX10_doubtBy 189 = .ok (.iadd, 1) := by decide +kernel
theorem dX10_doubtBy_190 : decode cX10_doubtBy 190 = .ok (.if_icmp .ne 9, 3) := by decide +kernel
theorem dX10_doubtBy_193 : decode cX10_doubtBy 193 = .ok (.iinc 6 (-1), 3) := by decide +kernel
theorem dX10_doubtBy_196 : decode cX10_doubtBy 196 = .ok (.goto (-29), 3) := by decide +kernel
theorem dX10_doubtBy_199 : decode cX10_doubtBy 199 = .ok (.iload 6, 2) := by decide +kernel
theorem dX10_doubtBy_201 : decode cX10_doubtBy 201 = .ok (.ifCond .lt 7, 3) := by decide +kernel
theorem dX10_doubtBy_204 : decode cX10_doubtBy 204 = .ok (.iconst 1, 1) := by decide +kernel
theorem dX10_doubtBy_205 : decode cX10_doubtBy 205 = .ok (.goto 4, 3) := by decide +kernel
theorem dX10_doubtBy_208 : decode cX10_doubtBy 208 = .ok (.iconst 0, 1) := by decide +kernel
theorem dX10_doubtBy_209 : decode cX10_doubtBy 209 = .ok (.istore_n 3, 1) := by decide +kernel
theorem dX10_doubtBy_210 : decode cX10_doubtBy 210 = .ok (.iload_n 3, 1) := by decide +kernel
theorem dX10_doubtBy_211 : decode cX10_doubtBy 211 = .ok (.ifCond .eq 50, 3) := by decide +kernel
theorem dX10_doubtBy_214 : decode cX10_doubtBy 214 = .ok (.aload_n 0, 1) := by decide +kernel
theorem dX10_doubtBy_215 : decode cX10_doubtBy 215 = .ok (.getfield 67, 3) := by decide +kernel
theorem dX10_doubtBy_218 : decode cX10_doubtBy 218 = .ok (.iload 6, 2) := by decide +kernel
theorem dX10_doubtBy_220 : decode cX10_doubtBy 220 = .ok (.dup2, 1) := by decide +kernel
theorem dX10_doubtBy_221 : decode cX10_doubtBy 221 = .ok (.iaload, 1) := by decide +kernel
theorem dX10_doubtBy_222 : decode cX10_doubtBy 222 = .ok (.iconst 1, 1) := by decide +kernel
theorem dX10_doubtBy_223 : decode cX10_doubtBy 223 = .ok (.iadd, 1) := by decide +kernel
theorem dX10_doubtBy_224 : decode cX10_doubtBy 224 = .ok (.iastore, 1) := by decide +kernel
theorem dX10_doubtBy_225 : decode cX10_doubtBy 225 = .ok (.iload 6, 2) := by decide +kernel
theorem dX10_doubtBy_227 : decode cX10_doubtBy 227 = .ok (.iconst 1, 1) := by decide +kernel
theorem dX10_doubtBy_228 : decode cX10_doubtBy 228 = .ok (.iadd, 1) := by decide +kernel
theorem dX10_doubtBy_229 : decode cX10_doubtBy 229 = .ok (.istore 7, 2) := by decide +kernel
theorem dX10_doubtBy_231 : decode cX10_doubtBy 231 = .ok (.iload 7, 2) := by decide +kernel
theorem dX10_doubtBy_233 : decode cX10_doubtBy 233 = .ok (.iload_n 1, 1) := by decide +kernel
theorem dX10_doubtBy_234 : decode cX10_doubtBy 234 = .ok (.if_icmp .ge 27, 3) := by decide +kernel
theorem dX10_doubtBy_237 : decode cX10_doubtBy 237 = .ok (.aload_n 0, 1) := by decide +kernel
theorem dX10_doubtBy_238 : decode cX10_doubtBy 238 = .ok (.getfield 67, 3) := by decide +kernel
theorem dX10_doubtBy_241 : decode cX10_doubtBy 241 = .ok (.iload 7, 2) := by decide +kernel
theorem dX10_doubtBy_243 : decode cX10_doubtBy 243 = .ok (.aload_n 0, 1) := by decide +kernel
theorem dX10_doubtBy_244 : decode cX10_doubtBy 244 = .ok (.getfield 67, 3) := by decide +kernel
theorem dX10_doubtBy_247 : decode cX10_doubtBy 247 = .ok (.iload 7, 2) := by decide +kernel
theorem dX10_doubtBy_249 : decode cX10_doubtBy 249 = .ok (.iconst 1, 1) := by decide +kernel
theorem dX10_doubtBy_250 : decode cX10_doubtBy 250 = .ok (.isub, 1) := by decide +kernel
theorem dX10_doubtBy_251 : decode cX10_doubtBy 251 = .ok (.iaload, 1) := by decide +kernel
theorem dX10_doubtBy_252 : decode cX10_doubtBy 252 = .ok (.iconst 1, 1) := by decide +kernel
theorem dX10_doubtBy_253 : decode cX10_doubtBy 253 = .ok (.iadd, 1) := by decide +kernel
theorem dX10_doubtBy_254 : decode cX10_doubtBy 254 = .ok (.iastore, 1) := by decide +kernel
theorem dX10_doubtBy_255 : decode cX10_doubtBy 255 = .ok (.iinc 7 1, 3) := by decide +kernel
theorem dX10_doubtBy_258 : decode cX10_doubtBy 258 = .ok (.goto (-27), 3) := by decide +kernel
theorem dX10_doubtBy_261 : decode cX10_doubtBy 261 = .ok (.goto (-211), 3) := by decide +kernel
theorem dX10_doubtBy_264 : decode cX10_doubtBy 264 = .ok (.iload_n 2, 1) := by decide +kernel
theorem dX10_doubtBy_265 : decode cX10_doubtBy 265 = .ok (.ireturn, 1) := by decide +kernel
theorem dX10_doubtOf_0 : decode cX10_doubtOf 0 = .ok (.aload_n 0, 1) := by decide +kernel
theorem dX10_doubtOf_1 : decode cX10_doubtOf 1 = .ok (.invokevirtual 219, 3) := by decide +kernel
theorem dX10_doubtOf_4 : decode cX10_doubtOf 4 = .ok (.aload_n 0, 1) := by decide +kernel
theorem dX10_doubtOf_5 : decode cX10_doubtOf 5 = .ok (.iload_n 1, 1) := by decide +kernel
theorem dX10_doubtOf_6 : decode cX10_doubtOf 6 = .ok (.invokevirtual 222, 3) := by decide +kernel
theorem dX10_doubtOf_9 : decode cX10_doubtOf 9 = .ok (.istore_n 3, 1) := by decide +kernel
theorem dX10_doubtOf_10 : decode cX10_doubtOf 10 = .ok (.iload_n 3, 1) := by decide +kernel
theorem dX10_doubtOf_11 : decode cX10_doubtOf 11 = .ok (.bipush (-3), 2) := by decide +kernel
theorem dX10_doubtOf_13 : decode cX10_doubtOf 13 = .ok (.if_icmp .eq 8, 3) := by decide +kernel
theorem dX10_doubtOf_16 : decode cX10_doubtOf 16 = .ok (.iload_n 2, 1) := by decide +kernel
theorem dX10_doubtOf_17 : decode cX10_doubtOf 17 = .ok (.iconst (-1), 1) := by decide +kernel
theorem dX10_doubtOf_18 : decode cX10_doubtOf 18 = .ok (.if_icmp .ne 7, 3) := by decide +kernel
theorem dX10_doubtOf_21 : decode cX10_doubtOf 21 = .ok (.iload_n 3, 1) := by decide +kernel
theorem dX10_doubtOf_22 : decode cX10_doubtOf 22 = .ok (.goto 14, 3) := by decide +kernel
theorem dX10_doubtOf_25 : decode cX10_doubtOf 25 = .ok (.aload_n 0, 1) := by decide +kernel
theorem dX10_doubtOf_26 : decode cX10_doubtOf 26 = .ok (.getfield 61, 3) := by decide +kernel
theorem dX10_doubtOf_29 : decode cX10_doubtOf 29 = .ok (.aload_n 0, 1) := by decide +kernel
theorem dX10_doubtOf_30 : decode cX10_doubtOf 30 = .ok (.getfield 70, 3) := by decide +kernel
theorem dX10_doubtOf_33 : decode cX10_doubtOf 33 = .ok (.iload_n 2, 1) := by decide +kernel
theorem dX10_doubtOf_34 : decode cX10_doubtOf 34 = .ok (.iaload, 1) := by decide +kernel
theorem dX10_doubtOf_35 : decode cX10_doubtOf 35 = .ok (.iaload, 1) := by decide +kernel
theorem dX10_doubtOf_36 : decode cX10_doubtOf 36 = .ok (.ireturn, 1) := by decide +kernel
theorem dX10_doubt_0 : decode cX10_doubt 0 = .ok (.iload_n 1, 1) := by decide +kernel
theorem dX10_doubt_1 : decode cX10_doubt 1 = .ok (.iconst 0, 1) := by decide +kernel
theorem dX10_doubt_2 : decode cX10_doubt 2 = .ok (.iconst 5, 1) := by decide +kernel
theorem dX10_doubt_3 : decode cX10_doubt 3 = .ok (.invokestatic 104, 3) := by decide +kernel
theorem dX10_doubt_6 : decode cX10_doubt 6 = .ok (.ifCond .eq 23, 3) := by decide +kernel
theorem dX10_doubt_9 : decode cX10_doubt 9 = .ok (.iload_n 2, 1) := by decide +kernel
theorem dX10_doubt_10 : decode cX10_doubt 10 = .ok (.iconst (-1), 1) := by decide +kernel
theorem dX10_doubt_11 : decode cX10_doubt 11 = .ok (.iload_n 1, 1) := by decide +kernel
theorem dX10_doubt_12 : decode cX10_doubt 12 = .ok (.iconst 1, 1) := by decide +kernel
theorem dX10_doubt_13 : decode cX10_doubt 13 = .ok (.isub, 1) := by decide +kernel
theorem dX10_doubt_14 : decode cX10_doubt 14 = .ok (.invokestatic 104, 3) := by decide +kernel
theorem dX10_doubt_17 : decode cX10_doubt 17 = .ok (.ifCond .eq 12, 3) := by decide +kernel
theorem dX10_doubt_20 : decode cX10_doubt 20 = .ok (.aload_n 0, 1) := by decide +kernel
theorem dX10_doubt_21 : decode cX10_doubt 21 = .ok (.iload_n 1, 1) := by decide +kernel
theorem dX10_doubt_22 : decode cX10_doubt 22 = .ok (.iload_n 2, 1) := by decide +kernel
theorem dX10_doubt_23 : decode cX10_doubt 23 = .ok (.invokevirtual 225, 3) := by decide +kernel
theorem dX10_doubt_26 : decode cX10_doubt 26 = .ok (.goto 5, 3) := by decide +kernel
theorem dX10_doubt_29 : decode cX10_doubt 29 = .ok (.bipush (-2), 2) := by decide +kernel
theorem dX10_doubt_31 : decode cX10_doubt 31 = .ok (.ireturn, 1) := by decide +kernel
theorem dX10_postsOf_0 : decode cX10_postsOf 0 = .ok (.aload_n 0, 1) := by decide +kernel
theorem dX10_postsOf_1 : decode cX10_postsOf 1 = .ok (.invokevirtual 219, 3) := by decide +kernel
theorem dX10_postsOf_4 : decode cX10_postsOf 4 = .ok (.aload_n 0, 1) := by decide +kernel
theorem dX10_postsOf_5 : decode cX10_postsOf 5 = .ok (.getfield 213, 3) := by decide +kernel
theorem dX10_postsOf_8 : decode cX10_postsOf 8 = .ok (.ifCond .ne 6, 3) := by decide +kernel
theorem dX10_postsOf_11 : decode cX10_postsOf 11 = .ok (.bipush (-3), 2) := by decide +kernel
theorem dX10_postsOf_13 : decode cX10_postsOf 13 = .ok (.ireturn, 1) := by decide +kernel
theorem dX10_postsOf_14 : decode cX10_postsOf 14 = .ok (.iconst 0, 1) := by decide +kernel
theorem dX10_postsOf_15 : decode cX10_postsOf 15 = .ok (.istore_n 2, 1) := by decide +kernel
theorem dX10_postsOf_16 : decode cX10_postsOf 16 = .ok (.iload_n 2, 1) := by decide +kernel
theorem dX10_postsOf_17 : decode cX10_postsOf 17 = .ok (.bipush 6, 2) := by decide +kernel
theorem dX10_postsOf_19 : decode cX10_postsOf 19 = .ok (.if_icmp .ge 28, 3) := by decide +kernel
theorem dX10_postsOf_22 : decode cX10_postsOf 22 = .ok (.aload_n 0, 1) := by decide +kernel
theorem dX10_postsOf_23 : decode cX10_postsOf 23 = .ok (.iload_n 2, 1) := by decide +kernel
theorem dX10_postsOf_24 : decode cX10_postsOf 24 = .ok (.invokevirtual 222, 3) := by decide +kernel
theorem dX10_postsOf_27 : decode cX10_postsOf 27 = .ok (.istore_n 3, 1) := by decide +kernel
theorem dX10_postsOf_28 : decode cX10_postsOf 28 = .ok (.iload_n 3, 1) := by decide +kernel
theorem dX10_postsOf_29 : decode cX10_postsOf 29 = .ok (.bipush (-3), 2) := by decide +kernel
theorem dX10_postsOf_31 : decode cX10_postsOf 31 = .ok (.if_icmp .eq 10, 3) := by decide +kernel
theorem dX10_postsOf_34 : decode cX10_postsOf 34 = .ok (.iload_n 3, 1) := by decide +kernel
theorem dX10_postsOf_35 : decode cX10_postsOf 35 = .ok (.iload_n 1, 1) := by decide +kernel
theorem dX10_postsOf_36 : decode cX10_postsOf 36 = .ok (.if_icmp .gt 5, 3) := by decide +kernel
theorem dX10_postsOf_39 : decode cX10_postsOf 39 = .ok (.iload_n 2, 1) := by decide +kernel
theorem dX10_postsOf_40 : decode cX10_postsOf 40 = .ok (.ireturn, 1) := by decide +kernel
theorem dX10_postsOf_41 : decode cX10_postsOf 41 = .ok (.iinc 2 1, 3) := by decide +kernel
theorem dX10_postsOf_44 : decode cX10_postsOf 44 = .ok (.goto (-28), 3) := by decide +kernel
theorem dX10_postsOf_47 : decode cX10_postsOf 47 = .ok (.iconst (-1), 1) := by decide +kernel
theorem dX10_postsOf_48 : decode cX10_postsOf 48 = .ok (.ireturn, 1) := by decide +kernel
theorem dX10_posts_0 : decode cX10_posts 0 = .ok (.iload_n 1, 1) := by decide +kernel
theorem dX10_posts_1 : decode cX10_posts 1 = .ok (.iconst 0, 1) := by decide +kernel
theorem dX10_posts_2 : decode cX10_posts 2 = .ok (.sipush 9999, 3) := by decide +kernel
theorem dX10_posts_5 : decode cX10_posts 5 = .ok (.invokestatic 104, 3) := by decide +kernel
theorem dX10_posts_8 : decode cX10_posts 8 = .ok (.ifCond .eq 11, 3) := by decide +kernel
theorem dX10_posts_11 : decode cX10_posts 11 = .ok (.aload_n 0, 1) := by decide +kernel
theorem dX10_posts_12 : decode cX10_posts 12 = .ok (.iload_n 1, 1) := by decide +kernel
theorem dX10_posts_13 : decode cX10_posts 13 = .ok (.invokevirtual 228, 3) := by decide +kernel
theorem dX10_posts_16 : decode cX10_posts 16 = .ok (.goto 5, 3) := by decide +kernel
theorem dX10_posts_19 : decode cX10_posts 19 = .ok (.bipush (-2), 2) := by decide +kernel
theorem dX10_posts_21 : decode cX10_posts 21 = .ok (.ireturn, 1) := by decide +kernel
theorem dX10_heardMore_0 : decode cX10_heardMore 0 = .ok (.iload_n 1, 1) := by decide +kernel
theorem dX10_heardMore_1 : decode cX10_heardMore 1 = .ok (.iconst 0, 1) := by decide +kernel
theorem dX10_heardMore_2 : decode cX10_heardMore 2 = .ok (.bipush 19, 2) := by decide +kernel
theorem dX10_heardMore_4 : decode cX10_heardMore 4 = .ok (.invokestatic 104, 3) := by decide +kernel
theorem dX10_heardMore_7 : decode cX10_heardMore 7 = .ok (.ifCond .eq 14, 3) := by decide +kernel
theorem dX10_heardMore_10 : decode cX10_heardMore 10 = .ok (.iload_n 2, 1) := by decide +kernel
theorem dX10_heardMore_11 : decode cX10_heardMore 11 = .ok (.iconst (-1), 1) := by decide +kernel
theorem dX10_heardMore_12 : decode cX10_heardMore 12 = .ok (.sipush 400, 3) := by decide +kernel
theorem dX10_heardMore_15 : decode cX10_heardMore 15 = .ok (.invokestatic 104, 3) := by decide +kernel
theorem dX10_heardMore_18 : decode cX10_heardMore 18 = .ok (.ifCond .ne 6, 3) := by decide +kernel
theorem dX10_heardMore_21 : decode cX10_heardMore 21 = .ok (.bipush (-2), 2) := by decide +kernel
theorem dX10_heardMore_23 : decode cX10_heardMore 23 = .ok (.ireturn, 1) := by decide +kernel
theorem dX10_heardMore_24 : decode cX10_heardMore 24 = .ok (.aload_n 0, 1) := by decide +kernel
theorem dX10_heardMore_25 : decode cX10_heardMore 25 = .ok (.getfield 231, 3) := by decide +kernel
theorem dX10_heardMore_28 : decode cX10_heardMore 28 = .ok (.bipush 12, 2) := by decide +kernel
theorem dX10_heardMore_30 : decode cX10_heardMore 30 = .ok (.if_icmp .ne 6, 3) := by decide +kernel
theorem dX10_heardMore_33 : decode cX10_heardMore 33 = .ok (.bipush (-4), 2) := by decide +kernel
theorem dX10_heardMore_35 : decode cX10_heardMore 35 = .ok (.ireturn, 1) := by decide +kernel
theorem dX10_heardMore_36 : decode cX10_heardMore 36 = .ok (.aload_n 0, 1) := by decide +kernel
theorem dX10_heardMore_37 : decode cX10_heardMore 37 = .ok (.getfield 73, 3) := by decide +kernel
theorem dX10_heardMore_40 : decode cX10_heardMore 40 = .ok (.aload_n 0, 1) := by decide +kernel
theorem dX10_heardMore_41 : decode cX10_heardMore 41 = .ok (.getfield 231, 3) := by decide +kernel
theorem dX10_heardMore_44 : decode cX10_heardMore 44 = .ok (.iload_n 1, 1) := by decide +kernel
theorem dX10_heardMore_45 : decode cX10_heardMore 45 = .ok (.iastore, 1) := by decide +kernel
theorem dX10_heardMore_46 : decode cX10_heardMore 46 = .ok (.aload_n 0, 1) := by decide +kernel
theorem dX10_heardMore_47 : decode cX10_heardMore 47 = .ok (.getfield 76, 3) := by decide +kernel
theorem dX10_heardMore_50 : decode cX10_heardMore 50 = .ok (.aload_n 0, 1) := by decide +kernel
theorem dX10_heardMore_51 : decode cX10_heardMore 51 = .ok (.getfield 231, 3) := by decide +kernel
theorem dX10_heardMore_54 : decode cX10_heardMore 54 = .ok (.iload_n 2, 1) := by decide +kernel
theorem dX10_heardMore_55 : decode cX10_heardMore 55 = .ok (.iastore, 1) := by decide +kernel
theorem dX10_heardMore_56 : decode cX10_heardMore 56 = .ok (.aload_n 0, 1) := by decide +kernel
theorem dX10_heardMore_57 : decode cX10_heardMore 57 = .ok (.dup, 1) := by decide +kernel
theorem dX10_heardMore_58 : decode cX10_heardMore 58 = .ok (.getfield 231, 3) := by decide +kernel
theorem dX10_heardMore_61 : decode cX10_heardMore 61 = .ok (.iconst 1, 1) := by decide +kernel
theorem dX10_heardMore_62 : decode cX10_heardMore 62 = .ok (.iadd, 1) := by decide +kernel
theorem dX10_heardMore_63 : decode cX10_heardMore 63 = .ok (.putfield 231, 3) := by decide +kernel
theorem dX10_heardMore_66 : decode cX10_heardMore 66 = .ok (.aload_n 0, 1) := by decide +kernel
theorem dX10_heardMore_67 : decode cX10_heardMore 67 = .ok (.getfield 231, 3) := by decide +kernel
theorem dX10_heardMore_70 : decode cX10_heardMore 70 = .ok (.ireturn, 1) := by decide +kernel
theorem dX10_heard_0 : decode cX10_heard 0 = .ok (.aload_n 0, 1) := by decide +kernel
theorem dX10_heard_1 : decode cX10_heard 1 = .ok (.iload_n 1, 1) := by decide +kernel
theorem dX10_heard_2 : decode cX10_heard 2 = .ok (.iload_n 2, 1) := by decide +kernel
theorem dX10_heard_3 : decode cX10_heard 3 = .ok (.invokevirtual 234, 3) := by decide +kernel
theorem dX10_heard_6 : decode cX10_heard 6 = .ok (.ireturn, 1) := by decide +kernel
theorem dX10_read_0 : decode cX10_read 0 = .ok (.iload_n 1, 1) := by decide +kernel
theorem dX10_read_1 : decode cX10_read 1 = .ok (.invokestatic 237, 3) := by decide +kernel
theorem dX10_read_4 : decode cX10_read 4 = .ok (.ifCond .ne 6, 3) := by decide +kernel
theorem dX10_read_7 : decode cX10_read 7 = .ok (.bipush (-2), 2) := by decide +kernel
theorem dX10_read_9 : decode cX10_read 9 = .ok (.ireturn, 1) := by decide +kernel
theorem dX10_read_10 : decode cX10_read 10 = .ok (.aload_n 0, 1) := by decide +kernel
theorem dX10_read_11 : decode cX10_read 11 = .ok (.getfield 88, 3) := by decide +kernel
theorem dX10_read_14 : decode cX10_read 14 = .ok (.iload_n 1, 1) := by decide +kernel
theorem dX10_read_15 : decode cX10_read 15 = .ok (.baload, 1) := by decide +kernel
theorem dX10_read_16 : decode cX10_read 16 = .ok (.ifCond .ne 9, 3) := by decide +kernel
theorem dX10_read_19 : decode cX10_read 19 = .ok (.aload_n 0, 1) := by decide +kernel
theorem dX10_read_20 : decode cX10_read 20 = .ok (.iconst 1, 1) := by decide +kernel
theorem dX10_read_21 : decode cX10_read 21 = .ok (.invokevirtual 240, 3) := by decide +kernel
theorem dX10_read_24 : decode cX10_read 24 = .ok (.ireturn, 1) := by decide +kernel
theorem dX10_read_25 : decode cX10_read 25 = .ok (.iconst 0, 1) := by decide +kernel
theorem dX10_read_26 : decode cX10_read 26 = .ok (.istore_n 2, 1) := by decide +kernel
theorem dX10_read_27 : decode cX10_read 27 = .ok (.iconst 2, 1) := by decide +kernel
theorem dX10_read_28 : decode cX10_read 28 = .ok (.iload_n 2, 1) := by decide +kernel
theorem dX10_read_29 : decode cX10_read 29 = .ok (.imul, 1) := by decide +kernel
theorem dX10_read_30 : decode cX10_read 30 = .ok (.iconst 1, 1) := by decide +kernel
theorem dX10_read_31 : decode cX10_read 31 = .ok (.iadd, 1) := by decide +kernel
theorem dX10_read_32 : decode cX10_read 32 = .ok (.aload_n 0, 1) := by decide +kernel
theorem dX10_read_33 : decode cX10_read 33 = .ok (.getfield 95, 3) := by decide +kernel
theorem dX10_read_36 : decode cX10_read 36 = .ok (.iload_n 1, 1) := by decide +kernel
theorem dX10_read_37 : decode cX10_read 37 = .ok (.iaload, 1) := by decide +kernel
theorem dX10_read_38 : decode cX10_read 38 = .ok (.if_icmp .ge 44, 3) := by decide +kernel
theorem dX10_read_41 : decode cX10_read 41 = .ok (.aload_n 0, 1) := by decide +kernel
theorem dX10_read_42 : decode cX10_read 42 = .ok (.aload_n 0, 1) := by decide +kernel
theorem dX10_read_43 : decode cX10_read 43 = .ok (.getfield 98, 3) := by decide +kernel
theorem dX10_read_46 : decode cX10_read 46 = .ok (.bipush 60, 2) := by decide +kernel
theorem dX10_read_48 : decode cX10_read 48 = .ok (.iload_n 1, 1) := by decide +kernel
theorem dX10_read_49 : decode cX10_read 49 = .ok (.imul, 1) := by decide +kernel
theorem dX10_read_50 : decode cX10_read 50 = .ok (.iconst 2, 1) := by decide +kernel
theorem dX10_read_51 : decode cX10_read 51 = .ok (.iload_n 2, 1) := by decide +kernel
theorem dX10_read_52 : decode cX10_read 52 = .ok (.imul, 1) := by decide +kernel
theorem dX10_read_53 : decode cX10_read 53 = .ok (.iadd, 1) := by decide +kernel
theorem dX10_read_54 : decode cX10_read 54 = .ok (.iaload, 1) := by decide +kernel
theorem dX10_read_55 : decode cX10_read 55 = .ok (.aload_n 0, 1) := by decide +kernel
theorem dX10_read_56 : decode cX10_read 56 = .ok (.getfield 98, 3) := by decide +kernel
theorem dX10_read_59 : decode cX10_read 59 = .ok (.bipush 60, 2) := by decide +kernel
theorem dX10_read_61 : decode cX10_read 61 = .ok (.iload_n 1, 1) := by decide +kernel
theorem dX10_read_62 : decode cX10_read 62 = .ok (.imul, 1) := by decide +kernel
theorem dX10_read_63 : decode cX10_read 63 = .ok (.iconst 2, 1) := by decide +kernel
theorem dX10_read_64 : decode cX10_read 64 = .ok (.iload_n 2, 1) := by decide +kernel
theorem dX10_read_65 : decode cX10_read 65 = .ok (.imul, 1) := by decide +kernel
theorem dX10_read_66 : decode cX10_read 66 = .ok (.iadd, 1) := by decide +kernel
theorem dX10_read_67 : decode cX10_read 67 = .ok (.iconst 1, 1) := by decide +kernel
theorem dX10_read_68 : decode cX10_read 68 = .ok (.iadd, 1) := by decide +kernel
theorem dX10_read_69 : decode cX10_read 69 = .ok (.iaload, 1) := by decide +kernel
theorem dX10_read_70 : decode cX10_read 70 = .ok (.invokevirtual 234, 3) := by decide +kernel
theorem dX10_read_73 : decode cX10_read 73 = .ok (.ifCond .le 9, 3) := by decide +kernel
theorem dX10_read_76 : decode cX10_read 76 = .ok (.iinc 2 1, 3) := by decide +kernel
theorem dX10_read_79 : decode cX10_read 79 = .ok (.goto (-52), 3) := by decide +kernel
theorem dX10_read_82 : decode cX10_read 82 = .ok (.iload_n 2, 1) := by decide +kernel
theorem dX10_read_83 : decode cX10_read 83 = .ok (.ireturn, 1) := by decide +kernel
theorem dX10_forget_0 : decode cX10_forget 0 = .ok (.aload_n 0, 1) := by decide +kernel
theorem dX10_forget_1 : decode cX10_forget 1 = .ok (.getfield 231, 3) := by decide +kernel
theorem dX10_forget_4 : decode cX10_forget 4 = .ok (.istore_n 1, 1) := by decide +kernel
theorem dX10_forget_5 : decode cX10_forget 5 = .ok (.aload_n 0, 1) := by decide +kernel
theorem dX10_forget_6 : decode cX10_forget 6 = .ok (.iconst 0, 1) := by decide +kernel
theorem dX10_forget_7 : decode cX10_forget 7 = .ok (.putfield 231, 3) := by decide +kernel
theorem dX10_forget_10 : decode cX10_forget 10 = .ok (.iload_n 1, 1) := by decide +kernel
theorem dX10_forget_11 : decode cX10_forget 11 = .ok (.ireturn, 1) := by decide +kernel
theorem dX10_unlikeBy_0 : decode cX10_unlikeBy 0 = .ok (.iconst 0, 1) := by decide +kernel
theorem dX10_unlikeBy_1 : decode cX10_unlikeBy 1 = .ok (.istore_n 1, 1) := by decide +kernel
theorem dX10_unlikeBy_2 : decode cX10_unlikeBy 2 = .ok (.iconst 0, 1) := by decide +kernel
theorem dX10_unlikeBy_3 : decode cX10_unlikeBy 3 = .ok (.istore_n 2, 1) := by decide +kernel
theorem dX10_unlikeBy_4 : decode cX10_unlikeBy 4 = .ok (.iload_n 2, 1) := by decide +kernel
theorem dX10_unlikeBy_5 : decode cX10_unlikeBy 5 = .ok (.aload_n 0, 1) := by decide +kernel
theorem dX10_unlikeBy_6 : decode cX10_unlikeBy 6 = .ok (.getfield 231, 3) := by decide +kernel
theorem dX10_unlikeBy_9 : decode cX10_unlikeBy 9 = .ok (.if_icmp .ge 56, 3) := by decide +kernel
theorem dX10_unlikeBy_12 : decode cX10_unlikeBy 12 = .ok (.aload_n 0, 1) := by decide +kernel
theorem dX10_unlikeBy_13 : decode cX10_unlikeBy 13 = .ok (.getfield 73, 3) := by decide +kernel
theorem dX10_unlikeBy_16 : decode cX10_unlikeBy 16 = .ok (.iload_n 2, 1) := by decide +kernel
theorem dX10_unlikeBy_17 : decode cX10_unlikeBy 17 = .ok (.iaload, 1) := by decide +kernel
theorem dX10_unlikeBy_18 : decode cX10_unlikeBy 18 = .ok (.aload_n 0, 1) := by decide +kernel
theorem dX10_unlikeBy_19 : decode cX10_unlikeBy 19 = .ok (.getfield 112, 3) := by decide +kernel
theorem dX10_unlikeBy_22 : decode cX10_unlikeBy 22 = .ok (.if_icmp .ge 17, 3) := by decide +kernel
theorem dX10_unlikeBy_25 : decode cX10_unlikeBy 25 = .ok (.aload_n 0, 1) := by decide +kernel
theorem dX10_unlikeBy_26 : decode cX10_unlikeBy 26 = .ok (.aload_n 0, 1) := by decide +kernel
theorem dX10_unlikeBy_27 : decode cX10_unlikeBy 27 = .ok (.getfield 73, 3) := by decide +kernel
theorem dX10_unlikeBy_30 : decode cX10_unlikeBy 30 = .ok (.iload_n 2, 1) := by decide +kernel
theorem dX10_unlikeBy_31 : decode cX10_unlikeBy 31 = .ok (.iaload, 1) := by decide +kernel
theorem dX10_unlikeBy_32 : decode cX10_unlikeBy 32 = .ok (.iconst 0, 1) := by decide +kernel
theorem dX10_unlikeBy_33 : decode cX10_unlikeBy 33 = .ok (.invokevirtual 164, 3) := by decide +kernel
theorem dX10_unlikeBy_36 : decode cX10_unlikeBy 36 = .ok (.goto 4, 3) := by decide +kernel
theorem dX10_unlikeBy_39 : decode cX10_unlikeBy 39 = .ok (.iconst (-1), 1) := by decide +kernel
theorem dX10_unlikeBy_40 : decode cX10_unlikeBy 40 = .ok (.istore_n 3, 1) := by decide +kernel
theorem dX10_unlikeBy_41 : decode cX10_unlikeBy 41 = .ok (.iload_n 1, 1) := by decide +kernel
theorem dX10_unlikeBy_42 : decode cX10_unlikeBy 42 = .ok (.iload_n 3, 1) := by decide +kernel
theorem dX10_unlikeBy_43 : decode cX10_unlikeBy 43 = .ok (.aload_n 0, 1) := by decide +kernel
theorem dX10_unlikeBy_44 : decode cX10_unlikeBy 44 = .ok (.getfield 76, 3) := by decide +kernel
theorem dX10_unlikeBy_47 : decode cX10_unlikeBy 47 = .ok (.iload_n 2, 1) := by decide +kernel
theorem dX10_unlikeBy_48 : decode cX10_unlikeBy 48 = .ok (.iaload, 1) := by decide +kernel
theorem dX10_unlikeBy_49 : decode cX10_unlikeBy 49 = .ok (.if_icmp .ne 7, 3) := by decide +kernel
theorem dX10_unlikeBy_52 : decode cX10_unlikeBy 52 = .ok (.iconst 0, 1) := by decide +kernel
theorem dX10_unlikeBy_53 : decode cX10_unlikeBy 53 = .ok (.goto 4, 3) := by decide +kernel
theorem dX10_unlikeBy_56 : decode cX10_unlikeBy 56 = .ok (.iconst 1, 1) := by decide +kernel
theorem dX10_unlikeBy_57 : decode cX10_unlikeBy 57 = .ok (.iadd, 1) := by decide +kernel
theorem dX10_unlikeBy_58 : decode cX10_unlikeBy 58 = .ok (.istore_n 1, 1) := by decide +kernel
theorem dX10_unlikeBy_59 : decode cX10_unlikeBy 59 = .ok (.iinc 2 1, 3) := by decide +kernel
theorem dX10_unlikeBy_62 : decode cX10_unlikeBy 62 = .ok (.goto (-58), 3) := by decide +kernel
theorem dX10_unlikeBy_65 : decode cX10_unlikeBy 65 = .ok (.iload_n 1, 1) := by decide +kernel
theorem dX10_unlikeBy_66 : decode cX10_unlikeBy 66 = .ok (.ireturn, 1) := by decide +kernel
theorem dX10_unlikeNow_0 : decode cX10_unlikeNow 0 = .ok (.aload_n 0, 1) := by decide +kernel
theorem dX10_unlikeNow_1 : decode cX10_unlikeNow 1 = .ok (.invokevirtual 161, 3) := by decide +kernel
theorem dX10_unlikeNow_4 : decode cX10_unlikeNow 4 = .ok (.aload_n 0, 1) := by decide +kernel
theorem dX10_unlikeNow_5 : decode cX10_unlikeNow 5 = .ok (.invokevirtual 243, 3) := by decide +kernel
theorem dX10_unlikeNow_8 : decode cX10_unlikeNow 8 = .ok (.ireturn, 1) := by decide +kernel
theorem dX10_unlike_0 : decode cX10_unlike 0 = .ok (.aload_n 0, 1) := by decide +kernel
theorem dX10_unlike_1 : decode cX10_unlike 1 = .ok (.invokevirtual 246, 3) := by decide +kernel
theorem dX10_unlike_4 : decode cX10_unlike 4 = .ok (.ireturn, 1) := by decide +kernel
theorem dX10_asleepOf_0 : decode cX10_asleepOf 0 = .ok (.iload_n 1, 1) := by decide +kernel
theorem dX10_asleepOf_1 : decode cX10_asleepOf 1 = .ok (.iconst 1, 1) := by decide +kernel
theorem dX10_asleepOf_2 : decode cX10_asleepOf 2 = .ok (.if_icmp .ne 16, 3) := by decide +kernel
theorem dX10_asleepOf_5 : decode cX10_asleepOf 5 = .ok (.aload_n 0, 1) := by decide +kernel
theorem dX10_asleepOf_6 : decode cX10_asleepOf 6 = .ok (.invokevirtual 246, 3) := by decide +kernel
theorem dX10_asleepOf_9 : decode cX10_asleepOf 9 = .ok (.ifCond .ne 7, 3) := by decide +kernel
theorem dX10_asleepOf_12 : decode cX10_asleepOf 12 = .ok (.iconst 1, 1) := by decide +kernel
theorem dX10_asleepOf_13 : decode cX10_asleepOf 13 = .ok (.goto 4, 3) := by decide +kernel
theorem dX10_asleepOf_16 : decode cX10_asleepOf 16 = .ok (.iconst 0, 1) := by decide +kernel
theorem dX10_asleepOf_17 : decode cX10_asleepOf 17 = .ok (.ireturn, 1) := by decide +kernel
theorem dX10_asleepOf_18 : decode cX10_asleepOf 18 = .ok (.aload_n 0, 1) := by decide +kernel
theorem dX10_asleepOf_19 : decode cX10_asleepOf 19 = .ok (.invokevirtual 130, 3) := by decide +kernel
theorem dX10_asleepOf_22 : decode cX10_asleepOf 22 = .ok (.istore_n 2, 1) := by decide +kernel
theorem dX10_asleepOf_23 : decode cX10_asleepOf 23 = .ok (.iconst 0, 1) := by decide +kernel
theorem dX10_asleepOf_24 : decode cX10_asleepOf 24 = .ok (.istore_n 3, 1) := by decide +kernel
theorem dX10_asleepOf_25 : decode cX10_asleepOf 25 = .ok (.iconst 0, 1) := by decide +kernel
theorem dX10_asleepOf_26 : decode cX10_asleepOf 26 = .ok (.istore 4, 2) := by decide +kernel
theorem dX10_asleepOf_28 : decode cX10_asleepOf 28 = .ok (.iload 4, 2) := by decide +kernel
theorem dX10_asleepOf_30 : decode cX10_asleepOf 30 = .ok (.aload_n 0, 1) := by decide +kernel
theorem dX10_asleepOf_31 : decode cX10_asleepOf 31 = .ok (.getfield 112, 3) := by decide +kernel
theorem dX10_asleepOf_34 : decode cX10_asleepOf 34 = .ok (.if_icmp .ge 51, 3) := by decide +kernel
theorem dX10_asleepOf_37 : decode cX10_asleepOf 37 = .ok (.aload_n 0, 1) := by decide +kernel
theorem dX10_asleepOf_38 : decode cX10_asleepOf 38 = .ok (.aload_n 0, 1) := by decide +kernel
theorem dX10_asleepOf_39 : decode cX10_asleepOf 39 = .ok (.getfield 40, 3) := by decide +kernel
theorem dX10_asleepOf_42 : decode cX10_asleepOf 42 = .ok (.iconst 0, 1) := by decide +kernel
theorem dX10_asleepOf_43 : decode cX10_asleepOf 43 = .ok (.iaload, 1) := by decide +kernel
theorem dX10_asleepOf_44 : decode cX10_asleepOf 44 = .ok (.aload_n 0, 1) := by decide +kernel
theorem dX10_asleepOf_45 : decode cX10_asleepOf 45 = .ok (.getfield 40, 3) := by decide +kernel
theorem dX10_asleepOf_48 : decode cX10_asleepOf 48 = .ok (.iconst 1, 1) := by decide +kernel
theorem dX10_asleepOf_49 : decode cX10_asleepOf 49 = .ok (.iaload, 1) := by decide +kernel
theorem dX10_asleepOf_50 : decode cX10_asleepOf 50 = .ok (.aload_n 0, 1) := by decide +kernel
theorem dX10_asleepOf_51 : decode cX10_asleepOf 51 = .ok (.getfield 40, 3) := by decide +kernel
theorem dX10_asleepOf_54 : decode cX10_asleepOf 54 = .ok (.iconst 2, 1) := by decide +kernel
theorem dX10_asleepOf_55 : decode cX10_asleepOf 55 = .ok (.iaload, 1) := by decide +kernel
theorem dX10_asleepOf_56 : decode cX10_asleepOf 56 = .ok (.iload 4, 2) := by decide +kernel
theorem dX10_asleepOf_58 : decode cX10_asleepOf 58 = .ok (.invokevirtual 155, 3) := by decide +kernel
theorem dX10_asleepOf_61 : decode cX10_asleepOf 61 = .ok (.iload_n 3, 1) := by decide +kernel
theorem dX10_asleepOf_62 : decode cX10_asleepOf 62 = .ok (.aload_n 0, 1) := by decide +kernel
theorem dX10_asleepOf_63 : decode cX10_asleepOf 63 = .ok (.invokevirtual 243, 3) := by decide +kernel
theorem dX10_asleepOf_66 : decode cX10_asleepOf 66 = .ok (.ifCond .ne 10, 3) := by decide +kernel
theorem dX10_asleepOf_69 : decode cX10_asleepOf 69 = .ok (.iconst 1, 1) := by decide +kernel
theorem dX10_asleepOf_70 : decode cX10_asleepOf 70 = .ok (.iload 4, 2) := by decide +kernel
theorem dX10_asleepOf_72 : decode cX10_asleepOf 72 = .ok (.ishl, 1) := by decide +kernel
theorem dX10_asleepOf_73 : decode cX10_asleepOf 73 = .ok (.goto 4, 3) := by decide +kernel
theorem dX10_asleepOf_76 : decode cX10_asleepOf 76 = .ok (.iconst 0, 1) := by decide +kernel
theorem dX10_asleepOf_77 : decode cX10_asleepOf 77 = .ok (.ior, 1) := by decide +kernel
theorem dX10_asleepOf_78 : decode cX10_asleepOf 78 = .ok (.istore_n 3, 1) := by decide +kernel
theorem dX10_asleepOf_79 : decode cX10_asleepOf 79 = .ok (.iinc 4 1, 3) := by decide +kernel
theorem dX10_asleepOf_82 : decode cX10_asleepOf 82 = .ok (.goto (-54), 3) := by decide +kernel
theorem dX10_asleepOf_85 : decode cX10_asleepOf 85 = .ok (.iload_n 3, 1) := by decide +kernel
theorem dX10_asleepOf_86 : decode cX10_asleepOf 86 = .ok (.ireturn, 1) := by decide +kernel
theorem dX10_asleep_0 : decode cX10_asleep 0 = .ok (.iload_n 1, 1) := by decide +kernel
theorem dX10_asleep_1 : decode cX10_asleep 1 = .ok (.iconst 0, 1) := by decide +kernel
theorem dX10_asleep_2 : decode cX10_asleep 2 = .ok (.iconst 1, 1) := by decide +kernel
theorem dX10_asleep_3 : decode cX10_asleep 3 = .ok (.invokestatic 104, 3) := by decide +kernel
theorem dX10_asleep_6 : decode cX10_asleep 6 = .ok (.ifCond .eq 11, 3) := by decide +kernel
theorem dX10_asleep_9 : decode cX10_asleep 9 = .ok (.aload_n 0, 1) := by decide +kernel
theorem dX10_asleep_10 : decode cX10_asleep 10 = .ok (.iload_n 1, 1) := by decide +kernel
theorem dX10_asleep_11 : decode cX10_asleep 11 = .ok (.invokevirtual 249, 3) := by decide +kernel
theorem dX10_asleep_14 : decode cX10_asleep 14 = .ok (.goto 5, 3) := by decide +kernel
theorem dX10_asleep_17 : decode cX10_asleep 17 = .ok (.bipush (-2), 2) := by decide +kernel
theorem dX10_asleep_19 : decode cX10_asleep 19 = .ok (.ireturn, 1) := by decide +kernel
theorem dX10_census_0 : decode cX10_census 0 = .ok (.iload_n 1, 1) := by decide +kernel
theorem dX10_census_1 : decode cX10_census 1 = .ok (.iconst 0, 1) := by decide +kernel
theorem dX10_census_2 : decode cX10_census 2 = .ok (.bipush 99, 2) := by decide +kernel
theorem dX10_census_4 : decode cX10_census 4 = .ok (.invokestatic 104, 3) := by decide +kernel
theorem dX10_census_7 : decode cX10_census 7 = .ok (.ifCond .eq 14, 3) := by decide +kernel
theorem dX10_census_10 : decode cX10_census 10 = .ok (.iload_n 2, 1) := by decide +kernel
theorem dX10_census_11 : decode cX10_census 11 = .ok (.iconst 0, 1) := by decide +kernel
theorem dX10_census_12 : decode cX10_census 12 = .ok (.sipush 9999, 3) := by decide +kernel
theorem dX10_census_15 : decode cX10_census 15 = .ok (.invokestatic 104, 3) := by decide +kernel
theorem dX10_census_18 : decode cX10_census 18 = .ok (.ifCond .ne 6, 3) := by decide +kernel
theorem dX10_census_21 : decode cX10_census 21 = .ok (.bipush (-2), 2) := by decide +kernel
theorem dX10_census_23 : decode cX10_census 23 = .ok (.ireturn, 1) := by decide +kernel
theorem dX10_census_24 : decode cX10_census 24 = .ok (.aload_n 0, 1) := by decide +kernel
theorem dX10_census_25 : decode cX10_census 25 = .ok (.getfield 252, 3) := by decide +kernel
theorem dX10_census_28 : decode cX10_census 28 = .ok (.bipush 8, 2) := by decide +kernel
theorem dX10_census_30 : decode cX10_census 30 = .ok (.if_icmp .ne 6, 3) := by decide +kernel
theorem dX10_census_33 : decode cX10_census 33 = .ok (.bipush (-4), 2) := by decide +kernel
theorem dX10_census_35 : decode cX10_census 35 = .ok (.ireturn, 1) := by decide +kernel
theorem dX10_census_36 : decode cX10_census 36 = .ok (.aload_n 0, 1) := by decide +kernel
theorem dX10_census_37 : decode cX10_census 37 = .ok (.getfield 79, 3) := by decide +kernel
theorem dX10_census_40 : decode cX10_census 40 = .ok (.aload_n 0, 1) := by decide +kernel
theorem dX10_census_41 : decode cX10_census 41 = .ok (.getfield 252, 3) := by decide +kernel
theorem dX10_census_44 : decode cX10_census 44 = .ok (.iload_n 1, 1) := by decide +kernel
theorem dX10_census_45 : decode cX10_census 45 = .ok (.iastore, 1) := by decide +kernel
theorem dX10_census_46 : decode cX10_census 46 = .ok (.aload_n 0, 1) := by decide +kernel
theorem dX10_census_47 : decode cX10_census 47 = .ok (.getfield 82, 3) := by decide +kernel
theorem dX10_census_50 : decode cX10_census 50 = .ok (.aload_n 0, 1) := by decide +kernel
theorem dX10_census_51 : decode cX10_census 51 = .ok (.getfield 252, 3) := by decide +kernel
theorem dX10_census_54 : decode cX10_census 54 = .ok (.iload_n 2, 1) := by decide +kernel
theorem dX10_census_55 : decode cX10_census 55 = .ok (.iastore, 1) := by decide +kernel
theorem dX10_census_56 : decode cX10_census 56 = .ok (.aload_n 0, 1) := by decide +kernel
theorem dX10_census_57 : decode cX10_census 57 = .ok (.dup, 1) := by decide +kernel
theorem dX10_census_58 : decode cX10_census 58 = .ok (.getfield 252, 3) := by decide +kernel
theorem dX10_census_61 : decode cX10_census 61 = .ok (.iconst 1, 1) := by decide +kernel
theorem dX10_census_62 : decode cX10_census 62 = .ok (.iadd, 1) := by decide +kernel
theorem dX10_census_63 : decode cX10_census 63 = .ok (.putfield 252, 3) := by decide +kernel
theorem dX10_census_66 : decode cX10_census 66 = .ok (.aload_n 0, 1) := by decide +kernel
theorem dX10_census_67 : decode cX10_census 67 = .ok (.getfield 252, 3) := by decide +kernel
theorem dX10_census_70 : decode cX10_census 70 = .ok (.iconst 1, 1) := by decide +kernel
theorem dX10_census_71 : decode cX10_census 71 = .ok (.isub, 1) := by decide +kernel
theorem dX10_census_72 : decode cX10_census 72 = .ok (.ireturn, 1) := by decide +kernel
theorem dX10_births_0 : decode cX10_births 0 = .ok (.iload_n 1, 1) := by decide +kernel
theorem dX10_births_1 : decode cX10_births 1 = .ok (.iconst 0, 1) := by decide +kernel
theorem dX10_births_2 : decode cX10_births 2 = .ok (.bipush 99, 2) := by decide +kernel
theorem dX10_births_4 : decode cX10_births 4 = .ok (.invokestatic 104, 3) := by decide +kernel
theorem dX10_births_7 : decode cX10_births 7 = .ok (.ifCond .eq 14, 3) := by decide +kernel
theorem dX10_births_10 : decode cX10_births 10 = .ok (.iload_n 2, 1) := by decide +kernel
theorem dX10_births_11 : decode cX10_births 11 = .ok (.iconst 0, 1) := by decide +kernel
theorem dX10_births_12 : decode cX10_births 12 = .ok (.sipush 999, 3) := by decide +kernel
theorem dX10_births_15 : decode cX10_births 15 = .ok (.invokestatic 104, 3) := by decide +kernel
theorem dX10_births_18 : decode cX10_births 18 = .ok (.ifCond .ne 6, 3) := by decide +kernel
theorem dX10_births_21 : decode cX10_births 21 = .ok (.bipush (-2), 2) := by decide +kernel
theorem dX10_births_23 : decode cX10_births 23 = .ok (.ireturn, 1) := by decide +kernel
theorem dX10_births_24 : decode cX10_births 24 = .ok (.aload_n 0, 1) := by decide +kernel
theorem dX10_births_25 : decode cX10_births 25 = .ok (.getfield 85, 3) := by decide +kernel
theorem dX10_births_28 : decode cX10_births 28 = .ok (.iload_n 1, 1) := by decide +kernel
theorem dX10_births_29 : decode cX10_births 29 = .ok (.iaload, 1) := by decide +kernel
theorem dX10_births_30 : decode cX10_births 30 = .ok (.istore_n 3, 1) := by decide +kernel
theorem dX10_births_31 : decode cX10_births 31 = .ok (.aload_n 0, 1) := by decide +kernel
theorem dX10_births_32 : decode cX10_births 32 = .ok (.getfield 85, 3) := by decide +kernel
theorem dX10_births_35 : decode cX10_births 35 = .ok (.iload_n 1, 1) := by decide +kernel
theorem dX10_births_36 : decode cX10_births 36 = .ok (.iload_n 2, 1) := by decide +kernel
theorem dX10_births_37 : decode cX10_births 37 = .ok (.iastore, 1) := by decide +kernel
theorem dX10_births_38 : decode cX10_births 38 = .ok (.iload_n 3, 1) := by decide +kernel
theorem dX10_births_39 : decode cX10_births 39 = .ok (.ireturn, 1) := by decide +kernel
theorem dX10_isCannot_0 : decode cX10_isCannot 0 = .ok (.aload_n 0, 1) := by decide +kernel
theorem dX10_isCannot_1 : decode cX10_isCannot 1 = .ok (.getfield 79, 3) := by decide +kernel
theorem dX10_isCannot_4 : decode cX10_isCannot 4 = .ok (.iload_n 1, 1) := by decide +kernel
theorem dX10_isCannot_5 : decode cX10_isCannot 5 = .ok (.iaload, 1) := by decide +kernel
theorem dX10_isCannot_6 : decode cX10_isCannot 6 = .ok (.aload_n 0, 1) := by decide +kernel
theorem dX10_isCannot_7 : decode cX10_isCannot 7 = .ok (.getfield 79, 3) := by decide +kernel
theorem dX10_isCannot_10 : decode cX10_isCannot 10 = .ok (.iload_n 2, 1) := by decide +kernel
theorem dX10_isCannot_11 : decode cX10_isCannot 11 = .ok (.iaload, 1) := by decide +kernel
theorem dX10_isCannot_12 : decode cX10_isCannot 12 = .ok (.if_icmp .gt 7, 3) := by decide +kernel
theorem dX10_isCannot_15 : decode cX10_isCannot 15 = .ok (.iload_n 1, 1) := by decide +kernel
theorem dX10_isCannot_16 : decode cX10_isCannot 16 = .ok (.goto 4, 3) := by decide +kernel
theorem dX10_isCannot_19 : decode cX10_isCannot 19 = .ok (.iload_n 2, 1) := by decide +kernel
theorem dX10_isCannot_20 : decode cX10_isCannot 20 = .ok (.istore_n 3, 1) := by decide +kernel
theorem dX10_isCannot_21 : decode cX10_isCannot 21 = .ok (.iload_n 3, 1) := by decide +kernel
theorem dX10_isCannot_22 : decode cX10_isCannot 22 = .ok (.iload_n 1, 1) := by decide +kernel
theorem dX10_isCannot_23 : decode cX10_isCannot 23 = .ok (.if_icmp .ne 7, 3) := by decide +kernel
theorem dX10_isCannot_26 : decode cX10_isCannot 26 = .ok (.iload_n 2, 1) := by decide +kernel
theorem dX10_isCannot_27 : decode cX10_isCannot 27 = .ok (.goto 4, 3) := by decide +kernel
theorem dX10_isCannot_30 : decode cX10_isCannot 30 = .ok (.iload_n 1, 1) := by decide +kernel
theorem dX10_isCannot_31 : decode cX10_isCannot 31 = .ok (.istore 4, 2) := by decide +kernel
theorem dX10_isCannot_33 : decode cX10_isCannot 33 = .ok (.aload_n 0, 1) := by decide +kernel
theorem dX10_isCannot_34 : decode cX10_isCannot 34 = .ok (.getfield 82, 3) := by decide +kernel
theorem dX10_isCannot_37 : decode cX10_isCannot 37 = .ok (.iload_n 3, 1) := by decide +kernel
theorem dX10_isCannot_38 : decode cX10_isCannot 38 = .ok (.iaload, 1) := by decide +kernel
theorem dX10_isCannot_39 : decode cX10_isCannot 39 = .ok (.istore 5, 2) := by decide +kernel
theorem dX10_isCannot_41 : decode cX10_isCannot 41 = .ok (.aload_n 0, 1) := by decide +kernel
theorem dX10_isCannot_42 : decode cX10_isCannot 42 = .ok (.getfield 79, 3) := by decide +kernel
theorem dX10_isCannot_45 : decode cX10_isCannot 45 = .ok (.iload_n 3, 1) := by decide +kernel
theorem dX10_isCannot_46 : decode cX10_isCannot 46 = .ok (.iaload, 1) := by decide +kernel
theorem dX10_isCannot_47 : decode cX10_isCannot 47 = .ok (.istore 6, 2) := by decide +kernel
