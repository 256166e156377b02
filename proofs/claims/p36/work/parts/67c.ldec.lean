/-! the law's instructions -/
theorem dL_suits_0 : decode cL_suits 0 = .ok (.iload_n 2, 1) := by decide +kernel
theorem dL_suits_1 : decode cL_suits 1 = .ok (.aload 13, 2) := by decide +kernel
theorem dL_suits_3 : decode cL_suits 3 = .ok (.iconst 4, 1) := by decide +kernel
theorem dL_suits_4 : decode cL_suits 4 = .ok (.iaload, 1) := by decide +kernel
theorem dL_suits_5 : decode cL_suits 5 = .ok (.invokestatic 89, 3) := by decide +kernel
theorem dL_suits_8 : decode cL_suits 8 = .ok (.istore 14, 2) := by decide +kernel
theorem dL_suits_10 : decode cL_suits 10 = .ok (.aload 9, 2) := by decide +kernel
theorem dL_suits_12 : decode cL_suits 12 = .ok (.bipush 8, 2) := by decide +kernel
theorem dL_suits_14 : decode cL_suits 14 = .ok (.iload 14, 2) := by decide +kernel
theorem dL_suits_16 : decode cL_suits 16 = .ok (.imul, 1) := by decide +kernel
theorem dL_suits_17 : decode cL_suits 17 = .ok (.iconst 3, 1) := by decide +kernel
theorem dL_suits_18 : decode cL_suits 18 = .ok (.iadd, 1) := by decide +kernel
theorem dL_suits_19 : decode cL_suits 19 = .ok (.iaload, 1) := by decide +kernel
theorem dL_suits_20 : decode cL_suits 20 = .ok (.istore 15, 2) := by decide +kernel
theorem dL_suits_22 : decode cL_suits 22 = .ok (.aload 13, 2) := by decide +kernel
theorem dL_suits_24 : decode cL_suits 24 = .ok (.iconst 0, 1) := by decide +kernel
theorem dL_suits_25 : decode cL_suits 25 = .ok (.iaload, 1) := by decide +kernel
theorem dL_suits_26 : decode cL_suits 26 = .ok (.aload 9, 2) := by decide +kernel
theorem dL_suits_28 : decode cL_suits 28 = .ok (.bipush 8, 2) := by decide +kernel
theorem dL_suits_30 : decode cL_suits 30 = .ok (.iload 14, 2) := by decide +kernel
theorem dL_suits_32 : decode cL_suits 32 = .ok (.imul, 1) := by decide +kernel
theorem dL_suits_33 : decode cL_suits 33 = .ok (.iconst 4, 1) := by decide +kernel
theorem dL_suits_34 : decode cL_suits 34 = .ok (.iadd, 1) := by decide +kernel
theorem dL_suits_35 : decode cL_suits 35 = .ok (.iaload, 1) := by decide +kernel
theorem dL_suits_36 : decode cL_suits 36 = .ok (.if_icmp .ge 7, 3) := by decide +kernel
theorem dL_suits_39 : decode cL_suits 39 = .ok (.iconst 1, 1) := by decide +kernel
theorem dL_suits_40 : decode cL_suits 40 = .ok (.goto 4, 3) := by decide +kernel
theorem dL_suits_43 : decode cL_suits 43 = .ok (.iconst 0, 1) := by decide +kernel
theorem dL_suits_44 : decode cL_suits 44 = .ok (.istore 16, 2) := by decide +kernel
theorem dL_suits_46 : decode cL_suits 46 = .ok (.iload_n 1, 1) := by decide +kernel
theorem dL_suits_47 : decode cL_suits 47 = .ok (.ifCond .ne 251, 3) := by decide +kernel
theorem dL_suits_50 : decode cL_suits 50 = .ok (.iconst 1, 1) := by decide +kernel
theorem dL_suits_51 : decode cL_suits 51 = .ok (.iload_n 2, 1) := by decide +kernel
theorem dL_suits_52 : decode cL_suits 52 = .ok (.iconst 4, 1) := by decide +kernel
theorem dL_suits_53 : decode cL_suits 53 = .ok (.ishr, 1) := by decide +kernel
theorem dL_suits_54 : decode cL_suits 54 = .ok (.sipush 255, 3) := by decide +kernel
theorem dL_suits_57 : decode cL_suits 57 = .ok (.invokestatic 89, 3) := by decide +kernel
theorem dL_suits_60 : decode cL_suits 60 = .ok (.iadd, 1) := by decide +kernel
theorem dL_suits_61 : decode cL_suits 61 = .ok (.istore 17, 2) := by decide +kernel
theorem dL_suits_63 : decode cL_suits 63 = .ok (.iload_n 2, 1) := by decide +kernel
theorem dL_suits_64 : decode cL_suits 64 = .ok (.iconst 5, 1) := by decide +kernel
theorem dL_suits_65 : decode cL_suits 65 = .ok (.ishr, 1) := by decide +kernel
theorem dL_suits_66 : decode cL_suits 66 = .ok (.iconst 5, 1) := by decide +kernel
theorem dL_suits_67 : decode cL_suits 67 = .ok (.invokestatic 89, 3) := by decide +kernel
theorem dL_suits_70 : decode cL_suits 70 = .ok (.ifCond .eq 23, 3) := by decide +kernel
theorem dL_suits_73 : decode cL_suits 73 = .ok (.iload 17, 2) := by decide +kernel
theorem dL_suits_75 : decode cL_suits 75 = .ok (.aload 7, 2) := by decide +kernel
theorem dL_suits_77 : decode cL_suits 77 = .ok (.bipush 8, 2) := by decide +kernel
theorem dL_suits_79 : decode cL_suits 79 = .ok (.aload 9, 2) := by decide +kernel
theorem dL_suits_81 : decode cL_suits 81 = .ok (.bipush 8, 2) := by decide +kernel
theorem dL_suits_83 : decode cL_suits 83 = .ok (.iload 14, 2) := by decide +kernel
theorem dL_suits_85 : decode cL_suits 85 = .ok (.imul, 1) := by decide +kernel
theorem dL_suits_86 : decode cL_suits 86 = .ok (.iaload, 1) := by decide +kernel
theorem dL_suits_87 : decode cL_suits 87 = .ok (.imul, 1) := by decide +kernel
theorem dL_suits_88 : decode cL_suits 88 = .ok (.iaload, 1) := by decide +kernel
theorem dL_suits_89 : decode cL_suits 89 = .ok (.iand, 1) := by decide +kernel
theorem dL_suits_90 : decode cL_suits 90 = .ok (.ifCond .ne 8, 3) := by decide +kernel
theorem dL_suits_93 : decode cL_suits 93 = .ok (.iload 17, 2) := by decide +kernel
theorem dL_suits_95 : decode cL_suits 95 = .ok (.goto 20, 3) := by decide +kernel
theorem dL_suits_98 : decode cL_suits 98 = .ok (.iload 17, 2) := by decide +kernel
theorem dL_suits_100 : decode cL_suits 100 = .ok (.aload 7, 2) := by decide +kernel
theorem dL_suits_102 : decode cL_suits 102 = .ok (.bipush 8, 2) := by decide +kernel
theorem dL_suits_104 : decode cL_suits 104 = .ok (.aload 9, 2) := by decide +kernel
theorem dL_suits_106 : decode cL_suits 106 = .ok (.bipush 8, 2) := by decide +kernel
theorem dL_suits_108 : decode cL_suits 108 = .ok (.iload 14, 2) := by decide +kernel
theorem dL_suits_110 : decode cL_suits 110 = .ok (.imul, 1) := by decide +kernel
theorem dL_suits_111 : decode cL_suits 111 = .ok (.iaload, 1) := by decide +kernel
theorem dL_suits_112 : decode cL_suits 112 = .ok (.imul, 1) := by decide +kernel
theorem dL_suits_113 : decode cL_suits 113 = .ok (.iaload, 1) := by decide +kernel
theorem dL_suits_114 : decode cL_suits 114 = .ok (.iand, 1) := by decide +kernel
theorem dL_suits_115 : decode cL_suits 115 = .ok (.istore 17, 2) := by decide +kernel
theorem dL_suits_117 : decode cL_suits 117 = .ok (.iload 15, 2) := by decide +kernel
theorem dL_suits_119 : decode cL_suits 119 = .ok (.iconst 3, 1) := by decide +kernel
theorem dL_suits_120 : decode cL_suits 120 = .ok (.if_icmp .ge 38, 3) := by decide +kernel
theorem dL_suits_123 : decode cL_suits 123 = .ok (.iload 17, 2) := by decide +kernel
theorem dL_suits_125 : decode cL_suits 125 = .ok (.aload 7, 2) := by decide +kernel
theorem dL_suits_127 : decode cL_suits 127 = .ok (.bipush 8, 2) := by decide +kernel
theorem dL_suits_129 : decode cL_suits 129 = .ok (.aload 9, 2) := by decide +kernel
theorem dL_suits_131 : decode cL_suits 131 = .ok (.bipush 8, 2) := by decide +kernel
theorem dL_suits_133 : decode cL_suits 133 = .ok (.iload 14, 2) := by decide +kernel
theorem dL_suits_135 : decode cL_suits 135 = .ok (.imul, 1) := by decide +kernel
theorem dL_suits_136 : decode cL_suits 136 = .ok (.iaload, 1) := by decide +kernel
theorem dL_suits_137 : decode cL_suits 137 = .ok (.imul, 1) := by decide +kernel
theorem dL_suits_138 : decode cL_suits 138 = .ok (.iaload, 1) := by decide +kernel
theorem dL_suits_139 : decode cL_suits 139 = .ok (.iconst (-1), 1) := by decide +kernel
theorem dL_suits_140 : decode cL_suits 140 = .ok (.ixor, 1) := by decide +kernel
theorem dL_suits_141 : decode cL_suits 141 = .ok (.iand, 1) := by decide +kernel
theorem dL_suits_142 : decode cL_suits 142 = .ok (.ifCond .ne 16, 3) := by decide +kernel
theorem dL_suits_145 : decode cL_suits 145 = .ok (.aload 13, 2) := by decide +kernel
theorem dL_suits_147 : decode cL_suits 147 = .ok (.iconst 5, 1) := by decide +kernel
theorem dL_suits_148 : decode cL_suits 148 = .ok (.iaload, 1) := by decide +kernel
theorem dL_suits_149 : decode cL_suits 149 = .ok (.bipush 40, 2) := by decide +kernel
theorem dL_suits_151 : decode cL_suits 151 = .ok (.if_icmp .ge 7, 3) := by decide +kernel
theorem dL_suits_154 : decode cL_suits 154 = .ok (.iconst 1, 1) := by decide +kernel
theorem dL_suits_155 : decode cL_suits 155 = .ok (.goto 4, 3) := by decide +kernel
theorem dL_suits_158 : decode cL_suits 158 = .ok (.iconst 0, 1) := by decide +kernel
theorem dL_suits_159 : decode cL_suits 159 = .ok (.istore 18, 2) := by decide +kernel
theorem dL_suits_161 : decode cL_suits 161 = .ok (.iconst 0, 1) := by decide +kernel
theorem dL_suits_162 : decode cL_suits 162 = .ok (.istore 19, 2) := by decide +kernel
theorem dL_suits_164 : decode cL_suits 164 = .ok (.iload 19, 2) := by decide +kernel
theorem dL_suits_166 : decode cL_suits 166 = .ok (.bipush 8, 2) := by decide +kernel
theorem dL_suits_168 : decode cL_suits 168 = .ok (.if_icmp .ge 70, 3) := by decide +kernel
theorem dL_suits_171 : decode cL_suits 171 = .ok (.iload 18, 2) := by decide +kernel
theorem dL_suits_173 : decode cL_suits 173 = .ok (.ifCond .eq 65, 3) := by decide +kernel
theorem dL_suits_176 : decode cL_suits 176 = .ok (.aload 10, 2) := by decide +kernel
theorem dL_suits_178 : decode cL_suits 178 = .ok (.bipush 8, 2) := by decide +kernel
theorem dL_suits_180 : decode cL_suits 180 = .ok (.iload 14, 2) := by decide +kernel
theorem dL_suits_182 : decode cL_suits 182 = .ok (.imul, 1) := by decide +kernel
theorem dL_suits_183 : decode cL_suits 183 = .ok (.iload 19, 2) := by decide +kernel
theorem dL_suits_185 : decode cL_suits 185 = .ok (.iadd, 1) := by decide +kernel
theorem dL_suits_186 : decode cL_suits 186 = .ok (.iload 17, 2) := by decide +kernel
theorem dL_suits_188 : decode cL_suits 188 = .ok (.iload 19, 2) := by decide +kernel
theorem dL_suits_190 : decode cL_suits 190 = .ok (.ishr, 1) := by decide +kernel
theorem dL_suits_191 : decode cL_suits 191 = .ok (.iconst 1, 1) := by decide +kernel
theorem dL_suits_192 : decode cL_suits 192 = .ok (.iand, 1) := by decide +kernel
theorem dL_suits_193 : decode cL_suits 193 = .ok (.iconst 1, 1) := by decide +kernel
theorem dL_suits_194 : decode cL_suits 194 = .ok (.if_icmp .ne 26, 3) := by decide +kernel
theorem dL_suits_197 : decode cL_suits 197 = .ok (.aload 10, 2) := by decide +kernel
theorem dL_suits_199 : decode cL_suits 199 = .ok (.bipush 8, 2) := by decide +kernel
theorem dL_suits_201 : decode cL_suits 201 = .ok (.iload 14, 2) := by decide +kernel
theorem dL_suits_203 : decode cL_suits 203 = .ok (.imul, 1) := by decide +kernel
theorem dL_suits_204 : decode cL_suits 204 = .ok (.iload 19, 2) := by decide +kernel
theorem dL_suits_206 : decode cL_suits 206 = .ok (.iadd, 1) := by decide +kernel
theorem dL_suits_207 : decode cL_suits 207 = .ok (.iaload, 1) := by decide +kernel
theorem dL_suits_208 : decode cL_suits 208 = .ok (.ifCond .ne 12, 3) := by decide +kernel
theorem dL_suits_211 : decode cL_suits 211 = .ok (.aload 13, 2) := by decide +kernel
theorem dL_suits_213 : decode cL_suits 213 = .ok (.iconst 0, 1) := by decide +kernel
theorem dL_suits_214 : decode cL_suits 214 = .ok (.iaload, 1) := by decide +kernel
theorem dL_suits_215 : decode cL_suits 215 = .ok (.iconst 1, 1) := by decide +kernel
theorem dL_suits_216 : decode cL_suits 216 = .ok (.iadd, 1) := by decide +kernel
theorem dL_suits_217 : decode cL_suits 217 = .ok (.goto 14, 3) := by decide +kernel
theorem dL_suits_220 : decode cL_suits 220 = .ok (.aload 10, 2) := by decide +kernel
theorem dL_suits_222 : decode cL_suits 222 = .ok (.bipush 8, 2) := by decide +kernel
theorem dL_suits_224 : decode cL_suits 224 = .ok (.iload 14, 2) := by decide +kernel
theorem dL_suits_226 : decode cL_suits 226 = .ok (.imul, 1) := by decide +kernel
theorem dL_suits_227 : decode cL_suits 227 = .ok (.iload 19, 2) := by decide +kernel
theorem dL_suits_229 : decode cL_suits 229 = .ok (.iadd, 1) := by decide +kernel
theorem dL_suits_230 : decode cL_suits 230 = .ok (.iaload, 1) := by decide +kernel
theorem dL_suits_231 : decode cL_suits 231 = .ok (.iastore, 1) := by decide +kernel
theorem dL_suits_232 : decode cL_suits 232 = .ok (.iinc 19 1, 3) := by decide +kernel
theorem dL_suits_235 : decode cL_suits 235 = .ok (.goto (-71), 3) := by decide +kernel
theorem dL_suits_238 : decode cL_suits 238 = .ok (.aload 13, 2) := by decide +kernel
theorem dL_suits_240 : decode cL_suits 240 = .ok (.iconst 5, 1) := by decide +kernel
theorem dL_suits_241 : decode cL_suits 241 = .ok (.dup2, 1) := by decide +kernel
theorem dL_suits_242 : decode cL_suits 242 = .ok (.iaload, 1) := by decide +kernel
theorem dL_suits_243 : decode cL_suits 243 = .ok (.iload 18, 2) := by decide +kernel
theorem dL_suits_245 : decode cL_suits 245 = .ok (.ifCond .eq 7, 3) := by decide +kernel
theorem dL_suits_248 : decode cL_suits 248 = .ok (.iconst 1, 1) := by decide +kernel
theorem dL_suits_249 : decode cL_suits 249 = .ok (.goto 4, 3) := by decide +kernel
theorem dL_suits_252 : decode cL_suits 252 = .ok (.iconst 0, 1) := by decide +kernel
theorem dL_suits_253 : decode cL_suits 253 = .ok (.iadd, 1) := by decide +kernel
theorem dL_suits_254 : decode cL_suits 254 = .ok (.iastore, 1) := by decide +kernel
theorem dL_suits_255 : decode cL_suits 255 = .ok (.aload_n 0, 1) := by decide +kernel
theorem dL_suits_256 : decode cL_suits 256 = .ok (.iconst 4, 1) := by decide +kernel
theorem dL_suits_257 : decode cL_suits 257 = .ok (.iload 14, 2) := by decide +kernel
theorem dL_suits_259 : decode cL_suits 259 = .ok (.iload 17, 2) := by decide +kernel
theorem dL_suits_261 : decode cL_suits 261 = .ok (.iconst 0, 1) := by decide +kernel
theorem dL_suits_262 : decode cL_suits 262 = .ok (.invokestatic 98, 3) := by decide +kernel
theorem dL_suits_265 : decode cL_suits 265 = .ok (.iload 18, 2) := by decide +kernel
theorem dL_suits_267 : decode cL_suits 267 = .ok (.ifCond .eq 19, 3) := by decide +kernel
theorem dL_suits_270 : decode cL_suits 270 = .ok (.iload 14, 2) := by decide +kernel
theorem dL_suits_272 : decode cL_suits 272 = .ok (.sipush 3000, 3) := by decide +kernel
theorem dL_suits_275 : decode cL_suits 275 = .ok (.aload 10, 2) := by decide +kernel
theorem dL_suits_277 : decode cL_suits 277 = .ok (.invokestatic 61, 3) := by decide +kernel
theorem dL_suits_280 : decode cL_suits 280 = .ok (.invokestatic 65, 3) := by decide +kernel
theorem dL_suits_283 : decode cL_suits 283 = .ok (.goto 6, 3) := by decide +kernel
theorem dL_suits_286 : decode cL_suits 286 = .ok (.sipush (-1003), 3) := by decide +kernel
theorem dL_suits_289 : decode cL_suits 289 = .ok (.if_icmp .ne 7, 3) := by decide +kernel
theorem dL_suits_292 : decode cL_suits 292 = .ok (.iconst 1, 1) := by decide +kernel
theorem dL_suits_293 : decode cL_suits 293 = .ok (.goto 4, 3) := by decide +kernel
theorem dL_suits_296 : decode cL_suits 296 = .ok (.iconst 0, 1) := by decide +kernel
theorem dL_suits_297 : decode cL_suits 297 = .ok (.ireturn, 1) := by decide +kernel
theorem dL_suits_298 : decode cL_suits 298 = .ok (.iload_n 1, 1) := by decide +kernel
theorem dL_suits_299 : decode cL_suits 299 = .ok (.iconst 1, 1) := by decide +kernel
theorem dL_suits_300 : decode cL_suits 300 = .ok (.if_icmp .ne 119, 3) := by decide +kernel
theorem dL_suits_303 : decode cL_suits 303 = .ok (.iload 16, 2) := by decide +kernel
theorem dL_suits_305 : decode cL_suits 305 = .ok (.ifCond .eq 24, 3) := by decide +kernel
theorem dL_suits_308 : decode cL_suits 308 = .ok (.aload 9, 2) := by decide +kernel
theorem dL_suits_310 : decode cL_suits 310 = .ok (.bipush 8, 2) := by decide +kernel
theorem dL_suits_312 : decode cL_suits 312 = .ok (.iload 14, 2) := by decide +kernel
theorem dL_suits_314 : decode cL_suits 314 = .ok (.imul, 1) := by decide +kernel
theorem dL_suits_315 : decode cL_suits 315 = .ok (.iconst 5, 1) := by decide +kernel
theorem dL_suits_316 : decode cL_suits 316 = .ok (.iadd, 1) := by decide +kernel
theorem dL_suits_317 : decode cL_suits 317 = .ok (.iaload, 1) := by decide +kernel
theorem dL_suits_318 : decode cL_suits 318 = .ok (.bipush 8, 2) := by decide +kernel
theorem dL_suits_320 : decode cL_suits 320 = .ok (.idiv, 1) := by decide +kernel
theorem dL_suits_321 : decode cL_suits 321 = .ok (.iconst 4, 1) := by decide +kernel
theorem dL_suits_322 : decode cL_suits 322 = .ok (.if_icmp .ge 7, 3) := by decide +kernel
theorem dL_suits_325 : decode cL_suits 325 = .ok (.iconst 1, 1) := by decide +kernel
theorem dL_suits_326 : decode cL_suits 326 = .ok (.goto 4, 3) := by decide +kernel
theorem dL_suits_329 : decode cL_suits 329 = .ok (.iconst 0, 1) := by decide +kernel
theorem dL_suits_330 : decode cL_suits 330 = .ok (.istore 17, 2) := by decide +kernel
theorem dL_suits_332 : decode cL_suits 332 = .ok (.aload 9, 2) := by decide +kernel
theorem dL_suits_334 : decode cL_suits 334 = .ok (.bipush 8, 2) := by decide +kernel
theorem dL_suits_336 : decode cL_suits 336 = .ok (.iload 14, 2) := by decide +kernel
theorem dL_suits_338 : decode cL_suits 338 = .ok (.imul, 1) := by decide +kernel
theorem dL_suits_339 : decode cL_suits 339 = .ok (.iconst 5, 1) := by decide +kernel
theorem dL_suits_340 : decode cL_suits 340 = .ok (.iadd, 1) := by decide +kernel
theorem dL_suits_341 : decode cL_suits 341 = .ok (.dup2, 1) := by decide +kernel
theorem dL_suits_342 : decode cL_suits 342 = .ok (.iaload, 1) := by decide +kernel
theorem dL_suits_343 : decode cL_suits 343 = .ok (.iload 17, 2) := by decide +kernel
theorem dL_suits_345 : decode cL_suits 345 = .ok (.ifCond .eq 8, 3) := by decide +kernel
theorem dL_suits_348 : decode cL_suits 348 = .ok (.bipush 8, 2) := by decide +kernel
theorem dL_suits_350 : decode cL_suits 350 = .ok (.goto 4, 3) := by decide +kernel
theorem dL_suits_353 : decode cL_suits 353 = .ok (.iconst 0, 1) := by decide +kernel
theorem dL_suits_354 : decode cL_suits 354 = .ok (.iadd, 1) := by decide +kernel
theorem dL_suits_355 : decode cL_suits 355 = .ok (.iastore, 1) := by decide +kernel
theorem dL_suits_356 : decode cL_suits 356 = .ok (.aload 9, 2) := by decide +kernel
theorem dL_suits_358 : decode cL_suits 358 = .ok (.bipush 8, 2) := by decide +kernel
theorem dL_suits_360 : decode cL_suits 360 = .ok (.iload 14, 2) := by decide +kernel
theorem dL_suits_362 : decode cL_suits 362 = .ok (.imul, 1) := by decide +kernel
theorem dL_suits_363 : decode cL_suits 363 = .ok (.iconst 4, 1) := by decide +kernel
theorem dL_suits_364 : decode cL_suits 364 = .ok (.iadd, 1) := by decide +kernel
theorem dL_suits_365 : decode cL_suits 365 = .ok (.dup2, 1) := by decide +kernel
theorem dL_suits_366 : decode cL_suits 366 = .ok (.iaload, 1) := by decide +kernel
theorem dL_suits_367 : decode cL_suits 367 = .ok (.iload 17, 2) := by decide +kernel
theorem dL_suits_369 : decode cL_suits 369 = .ok (.ifCond .eq 8, 3) := by decide +kernel
theorem dL_suits_372 : decode cL_suits 372 = .ok (.bipush 30, 2) := by decide +kernel
theorem dL_suits_374 : decode cL_suits 374 = .ok (.goto 4, 3) := by decide +kernel
theorem dL_suits_377 : decode cL_suits 377 = .ok (.iconst 0, 1) := by decide +kernel
theorem dL_suits_378 : decode cL_suits 378 = .ok (.iadd, 1) := by decide +kernel
theorem dL_suits_379 : decode cL_suits 379 = .ok (.iastore, 1) := by decide +kernel
theorem dL_suits_380 : decode cL_suits 380 = .ok (.aload_n 0, 1) := by decide +kernel
theorem dL_suits_381 : decode cL_suits 381 = .ok (.iconst 5, 1) := by decide +kernel
theorem dL_suits_382 : decode cL_suits 382 = .ok (.iload 14, 2) := by decide +kernel
theorem dL_suits_384 : decode cL_suits 384 = .ok (.iconst 0, 1) := by decide +kernel
theorem dL_suits_385 : decode cL_suits 385 = .ok (.iconst 0, 1) := by decide +kernel
theorem dL_suits_386 : decode cL_suits 386 = .ok (.invokestatic 98, 3) := by decide +kernel
theorem dL_suits_389 : decode cL_suits 389 = .ok (.iload 17, 2) := by decide +kernel
theorem dL_suits_391 : decode cL_suits 391 = .ok (.ifCond .eq 16, 3) := by decide +kernel
theorem dL_suits_394 : decode cL_suits 394 = .ok (.aload 9, 2) := by decide +kernel
theorem dL_suits_396 : decode cL_suits 396 = .ok (.bipush 8, 2) := by decide +kernel
theorem dL_suits_398 : decode cL_suits 398 = .ok (.iload 14, 2) := by decide +kernel
theorem dL_suits_400 : decode cL_suits 400 = .ok (.imul, 1) := by decide +kernel
theorem dL_suits_401 : decode cL_suits 401 = .ok (.iconst 4, 1) := by decide +kernel
theorem dL_suits_402 : decode cL_suits 402 = .ok (.iadd, 1) := by decide +kernel
theorem dL_suits_403 : decode cL_suits 403 = .ok (.iaload, 1) := by decide +kernel
theorem dL_suits_404 : decode cL_suits 404 = .ok (.goto 6, 3) := by decide +kernel
theorem dL_suits_407 : decode cL_suits 407 = .ok (.sipush (-1003), 3) := by decide +kernel
theorem dL_suits_410 : decode cL_suits 410 = .ok (.if_icmp .ne 7, 3) := by decide +kernel
theorem dL_suits_413 : decode cL_suits 413 = .ok (.iconst 1, 1) := by decide +kernel
theorem dL_suits_414 : decode cL_suits 414 = .ok (.goto 4, 3) := by decide +kernel
theorem dL_suits_417 : decode cL_suits 417 = .ok (.iconst 0, 1) := by decide +kernel
theorem dL_suits_418 : decode cL_suits 418 = .ok (.ireturn, 1) := by decide +kernel
theorem dL_suits_419 : decode cL_suits 419 = .ok (.iload_n 1, 1) := by decide +kernel
theorem dL_suits_420 : decode cL_suits 420 = .ok (.iconst 2, 1) := by decide +kernel
theorem dL_suits_421 : decode cL_suits 421 = .ok (.if_icmp .ne 160, 3) := by decide +kernel
theorem dL_suits_424 : decode cL_suits 424 = .ok (.iload_n 2, 1) := by decide +kernel
theorem dL_suits_425 : decode cL_suits 425 = .ok (.iconst 4, 1) := by decide +kernel
theorem dL_suits_426 : decode cL_suits 426 = .ok (.ishr, 1) := by decide +kernel
theorem dL_suits_427 : decode cL_suits 427 = .ok (.bipush 9, 2) := by decide +kernel
theorem dL_suits_429 : decode cL_suits 429 = .ok (.invokestatic 89, 3) := by decide +kernel
theorem dL_suits_432 : decode cL_suits 432 = .ok (.ifCond .ne 7, 3) := by decide +kernel
theorem dL_suits_435 : decode cL_suits 435 = .ok (.iconst 3, 1) := by decide +kernel
theorem dL_suits_436 : decode cL_suits 436 = .ok (.goto 12, 3) := by decide +kernel
theorem dL_suits_439 : decode cL_suits 439 = .ok (.iconst 1, 1) := by decide +kernel
theorem dL_suits_440 : decode cL_suits 440 = .ok (.iload_n 2, 1) := by decide +kernel
theorem dL_suits_441 : decode cL_suits 441 = .ok (.iconst 4, 1) := by decide +kernel
theorem dL_suits_442 : decode cL_suits 442 = .ok (.ishr, 1) := by decide +kernel
theorem dL_suits_443 : decode cL_suits 443 = .ok (.iconst 2, 1) := by decide +kernel
theorem dL_suits_444 : decode cL_suits 444 = .ok (.invokestatic 89, 3) := by decide +kernel
theorem dL_suits_447 : decode cL_suits 447 = .ok (.iadd, 1) := by decide +kernel
theorem dL_suits_448 : decode cL_suits 448 = .ok (.istore 17, 2) := by decide +kernel
theorem dL_suits_450 : decode cL_suits 450 = .ok (.iload 15, 2) := by decide +kernel
theorem dL_suits_452 : decode cL_suits 452 = .ok (.iconst 3, 1) := by decide +kernel
theorem dL_suits_453 : decode cL_suits 453 = .ok (.if_icmp .ge 19, 3) := by decide +kernel
theorem dL_suits_456 : decode cL_suits 456 = .ok (.iload 17, 2) := by decide +kernel
theorem dL_suits_458 : decode cL_suits 458 = .ok (.iconst 2, 1) := by decide +kernel
theorem dL_suits_459 : decode cL_suits 459 = .ok (.if_icmp .ne 9, 3) := by decide +kernel
theorem dL_suits_462 : decode cL_suits 462 = .ok (.iload 15, 2) := by decide +kernel
theorem dL_suits_464 : decode cL_suits 464 = .ok (.iconst 1, 1) := by decide +kernel
theorem dL_suits_465 : decode cL_suits 465 = .ok (.if_icmp .eq 7, 3) := by decide +kernel
theorem dL_suits_468 : decode cL_suits 468 = .ok (.iconst 1, 1) := by decide +kernel
theorem dL_suits_469 : decode cL_suits 469 = .ok (.goto 4, 3) := by decide +kernel
theorem dL_suits_472 : decode cL_suits 472 = .ok (.iconst 0, 1) := by decide +kernel
theorem dL_suits_473 : decode cL_suits 473 = .ok (.istore 18, 2) := by decide +kernel
theorem dL_suits_475 : decode cL_suits 475 = .ok (.iload 18, 2) := by decide +kernel
theorem dL_suits_477 : decode cL_suits 477 = .ok (.ifCond .eq 71, 3) := by decide +kernel
theorem dL_suits_480 : decode cL_suits 480 = .ok (.aload 9, 2) := by decide +kernel
theorem dL_suits_482 : decode cL_suits 482 = .ok (.bipush 8, 2) := by decide +kernel
theorem dL_suits_484 : decode cL_suits 484 = .ok (.iload 14, 2) := by decide +kernel
theorem dL_suits_486 : decode cL_suits 486 = .ok (.imul, 1) := by decide +kernel
theorem dL_suits_487 : decode cL_suits 487 = .ok (.iconst 3, 1) := by decide +kernel
theorem dL_suits_488 : decode cL_suits 488 = .ok (.iadd, 1) := by decide +kernel
theorem dL_suits_489 : decode cL_suits 489 = .ok (.iload 17, 2) := by decide +kernel
theorem dL_suits_491 : decode cL_suits 491 = .ok (.iastore, 1) := by decide +kernel
theorem dL_suits_492 : decode cL_suits 492 = .ok (.aload 9, 2) := by decide +kernel
theorem dL_suits_494 : decode cL_suits 494 = .ok (.bipush 8, 2) := by decide +kernel
theorem dL_suits_496 : decode cL_suits 496 = .ok (.iload 14, 2) := by decide +kernel
theorem dL_suits_498 : decode cL_suits 498 = .ok (.imul, 1) := by decide +kernel
theorem dL_suits_499 : decode cL_suits 499 = .ok (.iconst 5, 1) := by decide +kernel
theorem dL_suits_500 : decode cL_suits 500 = .ok (.iadd, 1) := by decide +kernel
theorem dL_suits_501 : decode cL_suits 501 = .ok (.dup2, 1) := by decide +kernel
theorem dL_suits_502 : decode cL_suits 502 = .ok (.iaload, 1) := by decide +kernel
theorem dL_suits_503 : decode cL_suits 503 = .ok (.iload 17, 2) := by decide +kernel
theorem dL_suits_505 : decode cL_suits 505 = .ok (.iconst 1, 1) := by decide +kernel
theorem dL_suits_506 : decode cL_suits 506 = .ok (.if_icmp .ne 7, 3) := by decide +kernel
theorem dL_suits_509 : decode cL_suits 509 = .ok (.iconst 1, 1) := by decide +kernel
theorem dL_suits_510 : decode cL_suits 510 = .ok (.goto 4, 3) := by decide +kernel
theorem dL_suits_513 : decode cL_suits 513 = .ok (.iconst 0, 1) := by decide +kernel
theorem dL_suits_514 : decode cL_suits 514 = .ok (.ior, 1) := by decide +kernel
theorem dL_suits_515 : decode cL_suits 515 = .ok (.iastore, 1) := by decide +kernel
theorem dL_suits_516 : decode cL_suits 516 = .ok (.aload 9, 2) := by decide +kernel
theorem dL_suits_518 : decode cL_suits 518 = .ok (.bipush 8, 2) := by decide +kernel
theorem dL_suits_520 : decode cL_suits 520 = .ok (.iload 14, 2) := by decide +kernel
theorem dL_suits_522 : decode cL_suits 522 = .ok (.imul, 1) := by decide +kernel
theorem dL_suits_523 : decode cL_suits 523 = .ok (.iconst 4, 1) := by decide +kernel
theorem dL_suits_524 : decode cL_suits 524 = .ok (.iadd, 1) := by decide +kernel
theorem dL_suits_525 : decode cL_suits 525 = .ok (.iload 16, 2) := by decide +kernel
theorem dL_suits_527 : decode cL_suits 527 = .ok (.ifCond .eq 10, 3) := by decide +kernel
theorem dL_suits_530 : decode cL_suits 530 = .ok (.aload 13, 2) := by decide +kernel
theorem dL_suits_532 : decode cL_suits 532 = .ok (.iconst 0, 1) := by decide +kernel
theorem dL_suits_533 : decode cL_suits 533 = .ok (.iaload, 1) := by decide +kernel
theorem dL_suits_534 : decode cL_suits 534 = .ok (.goto 13, 3) := by decide +kernel
theorem dL_suits_537 : decode cL_suits 537 = .ok (.aload 9, 2) := by decide +kernel
theorem dL_suits_539 : decode cL_suits 539 = .ok (.bipush 8, 2) := by decide +kernel
theorem dL_suits_541 : decode cL_suits 541 = .ok (.iload 14, 2) := by decide +kernel
theorem dL_suits_543 : decode cL_suits 543 = .ok (.imul, 1) := by decide +kernel
theorem dL_suits_544 : decode cL_suits 544 = .ok (.iconst 4, 1) := by decide +kernel
theorem dL_suits_545 : decode cL_suits 545 = .ok (.iadd, 1) := by decide +kernel
theorem dL_suits_546 : decode cL_suits 546 = .ok (.iaload, 1) := by decide +kernel
theorem dL_suits_547 : decode cL_suits 547 = .ok (.iastore, 1) := by decide +kernel
theorem dL_suits_548 : decode cL_suits 548 = .ok (.aload_n 0, 1) := by decide +kernel
theorem dL_suits_549 : decode cL_suits 549 = .ok (.bipush 6, 2) := by decide +kernel
theorem dL_suits_551 : decode cL_suits 551 = .ok (.iload 14, 2) := by decide +kernel
theorem dL_suits_553 : decode cL_suits 553 = .ok (.iload 17, 2) := by decide +kernel
theorem dL_suits_555 : decode cL_suits 555 = .ok (.iconst 0, 1) := by decide +kernel
theorem dL_suits_556 : decode cL_suits 556 = .ok (.invokestatic 98, 3) := by decide +kernel
theorem dL_suits_559 : decode cL_suits 559 = .ok (.iload 18, 2) := by decide +kernel
theorem dL_suits_561 : decode cL_suits 561 = .ok (.ifCond .eq 8, 3) := by decide +kernel
theorem dL_suits_564 : decode cL_suits 564 = .ok (.iload 15, 2) := by decide +kernel
theorem dL_suits_566 : decode cL_suits 566 = .ok (.goto 6, 3) := by decide +kernel
theorem dL_suits_569 : decode cL_suits 569 = .ok (.sipush (-1003), 3) := by decide +kernel
theorem dL_suits_572 : decode cL_suits 572 = .ok (.if_icmp .ne 7, 3) := by decide +kernel
theorem dL_suits_575 : decode cL_suits 575 = .ok (.iconst 1, 1) := by decide +kernel
theorem dL_suits_576 : decode cL_suits 576 = .ok (.goto 4, 3) := by decide +kernel
theorem dL_suits_579 : decode cL_suits 579 = .ok (.iconst 0, 1) := by decide +kernel
theorem dL_suits_580 : decode cL_suits 580 = .ok (.ireturn, 1) := by decide +kernel
theorem dL_suits_581 : decode cL_suits 581 = .ok (.iload_n 1, 1) := by decide +kernel
theorem dL_suits_582 : decode cL_suits 582 = .ok (.iconst 3, 1) := by decide +kernel
theorem dL_suits_583 : decode cL_suits 583 = .ok (.if_icmp .ne 84, 3) := by decide +kernel
theorem dL_suits_586 : decode cL_suits 586 = .ok (.iload_n 2, 1) := by decide +kernel
theorem dL_suits_587 : decode cL_suits 587 = .ok (.iconst 4, 1) := by decide +kernel
theorem dL_suits_588 : decode cL_suits 588 = .ok (.ishr, 1) := by decide +kernel
theorem dL_suits_589 : decode cL_suits 589 = .ok (.bipush 11, 2) := by decide +kernel
theorem dL_suits_591 : decode cL_suits 591 = .ok (.invokestatic 89, 3) := by decide +kernel
theorem dL_suits_594 : decode cL_suits 594 = .ok (.istore 17, 2) := by decide +kernel
theorem dL_suits_596 : decode cL_suits 596 = .ok (.aload 9, 2) := by decide +kernel
theorem dL_suits_598 : decode cL_suits 598 = .ok (.bipush 8, 2) := by decide +kernel
theorem dL_suits_600 : decode cL_suits 600 = .ok (.iload 14, 2) := by decide +kernel
theorem dL_suits_602 : decode cL_suits 602 = .ok (.imul, 1) := by decide +kernel
theorem dL_suits_603 : decode cL_suits 603 = .ok (.bipush 6, 2) := by decide +kernel
theorem dL_suits_605 : decode cL_suits 605 = .ok (.iadd, 1) := by decide +kernel
theorem dL_suits_606 : decode cL_suits 606 = .ok (.iaload, 1) := by decide +kernel
theorem dL_suits_607 : decode cL_suits 607 = .ok (.istore 18, 2) := by decide +kernel
theorem dL_suits_609 : decode cL_suits 609 = .ok (.aload 9, 2) := by decide +kernel
theorem dL_suits_611 : decode cL_suits 611 = .ok (.bipush 8, 2) := by decide +kernel
theorem dL_suits_613 : decode cL_suits 613 = .ok (.iload 14, 2) := by decide +kernel
theorem dL_suits_615 : decode cL_suits 615 = .ok (.imul, 1) := by decide +kernel
theorem dL_suits_616 : decode cL_suits 616 = .ok (.bipush 6, 2) := by decide +kernel
theorem dL_suits_618 : decode cL_suits 618 = .ok (.iadd, 1) := by decide +kernel
theorem dL_suits_619 : decode cL_suits 619 = .ok (.iload 15, 2) := by decide +kernel
theorem dL_suits_621 : decode cL_suits 621 = .ok (.iconst 3, 1) := by decide +kernel
theorem dL_suits_622 : decode cL_suits 622 = .ok (.if_icmp .ge 8, 3) := by decide +kernel
theorem dL_suits_625 : decode cL_suits 625 = .ok (.iload 17, 2) := by decide +kernel
theorem dL_suits_627 : decode cL_suits 627 = .ok (.goto 5, 3) := by decide +kernel
theorem dL_suits_630 : decode cL_suits 630 = .ok (.iload 18, 2) := by decide +kernel
theorem dL_suits_632 : decode cL_suits 632 = .ok (.iastore, 1) := by decide +kernel
theorem dL_suits_633 : decode cL_suits 633 = .ok (.aload_n 0, 1) := by decide +kernel
theorem dL_suits_634 : decode cL_suits 634 = .ok (.bipush 7, 2) := by decide +kernel
theorem dL_suits_636 : decode cL_suits 636 = .ok (.iload 14, 2) := by decide +kernel
theorem dL_suits_638 : decode cL_suits 638 = .ok (.iload 17, 2) := by decide +kernel
theorem dL_suits_640 : decode cL_suits 640 = .ok (.iconst 0, 1) := by decide +kernel
theorem dL_suits_641 : decode cL_suits 641 = .ok (.invokestatic 98, 3) := by decide +kernel
theorem dL_suits_644 : decode cL_suits 644 = .ok (.iload 15, 2) := by decide +kernel
theorem dL_suits_646 : decode cL_suits 646 = .ok (.iconst 3, 1) := by decide +kernel
theorem dL_suits_647 : decode cL_suits 647 = .ok (.if_icmp .ge 8, 3) := by decide +kernel
theorem dL_suits_650 : decode cL_suits 650 = .ok (.iload 18, 2) := by decide +kernel
theorem dL_suits_652 : decode cL_suits 652 = .ok (.goto 6, 3) := by decide +kernel
theorem dL_suits_655 : decode cL_suits 655 = .ok (.sipush (-1003), 3) := by decide +kernel
theorem dL_suits_658 : decode cL_suits 658 = .ok (.if_icmp .ne 7, 3) := by decide +kernel
theorem dL_suits_661 : decode cL_suits 661 = .ok (.iconst 1, 1) := by decide +kernel
theorem dL_suits_662 : decode cL_suits 662 = .ok (.goto 4, 3) := by decide +kernel
theorem dL_suits_665 : decode cL_suits 665 = .ok (.iconst 0, 1) := by decide +kernel
theorem dL_suits_666 : decode cL_suits 666 = .ok (.ireturn, 1) := by decide +kernel
theorem dL_suits_667 : decode cL_suits 667 = .ok (.iload 14, 2) := by decide +kernel
theorem dL_suits_669 : decode cL_suits 669 = .ok (.aload_n 3, 1) := by decide +kernel
theorem dL_suits_670 : decode cL_suits 670 = .ok (.aload 4, 2) := by decide +kernel
theorem dL_suits_672 : decode cL_suits 672 = .ok (.aload 5, 2) := by decide +kernel
theorem dL_suits_674 : decode cL_suits 674 = .ok (.aload 6, 2) := by decide +kernel
theorem dL_suits_676 : decode cL_suits 676 = .ok (.aload 9, 2) := by decide +kernel
theorem dL_suits_678 : decode cL_suits 678 = .ok (.aload 10, 2) := by decide +kernel
theorem dL_suits_680 : decode cL_suits 680 = .ok (.aload 13, 2) := by decide +kernel
theorem dL_suits_682 : decode cL_suits 682 = .ok (.invokestatic 118, 3) := by decide +kernel
theorem dL_suits_685 : decode cL_suits 685 = .ok (.istore 17, 2) := by decide +kernel
theorem dL_suits_687 : decode cL_suits 687 = .ok (.aload 12, 2) := by decide +kernel
theorem dL_suits_689 : decode cL_suits 689 = .ok (.iconst 4, 1) := by decide +kernel
theorem dL_suits_690 : decode cL_suits 690 = .ok (.aload 9, 2) := by decide +kernel
theorem dL_suits_692 : decode cL_suits 692 = .ok (.bipush 8, 2) := by decide +kernel
theorem dL_suits_694 : decode cL_suits 694 = .ok (.iload 14, 2) := by decide +kernel
theorem dL_suits_696 : decode cL_suits 696 = .ok (.imul, 1) := by decide +kernel
theorem dL_suits_697 : decode cL_suits 697 = .ok (.iconst 1, 1) := by decide +kernel
theorem dL_suits_698 : decode cL_suits 698 = .ok (.iadd, 1) := by decide +kernel
theorem dL_suits_699 : decode cL_suits 699 = .ok (.iaload, 1) := by decide +kernel
theorem dL_suits_700 : decode cL_suits 700 = .ok (.imul, 1) := by decide +kernel
theorem dL_suits_701 : decode cL_suits 701 = .ok (.iaload, 1) := by decide +kernel
theorem dL_suits_702 : decode cL_suits 702 = .ok (.istore 18, 2) := by decide +kernel
theorem dL_suits_704 : decode cL_suits 704 = .ok (.iload 15, 2) := by decide +kernel
theorem dL_suits_706 : decode cL_suits 706 = .ok (.iconst 1, 1) := by decide +kernel
theorem dL_suits_707 : decode cL_suits 707 = .ok (.if_icmp .eq 9, 3) := by decide +kernel
theorem dL_suits_710 : decode cL_suits 710 = .ok (.iload 15, 2) := by decide +kernel
theorem dL_suits_712 : decode cL_suits 712 = .ok (.iconst 2, 1) := by decide +kernel
theorem dL_suits_713 : decode cL_suits 713 = .ok (.if_icmp .ne 7, 3) := by decide +kernel
theorem dL_suits_716 : decode cL_suits 716 = .ok (.iconst 1, 1) := by decide +kernel
theorem dL_suits_717 : decode cL_suits 717 = .ok (.goto 4, 3) := by decide +kernel
theorem dL_suits_720 : decode cL_suits 720 = .ok (.iconst 0, 1) := by decide +kernel
theorem dL_suits_721 : decode cL_suits 721 = .ok (.istore 19, 2) := by decide +kernel
theorem dL_suits_723 : decode cL_suits 723 = .ok (.iload_n 1, 1) := by decide +kernel
theorem dL_suits_724 : decode cL_suits 724 = .ok (.iconst 4, 1) := by decide +kernel
theorem dL_suits_725 : decode cL_suits 725 = .ok (.if_icmp .ne 84, 3) := by decide +kernel
theorem dL_suits_728 : decode cL_suits 728 = .ok (.iload 17, 2) := by decide +kernel
theorem dL_suits_730 : decode cL_suits 730 = .ok (.iload 18, 2) := by decide +kernel
theorem dL_suits_732 : decode cL_suits 732 = .ok (.if_icmp .ge 8, 3) := by decide +kernel
theorem dL_suits_735 : decode cL_suits 735 = .ok (.iload 17, 2) := by decide +kernel
theorem dL_suits_737 : decode cL_suits 737 = .ok (.goto 5, 3) := by decide +kernel
theorem dL_suits_740 : decode cL_suits 740 = .ok (.iload 18, 2) := by decide +kernel
theorem dL_suits_742 : decode cL_suits 742 = .ok (.istore 20, 2) := by decide +kernel
theorem dL_suits_744 : decode cL_suits 744 = .ok (.iload 19, 2) := by decide +kernel
theorem dL_suits_746 : decode cL_suits 746 = .ok (.ifCond .eq 31, 3) := by decide +kernel
theorem dL_suits_749 : decode cL_suits 749 = .ok (.iload 14, 2) := by decide +kernel
theorem dL_suits_751 : decode cL_suits 751 = .ok (.iload 20, 2) := by decide +kernel
theorem dL_suits_753 : decode cL_suits 753 = .ok (.aload_n 3, 1) := by decide +kernel
theorem dL_suits_754 : decode cL_suits 754 = .ok (.aload 4, 2) := by decide +kernel
theorem dL_suits_756 : decode cL_suits 756 = .ok (.aload 5, 2) := by decide +kernel
theorem dL_suits_758 : decode cL_suits 758 = .ok (.aload 6, 2) := by decide +kernel
theorem dL_suits_760 : decode cL_suits 760 = .ok (.aload 7, 2) := by decide +kernel
theorem dL_suits_762 : decode cL_suits 762 = .ok (.aload 8, 2) := by decide +kernel
theorem dL_suits_764 : decode cL_suits 764 = .ok (.aload 9, 2) := by decide +kernel
theorem dL_suits_766 : decode cL_suits 766 = .ok (.aload 10, 2) := by decide +kernel
theorem dL_suits_768 : decode cL_suits 768 = .ok (.aload 11, 2) := by decide +kernel
theorem dL_suits_770 : decode cL_suits 770 = .ok (.aload 12, 2) := by decide +kernel
theorem dL_suits_772 : decode cL_suits 772 = .ok (.aload 13, 2) := by decide +kernel
theorem dL_suits_774 : decode cL_suits 774 = .ok (.invokestatic 122, 3) := by decide +kernel
theorem dL_suits_777 : decode cL_suits 777 = .ok (.aload_n 0, 1) := by decide +kernel
theorem dL_suits_778 : decode cL_suits 778 = .ok (.bipush 8, 2) := by decide +kernel
theorem dL_suits_780 : decode cL_suits 780 = .ok (.iload 14, 2) := by decide +kernel
theorem dL_suits_782 : decode cL_suits 782 = .ok (.iconst 0, 1) := by decide +kernel
theorem dL_suits_783 : decode cL_suits 783 = .ok (.iconst 0, 1) := by decide +kernel
theorem dL_suits_784 : decode cL_suits 784 = .ok (.invokestatic 98, 3) := by decide +kernel
theorem dL_suits_787 : decode cL_suits 787 = .ok (.iload 19, 2) := by decide +kernel
theorem dL_suits_789 : decode cL_suits 789 = .ok (.ifCond .eq 8, 3) := by decide +kernel
theorem dL_suits_792 : decode cL_suits 792 = .ok (.iload 20, 2) := by decide +kernel
theorem dL_suits_794 : decode cL_suits 794 = .ok (.goto 6, 3) := by decide +kernel
theorem dL_suits_797 : decode cL_suits 797 = .ok (.sipush (-1003), 3) := by decide +kernel
theorem dL_suits_800 : decode cL_suits 800 = .ok (.if_icmp .ne 7, 3) := by decide +kernel
theorem dL_suits_803 : decode cL_suits 803 = .ok (.iconst 1, 1) := by decide +kernel
theorem dL_suits_804 : decode cL_suits 804 = .ok (.goto 4, 3) := by decide +kernel
theorem dL_suits_807 : decode cL_suits 807 = .ok (.iconst 0, 1) := by decide +kernel
theorem dL_suits_808 : decode cL_suits 808 = .ok (.ireturn, 1) := by decide +kernel
theorem dL_suits_809 : decode cL_suits 809 = .ok (.iload_n 2, 1) := by decide +kernel
theorem dL_suits_810 : decode cL_suits 810 = .ok (.iconst 4, 1) := by decide +kernel
theorem dL_suits_811 : decode cL_suits 811 = .ok (.ishr, 1) := by decide +kernel
theorem dL_suits_812 : decode cL_suits 812 = .ok (.iload 18, 2) := by decide +kernel
theorem dL_suits_814 : decode cL_suits 814 = .ok (.iconst 2, 1) := by decide +kernel
theorem dL_suits_815 : decode cL_suits 815 = .ok (.iadd, 1) := by decide +kernel
theorem dL_suits_816 : decode cL_suits 816 = .ok (.iload 17, 2) := by decide +kernel
theorem dL_suits_818 : decode cL_suits 818 = .ok (.iconst 4, 1) := by decide +kernel
theorem dL_suits_819 : decode cL_suits 819 = .ok (.idiv, 1) := by decide +kernel
theorem dL_suits_820 : decode cL_suits 820 = .ok (.iadd, 1) := by decide +kernel
theorem dL_suits_821 : decode cL_suits 821 = .ok (.invokestatic 89, 3) := by decide +kernel
theorem dL_suits_824 : decode cL_suits 824 = .ok (.istore 20, 2) := by decide +kernel
theorem dL_suits_826 : decode cL_suits 826 = .ok (.iload 19, 2) := by decide +kernel
theorem dL_suits_828 : decode cL_suits 828 = .ok (.ifCond .eq 29, 3) := by decide +kernel
theorem dL_suits_831 : decode cL_suits 831 = .ok (.iload 20, 2) := by decide +kernel
theorem dL_suits_833 : decode cL_suits 833 = .ok (.iload 18, 2) := by decide +kernel
theorem dL_suits_835 : decode cL_suits 835 = .ok (.if_icmp .gt 22, 3) := by decide +kernel
theorem dL_suits_838 : decode cL_suits 838 = .ok (.iload 15, 2) := by decide +kernel
theorem dL_suits_840 : decode cL_suits 840 = .ok (.iconst 1, 1) := by decide +kernel
theorem dL_suits_841 : decode cL_suits 841 = .ok (.if_icmp .eq 12, 3) := by decide +kernel
theorem dL_suits_844 : decode cL_suits 844 = .ok (.iconst 5, 1) := by decide +kernel
theorem dL_suits_845 : decode cL_suits 845 = .ok (.iload 20, 2) := by decide +kernel
theorem dL_suits_847 : decode cL_suits 847 = .ok (.imul, 1) := by decide +kernel
theorem dL_suits_848 : decode cL_suits 848 = .ok (.iload 17, 2) := by decide +kernel
theorem dL_suits_850 : decode cL_suits 850 = .ok (.if_icmp .lt 7, 3) := by decide +kernel
theorem dL_suits_853 : decode cL_suits 853 = .ok (.iconst 1, 1) := by decide +kernel
theorem dL_suits_854 : decode cL_suits 854 = .ok (.goto 4, 3) := by decide +kernel
theorem dL_suits_857 : decode cL_suits 857 = .ok (.iconst 0, 1) := by decide +kernel
theorem dL_suits_858 : decode cL_suits 858 = .ok (.istore 21, 2) := by decide +kernel
theorem dL_suits_860 : decode cL_suits 860 = .ok (.iload 21, 2) := by decide +kernel
theorem dL_suits_862 : decode cL_suits 862 = .ok (.ifCond .eq 31, 3) := by decide +kernel
theorem dL_suits_865 : decode cL_suits 865 = .ok (.iload 14, 2) := by decide +kernel
theorem dL_suits_867 : decode cL_suits 867 = .ok (.iload 20, 2) := by decide +kernel
theorem dL_suits_869 : decode cL_suits 869 = .ok (.aload_n 3, 1) := by decide +kernel
theorem dL_suits_870 : decode cL_suits 870 = .ok (.aload 4, 2) := by decide +kernel
theorem dL_suits_872 : decode cL_suits 872 = .ok (.aload 5, 2) := by decide +kernel
theorem dL_suits_874 : decode cL_suits 874 = .ok (.aload 6, 2) := by decide +kernel
theorem dL_suits_876 : decode cL_suits 876 = .ok (.aload 7, 2) := by decide +kernel
theorem dL_suits_878 : decode cL_suits 878 = .ok (.aload 8, 2) := by decide +kernel
theorem dL_suits_880 : decode cL_suits 880 = .ok (.aload 9, 2) := by decide +kernel
theorem dL_suits_882 : decode cL_suits 882 = .ok (.aload 10, 2) := by decide +kernel
theorem dL_suits_884 : decode cL_suits 884 = .ok (.aload 11, 2) := by decide +kernel
theorem dL_suits_886 : decode cL_suits 886 = .ok (.aload 12, 2) := by decide +kernel
theorem dL_suits_888 : decode cL_suits 888 = .ok (.aload 13, 2) := by decide +kernel
theorem dL_suits_890 : decode cL_suits 890 = .ok (.invokestatic 122, 3) := by decide +kernel
theorem dL_suits_893 : decode cL_suits 893 = .ok (.aload_n 0, 1) := by decide +kernel
theorem dL_suits_894 : decode cL_suits 894 = .ok (.bipush 9, 2) := by decide +kernel
theorem dL_suits_896 : decode cL_suits 896 = .ok (.iload 14, 2) := by decide +kernel
theorem dL_suits_898 : decode cL_suits 898 = .ok (.iload 20, 2) := by decide +kernel
theorem dL_suits_900 : decode cL_suits 900 = .ok (.iconst 0, 1) := by decide +kernel
theorem dL_suits_901 : decode cL_suits 901 = .ok (.invokestatic 98, 3) := by decide +kernel
theorem dL_suits_904 : decode cL_suits 904 = .ok (.iload 21, 2) := by decide +kernel
theorem dL_suits_906 : decode cL_suits 906 = .ok (.ifCond .eq 14, 3) := by decide +kernel
theorem dL_suits_909 : decode cL_suits 909 = .ok (.aload 11, 2) := by decide +kernel
theorem dL_suits_911 : decode cL_suits 911 = .ok (.bipush 8, 2) := by decide +kernel
theorem dL_suits_913 : decode cL_suits 913 = .ok (.iload 14, 2) := by decide +kernel
theorem dL_suits_915 : decode cL_suits 915 = .ok (.iadd, 1) := by decide +kernel
theorem dL_suits_916 : decode cL_suits 916 = .ok (.iaload, 1) := by decide +kernel
theorem dL_suits_917 : decode cL_suits 917 = .ok (.goto 6, 3) := by decide +kernel
theorem dL_suits_920 : decode cL_suits 920 = .ok (.sipush (-1003), 3) := by decide +kernel
theorem dL_suits_923 : decode cL_suits 923 = .ok (.if_icmp .ne 7, 3) := by decide +kernel
theorem dL_suits_926 : decode cL_suits 926 = .ok (.iconst 1, 1) := by decide +kernel
theorem dL_suits_927 : decode cL_suits 927 = .ok (.goto 4, 3) := by decide +kernel
theorem dL_suits_930 : decode cL_suits 930 = .ok (.iconst 0, 1) := by decide +kernel
theorem dL_suits_931 : decode cL_suits 931 = .ok (.ireturn, 1) := by decide +kernel
theorem dL_wages_0 : decode cL_wages 0 = .ok (.iload_n 2, 1) := by decide +kernel
theorem dL_wages_1 : decode cL_wages 1 = .ok (.iconst 3, 1) := by decide +kernel
theorem dL_wages_2 : decode cL_wages 2 = .ok (.invokestatic 89, 3) := by decide +kernel
theorem dL_wages_5 : decode cL_wages 5 = .ok (.istore 8, 2) := by decide +kernel
theorem dL_wages_7 : decode cL_wages 7 = .ok (.iload_n 2, 1) := by decide +kernel
theorem dL_wages_8 : decode cL_wages 8 = .ok (.iconst 2, 1) := by decide +kernel
theorem dL_wages_9 : decode cL_wages 9 = .ok (.ishr, 1) := by decide +kernel
theorem dL_wages_10 : decode cL_wages 10 = .ok (.iconst 5, 1) := by decide +kernel
theorem dL_wages_11 : decode cL_wages 11 = .ok (.invokestatic 89, 3) := by decide +kernel
theorem dL_wages_14 : decode cL_wages 14 = .ok (.istore 9, 2) := by decide +kernel
theorem dL_wages_16 : decode cL_wages 16 = .ok (.iconst 4, 1) := by decide +kernel
theorem dL_wages_17 : decode cL_wages 17 = .ok (.iconst 5, 1) := by decide +kernel
theorem dL_wages_18 : decode cL_wages 18 = .ok (.iload 8, 2) := by decide +kernel
theorem dL_wages_20 : decode cL_wages 20 = .ok (.imul, 1) := by decide +kernel
theorem dL_wages_21 : decode cL_wages 21 = .ok (.iload 9, 2) := by decide +kernel
theorem dL_wages_23 : decode cL_wages 23 = .ok (.iadd, 1) := by decide +kernel
theorem dL_wages_24 : decode cL_wages 24 = .ok (.imul, 1) := by decide +kernel
theorem dL_wages_25 : decode cL_wages 25 = .ok (.istore 10, 2) := by decide +kernel
theorem dL_wages_27 : decode cL_wages 27 = .ok (.iload_n 1, 1) := by decide +kernel
theorem dL_wages_28 : decode cL_wages 28 = .ok (.ifCond .ne 75, 3) := by decide +kernel
theorem dL_wages_31 : decode cL_wages 31 = .ok (.aload_n 3, 1) := by decide +kernel
theorem dL_wages_32 : decode cL_wages 32 = .ok (.bipush 8, 2) := by decide +kernel
theorem dL_wages_34 : decode cL_wages 34 = .ok (.iload 9, 2) := by decide +kernel
theorem dL_wages_36 : decode cL_wages 36 = .ok (.imul, 1) := by decide +kernel
theorem dL_wages_37 : decode cL_wages 37 = .ok (.iconst 2, 1) := by decide +kernel
theorem dL_wages_38 : decode cL_wages 38 = .ok (.iadd, 1) := by decide +kernel
theorem dL_wages_39 : decode cL_wages 39 = .ok (.iaload, 1) := by decide +kernel
theorem dL_wages_40 : decode cL_wages 40 = .ok (.iconst 1, 1) := by decide +kernel
theorem dL_wages_41 : decode cL_wages 41 = .ok (.isub, 1) := by decide +kernel
theorem dL_wages_42 : decode cL_wages 42 = .ok (.istore 11, 2) := by decide +kernel
theorem dL_wages_44 : decode cL_wages 44 = .ok (.aload_n 3, 1) := by decide +kernel
theorem dL_wages_45 : decode cL_wages 45 = .ok (.bipush 8, 2) := by decide +kernel
theorem dL_wages_47 : decode cL_wages 47 = .ok (.iload 9, 2) := by decide +kernel
theorem dL_wages_49 : decode cL_wages 49 = .ok (.imul, 1) := by decide +kernel
theorem dL_wages_50 : decode cL_wages 50 = .ok (.iconst 2, 1) := by decide +kernel
theorem dL_wages_51 : decode cL_wages 51 = .ok (.iadd, 1) := by decide +kernel
theorem dL_wages_52 : decode cL_wages 52 = .ok (.iload 8, 2) := by decide +kernel
theorem dL_wages_54 : decode cL_wages 54 = .ok (.iconst 1, 1) := by decide +kernel
theorem dL_wages_55 : decode cL_wages 55 = .ok (.iadd, 1) := by decide +kernel
theorem dL_wages_56 : decode cL_wages 56 = .ok (.iastore, 1) := by decide +kernel
theorem dL_wages_57 : decode cL_wages 57 = .ok (.aload_n 3, 1) := by decide +kernel
theorem dL_wages_58 : decode cL_wages 58 = .ok (.bipush 8, 2) := by decide +kernel
theorem dL_wages_60 : decode cL_wages 60 = .ok (.iload 9, 2) := by decide +kernel
theorem dL_wages_62 : decode cL_wages 62 = .ok (.imul, 1) := by decide +kernel
theorem dL_wages_63 : decode cL_wages 63 = .ok (.iconst 3, 1) := by decide +kernel
theorem dL_wages_64 : decode cL_wages 64 = .ok (.iadd, 1) := by decide +kernel
theorem dL_wages_65 : decode cL_wages 65 = .ok (.iload_n 2, 1) := by decide +kernel
theorem dL_wages_66 : decode cL_wages 66 = .ok (.iconst 4, 1) := by decide +kernel
theorem dL_wages_67 : decode cL_wages 67 = .ok (.ishr, 1) := by decide +kernel
theorem dL_wages_68 : decode cL_wages 68 = .ok (.sipush 1000, 3) := by decide +kernel
theorem dL_wages_71 : decode cL_wages 71 = .ok (.invokestatic 89, 3) := by decide +kernel
theorem dL_wages_74 : decode cL_wages 74 = .ok (.iastore, 1) := by decide +kernel
theorem dL_wages_75 : decode cL_wages 75 = .ok (.aload_n 0, 1) := by decide +kernel
theorem dL_wages_76 : decode cL_wages 76 = .ok (.iload 9, 2) := by decide +kernel
theorem dL_wages_78 : decode cL_wages 78 = .ok (.iload 8, 2) := by decide +kernel
theorem dL_wages_80 : decode cL_wages 80 = .ok (.aload_n 3, 1) := by decide +kernel
theorem dL_wages_81 : decode cL_wages 81 = .ok (.bipush 8, 2) := by decide +kernel
theorem dL_wages_83 : decode cL_wages 83 = .ok (.iload 9, 2) := by decide +kernel
theorem dL_wages_85 : decode cL_wages 85 = .ok (.imul, 1) := by decide +kernel
theorem dL_wages_86 : decode cL_wages 86 = .ok (.iconst 3, 1) := by decide +kernel
theorem dL_wages_87 : decode cL_wages 87 = .ok (.iadd, 1) := by decide +kernel
theorem dL_wages_88 : decode cL_wages 88 = .ok (.iaload, 1) := by decide +kernel
theorem dL_wages_89 : decode cL_wages 89 = .ok (.invokevirtual 126, 3) := by decide +kernel
theorem dL_wages_92 : decode cL_wages 92 = .ok (.iload 11, 2) := by decide +kernel
theorem dL_wages_94 : decode cL_wages 94 = .ok (.if_icmp .ne 7, 3) := by decide +kernel
theorem dL_wages_97 : decode cL_wages 97 = .ok (.iconst 1, 1) := by decide +kernel
theorem dL_wages_98 : decode cL_wages 98 = .ok (.goto 4, 3) := by decide +kernel
theorem dL_wages_101 : decode cL_wages 101 = .ok (.iconst 0, 1) := by decide +kernel
theorem dL_wages_102 : decode cL_wages 102 = .ok (.ireturn, 1) := by decide +kernel
theorem dL_wages_103 : decode cL_wages 103 = .ok (.iload_n 1, 1) := by decide +kernel
theorem dL_wages_104 : decode cL_wages 104 = .ok (.iconst 1, 1) := by decide +kernel
theorem dL_wages_105 : decode cL_wages 105 = .ok (.if_icmp .ne 60, 3) := by decide +kernel
theorem dL_wages_108 : decode cL_wages 108 = .ok (.aload 6, 2) := by decide +kernel
theorem dL_wages_110 : decode cL_wages 110 = .ok (.iload 10, 2) := by decide +kernel
theorem dL_wages_112 : decode cL_wages 112 = .ok (.aload 6, 2) := by decide +kernel
theorem dL_wages_114 : decode cL_wages 114 = .ok (.iload 10, 2) := by decide +kernel
theorem dL_wages_116 : decode cL_wages 116 = .ok (.iaload, 1) := by decide +kernel
theorem dL_wages_117 : decode cL_wages 117 = .ok (.ifCond .ne 12, 3) := by decide +kernel
theorem dL_wages_120 : decode cL_wages 120 = .ok (.aload 7, 2) := by decide +kernel
theorem dL_wages_122 : decode cL_wages 122 = .ok (.iconst 0, 1) := by decide +kernel
theorem dL_wages_123 : decode cL_wages 123 = .ok (.iaload, 1) := by decide +kernel
theorem dL_wages_124 : decode cL_wages 124 = .ok (.iconst 1, 1) := by decide +kernel
theorem dL_wages_125 : decode cL_wages 125 = .ok (.iadd, 1) := by decide +kernel
theorem dL_wages_126 : decode cL_wages 126 = .ok (.goto 8, 3) := by decide +kernel
theorem dL_wages_129 : decode cL_wages 129 = .ok (.aload 6, 2) := by decide +kernel
theorem dL_wages_131 : decode cL_wages 131 = .ok (.iload 10, 2) := by decide +kernel
theorem dL_wages_133 : decode cL_wages 133 = .ok (.iaload, 1) := by decide +kernel
theorem dL_wages_134 : decode cL_wages 134 = .ok (.iastore, 1) := by decide +kernel
theorem dL_wages_135 : decode cL_wages 135 = .ok (.aload_n 0, 1) := by decide +kernel
theorem dL_wages_136 : decode cL_wages 136 = .ok (.iload 8, 2) := by decide +kernel
theorem dL_wages_138 : decode cL_wages 138 = .ok (.iload 9, 2) := by decide +kernel
theorem dL_wages_140 : decode cL_wages 140 = .ok (.invokevirtual 129, 3) := by decide +kernel
theorem dL_wages_143 : decode cL_wages 143 = .ok (.iload 8, 2) := by decide +kernel
theorem dL_wages_145 : decode cL_wages 145 = .ok (.iload 9, 2) := by decide +kernel
theorem dL_wages_147 : decode cL_wages 147 = .ok (.aload 4, 2) := by decide +kernel
theorem dL_wages_149 : decode cL_wages 149 = .ok (.aload 6, 2) := by decide +kernel
theorem dL_wages_151 : decode cL_wages 151 = .ok (.aload 7, 2) := by decide +kernel
theorem dL_wages_153 : decode cL_wages 153 = .ok (.invokestatic 132, 3) := by decide +kernel
theorem dL_wages_156 : decode cL_wages 156 = .ok (.if_icmp .ne 7, 3) := by decide +kernel
theorem dL_wages_159 : decode cL_wages 159 = .ok (.iconst 1, 1) := by decide +kernel
theorem dL_wages_160 : decode cL_wages 160 = .ok (.goto 4, 3) := by decide +kernel
theorem dL_wages_163 : decode cL_wages 163 = .ok (.iconst 0, 1) := by decide +kernel
theorem dL_wages_164 : decode cL_wages 164 = .ok (.ireturn, 1) := by decide +kernel
theorem dL_wages_165 : decode cL_wages 165 = .ok (.iload_n 1, 1) := by decide +kernel
theorem dL_wages_166 : decode cL_wages 166 = .ok (.iconst 2, 1) := by decide +kernel
theorem dL_wages_167 : decode cL_wages 167 = .ok (.if_icmp .ne 215, 3) := by decide +kernel
theorem dL_wages_170 : decode cL_wages 170 = .ok (.iload_n 2, 1) := by decide +kernel
theorem dL_wages_171 : decode cL_wages 171 = .ok (.iconst 5, 1) := by decide +kernel
theorem dL_wages_172 : decode cL_wages 172 = .ok (.ishr, 1) := by decide +kernel
theorem dL_wages_173 : decode cL_wages 173 = .ok (.iconst 5, 1) := by decide +kernel
theorem dL_wages_174 : decode cL_wages 174 = .ok (.invokestatic 89, 3) := by decide +kernel
theorem dL_wages_177 : decode cL_wages 177 = .ok (.ifCond .le 29, 3) := by decide +kernel
theorem dL_wages_180 : decode cL_wages 180 = .ok (.aload_n 3, 1) := by decide +kernel
theorem dL_wages_181 : decode cL_wages 181 = .ok (.bipush 8, 2) := by decide +kernel
theorem dL_wages_183 : decode cL_wages 183 = .ok (.iload 9, 2) := by decide +kernel
theorem dL_wages_185 : decode cL_wages 185 = .ok (.imul, 1) := by decide +kernel
theorem dL_wages_186 : decode cL_wages 186 = .ok (.iconst 2, 1) := by decide +kernel
theorem dL_wages_187 : decode cL_wages 187 = .ok (.iadd, 1) := by decide +kernel
theorem dL_wages_188 : decode cL_wages 188 = .ok (.iaload, 1) := by decide +kernel
theorem dL_wages_189 : decode cL_wages 189 = .ok (.ifCond .le 17, 3) := by decide +kernel
theorem dL_wages_192 : decode cL_wages 192 = .ok (.aload_n 3, 1) := by decide +kernel
theorem dL_wages_193 : decode cL_wages 193 = .ok (.bipush 8, 2) := by decide +kernel
theorem dL_wages_195 : decode cL_wages 195 = .ok (.iload 9, 2) := by decide +kernel
theorem dL_wages_197 : decode cL_wages 197 = .ok (.imul, 1) := by decide +kernel
theorem dL_wages_198 : decode cL_wages 198 = .ok (.iconst 2, 1) := by decide +kernel
theorem dL_wages_199 : decode cL_wages 199 = .ok (.iadd, 1) := by decide +kernel
theorem dL_wages_200 : decode cL_wages 200 = .ok (.iaload, 1) := by decide +kernel
theorem dL_wages_201 : decode cL_wages 201 = .ok (.iconst 1, 1) := by decide +kernel
theorem dL_wages_202 : decode cL_wages 202 = .ok (.isub, 1) := by decide +kernel
theorem dL_wages_203 : decode cL_wages 203 = .ok (.goto 5, 3) := by decide +kernel
theorem dL_wages_206 : decode cL_wages 206 = .ok (.iload 8, 2) := by decide +kernel
theorem dL_wages_208 : decode cL_wages 208 = .ok (.istore 8, 2) := by decide +kernel
theorem dL_wages_210 : decode cL_wages 210 = .ok (.iconst 4, 1) := by decide +kernel
theorem dL_wages_211 : decode cL_wages 211 = .ok (.iconst 5, 1) := by decide +kernel
theorem dL_wages_212 : decode cL_wages 212 = .ok (.iload 8, 2) := by decide +kernel
theorem dL_wages_214 : decode cL_wages 214 = .ok (.imul, 1) := by decide +kernel
theorem dL_wages_215 : decode cL_wages 215 = .ok (.iload 9, 2) := by decide +kernel
theorem dL_wages_217 : decode cL_wages 217 = .ok (.iadd, 1) := by decide +kernel
theorem dL_wages_218 : decode cL_wages 218 = .ok (.imul, 1) := by decide +kernel
theorem dL_wages_219 : decode cL_wages 219 = .ok (.istore 10, 2) := by decide +kernel
theorem dL_wages_221 : decode cL_wages 221 = .ok (.aload_n 3, 1) := by decide +kernel
theorem dL_wages_222 : decode cL_wages 222 = .ok (.bipush 8, 2) := by decide +kernel
theorem dL_wages_224 : decode cL_wages 224 = .ok (.iload 9, 2) := by decide +kernel
theorem dL_wages_226 : decode cL_wages 226 = .ok (.imul, 1) := by decide +kernel
theorem dL_wages_227 : decode cL_wages 227 = .ok (.iconst 2, 1) := by decide +kernel
theorem dL_wages_228 : decode cL_wages 228 = .ok (.iadd, 1) := by decide +kernel
theorem dL_wages_229 : decode cL_wages 229 = .ok (.iaload, 1) := by decide +kernel
theorem dL_wages_230 : decode cL_wages 230 = .ok (.iload 8, 2) := by decide +kernel
theorem dL_wages_232 : decode cL_wages 232 = .ok (.iconst 1, 1) := by decide +kernel
theorem dL_wages_233 : decode cL_wages 233 = .ok (.iadd, 1) := by decide +kernel
theorem dL_wages_234 : decode cL_wages 234 = .ok (.if_icmp .ne 7, 3) := by decide +kernel
theorem dL_wages_237 : decode cL_wages 237 = .ok (.iconst 1, 1) := by decide +kernel
theorem dL_wages_238 : decode cL_wages 238 = .ok (.goto 4, 3) := by decide +kernel
theorem dL_wages_241 : decode cL_wages 241 = .ok (.iconst 0, 1) := by decide +kernel
theorem dL_wages_242 : decode cL_wages 242 = .ok (.istore 11, 2) := by decide +kernel
theorem dL_wages_244 : decode cL_wages 244 = .ok (.iload 8, 2) := by decide +kernel
theorem dL_wages_246 : decode cL_wages 246 = .ok (.iload 9, 2) := by decide +kernel
theorem dL_wages_248 : decode cL_wages 248 = .ok (.aload 4, 2) := by decide +kernel
theorem dL_wages_250 : decode cL_wages 250 = .ok (.aload 6, 2) := by decide +kernel
theorem dL_wages_252 : decode cL_wages 252 = .ok (.aload 7, 2) := by decide +kernel
theorem dL_wages_254 : decode cL_wages 254 = .ok (.invokestatic 132, 3) := by decide +kernel
theorem dL_wages_257 : decode cL_wages 257 = .ok (.istore 12, 2) := by decide +kernel
theorem dL_wages_259 : decode cL_wages 259 = .ok (.iload 12, 2) := by decide +kernel
theorem dL_wages_261 : decode cL_wages 261 = .ok (.aload 7, 2) := by decide +kernel
theorem dL_wages_263 : decode cL_wages 263 = .ok (.iconst 0, 1) := by decide +kernel
theorem dL_wages_264 : decode cL_wages 264 = .ok (.iaload, 1) := by decide +kernel
theorem dL_wages_265 : decode cL_wages 265 = .ok (.if_icmp .gt 19, 3) := by decide +kernel
theorem dL_wages_268 : decode cL_wages 268 = .ok (.iload 12, 2) := by decide +kernel
theorem dL_wages_270 : decode cL_wages 270 = .ok (.bipush 90, 2) := by decide +kernel
theorem dL_wages_272 : decode cL_wages 272 = .ok (.iadd, 1) := by decide +kernel
theorem dL_wages_273 : decode cL_wages 273 = .ok (.aload 7, 2) := by decide +kernel
theorem dL_wages_275 : decode cL_wages 275 = .ok (.iconst 0, 1) := by decide +kernel
theorem dL_wages_276 : decode cL_wages 276 = .ok (.iaload, 1) := by decide +kernel
theorem dL_wages_277 : decode cL_wages 277 = .ok (.if_icmp .lt 7, 3) := by decide +kernel
theorem dL_wages_280 : decode cL_wages 280 = .ok (.iconst 1, 1) := by decide +kernel
theorem dL_wages_281 : decode cL_wages 281 = .ok (.goto 4, 3) := by decide +kernel
theorem dL_wages_284 : decode cL_wages 284 = .ok (.iconst 0, 1) := by decide +kernel
theorem dL_wages_285 : decode cL_wages 285 = .ok (.istore 13, 2) := by decide +kernel
theorem dL_wages_287 : decode cL_wages 287 = .ok (.iload 11, 2) := by decide +kernel
theorem dL_wages_289 : decode cL_wages 289 = .ok (.ifCond .eq 57, 3) := by decide +kernel
theorem dL_wages_292 : decode cL_wages 292 = .ok (.aload_n 3, 1) := by decide +kernel
theorem dL_wages_293 : decode cL_wages 293 = .ok (.bipush 8, 2) := by decide +kernel
theorem dL_wages_295 : decode cL_wages 295 = .ok (.iload 9, 2) := by decide +kernel
theorem dL_wages_297 : decode cL_wages 297 = .ok (.imul, 1) := by decide +kernel
theorem dL_wages_298 : decode cL_wages 298 = .ok (.iconst 2, 1) := by decide +kernel
theorem dL_wages_299 : decode cL_wages 299 = .ok (.iadd, 1) := by decide +kernel
theorem dL_wages_300 : decode cL_wages 300 = .ok (.iconst 0, 1) := by decide +kernel
theorem dL_wages_301 : decode cL_wages 301 = .ok (.iastore, 1) := by decide +kernel
theorem dL_wages_302 : decode cL_wages 302 = .ok (.aload 6, 2) := by decide +kernel
theorem dL_wages_304 : decode cL_wages 304 = .ok (.iload 10, 2) := by decide +kernel
theorem dL_wages_306 : decode cL_wages 306 = .ok (.iconst 1, 1) := by decide +kernel
theorem dL_wages_307 : decode cL_wages 307 = .ok (.iadd, 1) := by decide +kernel
theorem dL_wages_308 : decode cL_wages 308 = .ok (.aload 7, 2) := by decide +kernel
theorem dL_wages_310 : decode cL_wages 310 = .ok (.iconst 0, 1) := by decide +kernel
theorem dL_wages_311 : decode cL_wages 311 = .ok (.iaload, 1) := by decide +kernel
theorem dL_wages_312 : decode cL_wages 312 = .ok (.iastore, 1) := by decide +kernel
theorem dL_wages_313 : decode cL_wages 313 = .ok (.aload 6, 2) := by decide +kernel
theorem dL_wages_315 : decode cL_wages 315 = .ok (.iload 10, 2) := by decide +kernel
theorem dL_wages_317 : decode cL_wages 317 = .ok (.iconst 2, 1) := by decide +kernel
theorem dL_wages_318 : decode cL_wages 318 = .ok (.iadd, 1) := by decide +kernel
theorem dL_wages_319 : decode cL_wages 319 = .ok (.aload_n 3, 1) := by decide +kernel
theorem dL_wages_320 : decode cL_wages 320 = .ok (.bipush 8, 2) := by decide +kernel
theorem dL_wages_322 : decode cL_wages 322 = .ok (.iload 9, 2) := by decide +kernel
theorem dL_wages_324 : decode cL_wages 324 = .ok (.imul, 1) := by decide +kernel
theorem dL_wages_325 : decode cL_wages 325 = .ok (.iconst 3, 1) := by decide +kernel
theorem dL_wages_326 : decode cL_wages 326 = .ok (.iadd, 1) := by decide +kernel
theorem dL_wages_327 : decode cL_wages 327 = .ok (.iaload, 1) := by decide +kernel
theorem dL_wages_328 : decode cL_wages 328 = .ok (.iastore, 1) := by decide +kernel
theorem dL_wages_329 : decode cL_wages 329 = .ok (.aload 6, 2) := by decide +kernel
theorem dL_wages_331 : decode cL_wages 331 = .ok (.iload 10, 2) := by decide +kernel
theorem dL_wages_333 : decode cL_wages 333 = .ok (.iconst 3, 1) := by decide +kernel
theorem dL_wages_334 : decode cL_wages 334 = .ok (.iadd, 1) := by decide +kernel
theorem dL_wages_335 : decode cL_wages 335 = .ok (.iload 13, 2) := by decide +kernel
theorem dL_wages_337 : decode cL_wages 337 = .ok (.ifCond .eq 7, 3) := by decide +kernel
theorem dL_wages_340 : decode cL_wages 340 = .ok (.iconst 1, 1) := by decide +kernel
theorem dL_wages_341 : decode cL_wages 341 = .ok (.goto 4, 3) := by decide +kernel
theorem dL_wages_344 : decode cL_wages 344 = .ok (.iconst 0, 1) := by decide +kernel
theorem dL_wages_345 : decode cL_wages 345 = .ok (.iastore, 1) := by decide +kernel
theorem dL_wages_346 : decode cL_wages 346 = .ok (.aload_n 0, 1) := by decide +kernel
theorem dL_wages_347 : decode cL_wages 347 = .ok (.bipush 10, 2) := by decide +kernel
theorem dL_wages_349 : decode cL_wages 349 = .ok (.iload 8, 2) := by decide +kernel
theorem dL_wages_351 : decode cL_wages 351 = .ok (.iload 9, 2) := by decide +kernel
theorem dL_wages_353 : decode cL_wages 353 = .ok (.iconst 0, 1) := by decide +kernel
theorem dL_wages_354 : decode cL_wages 354 = .ok (.invokestatic 98, 3) := by decide +kernel
theorem dL_wages_357 : decode cL_wages 357 = .ok (.iload 11, 2) := by decide +kernel
theorem dL_wages_359 : decode cL_wages 359 = .ok (.ifCond .eq 11, 3) := by decide +kernel
theorem dL_wages_362 : decode cL_wages 362 = .ok (.iload 13, 2) := by decide +kernel
theorem dL_wages_364 : decode cL_wages 364 = .ok (.invokestatic 20, 3) := by decide +kernel
theorem dL_wages_367 : decode cL_wages 367 = .ok (.goto 6, 3) := by decide +kernel
theorem dL_wages_370 : decode cL_wages 370 = .ok (.sipush (-1003), 3) := by decide +kernel
theorem dL_wages_373 : decode cL_wages 373 = .ok (.if_icmp .ne 7, 3) := by decide +kernel
theorem dL_wages_376 : decode cL_wages 376 = .ok (.iconst 1, 1) := by decide +kernel
theorem dL_wages_377 : decode cL_wages 377 = .ok (.goto 4, 3) := by decide +kernel
theorem dL_wages_380 : decode cL_wages 380 = .ok (.iconst 0, 1) := by decide +kernel
theorem dL_wages_381 : decode cL_wages 381 = .ok (.ireturn, 1) := by decide +kernel
theorem dL_wages_382 : decode cL_wages 382 = .ok (.aload 6, 2) := by decide +kernel
theorem dL_wages_384 : decode cL_wages 384 = .ok (.iload 10, 2) := by decide +kernel
theorem dL_wages_386 : decode cL_wages 386 = .ok (.iconst 3, 1) := by decide +kernel
theorem dL_wages_387 : decode cL_wages 387 = .ok (.iadd, 1) := by decide +kernel
theorem dL_wages_388 : decode cL_wages 388 = .ok (.iaload, 1) := by decide +kernel
theorem dL_wages_389 : decode cL_wages 389 = .ok (.iconst 1, 1) := by decide +kernel
theorem dL_wages_390 : decode cL_wages 390 = .ok (.if_icmp .ne 7, 3) := by decide +kernel
theorem dL_wages_393 : decode cL_wages 393 = .ok (.iconst 1, 1) := by decide +kernel
theorem dL_wages_394 : decode cL_wages 394 = .ok (.goto 4, 3) := by decide +kernel
theorem dL_wages_397 : decode cL_wages 397 = .ok (.iconst 0, 1) := by decide +kernel
theorem dL_wages_398 : decode cL_wages 398 = .ok (.istore 11, 2) := by decide +kernel
theorem dL_wages_400 : decode cL_wages 400 = .ok (.aload 7, 2) := by decide +kernel
theorem dL_wages_402 : decode cL_wages 402 = .ok (.iconst 0, 1) := by decide +kernel
theorem dL_wages_403 : decode cL_wages 403 = .ok (.iaload, 1) := by decide +kernel
theorem dL_wages_404 : decode cL_wages 404 = .ok (.aload 6, 2) := by decide +kernel
theorem dL_wages_406 : decode cL_wages 406 = .ok (.iload 10, 2) := by decide +kernel
theorem dL_wages_408 : decode cL_wages 408 = .ok (.iconst 1, 1) := by decide +kernel
theorem dL_wages_409 : decode cL_wages 409 = .ok (.iadd, 1) := by decide +kernel
theorem dL_wages_410 : decode cL_wages 410 = .ok (.iaload, 1) := by decide +kernel
theorem dL_wages_411 : decode cL_wages 411 = .ok (.isub, 1) := by decide +kernel
theorem dL_wages_412 : decode cL_wages 412 = .ok (.istore 12, 2) := by decide +kernel
theorem dL_wages_414 : decode cL_wages 414 = .ok (.iconst 2, 1) := by decide +kernel
theorem dL_wages_415 : decode cL_wages 415 = .ok (.aload 6, 2) := by decide +kernel
theorem dL_wages_417 : decode cL_wages 417 = .ok (.iload 10, 2) := by decide +kernel
theorem dL_wages_419 : decode cL_wages 419 = .ok (.iconst 2, 1) := by decide +kernel
theorem dL_wages_420 : decode cL_wages 420 = .ok (.iadd, 1) := by decide +kernel
theorem dL_wages_421 : decode cL_wages 421 = .ok (.iaload, 1) := by decide +kernel
theorem dL_wages_422 : decode cL_wages 422 = .ok (.imul, 1) := by decide +kernel
theorem dL_wages_423 : decode cL_wages 423 = .ok (.iload 12, 2) := by decide +kernel
theorem dL_wages_425 : decode cL_wages 425 = .ok (.sipush 400, 3) := by decide +kernel
theorem dL_wages_428 : decode cL_wages 428 = .ok (.if_icmp .ge 8, 3) := by decide +kernel
theorem dL_wages_431 : decode cL_wages 431 = .ok (.iload 12, 2) := by decide +kernel
theorem dL_wages_433 : decode cL_wages 433 = .ok (.goto 6, 3) := by decide +kernel
theorem dL_wages_436 : decode cL_wages 436 = .ok (.sipush 400, 3) := by decide +kernel
theorem dL_wages_439 : decode cL_wages 439 = .ok (.imul, 1) := by decide +kernel
theorem dL_wages_440 : decode cL_wages 440 = .ok (.istore 13, 2) := by decide +kernel
theorem dL_wages_442 : decode cL_wages 442 = .ok (.iload 13, 2) := by decide +kernel
theorem dL_wages_444 : decode cL_wages 444 = .ok (.aload 5, 2) := by decide +kernel
theorem dL_wages_446 : decode cL_wages 446 = .ok (.iconst 4, 1) := by decide +kernel
theorem dL_wages_447 : decode cL_wages 447 = .ok (.iload 8, 2) := by decide +kernel
theorem dL_wages_449 : decode cL_wages 449 = .ok (.imul, 1) := by decide +kernel
theorem dL_wages_450 : decode cL_wages 450 = .ok (.iaload, 1) := by decide +kernel
theorem dL_wages_451 : decode cL_wages 451 = .ok (.if_icmp .ge 8, 3) := by decide +kernel
theorem dL_wages_454 : decode cL_wages 454 = .ok (.iload 13, 2) := by decide +kernel
theorem dL_wages_456 : decode cL_wages 456 = .ok (.goto 10, 3) := by decide +kernel
theorem dL_wages_459 : decode cL_wages 459 = .ok (.aload 5, 2) := by decide +kernel
theorem dL_wages_461 : decode cL_wages 461 = .ok (.iconst 4, 1) := by decide +kernel
theorem dL_wages_462 : decode cL_wages 462 = .ok (.iload 8, 2) := by decide +kernel
theorem dL_wages_464 : decode cL_wages 464 = .ok (.imul, 1) := by decide +kernel
theorem dL_wages_465 : decode cL_wages 465 = .ok (.iaload, 1) := by decide +kernel
theorem dL_wages_466 : decode cL_wages 466 = .ok (.istore 13, 2) := by decide +kernel
theorem dL_wages_468 : decode cL_wages 468 = .ok (.iload 11, 2) := by decide +kernel
theorem dL_wages_470 : decode cL_wages 470 = .ok (.ifCond .eq 52, 3) := by decide +kernel
theorem dL_wages_473 : decode cL_wages 473 = .ok (.aload 6, 2) := by decide +kernel
theorem dL_wages_475 : decode cL_wages 475 = .ok (.iload 10, 2) := by decide +kernel
theorem dL_wages_477 : decode cL_wages 477 = .ok (.iconst 3, 1) := by decide +kernel
theorem dL_wages_478 : decode cL_wages 478 = .ok (.iadd, 1) := by decide +kernel
theorem dL_wages_479 : decode cL_wages 479 = .ok (.iconst 0, 1) := by decide +kernel
theorem dL_wages_480 : decode cL_wages 480 = .ok (.iastore, 1) := by decide +kernel
theorem dL_wages_481 : decode cL_wages 481 = .ok (.aload 5, 2) := by decide +kernel
theorem dL_wages_483 : decode cL_wages 483 = .ok (.iconst 4, 1) := by decide +kernel
theorem dL_wages_484 : decode cL_wages 484 = .ok (.iload 8, 2) := by decide +kernel
theorem dL_wages_486 : decode cL_wages 486 = .ok (.imul, 1) := by decide +kernel
theorem dL_wages_487 : decode cL_wages 487 = .ok (.dup2, 1) := by decide +kernel
theorem dL_wages_488 : decode cL_wages 488 = .ok (.iaload, 1) := by decide +kernel
theorem dL_wages_489 : decode cL_wages 489 = .ok (.iload 13, 2) := by decide +kernel
theorem dL_wages_491 : decode cL_wages 491 = .ok (.isub, 1) := by decide +kernel
theorem dL_wages_492 : decode cL_wages 492 = .ok (.iastore, 1) := by decide +kernel
theorem dL_wages_493 : decode cL_wages 493 = .ok (.aload 5, 2) := by decide +kernel
theorem dL_wages_495 : decode cL_wages 495 = .ok (.iconst 4, 1) := by decide +kernel
theorem dL_wages_496 : decode cL_wages 496 = .ok (.iload 8, 2) := by decide +kernel
theorem dL_wages_498 : decode cL_wages 498 = .ok (.imul, 1) := by decide +kernel
theorem dL_wages_499 : decode cL_wages 499 = .ok (.iconst 3, 1) := by decide +kernel
theorem dL_wages_500 : decode cL_wages 500 = .ok (.iadd, 1) := by decide +kernel
theorem dL_wages_501 : decode cL_wages 501 = .ok (.dup2, 1) := by decide +kernel
theorem dL_wages_502 : decode cL_wages 502 = .ok (.iaload, 1) := by decide +kernel
theorem dL_wages_503 : decode cL_wages 503 = .ok (.iload 13, 2) := by decide +kernel
theorem dL_wages_505 : decode cL_wages 505 = .ok (.iadd, 1) := by decide +kernel
theorem dL_wages_506 : decode cL_wages 506 = .ok (.iastore, 1) := by decide +kernel
theorem dL_wages_507 : decode cL_wages 507 = .ok (.aload_n 3, 1) := by decide +kernel
theorem dL_wages_508 : decode cL_wages 508 = .ok (.bipush 8, 2) := by decide +kernel
theorem dL_wages_510 : decode cL_wages 510 = .ok (.iload 9, 2) := by decide +kernel
theorem dL_wages_512 : decode cL_wages 512 = .ok (.imul, 1) := by decide +kernel
theorem dL_wages_513 : decode cL_wages 513 = .ok (.bipush 6, 2) := by decide +kernel
theorem dL_wages_515 : decode cL_wages 515 = .ok (.iadd, 1) := by decide +kernel
theorem dL_wages_516 : decode cL_wages 516 = .ok (.dup2, 1) := by decide +kernel
theorem dL_wages_517 : decode cL_wages 517 = .ok (.iaload, 1) := by decide +kernel
theorem dL_wages_518 : decode cL_wages 518 = .ok (.iload 13, 2) := by decide +kernel
theorem dL_wages_520 : decode cL_wages 520 = .ok (.iadd, 1) := by decide +kernel
theorem dL_wages_521 : decode cL_wages 521 = .ok (.iastore, 1) := by decide +kernel
theorem dL_wages_522 : decode cL_wages 522 = .ok (.aload_n 0, 1) := by decide +kernel
theorem dL_wages_523 : decode cL_wages 523 = .ok (.bipush 11, 2) := by decide +kernel
theorem dL_wages_525 : decode cL_wages 525 = .ok (.iload 8, 2) := by decide +kernel
theorem dL_wages_527 : decode cL_wages 527 = .ok (.iload 9, 2) := by decide +kernel
theorem dL_wages_529 : decode cL_wages 529 = .ok (.iconst 0, 1) := by decide +kernel
theorem dL_wages_530 : decode cL_wages 530 = .ok (.invokestatic 98, 3) := by decide +kernel
theorem dL_wages_533 : decode cL_wages 533 = .ok (.iload 11, 2) := by decide +kernel
theorem dL_wages_535 : decode cL_wages 535 = .ok (.ifCond .eq 8, 3) := by decide +kernel
theorem dL_wages_538 : decode cL_wages 538 = .ok (.iload 13, 2) := by decide +kernel
theorem dL_wages_540 : decode cL_wages 540 = .ok (.goto 6, 3) := by decide +kernel
theorem dL_wages_543 : decode cL_wages 543 = .ok (.sipush (-1003), 3) := by decide +kernel
theorem dL_wages_546 : decode cL_wages 546 = .ok (.if_icmp .ne 7, 3) := by decide +kernel
theorem dL_wages_549 : decode cL_wages 549 = .ok (.iconst 1, 1) := by decide +kernel
theorem dL_wages_550 : decode cL_wages 550 = .ok (.goto 4, 3) := by decide +kernel
theorem dL_wages_553 : decode cL_wages 553 = .ok (.iconst 0, 1) := by decide +kernel
theorem dL_wages_554 : decode cL_wages 554 = .ok (.ireturn, 1) := by decide +kernel
