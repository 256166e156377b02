/-! the law's instructions -/
theorem dL_same_0 : decode cL_same 0 = .ok (.aload_n 0, 1) := by decide +kernel
theorem dL_same_1 : decode cL_same 1 = .ok (.iconst 0, 1) := by decide +kernel
theorem dL_same_2 : decode cL_same 2 = .ok (.invokevirtual 135, 3) := by decide +kernel
theorem dL_same_5 : decode cL_same 5 = .ok (.aload 11, 2) := by decide +kernel
theorem dL_same_7 : decode cL_same 7 = .ok (.iconst 0, 1) := by decide +kernel
theorem dL_same_8 : decode cL_same 8 = .ok (.iaload, 1) := by decide +kernel
theorem dL_same_9 : decode cL_same 9 = .ok (.if_icmp .ne 20, 3) := by decide +kernel
theorem dL_same_12 : decode cL_same 12 = .ok (.aload_n 0, 1) := by decide +kernel
theorem dL_same_13 : decode cL_same 13 = .ok (.iconst 1, 1) := by decide +kernel
theorem dL_same_14 : decode cL_same 14 = .ok (.invokevirtual 135, 3) := by decide +kernel
theorem dL_same_17 : decode cL_same 17 = .ok (.aload 11, 2) := by decide +kernel
theorem dL_same_19 : decode cL_same 19 = .ok (.bipush 6, 2) := by decide +kernel
theorem dL_same_21 : decode cL_same 21 = .ok (.iaload, 1) := by decide +kernel
theorem dL_same_22 : decode cL_same 22 = .ok (.if_icmp .ne 7, 3) := by decide +kernel
theorem dL_same_25 : decode cL_same 25 = .ok (.iconst 1, 1) := by decide +kernel
theorem dL_same_26 : decode cL_same 26 = .ok (.goto 4, 3) := by decide +kernel
theorem dL_same_29 : decode cL_same 29 = .ok (.iconst 0, 1) := by decide +kernel
theorem dL_same_30 : decode cL_same 30 = .ok (.istore 12, 2) := by decide +kernel
theorem dL_same_32 : decode cL_same 32 = .ok (.iconst 0, 1) := by decide +kernel
theorem dL_same_33 : decode cL_same 33 = .ok (.istore 13, 2) := by decide +kernel
theorem dL_same_35 : decode cL_same 35 = .ok (.iconst 0, 1) := by decide +kernel
theorem dL_same_36 : decode cL_same 36 = .ok (.istore 14, 2) := by decide +kernel
theorem dL_same_38 : decode cL_same 38 = .ok (.iload 14, 2) := by decide +kernel
theorem dL_same_40 : decode cL_same 40 = .ok (.aload 11, 2) := by decide +kernel
theorem dL_same_42 : decode cL_same 42 = .ok (.iconst 4, 1) := by decide +kernel
theorem dL_same_43 : decode cL_same 43 = .ok (.iaload, 1) := by decide +kernel
theorem dL_same_44 : decode cL_same 44 = .ok (.if_icmp .ge 223, 3) := by decide +kernel
theorem dL_same_47 : decode cL_same 47 = .ok (.iload 12, 2) := by decide +kernel
theorem dL_same_49 : decode cL_same 49 = .ok (.ifCond .eq 218, 3) := by decide +kernel
theorem dL_same_52 : decode cL_same 52 = .ok (.iload 13, 2) := by decide +kernel
theorem dL_same_54 : decode cL_same 54 = .ok (.aload 7, 2) := by decide +kernel
theorem dL_same_56 : decode cL_same 56 = .ok (.bipush 8, 2) := by decide +kernel
theorem dL_same_58 : decode cL_same 58 = .ok (.iload 14, 2) := by decide +kernel
theorem dL_same_60 : decode cL_same 60 = .ok (.imul, 1) := by decide +kernel
theorem dL_same_61 : decode cL_same 61 = .ok (.iconst 4, 1) := by decide +kernel
theorem dL_same_62 : decode cL_same 62 = .ok (.iadd, 1) := by decide +kernel
theorem dL_same_63 : decode cL_same 63 = .ok (.iaload, 1) := by decide +kernel
theorem dL_same_64 : decode cL_same 64 = .ok (.aload 11, 2) := by decide +kernel
theorem dL_same_66 : decode cL_same 66 = .ok (.iconst 0, 1) := by decide +kernel
theorem dL_same_67 : decode cL_same 67 = .ok (.iaload, 1) := by decide +kernel
theorem dL_same_68 : decode cL_same 68 = .ok (.if_icmp .le 7, 3) := by decide +kernel
theorem dL_same_71 : decode cL_same 71 = .ok (.iconst 1, 1) := by decide +kernel
theorem dL_same_72 : decode cL_same 72 = .ok (.goto 4, 3) := by decide +kernel
theorem dL_same_75 : decode cL_same 75 = .ok (.iconst 0, 1) := by decide +kernel
theorem dL_same_76 : decode cL_same 76 = .ok (.iadd, 1) := by decide +kernel
theorem dL_same_77 : decode cL_same 77 = .ok (.istore 13, 2) := by decide +kernel
theorem dL_same_79 : decode cL_same 79 = .ok (.aload_n 0, 1) := by decide +kernel
theorem dL_same_80 : decode cL_same 80 = .ok (.iload 14, 2) := by decide +kernel
theorem dL_same_82 : decode cL_same 82 = .ok (.iconst 0, 1) := by decide +kernel
theorem dL_same_83 : decode cL_same 83 = .ok (.invokevirtual 138, 3) := by decide +kernel
theorem dL_same_86 : decode cL_same 86 = .ok (.aload 7, 2) := by decide +kernel
theorem dL_same_88 : decode cL_same 88 = .ok (.bipush 8, 2) := by decide +kernel
theorem dL_same_90 : decode cL_same 90 = .ok (.iload 14, 2) := by decide +kernel
theorem dL_same_92 : decode cL_same 92 = .ok (.imul, 1) := by decide +kernel
theorem dL_same_93 : decode cL_same 93 = .ok (.iaload, 1) := by decide +kernel
theorem dL_same_94 : decode cL_same 94 = .ok (.if_icmp .ne 164, 3) := by decide +kernel
theorem dL_same_97 : decode cL_same 97 = .ok (.aload_n 0, 1) := by decide +kernel
theorem dL_same_98 : decode cL_same 98 = .ok (.iload 14, 2) := by decide +kernel
theorem dL_same_100 : decode cL_same 100 = .ok (.iconst 1, 1) := by decide +kernel
theorem dL_same_101 : decode cL_same 101 = .ok (.invokevirtual 138, 3) := by decide +kernel
theorem dL_same_104 : decode cL_same 104 = .ok (.aload 7, 2) := by decide +kernel
theorem dL_same_106 : decode cL_same 106 = .ok (.bipush 8, 2) := by decide +kernel
theorem dL_same_108 : decode cL_same 108 = .ok (.iload 14, 2) := by decide +kernel
theorem dL_same_110 : decode cL_same 110 = .ok (.imul, 1) := by decide +kernel
theorem dL_same_111 : decode cL_same 111 = .ok (.iconst 1, 1) := by decide +kernel
theorem dL_same_112 : decode cL_same 112 = .ok (.iadd, 1) := by decide +kernel
theorem dL_same_113 : decode cL_same 113 = .ok (.iaload, 1) := by decide +kernel
theorem dL_same_114 : decode cL_same 114 = .ok (.if_icmp .ne 144, 3) := by decide +kernel
theorem dL_same_117 : decode cL_same 117 = .ok (.aload_n 0, 1) := by decide +kernel
theorem dL_same_118 : decode cL_same 118 = .ok (.iload 14, 2) := by decide +kernel
theorem dL_same_120 : decode cL_same 120 = .ok (.iconst 2, 1) := by decide +kernel
theorem dL_same_121 : decode cL_same 121 = .ok (.invokevirtual 138, 3) := by decide +kernel
theorem dL_same_124 : decode cL_same 124 = .ok (.iload 14, 2) := by decide +kernel
theorem dL_same_126 : decode cL_same 126 = .ok (.sipush 3000, 3) := by decide +kernel
theorem dL_same_129 : decode cL_same 129 = .ok (.aload 8, 2) := by decide +kernel
theorem dL_same_131 : decode cL_same 131 = .ok (.invokestatic 61, 3) := by decide +kernel
theorem dL_same_134 : decode cL_same 134 = .ok (.if_icmp .ne 124, 3) := by decide +kernel
theorem dL_same_137 : decode cL_same 137 = .ok (.aload_n 0, 1) := by decide +kernel
theorem dL_same_138 : decode cL_same 138 = .ok (.iload 14, 2) := by decide +kernel
theorem dL_same_140 : decode cL_same 140 = .ok (.iconst 3, 1) := by decide +kernel
theorem dL_same_141 : decode cL_same 141 = .ok (.invokevirtual 138, 3) := by decide +kernel
theorem dL_same_144 : decode cL_same 144 = .ok (.aload 7, 2) := by decide +kernel
theorem dL_same_146 : decode cL_same 146 = .ok (.bipush 8, 2) := by decide +kernel
theorem dL_same_148 : decode cL_same 148 = .ok (.iload 14, 2) := by decide +kernel
theorem dL_same_150 : decode cL_same 150 = .ok (.imul, 1) := by decide +kernel
theorem dL_same_151 : decode cL_same 151 = .ok (.iconst 2, 1) := by decide +kernel
theorem dL_same_152 : decode cL_same 152 = .ok (.iadd, 1) := by decide +kernel
theorem dL_same_153 : decode cL_same 153 = .ok (.iaload, 1) := by decide +kernel
theorem dL_same_154 : decode cL_same 154 = .ok (.if_icmp .ne 104, 3) := by decide +kernel
theorem dL_same_157 : decode cL_same 157 = .ok (.aload_n 0, 1) := by decide +kernel
theorem dL_same_158 : decode cL_same 158 = .ok (.iload 14, 2) := by decide +kernel
theorem dL_same_160 : decode cL_same 160 = .ok (.iconst 4, 1) := by decide +kernel
theorem dL_same_161 : decode cL_same 161 = .ok (.invokevirtual 138, 3) := by decide +kernel
theorem dL_same_164 : decode cL_same 164 = .ok (.aload 7, 2) := by decide +kernel
theorem dL_same_166 : decode cL_same 166 = .ok (.bipush 8, 2) := by decide +kernel
theorem dL_same_168 : decode cL_same 168 = .ok (.iload 14, 2) := by decide +kernel
theorem dL_same_170 : decode cL_same 170 = .ok (.imul, 1) := by decide +kernel
theorem dL_same_171 : decode cL_same 171 = .ok (.iconst 3, 1) := by decide +kernel
theorem dL_same_172 : decode cL_same 172 = .ok (.iadd, 1) := by decide +kernel
theorem dL_same_173 : decode cL_same 173 = .ok (.iaload, 1) := by decide +kernel
theorem dL_same_174 : decode cL_same 174 = .ok (.if_icmp .ne 84, 3) := by decide +kernel
theorem dL_same_177 : decode cL_same 177 = .ok (.aload_n 0, 1) := by decide +kernel
theorem dL_same_178 : decode cL_same 178 = .ok (.iload 14, 2) := by decide +kernel
theorem dL_same_180 : decode cL_same 180 = .ok (.iconst 5, 1) := by decide +kernel
theorem dL_same_181 : decode cL_same 181 = .ok (.invokevirtual 138, 3) := by decide +kernel
theorem dL_same_184 : decode cL_same 184 = .ok (.aload 7, 2) := by decide +kernel
theorem dL_same_186 : decode cL_same 186 = .ok (.bipush 8, 2) := by decide +kernel
theorem dL_same_188 : decode cL_same 188 = .ok (.iload 14, 2) := by decide +kernel
theorem dL_same_190 : decode cL_same 190 = .ok (.imul, 1) := by decide +kernel
theorem dL_same_191 : decode cL_same 191 = .ok (.iconst 4, 1) := by decide +kernel
theorem dL_same_192 : decode cL_same 192 = .ok (.iadd, 1) := by decide +kernel
theorem dL_same_193 : decode cL_same 193 = .ok (.iaload, 1) := by decide +kernel
theorem dL_same_194 : decode cL_same 194 = .ok (.if_icmp .ne 64, 3) := by decide +kernel
theorem dL_same_197 : decode cL_same 197 = .ok (.aload_n 0, 1) := by decide +kernel
theorem dL_same_198 : decode cL_same 198 = .ok (.iload 14, 2) := by decide +kernel
theorem dL_same_200 : decode cL_same 200 = .ok (.bipush 6, 2) := by decide +kernel
theorem dL_same_202 : decode cL_same 202 = .ok (.invokevirtual 138, 3) := by decide +kernel
theorem dL_same_205 : decode cL_same 205 = .ok (.aload 7, 2) := by decide +kernel
theorem dL_same_207 : decode cL_same 207 = .ok (.bipush 8, 2) := by decide +kernel
theorem dL_same_209 : decode cL_same 209 = .ok (.iload 14, 2) := by decide +kernel
theorem dL_same_211 : decode cL_same 211 = .ok (.imul, 1) := by decide +kernel
theorem dL_same_212 : decode cL_same 212 = .ok (.bipush 6, 2) := by decide +kernel
theorem dL_same_214 : decode cL_same 214 = .ok (.iadd, 1) := by decide +kernel
theorem dL_same_215 : decode cL_same 215 = .ok (.iaload, 1) := by decide +kernel
theorem dL_same_216 : decode cL_same 216 = .ok (.if_icmp .ne 42, 3) := by decide +kernel
theorem dL_same_219 : decode cL_same 219 = .ok (.aload_n 0, 1) := by decide +kernel
theorem dL_same_220 : decode cL_same 220 = .ok (.iload 14, 2) := by decide +kernel
theorem dL_same_222 : decode cL_same 222 = .ok (.bipush 7, 2) := by decide +kernel
theorem dL_same_224 : decode cL_same 224 = .ok (.invokevirtual 138, 3) := by decide +kernel
theorem dL_same_227 : decode cL_same 227 = .ok (.aload 9, 2) := by decide +kernel
theorem dL_same_229 : decode cL_same 229 = .ok (.iload 14, 2) := by decide +kernel
theorem dL_same_231 : decode cL_same 231 = .ok (.iaload, 1) := by decide +kernel
theorem dL_same_232 : decode cL_same 232 = .ok (.if_icmp .ne 26, 3) := by decide +kernel
theorem dL_same_235 : decode cL_same 235 = .ok (.aload_n 0, 1) := by decide +kernel
theorem dL_same_236 : decode cL_same 236 = .ok (.iload 14, 2) := by decide +kernel
theorem dL_same_238 : decode cL_same 238 = .ok (.bipush 8, 2) := by decide +kernel
theorem dL_same_240 : decode cL_same 240 = .ok (.invokevirtual 138, 3) := by decide +kernel
theorem dL_same_243 : decode cL_same 243 = .ok (.aload 9, 2) := by decide +kernel
theorem dL_same_245 : decode cL_same 245 = .ok (.bipush 8, 2) := by decide +kernel
theorem dL_same_247 : decode cL_same 247 = .ok (.iload 14, 2) := by decide +kernel
theorem dL_same_249 : decode cL_same 249 = .ok (.iadd, 1) := by decide +kernel
theorem dL_same_250 : decode cL_same 250 = .ok (.iaload, 1) := by decide +kernel
theorem dL_same_251 : decode cL_same 251 = .ok (.if_icmp .ne 7, 3) := by decide +kernel
theorem dL_same_254 : decode cL_same 254 = .ok (.iconst 1, 1) := by decide +kernel
theorem dL_same_255 : decode cL_same 255 = .ok (.goto 4, 3) := by decide +kernel
theorem dL_same_258 : decode cL_same 258 = .ok (.iconst 0, 1) := by decide +kernel
theorem dL_same_259 : decode cL_same 259 = .ok (.istore 12, 2) := by decide +kernel
theorem dL_same_261 : decode cL_same 261 = .ok (.iinc 14 1, 3) := by decide +kernel
theorem dL_same_264 : decode cL_same 264 = .ok (.goto (-226), 3) := by decide +kernel
theorem dL_same_267 : decode cL_same 267 = .ok (.iconst 0, 1) := by decide +kernel
theorem dL_same_268 : decode cL_same 268 = .ok (.istore 14, 2) := by decide +kernel
theorem dL_same_270 : decode cL_same 270 = .ok (.iload 14, 2) := by decide +kernel
theorem dL_same_272 : decode cL_same 272 = .ok (.bipush 15, 2) := by decide +kernel
theorem dL_same_274 : decode cL_same 274 = .ok (.if_icmp .ge 113, 3) := by decide +kernel
theorem dL_same_277 : decode cL_same 277 = .ok (.iload 12, 2) := by decide +kernel
theorem dL_same_279 : decode cL_same 279 = .ok (.ifCond .eq 108, 3) := by decide +kernel
theorem dL_same_282 : decode cL_same 282 = .ok (.iload 14, 2) := by decide +kernel
theorem dL_same_284 : decode cL_same 284 = .ok (.bipush 12, 2) := by decide +kernel
theorem dL_same_286 : decode cL_same 286 = .ok (.if_icmp .ge 31, 3) := by decide +kernel
theorem dL_same_289 : decode cL_same 289 = .ok (.aload_n 0, 1) := by decide +kernel
theorem dL_same_290 : decode cL_same 290 = .ok (.iload 14, 2) := by decide +kernel
theorem dL_same_292 : decode cL_same 292 = .ok (.iconst 4, 1) := by decide +kernel
theorem dL_same_293 : decode cL_same 293 = .ok (.idiv, 1) := by decide +kernel
theorem dL_same_294 : decode cL_same 294 = .ok (.iload 14, 2) := by decide +kernel
theorem dL_same_296 : decode cL_same 296 = .ok (.iconst 4, 1) := by decide +kernel
theorem dL_same_297 : decode cL_same 297 = .ok (.irem, 1) := by decide +kernel
theorem dL_same_298 : decode cL_same 298 = .ok (.invokevirtual 141, 3) := by decide +kernel
theorem dL_same_301 : decode cL_same 301 = .ok (.aload 10, 2) := by decide +kernel
theorem dL_same_303 : decode cL_same 303 = .ok (.iload 14, 2) := by decide +kernel
theorem dL_same_305 : decode cL_same 305 = .ok (.iaload, 1) := by decide +kernel
theorem dL_same_306 : decode cL_same 306 = .ok (.if_icmp .ne 7, 3) := by decide +kernel
theorem dL_same_309 : decode cL_same 309 = .ok (.iconst 1, 1) := by decide +kernel
theorem dL_same_310 : decode cL_same 310 = .ok (.goto 25, 3) := by decide +kernel
theorem dL_same_313 : decode cL_same 313 = .ok (.iconst 0, 1) := by decide +kernel
theorem dL_same_314 : decode cL_same 314 = .ok (.goto 21, 3) := by decide +kernel
theorem dL_same_317 : decode cL_same 317 = .ok (.aload_n 0, 1) := by decide +kernel
theorem dL_same_318 : decode cL_same 318 = .ok (.iconst 3, 1) := by decide +kernel
theorem dL_same_319 : decode cL_same 319 = .ok (.iload 14, 2) := by decide +kernel
theorem dL_same_321 : decode cL_same 321 = .ok (.bipush 12, 2) := by decide +kernel
theorem dL_same_323 : decode cL_same 323 = .ok (.isub, 1) := by decide +kernel
theorem dL_same_324 : decode cL_same 324 = .ok (.invokevirtual 141, 3) := by decide +kernel
theorem dL_same_327 : decode cL_same 327 = .ok (.ifCond .ne 7, 3) := by decide +kernel
theorem dL_same_330 : decode cL_same 330 = .ok (.iconst 1, 1) := by decide +kernel
theorem dL_same_331 : decode cL_same 331 = .ok (.goto 4, 3) := by decide +kernel
theorem dL_same_334 : decode cL_same 334 = .ok (.iconst 0, 1) := by decide +kernel
theorem dL_same_335 : decode cL_same 335 = .ok (.istore 12, 2) := by decide +kernel
theorem dL_same_337 : decode cL_same 337 = .ok (.iload 12, 2) := by decide +kernel
theorem dL_same_339 : decode cL_same 339 = .ok (.ifCond .eq 39, 3) := by decide +kernel
theorem dL_same_342 : decode cL_same 342 = .ok (.aload_n 0, 1) := by decide +kernel
theorem dL_same_343 : decode cL_same 343 = .ok (.iload 14, 2) := by decide +kernel
theorem dL_same_345 : decode cL_same 345 = .ok (.iconst 5, 1) := by decide +kernel
theorem dL_same_346 : decode cL_same 346 = .ok (.irem, 1) := by decide +kernel
theorem dL_same_347 : decode cL_same 347 = .ok (.iload 14, 2) := by decide +kernel
theorem dL_same_349 : decode cL_same 349 = .ok (.iconst 5, 1) := by decide +kernel
theorem dL_same_350 : decode cL_same 350 = .ok (.idiv, 1) := by decide +kernel
theorem dL_same_351 : decode cL_same 351 = .ok (.invokevirtual 144, 3) := by decide +kernel
theorem dL_same_354 : decode cL_same 354 = .ok (.aload 6, 2) := by decide +kernel
theorem dL_same_356 : decode cL_same 356 = .ok (.bipush 8, 2) := by decide +kernel
theorem dL_same_358 : decode cL_same 358 = .ok (.iload 14, 2) := by decide +kernel
theorem dL_same_360 : decode cL_same 360 = .ok (.iconst 5, 1) := by decide +kernel
theorem dL_same_361 : decode cL_same 361 = .ok (.irem, 1) := by decide +kernel
theorem dL_same_362 : decode cL_same 362 = .ok (.imul, 1) := by decide +kernel
theorem dL_same_363 : decode cL_same 363 = .ok (.iconst 4, 1) := by decide +kernel
theorem dL_same_364 : decode cL_same 364 = .ok (.iadd, 1) := by decide +kernel
theorem dL_same_365 : decode cL_same 365 = .ok (.iload 14, 2) := by decide +kernel
theorem dL_same_367 : decode cL_same 367 = .ok (.iconst 5, 1) := by decide +kernel
theorem dL_same_368 : decode cL_same 368 = .ok (.idiv, 1) := by decide +kernel
theorem dL_same_369 : decode cL_same 369 = .ok (.iadd, 1) := by decide +kernel
theorem dL_same_370 : decode cL_same 370 = .ok (.iaload, 1) := by decide +kernel
theorem dL_same_371 : decode cL_same 371 = .ok (.if_icmp .ne 7, 3) := by decide +kernel
theorem dL_same_374 : decode cL_same 374 = .ok (.iconst 1, 1) := by decide +kernel
theorem dL_same_375 : decode cL_same 375 = .ok (.goto 4, 3) := by decide +kernel
theorem dL_same_378 : decode cL_same 378 = .ok (.iconst 0, 1) := by decide +kernel
theorem dL_same_379 : decode cL_same 379 = .ok (.istore 12, 2) := by decide +kernel
theorem dL_same_381 : decode cL_same 381 = .ok (.iinc 14 1, 3) := by decide +kernel
theorem dL_same_384 : decode cL_same 384 = .ok (.goto (-114), 3) := by decide +kernel
theorem dL_same_387 : decode cL_same 387 = .ok (.iload 12, 2) := by decide +kernel
theorem dL_same_389 : decode cL_same 389 = .ok (.ifCond .eq 39, 3) := by decide +kernel
theorem dL_same_392 : decode cL_same 392 = .ok (.aload_n 0, 1) := by decide +kernel
theorem dL_same_393 : decode cL_same 393 = .ok (.iconst 3, 1) := by decide +kernel
theorem dL_same_394 : decode cL_same 394 = .ok (.invokevirtual 135, 3) := by decide +kernel
theorem dL_same_397 : decode cL_same 397 = .ok (.iload 13, 2) := by decide +kernel
theorem dL_same_399 : decode cL_same 399 = .ok (.if_icmp .ne 29, 3) := by decide +kernel
theorem dL_same_402 : decode cL_same 402 = .ok (.aload 11, 2) := by decide +kernel
theorem dL_same_404 : decode cL_same 404 = .ok (.iconst 2, 1) := by decide +kernel
theorem dL_same_405 : decode cL_same 405 = .ok (.iaload, 1) := by decide +kernel
theorem dL_same_406 : decode cL_same 406 = .ok (.ifCond .eq 18, 3) := by decide +kernel
theorem dL_same_409 : decode cL_same 409 = .ok (.aload_n 0, 1) := by decide +kernel
theorem dL_same_410 : decode cL_same 410 = .ok (.iconst 0, 1) := by decide +kernel
theorem dL_same_411 : decode cL_same 411 = .ok (.iconst 3, 1) := by decide +kernel
theorem dL_same_412 : decode cL_same 412 = .ok (.invokevirtual 147, 3) := by decide +kernel
theorem dL_same_415 : decode cL_same 415 = .ok (.aload 4, 2) := by decide +kernel
theorem dL_same_417 : decode cL_same 417 = .ok (.iconst 0, 1) := by decide +kernel
theorem dL_same_418 : decode cL_same 418 = .ok (.iaload, 1) := by decide +kernel
theorem dL_same_419 : decode cL_same 419 = .ok (.iconst 1, 1) := by decide +kernel
theorem dL_same_420 : decode cL_same 420 = .ok (.isub, 1) := by decide +kernel
theorem dL_same_421 : decode cL_same 421 = .ok (.if_icmp .ne 7, 3) := by decide +kernel
theorem dL_same_424 : decode cL_same 424 = .ok (.iconst 1, 1) := by decide +kernel
theorem dL_same_425 : decode cL_same 425 = .ok (.goto 4, 3) := by decide +kernel
theorem dL_same_428 : decode cL_same 428 = .ok (.iconst 0, 1) := by decide +kernel
theorem dL_same_429 : decode cL_same 429 = .ok (.istore 12, 2) := by decide +kernel
theorem dL_same_431 : decode cL_same 431 = .ok (.aload 11, 2) := by decide +kernel
theorem dL_same_433 : decode cL_same 433 = .ok (.iconst 4, 1) := by decide +kernel
theorem dL_same_434 : decode cL_same 434 = .ok (.iaload, 1) := by decide +kernel
theorem dL_same_435 : decode cL_same 435 = .ok (.ifCond .eq 8, 3) := by decide +kernel
theorem dL_same_438 : decode cL_same 438 = .ok (.iload 12, 2) := by decide +kernel
theorem dL_same_440 : decode cL_same 440 = .ok (.ifCond .ne 6, 3) := by decide +kernel
theorem dL_same_443 : decode cL_same 443 = .ok (.iload 12, 2) := by decide +kernel
theorem dL_same_445 : decode cL_same 445 = .ok (.ireturn, 1) := by decide +kernel
theorem dL_same_446 : decode cL_same 446 = .ok (.iload_n 1, 1) := by decide +kernel
theorem dL_same_447 : decode cL_same 447 = .ok (.aload 11, 2) := by decide +kernel
theorem dL_same_449 : decode cL_same 449 = .ok (.iconst 4, 1) := by decide +kernel
theorem dL_same_450 : decode cL_same 450 = .ok (.iaload, 1) := by decide +kernel
theorem dL_same_451 : decode cL_same 451 = .ok (.invokestatic 89, 3) := by decide +kernel
theorem dL_same_454 : decode cL_same 454 = .ok (.istore 14, 2) := by decide +kernel
theorem dL_same_456 : decode cL_same 456 = .ok (.iload_n 1, 1) := by decide +kernel
theorem dL_same_457 : decode cL_same 457 = .ok (.iconst 3, 1) := by decide +kernel
theorem dL_same_458 : decode cL_same 458 = .ok (.ishr, 1) := by decide +kernel
theorem dL_same_459 : decode cL_same 459 = .ok (.iconst 5, 1) := by decide +kernel
theorem dL_same_460 : decode cL_same 460 = .ok (.invokestatic 89, 3) := by decide +kernel
theorem dL_same_463 : decode cL_same 463 = .ok (.istore 15, 2) := by decide +kernel
theorem dL_same_465 : decode cL_same 465 = .ok (.iload_n 1, 1) := by decide +kernel
theorem dL_same_466 : decode cL_same 466 = .ok (.iconst 4, 1) := by decide +kernel
theorem dL_same_467 : decode cL_same 467 = .ok (.ishr, 1) := by decide +kernel
theorem dL_same_468 : decode cL_same 468 = .ok (.aload 11, 2) := by decide +kernel
theorem dL_same_470 : decode cL_same 470 = .ok (.iconst 2, 1) := by decide +kernel
theorem dL_same_471 : decode cL_same 471 = .ok (.iaload, 1) := by decide +kernel
theorem dL_same_472 : decode cL_same 472 = .ok (.iconst 1, 1) := by decide +kernel
theorem dL_same_473 : decode cL_same 473 = .ok (.iadd, 1) := by decide +kernel
theorem dL_same_474 : decode cL_same 474 = .ok (.invokestatic 89, 3) := by decide +kernel
theorem dL_same_477 : decode cL_same 477 = .ok (.istore 16, 2) := by decide +kernel
theorem dL_same_479 : decode cL_same 479 = .ok (.aload_n 0, 1) := by decide +kernel
theorem dL_same_480 : decode cL_same 480 = .ok (.iload 14, 2) := by decide +kernel
theorem dL_same_482 : decode cL_same 482 = .ok (.invokevirtual 150, 3) := by decide +kernel
theorem dL_same_485 : decode cL_same 485 = .ok (.iload 14, 2) := by decide +kernel
theorem dL_same_487 : decode cL_same 487 = .ok (.aload_n 2, 1) := by decide +kernel
theorem dL_same_488 : decode cL_same 488 = .ok (.aload_n 3, 1) := by decide +kernel
theorem dL_same_489 : decode cL_same 489 = .ok (.aload 4, 2) := by decide +kernel
theorem dL_same_491 : decode cL_same 491 = .ok (.aload 5, 2) := by decide +kernel
theorem dL_same_493 : decode cL_same 493 = .ok (.aload 7, 2) := by decide +kernel
theorem dL_same_495 : decode cL_same 495 = .ok (.aload 8, 2) := by decide +kernel
theorem dL_same_497 : decode cL_same 497 = .ok (.aload 11, 2) := by decide +kernel
theorem dL_same_499 : decode cL_same 499 = .ok (.invokestatic 118, 3) := by decide +kernel
theorem dL_same_502 : decode cL_same 502 = .ok (.if_icmp .ne 161, 3) := by decide +kernel
theorem dL_same_505 : decode cL_same 505 = .ok (.aload_n 0, 1) := by decide +kernel
theorem dL_same_506 : decode cL_same 506 = .ok (.iload 14, 2) := by decide +kernel
theorem dL_same_508 : decode cL_same 508 = .ok (.bipush 9, 2) := by decide +kernel
theorem dL_same_510 : decode cL_same 510 = .ok (.invokevirtual 138, 3) := by decide +kernel
theorem dL_same_513 : decode cL_same 513 = .ok (.iload 14, 2) := by decide +kernel
theorem dL_same_515 : decode cL_same 515 = .ok (.aload_n 2, 1) := by decide +kernel
theorem dL_same_516 : decode cL_same 516 = .ok (.aload 5, 2) := by decide +kernel
theorem dL_same_518 : decode cL_same 518 = .ok (.aload 6, 2) := by decide +kernel
theorem dL_same_520 : decode cL_same 520 = .ok (.aload 7, 2) := by decide +kernel
theorem dL_same_522 : decode cL_same 522 = .ok (.aload 8, 2) := by decide +kernel
theorem dL_same_524 : decode cL_same 524 = .ok (.aload 11, 2) := by decide +kernel
theorem dL_same_526 : decode cL_same 526 = .ok (.invokestatic 85, 3) := by decide +kernel
theorem dL_same_529 : decode cL_same 529 = .ok (.if_icmp .ne 134, 3) := by decide +kernel
theorem dL_same_532 : decode cL_same 532 = .ok (.aload_n 0, 1) := by decide +kernel
theorem dL_same_533 : decode cL_same 533 = .ok (.iload 15, 2) := by decide +kernel
theorem dL_same_535 : decode cL_same 535 = .ok (.iload 14, 2) := by decide +kernel
theorem dL_same_537 : decode cL_same 537 = .ok (.invokevirtual 152, 3) := by decide +kernel
theorem dL_same_540 : decode cL_same 540 = .ok (.aload 7, 2) := by decide +kernel
theorem dL_same_542 : decode cL_same 542 = .ok (.bipush 8, 2) := by decide +kernel
theorem dL_same_544 : decode cL_same 544 = .ok (.iload 14, 2) := by decide +kernel
theorem dL_same_546 : decode cL_same 546 = .ok (.imul, 1) := by decide +kernel
theorem dL_same_547 : decode cL_same 547 = .ok (.iaload, 1) := by decide +kernel
theorem dL_same_548 : decode cL_same 548 = .ok (.iload 15, 2) := by decide +kernel
theorem dL_same_550 : decode cL_same 550 = .ok (.if_icmp .eq 20, 3) := by decide +kernel
theorem dL_same_553 : decode cL_same 553 = .ok (.aload 7, 2) := by decide +kernel
theorem dL_same_555 : decode cL_same 555 = .ok (.bipush 8, 2) := by decide +kernel
theorem dL_same_557 : decode cL_same 557 = .ok (.iload 14, 2) := by decide +kernel
theorem dL_same_559 : decode cL_same 559 = .ok (.imul, 1) := by decide +kernel
theorem dL_same_560 : decode cL_same 560 = .ok (.iconst 4, 1) := by decide +kernel
theorem dL_same_561 : decode cL_same 561 = .ok (.iadd, 1) := by decide +kernel
theorem dL_same_562 : decode cL_same 562 = .ok (.iaload, 1) := by decide +kernel
theorem dL_same_563 : decode cL_same 563 = .ok (.aload 11, 2) := by decide +kernel
theorem dL_same_565 : decode cL_same 565 = .ok (.iconst 0, 1) := by decide +kernel
theorem dL_same_566 : decode cL_same 566 = .ok (.iaload, 1) := by decide +kernel
theorem dL_same_567 : decode cL_same 567 = .ok (.if_icmp .gt 7, 3) := by decide +kernel
theorem dL_same_570 : decode cL_same 570 = .ok (.iconst 1, 1) := by decide +kernel
theorem dL_same_571 : decode cL_same 571 = .ok (.goto 4, 3) := by decide +kernel
theorem dL_same_574 : decode cL_same 574 = .ok (.iconst 0, 1) := by decide +kernel
theorem dL_same_575 : decode cL_same 575 = .ok (.if_icmp .ne 88, 3) := by decide +kernel
theorem dL_same_578 : decode cL_same 578 = .ok (.iload 16, 2) := by decide +kernel
theorem dL_same_580 : decode cL_same 580 = .ok (.aload 11, 2) := by decide +kernel
theorem dL_same_582 : decode cL_same 582 = .ok (.iconst 2, 1) := by decide +kernel
theorem dL_same_583 : decode cL_same 583 = .ok (.iaload, 1) := by decide +kernel
theorem dL_same_584 : decode cL_same 584 = .ok (.if_icmp .eq 75, 3) := by decide +kernel
theorem dL_same_587 : decode cL_same 587 = .ok (.aload_n 0, 1) := by decide +kernel
theorem dL_same_588 : decode cL_same 588 = .ok (.iload 16, 2) := by decide +kernel
theorem dL_same_590 : decode cL_same 590 = .ok (.iconst 0, 1) := by decide +kernel
theorem dL_same_591 : decode cL_same 591 = .ok (.invokevirtual 147, 3) := by decide +kernel
theorem dL_same_594 : decode cL_same 594 = .ok (.aload_n 3, 1) := by decide +kernel
theorem dL_same_595 : decode cL_same 595 = .ok (.iload 16, 2) := by decide +kernel
theorem dL_same_597 : decode cL_same 597 = .ok (.iaload, 1) := by decide +kernel
theorem dL_same_598 : decode cL_same 598 = .ok (.bipush 8, 2) := by decide +kernel
theorem dL_same_600 : decode cL_same 600 = .ok (.irem, 1) := by decide +kernel
theorem dL_same_601 : decode cL_same 601 = .ok (.if_icmp .ne 62, 3) := by decide +kernel
theorem dL_same_604 : decode cL_same 604 = .ok (.aload_n 0, 1) := by decide +kernel
theorem dL_same_605 : decode cL_same 605 = .ok (.iload 16, 2) := by decide +kernel
theorem dL_same_607 : decode cL_same 607 = .ok (.iconst 1, 1) := by decide +kernel
theorem dL_same_608 : decode cL_same 608 = .ok (.invokevirtual 147, 3) := by decide +kernel
theorem dL_same_611 : decode cL_same 611 = .ok (.aload_n 3, 1) := by decide +kernel
theorem dL_same_612 : decode cL_same 612 = .ok (.iload 16, 2) := by decide +kernel
theorem dL_same_614 : decode cL_same 614 = .ok (.iaload, 1) := by decide +kernel
theorem dL_same_615 : decode cL_same 615 = .ok (.bipush 8, 2) := by decide +kernel
theorem dL_same_617 : decode cL_same 617 = .ok (.idiv, 1) := by decide +kernel
theorem dL_same_618 : decode cL_same 618 = .ok (.sipush 16384, 3) := by decide +kernel
theorem dL_same_621 : decode cL_same 621 = .ok (.irem, 1) := by decide +kernel
theorem dL_same_622 : decode cL_same 622 = .ok (.if_icmp .ne 41, 3) := by decide +kernel
theorem dL_same_625 : decode cL_same 625 = .ok (.aload_n 0, 1) := by decide +kernel
theorem dL_same_626 : decode cL_same 626 = .ok (.iload 16, 2) := by decide +kernel
theorem dL_same_628 : decode cL_same 628 = .ok (.iconst 2, 1) := by decide +kernel
theorem dL_same_629 : decode cL_same 629 = .ok (.invokevirtual 147, 3) := by decide +kernel
theorem dL_same_632 : decode cL_same 632 = .ok (.aload_n 3, 1) := by decide +kernel
theorem dL_same_633 : decode cL_same 633 = .ok (.iload 16, 2) := by decide +kernel
theorem dL_same_635 : decode cL_same 635 = .ok (.iaload, 1) := by decide +kernel
theorem dL_same_636 : decode cL_same 636 = .ok (.ldc 76, 2) := by decide +kernel
theorem dL_same_638 : decode cL_same 638 = .ok (.idiv, 1) := by decide +kernel
theorem dL_same_639 : decode cL_same 639 = .ok (.if_icmp .ne 24, 3) := by decide +kernel
theorem dL_same_642 : decode cL_same 642 = .ok (.aload_n 0, 1) := by decide +kernel
theorem dL_same_643 : decode cL_same 643 = .ok (.iload 16, 2) := by decide +kernel
theorem dL_same_645 : decode cL_same 645 = .ok (.iconst 3, 1) := by decide +kernel
theorem dL_same_646 : decode cL_same 646 = .ok (.invokevirtual 147, 3) := by decide +kernel
theorem dL_same_649 : decode cL_same 649 = .ok (.aload 4, 2) := by decide +kernel
theorem dL_same_651 : decode cL_same 651 = .ok (.iload 16, 2) := by decide +kernel
theorem dL_same_653 : decode cL_same 653 = .ok (.iaload, 1) := by decide +kernel
theorem dL_same_654 : decode cL_same 654 = .ok (.iconst 1, 1) := by decide +kernel
theorem dL_same_655 : decode cL_same 655 = .ok (.isub, 1) := by decide +kernel
theorem dL_same_656 : decode cL_same 656 = .ok (.if_icmp .ne 7, 3) := by decide +kernel
theorem dL_same_659 : decode cL_same 659 = .ok (.iconst 1, 1) := by decide +kernel
theorem dL_same_660 : decode cL_same 660 = .ok (.goto 4, 3) := by decide +kernel
theorem dL_same_663 : decode cL_same 663 = .ok (.iconst 0, 1) := by decide +kernel
theorem dL_same_664 : decode cL_same 664 = .ok (.istore 12, 2) := by decide +kernel
theorem dL_same_666 : decode cL_same 666 = .ok (.iconst 0, 1) := by decide +kernel
theorem dL_same_667 : decode cL_same 667 = .ok (.istore 17, 2) := by decide +kernel
theorem dL_same_669 : decode cL_same 669 = .ok (.iload 17, 2) := by decide +kernel
theorem dL_same_671 : decode cL_same 671 = .ok (.aload 11, 2) := by decide +kernel
theorem dL_same_673 : decode cL_same 673 = .ok (.iconst 1, 1) := by decide +kernel
theorem dL_same_674 : decode cL_same 674 = .ok (.iaload, 1) := by decide +kernel
theorem dL_same_675 : decode cL_same 675 = .ok (.if_icmp .ge 124, 3) := by decide +kernel
theorem dL_same_678 : decode cL_same 678 = .ok (.iload 12, 2) := by decide +kernel
theorem dL_same_680 : decode cL_same 680 = .ok (.ifCond .eq 119, 3) := by decide +kernel
theorem dL_same_683 : decode cL_same 683 = .ok (.aload_n 0, 1) := by decide +kernel
theorem dL_same_684 : decode cL_same 684 = .ok (.iload 14, 2) := by decide +kernel
theorem dL_same_686 : decode cL_same 686 = .ok (.iload 17, 2) := by decide +kernel
theorem dL_same_688 : decode cL_same 688 = .ok (.invokevirtual 155, 3) := by decide +kernel
theorem dL_same_691 : decode cL_same 691 = .ok (.iload 14, 2) := by decide +kernel
theorem dL_same_693 : decode cL_same 693 = .ok (.iload 17, 2) := by decide +kernel
theorem dL_same_695 : decode cL_same 695 = .ok (.aload_n 2, 1) := by decide +kernel
theorem dL_same_696 : decode cL_same 696 = .ok (.aload 7, 2) := by decide +kernel
theorem dL_same_698 : decode cL_same 698 = .ok (.aload 8, 2) := by decide +kernel
theorem dL_same_700 : decode cL_same 700 = .ok (.invokestatic 68, 3) := by decide +kernel
theorem dL_same_703 : decode cL_same 703 = .ok (.if_icmp .ne 87, 3) := by decide +kernel
theorem dL_same_706 : decode cL_same 706 = .ok (.aload_n 0, 1) := by decide +kernel
theorem dL_same_707 : decode cL_same 707 = .ok (.iload 14, 2) := by decide +kernel
theorem dL_same_709 : decode cL_same 709 = .ok (.iload 17, 2) := by decide +kernel
theorem dL_same_711 : decode cL_same 711 = .ok (.invokevirtual 158, 3) := by decide +kernel
theorem dL_same_714 : decode cL_same 714 = .ok (.iload 14, 2) := by decide +kernel
theorem dL_same_716 : decode cL_same 716 = .ok (.iload 17, 2) := by decide +kernel
theorem dL_same_718 : decode cL_same 718 = .ok (.aload_n 2, 1) := by decide +kernel
theorem dL_same_719 : decode cL_same 719 = .ok (.aload 5, 2) := by decide +kernel
theorem dL_same_721 : decode cL_same 721 = .ok (.aload 7, 2) := by decide +kernel
theorem dL_same_723 : decode cL_same 723 = .ok (.aload 8, 2) := by decide +kernel
theorem dL_same_725 : decode cL_same 725 = .ok (.aload 11, 2) := by decide +kernel
theorem dL_same_727 : decode cL_same 727 = .ok (.invokestatic 77, 3) := by decide +kernel
theorem dL_same_730 : decode cL_same 730 = .ok (.if_icmp .ne 60, 3) := by decide +kernel
theorem dL_same_733 : decode cL_same 733 = .ok (.aload_n 0, 1) := by decide +kernel
theorem dL_same_734 : decode cL_same 734 = .ok (.iload 17, 2) := by decide +kernel
theorem dL_same_736 : decode cL_same 736 = .ok (.invokevirtual 161, 3) := by decide +kernel
theorem dL_same_739 : decode cL_same 739 = .ok (.iload 17, 2) := by decide +kernel
theorem dL_same_741 : decode cL_same 741 = .ok (.aload_n 2, 1) := by decide +kernel
theorem dL_same_742 : decode cL_same 742 = .ok (.aload 7, 2) := by decide +kernel
theorem dL_same_744 : decode cL_same 744 = .ok (.aload 8, 2) := by decide +kernel
theorem dL_same_746 : decode cL_same 746 = .ok (.aload 11, 2) := by decide +kernel
theorem dL_same_748 : decode cL_same 748 = .ok (.invokestatic 72, 3) := by decide +kernel
theorem dL_same_751 : decode cL_same 751 = .ok (.if_icmp .ne 39, 3) := by decide +kernel
theorem dL_same_754 : decode cL_same 754 = .ok (.iload 17, 2) := by decide +kernel
theorem dL_same_756 : decode cL_same 756 = .ok (.iload_n 1, 1) := by decide +kernel
theorem dL_same_757 : decode cL_same 757 = .ok (.aload 11, 2) := by decide +kernel
theorem dL_same_759 : decode cL_same 759 = .ok (.iconst 1, 1) := by decide +kernel
theorem dL_same_760 : decode cL_same 760 = .ok (.iaload, 1) := by decide +kernel
theorem dL_same_761 : decode cL_same 761 = .ok (.irem, 1) := by decide +kernel
theorem dL_same_762 : decode cL_same 762 = .ok (.if_icmp .ne 24, 3) := by decide +kernel
theorem dL_same_765 : decode cL_same 765 = .ok (.aload_n 0, 1) := by decide +kernel
theorem dL_same_766 : decode cL_same 766 = .ok (.iload 17, 2) := by decide +kernel
theorem dL_same_768 : decode cL_same 768 = .ok (.invokevirtual 163, 3) := by decide +kernel
theorem dL_same_771 : decode cL_same 771 = .ok (.iload 17, 2) := by decide +kernel
theorem dL_same_773 : decode cL_same 773 = .ok (.aload_n 2, 1) := by decide +kernel
theorem dL_same_774 : decode cL_same 774 = .ok (.aload 7, 2) := by decide +kernel
theorem dL_same_776 : decode cL_same 776 = .ok (.aload 8, 2) := by decide +kernel
theorem dL_same_778 : decode cL_same 778 = .ok (.aload 11, 2) := by decide +kernel
theorem dL_same_780 : decode cL_same 780 = .ok (.invokestatic 72, 3) := by decide +kernel
theorem dL_same_783 : decode cL_same 783 = .ok (.if_icmp .ne 7, 3) := by decide +kernel
theorem dL_same_786 : decode cL_same 786 = .ok (.iconst 1, 1) := by decide +kernel
theorem dL_same_787 : decode cL_same 787 = .ok (.goto 4, 3) := by decide +kernel
theorem dL_same_790 : decode cL_same 790 = .ok (.iconst 0, 1) := by decide +kernel
theorem dL_same_791 : decode cL_same 791 = .ok (.istore 12, 2) := by decide +kernel
theorem dL_same_793 : decode cL_same 793 = .ok (.iinc 17 1, 3) := by decide +kernel
theorem dL_same_796 : decode cL_same 796 = .ok (.goto (-127), 3) := by decide +kernel
theorem dL_same_799 : decode cL_same 799 = .ok (.iload 12, 2) := by decide +kernel
theorem dL_same_801 : decode cL_same 801 = .ok (.ireturn, 1) := by decide +kernel
theorem dL_law_0 : decode cL_law 0 = .ok (.new 11, 3) := by decide +kernel
theorem dL_law_3 : decode cL_law 3 = .ok (.dup, 1) := by decide +kernel
theorem dL_law_4 : decode cL_law 4 = .ok (.invokespecial 166, 3) := by decide +kernel
theorem dL_law_7 : decode cL_law 7 = .ok (.astore_n 1, 1) := by decide +kernel
theorem dL_law_8 : decode cL_law 8 = .ok (.bipush 64, 2) := by decide +kernel
theorem dL_law_10 : decode cL_law 10 = .ok (.newarray .int, 2) := by decide +kernel
theorem dL_law_12 : decode cL_law 12 = .ok (.astore_n 2, 1) := by decide +kernel
theorem dL_law_13 : decode cL_law 13 = .ok (.bipush 40, 2) := by decide +kernel
theorem dL_law_15 : decode cL_law 15 = .ok (.newarray .int, 2) := by decide +kernel
theorem dL_law_17 : decode cL_law 17 = .ok (.astore_n 3, 1) := by decide +kernel
theorem dL_law_18 : decode cL_law 18 = .ok (.bipush 40, 2) := by decide +kernel
theorem dL_law_20 : decode cL_law 20 = .ok (.newarray .int, 2) := by decide +kernel
theorem dL_law_22 : decode cL_law 22 = .ok (.astore 4, 2) := by decide +kernel
theorem dL_law_24 : decode cL_law 24 = .ok (.bipush 8, 2) := by decide +kernel
theorem dL_law_26 : decode cL_law 26 = .ok (.newarray .int, 2) := by decide +kernel
theorem dL_law_28 : decode cL_law 28 = .ok (.astore 5, 2) := by decide +kernel
theorem dL_law_30 : decode cL_law 30 = .ok (.bipush 40, 2) := by decide +kernel
theorem dL_law_32 : decode cL_law 32 = .ok (.newarray .int, 2) := by decide +kernel
theorem dL_law_34 : decode cL_law 34 = .ok (.astore 6, 2) := by decide +kernel
theorem dL_law_36 : decode cL_law 36 = .ok (.bipush 20, 2) := by decide +kernel
theorem dL_law_38 : decode cL_law 38 = .ok (.newarray .int, 2) := by decide +kernel
theorem dL_law_40 : decode cL_law 40 = .ok (.astore 7, 2) := by decide +kernel
theorem dL_law_42 : decode cL_law 42 = .ok (.bipush 64, 2) := by decide +kernel
theorem dL_law_44 : decode cL_law 44 = .ok (.newarray .int, 2) := by decide +kernel
theorem dL_law_46 : decode cL_law 46 = .ok (.astore 8, 2) := by decide +kernel
theorem dL_law_48 : decode cL_law 48 = .ok (.bipush 64, 2) := by decide +kernel
theorem dL_law_50 : decode cL_law 50 = .ok (.newarray .int, 2) := by decide +kernel
theorem dL_law_52 : decode cL_law 52 = .ok (.astore 9, 2) := by decide +kernel
theorem dL_law_54 : decode cL_law 54 = .ok (.bipush 16, 2) := by decide +kernel
theorem dL_law_56 : decode cL_law 56 = .ok (.newarray .int, 2) := by decide +kernel
theorem dL_law_58 : decode cL_law 58 = .ok (.astore 10, 2) := by decide +kernel
theorem dL_law_60 : decode cL_law 60 = .ok (.bipush 12, 2) := by decide +kernel
theorem dL_law_62 : decode cL_law 62 = .ok (.newarray .int, 2) := by decide +kernel
theorem dL_law_64 : decode cL_law 64 = .ok (.astore 11, 2) := by decide +kernel
theorem dL_law_66 : decode cL_law 66 = .ok (.bipush 60, 2) := by decide +kernel
theorem dL_law_68 : decode cL_law 68 = .ok (.newarray .int, 2) := by decide +kernel
theorem dL_law_70 : decode cL_law 70 = .ok (.astore 12, 2) := by decide +kernel
theorem dL_law_72 : decode cL_law 72 = .ok (.bipush 7, 2) := by decide +kernel
theorem dL_law_74 : decode cL_law 74 = .ok (.newarray .int, 2) := by decide +kernel
theorem dL_law_76 : decode cL_law 76 = .ok (.astore 13, 2) := by decide +kernel
theorem dL_law_78 : decode cL_law 78 = .ok (.iconst 1, 1) := by decide +kernel
theorem dL_law_79 : decode cL_law 79 = .ok (.istore 14, 2) := by decide +kernel
theorem dL_law_81 : decode cL_law 81 = .ok (.iconst 0, 1) := by decide +kernel
theorem dL_law_82 : decode cL_law 82 = .ok (.istore 15, 2) := by decide +kernel
theorem dL_law_84 : decode cL_law 84 = .ok (.iload 15, 2) := by decide +kernel
theorem dL_law_86 : decode cL_law 86 = .ok (.sipush 130, 3) := by decide +kernel
theorem dL_law_89 : decode cL_law 89 = .ok (.if_icmp .ge 476, 3) := by decide +kernel
theorem dL_law_92 : decode cL_law 92 = .ok (.iload 14, 2) := by decide +kernel
theorem dL_law_94 : decode cL_law 94 = .ok (.ifCond .eq 471, 3) := by decide +kernel
theorem dL_law_97 : decode cL_law 97 = .ok (.aload_n 0, 1) := by decide +kernel
theorem dL_law_98 : decode cL_law 98 = .ok (.iload 15, 2) := by decide +kernel
theorem dL_law_100 : decode cL_law 100 = .ok (.invokestatic 167, 3) := by decide +kernel
theorem dL_law_103 : decode cL_law 103 = .ok (.istore 16, 2) := by decide +kernel
theorem dL_law_105 : decode cL_law 105 = .ok (.iload 16, 2) := by decide +kernel
theorem dL_law_107 : decode cL_law 107 = .ok (.bipush 50, 2) := by decide +kernel
theorem dL_law_109 : decode cL_law 109 = .ok (.invokestatic 89, 3) := by decide +kernel
theorem dL_law_112 : decode cL_law 112 = .ok (.istore 17, 2) := by decide +kernel
theorem dL_law_114 : decode cL_law 114 = .ok (.iload 16, 2) := by decide +kernel
theorem dL_law_116 : decode cL_law 116 = .ok (.iconst 5, 1) := by decide +kernel
theorem dL_law_117 : decode cL_law 117 = .ok (.ishr, 1) := by decide +kernel
theorem dL_law_118 : decode cL_law 118 = .ok (.istore 18, 2) := by decide +kernel
theorem dL_law_120 : decode cL_law 120 = .ok (.iload 17, 2) := by decide +kernel
theorem dL_law_122 : decode cL_law 122 = .ok (.bipush 21, 2) := by decide +kernel
theorem dL_law_124 : decode cL_law 124 = .ok (.if_icmp .lt 17, 3) := by decide +kernel
theorem dL_law_127 : decode cL_law 127 = .ok (.aload 13, 2) := by decide +kernel
theorem dL_law_129 : decode cL_law 129 = .ok (.iconst 4, 1) := by decide +kernel
theorem dL_law_130 : decode cL_law 130 = .ok (.iaload, 1) := by decide +kernel
theorem dL_law_131 : decode cL_law 131 = .ok (.ifCond .ne 133, 3) := by decide +kernel
theorem dL_law_134 : decode cL_law 134 = .ok (.iload 17, 2) := by decide +kernel
theorem dL_law_136 : decode cL_law 136 = .ok (.bipush 36, 2) := by decide +kernel
theorem dL_law_138 : decode cL_law 138 = .ok (.if_icmp .ge 126, 3) := by decide +kernel
theorem dL_law_141 : decode cL_law 141 = .ok (.iload 17, 2) := by decide +kernel
theorem dL_law_143 : decode cL_law 143 = .ok (.bipush 23, 2) := by decide +kernel
theorem dL_law_145 : decode cL_law 145 = .ok (.if_icmp .le 21, 3) := by decide +kernel
theorem dL_law_148 : decode cL_law 148 = .ok (.aload_n 1, 1) := by decide +kernel
theorem dL_law_149 : decode cL_law 149 = .ok (.iload 18, 2) := by decide +kernel
theorem dL_law_151 : decode cL_law 151 = .ok (.aload_n 2, 1) := by decide +kernel
theorem dL_law_152 : decode cL_law 152 = .ok (.aload 6, 2) := by decide +kernel
theorem dL_law_154 : decode cL_law 154 = .ok (.aload 8, 2) := by decide +kernel
theorem dL_law_156 : decode cL_law 156 = .ok (.aload 9, 2) := by decide +kernel
theorem dL_law_158 : decode cL_law 158 = .ok (.aload 13, 2) := by decide +kernel
theorem dL_law_160 : decode cL_law 160 = .ok (.invokestatic 171, 3) := by decide +kernel
theorem dL_law_163 : decode cL_law 163 = .ok (.goto 96, 3) := by decide +kernel
theorem dL_law_166 : decode cL_law 166 = .ok (.aload_n 1, 1) := by decide +kernel
theorem dL_law_167 : decode cL_law 167 = .ok (.iload 17, 2) := by decide +kernel
theorem dL_law_169 : decode cL_law 169 = .ok (.iconst 2, 1) := by decide +kernel
theorem dL_law_170 : decode cL_law 170 = .ok (.if_icmp .ge 7, 3) := by decide +kernel
theorem dL_law_173 : decode cL_law 173 = .ok (.iconst 0, 1) := by decide +kernel
theorem dL_law_174 : decode cL_law 174 = .ok (.goto 62, 3) := by decide +kernel
theorem dL_law_177 : decode cL_law 177 = .ok (.iload 17, 2) := by decide +kernel
theorem dL_law_179 : decode cL_law 179 = .ok (.iconst 4, 1) := by decide +kernel
theorem dL_law_180 : decode cL_law 180 = .ok (.if_icmp .ge 7, 3) := by decide +kernel
theorem dL_law_183 : decode cL_law 183 = .ok (.iconst 1, 1) := by decide +kernel
theorem dL_law_184 : decode cL_law 184 = .ok (.goto 52, 3) := by decide +kernel
theorem dL_law_187 : decode cL_law 187 = .ok (.iload 17, 2) := by decide +kernel
theorem dL_law_189 : decode cL_law 189 = .ok (.bipush 9, 2) := by decide +kernel
theorem dL_law_191 : decode cL_law 191 = .ok (.if_icmp .ge 7, 3) := by decide +kernel
theorem dL_law_194 : decode cL_law 194 = .ok (.iconst 2, 1) := by decide +kernel
theorem dL_law_195 : decode cL_law 195 = .ok (.goto 41, 3) := by decide +kernel
theorem dL_law_198 : decode cL_law 198 = .ok (.iload 17, 2) := by decide +kernel
theorem dL_law_200 : decode cL_law 200 = .ok (.bipush 12, 2) := by decide +kernel
theorem dL_law_202 : decode cL_law 202 = .ok (.if_icmp .ge 7, 3) := by decide +kernel
theorem dL_law_205 : decode cL_law 205 = .ok (.iconst 3, 1) := by decide +kernel
theorem dL_law_206 : decode cL_law 206 = .ok (.goto 30, 3) := by decide +kernel
theorem dL_law_209 : decode cL_law 209 = .ok (.iload 17, 2) := by decide +kernel
theorem dL_law_211 : decode cL_law 211 = .ok (.bipush 16, 2) := by decide +kernel
theorem dL_law_213 : decode cL_law 213 = .ok (.if_icmp .ge 7, 3) := by decide +kernel
theorem dL_law_216 : decode cL_law 216 = .ok (.iconst 4, 1) := by decide +kernel
theorem dL_law_217 : decode cL_law 217 = .ok (.goto 19, 3) := by decide +kernel
theorem dL_law_220 : decode cL_law 220 = .ok (.iload 17, 2) := by decide +kernel
theorem dL_law_222 : decode cL_law 222 = .ok (.bipush 21, 2) := by decide +kernel
theorem dL_law_224 : decode cL_law 224 = .ok (.if_icmp .ge 11, 3) := by decide +kernel
theorem dL_law_227 : decode cL_law 227 = .ok (.iload 17, 2) := by decide +kernel
theorem dL_law_229 : decode cL_law 229 = .ok (.bipush 11, 2) := by decide +kernel
theorem dL_law_231 : decode cL_law 231 = .ok (.isub, 1) := by decide +kernel
theorem dL_law_232 : decode cL_law 232 = .ok (.goto 4, 3) := by decide +kernel
theorem dL_law_235 : decode cL_law 235 = .ok (.iconst 4, 1) := by decide +kernel
theorem dL_law_236 : decode cL_law 236 = .ok (.iload 18, 2) := by decide +kernel
theorem dL_law_238 : decode cL_law 238 = .ok (.aload_n 2, 1) := by decide +kernel
theorem dL_law_239 : decode cL_law 239 = .ok (.aload_n 3, 1) := by decide +kernel
theorem dL_law_240 : decode cL_law 240 = .ok (.aload 4, 2) := by decide +kernel
theorem dL_law_242 : decode cL_law 242 = .ok (.aload 5, 2) := by decide +kernel
theorem dL_law_244 : decode cL_law 244 = .ok (.aload 6, 2) := by decide +kernel
theorem dL_law_246 : decode cL_law 246 = .ok (.aload 7, 2) := by decide +kernel
theorem dL_law_248 : decode cL_law 248 = .ok (.aload 8, 2) := by decide +kernel
theorem dL_law_250 : decode cL_law 250 = .ok (.aload 9, 2) := by decide +kernel
theorem dL_law_252 : decode cL_law 252 = .ok (.aload 11, 2) := by decide +kernel
theorem dL_law_254 : decode cL_law 254 = .ok (.aload 13, 2) := by decide +kernel
theorem dL_law_256 : decode cL_law 256 = .ok (.invokestatic 175, 3) := by decide +kernel
theorem dL_law_259 : decode cL_law 259 = .ok (.istore 14, 2) := by decide +kernel
theorem dL_law_261 : decode cL_law 261 = .ok (.goto 254, 3) := by decide +kernel
theorem dL_law_264 : decode cL_law 264 = .ok (.iload 17, 2) := by decide +kernel
theorem dL_law_266 : decode cL_law 266 = .ok (.bipush 24, 2) := by decide +kernel
theorem dL_law_268 : decode cL_law 268 = .ok (.if_icmp .ge 23, 3) := by decide +kernel
theorem dL_law_271 : decode cL_law 271 = .ok (.aload_n 1, 1) := by decide +kernel
theorem dL_law_272 : decode cL_law 272 = .ok (.iload 18, 2) := by decide +kernel
theorem dL_law_274 : decode cL_law 274 = .ok (.aload_n 2, 1) := by decide +kernel
theorem dL_law_275 : decode cL_law 275 = .ok (.aload 6, 2) := by decide +kernel
theorem dL_law_277 : decode cL_law 277 = .ok (.aload 8, 2) := by decide +kernel
theorem dL_law_279 : decode cL_law 279 = .ok (.aload 9, 2) := by decide +kernel
theorem dL_law_281 : decode cL_law 281 = .ok (.aload 13, 2) := by decide +kernel
theorem dL_law_283 : decode cL_law 283 = .ok (.invokestatic 171, 3) := by decide +kernel
theorem dL_law_286 : decode cL_law 286 = .ok (.istore 14, 2) := by decide +kernel
theorem dL_law_288 : decode cL_law 288 = .ok (.goto 227, 3) := by decide +kernel
theorem dL_law_291 : decode cL_law 291 = .ok (.iload 17, 2) := by decide +kernel
theorem dL_law_293 : decode cL_law 293 = .ok (.bipush 36, 2) := by decide +kernel
theorem dL_law_295 : decode cL_law 295 = .ok (.if_icmp .ge 72, 3) := by decide +kernel
theorem dL_law_298 : decode cL_law 298 = .ok (.aload_n 1, 1) := by decide +kernel
theorem dL_law_299 : decode cL_law 299 = .ok (.iload 17, 2) := by decide +kernel
theorem dL_law_301 : decode cL_law 301 = .ok (.bipush 28, 2) := by decide +kernel
theorem dL_law_303 : decode cL_law 303 = .ok (.if_icmp .ge 7, 3) := by decide +kernel
theorem dL_law_306 : decode cL_law 306 = .ok (.iconst 0, 1) := by decide +kernel
theorem dL_law_307 : decode cL_law 307 = .ok (.goto 30, 3) := by decide +kernel
theorem dL_law_310 : decode cL_law 310 = .ok (.iload 17, 2) := by decide +kernel
theorem dL_law_312 : decode cL_law 312 = .ok (.bipush 30, 2) := by decide +kernel
theorem dL_law_314 : decode cL_law 314 = .ok (.if_icmp .ge 7, 3) := by decide +kernel
theorem dL_law_317 : decode cL_law 317 = .ok (.iconst 1, 1) := by decide +kernel
theorem dL_law_318 : decode cL_law 318 = .ok (.goto 19, 3) := by decide +kernel
theorem dL_law_321 : decode cL_law 321 = .ok (.iload 17, 2) := by decide +kernel
theorem dL_law_323 : decode cL_law 323 = .ok (.bipush 33, 2) := by decide +kernel
theorem dL_law_325 : decode cL_law 325 = .ok (.if_icmp .ge 7, 3) := by decide +kernel
theorem dL_law_328 : decode cL_law 328 = .ok (.iconst 2, 1) := by decide +kernel
theorem dL_law_329 : decode cL_law 329 = .ok (.goto 8, 3) := by decide +kernel
theorem dL_law_332 : decode cL_law 332 = .ok (.iload 17, 2) := by decide +kernel
theorem dL_law_334 : decode cL_law 334 = .ok (.bipush 30, 2) := by decide +kernel
theorem dL_law_336 : decode cL_law 336 = .ok (.isub, 1) := by decide +kernel
theorem dL_law_337 : decode cL_law 337 = .ok (.iload 18, 2) := by decide +kernel
theorem dL_law_339 : decode cL_law 339 = .ok (.aload_n 2, 1) := by decide +kernel
theorem dL_law_340 : decode cL_law 340 = .ok (.aload_n 3, 1) := by decide +kernel
theorem dL_law_341 : decode cL_law 341 = .ok (.aload 4, 2) := by decide +kernel
theorem dL_law_343 : decode cL_law 343 = .ok (.aload 5, 2) := by decide +kernel
theorem dL_law_345 : decode cL_law 345 = .ok (.aload 6, 2) := by decide +kernel
theorem dL_law_347 : decode cL_law 347 = .ok (.aload 7, 2) := by decide +kernel
theorem dL_law_349 : decode cL_law 349 = .ok (.aload 8, 2) := by decide +kernel
theorem dL_law_351 : decode cL_law 351 = .ok (.aload 9, 2) := by decide +kernel
theorem dL_law_353 : decode cL_law 353 = .ok (.aload 10, 2) := by decide +kernel
theorem dL_law_355 : decode cL_law 355 = .ok (.aload 11, 2) := by decide +kernel
theorem dL_law_357 : decode cL_law 357 = .ok (.aload 13, 2) := by decide +kernel
theorem dL_law_359 : decode cL_law 359 = .ok (.invokestatic 179, 3) := by decide +kernel
theorem dL_law_362 : decode cL_law 362 = .ok (.istore 14, 2) := by decide +kernel
theorem dL_law_364 : decode cL_law 364 = .ok (.goto 151, 3) := by decide +kernel
theorem dL_law_367 : decode cL_law 367 = .ok (.iload 17, 2) := by decide +kernel
theorem dL_law_369 : decode cL_law 369 = .ok (.bipush 44, 2) := by decide +kernel
theorem dL_law_371 : decode cL_law 371 = .ok (.if_icmp .ge 58, 3) := by decide +kernel
theorem dL_law_374 : decode cL_law 374 = .ok (.aload_n 1, 1) := by decide +kernel
theorem dL_law_375 : decode cL_law 375 = .ok (.iload 17, 2) := by decide +kernel
theorem dL_law_377 : decode cL_law 377 = .ok (.bipush 38, 2) := by decide +kernel
theorem dL_law_379 : decode cL_law 379 = .ok (.if_icmp .ge 7, 3) := by decide +kernel
theorem dL_law_382 : decode cL_law 382 = .ok (.iconst 0, 1) := by decide +kernel
theorem dL_law_383 : decode cL_law 383 = .ok (.goto 26, 3) := by decide +kernel
theorem dL_law_386 : decode cL_law 386 = .ok (.iload 17, 2) := by decide +kernel
theorem dL_law_388 : decode cL_law 388 = .ok (.bipush 40, 2) := by decide +kernel
theorem dL_law_390 : decode cL_law 390 = .ok (.if_icmp .ge 7, 3) := by decide +kernel
theorem dL_law_393 : decode cL_law 393 = .ok (.iconst 1, 1) := by decide +kernel
theorem dL_law_394 : decode cL_law 394 = .ok (.goto 15, 3) := by decide +kernel
theorem dL_law_397 : decode cL_law 397 = .ok (.iload 17, 2) := by decide +kernel
theorem dL_law_399 : decode cL_law 399 = .ok (.bipush 42, 2) := by decide +kernel
theorem dL_law_401 : decode cL_law 401 = .ok (.if_icmp .ge 7, 3) := by decide +kernel
theorem dL_law_404 : decode cL_law 404 = .ok (.iconst 2, 1) := by decide +kernel
theorem dL_law_405 : decode cL_law 405 = .ok (.goto 4, 3) := by decide +kernel
theorem dL_law_408 : decode cL_law 408 = .ok (.iconst 3, 1) := by decide +kernel
theorem dL_law_409 : decode cL_law 409 = .ok (.iload 18, 2) := by decide +kernel
theorem dL_law_411 : decode cL_law 411 = .ok (.aload 6, 2) := by decide +kernel
theorem dL_law_413 : decode cL_law 413 = .ok (.aload 8, 2) := by decide +kernel
theorem dL_law_415 : decode cL_law 415 = .ok (.aload 11, 2) := by decide +kernel
theorem dL_law_417 : decode cL_law 417 = .ok (.aload 12, 2) := by decide +kernel
theorem dL_law_419 : decode cL_law 419 = .ok (.aload 13, 2) := by decide +kernel
theorem dL_law_421 : decode cL_law 421 = .ok (.invokestatic 183, 3) := by decide +kernel
theorem dL_law_424 : decode cL_law 424 = .ok (.istore 14, 2) := by decide +kernel
theorem dL_law_426 : decode cL_law 426 = .ok (.goto 89, 3) := by decide +kernel
theorem dL_law_429 : decode cL_law 429 = .ok (.iconst 1, 1) := by decide +kernel
theorem dL_law_430 : decode cL_law 430 = .ok (.iload 18, 2) := by decide +kernel
theorem dL_law_432 : decode cL_law 432 = .ok (.iload 18, 2) := by decide +kernel
theorem dL_law_434 : decode cL_law 434 = .ok (.bipush 7, 2) := by decide +kernel
theorem dL_law_436 : decode cL_law 436 = .ok (.ishr, 1) := by decide +kernel
theorem dL_law_437 : decode cL_law 437 = .ok (.bipush 9, 2) := by decide +kernel
theorem dL_law_439 : decode cL_law 439 = .ok (.invokestatic 89, 3) := by decide +kernel
theorem dL_law_442 : decode cL_law 442 = .ok (.ifCond .ne 9, 3) := by decide +kernel
theorem dL_law_445 : decode cL_law 445 = .ok (.sipush 300, 3) := by decide +kernel
theorem dL_law_448 : decode cL_law 448 = .ok (.goto 5, 3) := by decide +kernel
theorem dL_law_451 : decode cL_law 451 = .ok (.bipush 25, 2) := by decide +kernel
theorem dL_law_453 : decode cL_law 453 = .ok (.invokestatic 89, 3) := by decide +kernel
theorem dL_law_456 : decode cL_law 456 = .ok (.iadd, 1) := by decide +kernel
theorem dL_law_457 : decode cL_law 457 = .ok (.istore 19, 2) := by decide +kernel
theorem dL_law_459 : decode cL_law 459 = .ok (.aload 13, 2) := by decide +kernel
theorem dL_law_461 : decode cL_law 461 = .ok (.iconst 0, 1) := by decide +kernel
theorem dL_law_462 : decode cL_law 462 = .ok (.iaload, 1) := by decide +kernel
theorem dL_law_463 : decode cL_law 463 = .ok (.iload 19, 2) := by decide +kernel
theorem dL_law_465 : decode cL_law 465 = .ok (.iadd, 1) := by decide +kernel
theorem dL_law_466 : decode cL_law 466 = .ok (.istore 20, 2) := by decide +kernel
theorem dL_law_468 : decode cL_law 468 = .ok (.aload 13, 2) := by decide +kernel
theorem dL_law_470 : decode cL_law 470 = .ok (.iconst 0, 1) := by decide +kernel
theorem dL_law_471 : decode cL_law 471 = .ok (.iload 20, 2) := by decide +kernel
theorem dL_law_473 : decode cL_law 473 = .ok (.sipush 3000, 3) := by decide +kernel
theorem dL_law_476 : decode cL_law 476 = .ok (.if_icmp .le 10, 3) := by decide +kernel
theorem dL_law_479 : decode cL_law 479 = .ok (.aload 13, 2) := by decide +kernel
theorem dL_law_481 : decode cL_law 481 = .ok (.iconst 0, 1) := by decide +kernel
theorem dL_law_482 : decode cL_law 482 = .ok (.iaload, 1) := by decide +kernel
theorem dL_law_483 : decode cL_law 483 = .ok (.goto 5, 3) := by decide +kernel
theorem dL_law_486 : decode cL_law 486 = .ok (.iload 20, 2) := by decide +kernel
theorem dL_law_488 : decode cL_law 488 = .ok (.iastore, 1) := by decide +kernel
theorem dL_law_489 : decode cL_law 489 = .ok (.iload 20, 2) := by decide +kernel
theorem dL_law_491 : decode cL_law 491 = .ok (.sipush 3000, 3) := by decide +kernel
theorem dL_law_494 : decode cL_law 494 = .ok (.if_icmp .gt 14, 3) := by decide +kernel
theorem dL_law_497 : decode cL_law 497 = .ok (.aload_n 1, 1) := by decide +kernel
theorem dL_law_498 : decode cL_law 498 = .ok (.iload 19, 2) := by decide +kernel
theorem dL_law_500 : decode cL_law 500 = .ok (.invokevirtual 187, 3) := by decide +kernel
theorem dL_law_503 : decode cL_law 503 = .ok (.iload 20, 2) := by decide +kernel
theorem dL_law_505 : decode cL_law 505 = .ok (.if_icmp .ne 7, 3) := by decide +kernel
theorem dL_law_508 : decode cL_law 508 = .ok (.iconst 1, 1) := by decide +kernel
theorem dL_law_509 : decode cL_law 509 = .ok (.goto 4, 3) := by decide +kernel
theorem dL_law_512 : decode cL_law 512 = .ok (.iconst 0, 1) := by decide +kernel
theorem dL_law_513 : decode cL_law 513 = .ok (.istore 14, 2) := by decide +kernel
theorem dL_law_515 : decode cL_law 515 = .ok (.iload 14, 2) := by decide +kernel
theorem dL_law_517 : decode cL_law 517 = .ok (.ifCond .eq 39, 3) := by decide +kernel
theorem dL_law_520 : decode cL_law 520 = .ok (.aload_n 1, 1) := by decide +kernel
theorem dL_law_521 : decode cL_law 521 = .ok (.iload 18, 2) := by decide +kernel
theorem dL_law_523 : decode cL_law 523 = .ok (.iconst 1, 1) := by decide +kernel
theorem dL_law_524 : decode cL_law 524 = .ok (.ishr, 1) := by decide +kernel
theorem dL_law_525 : decode cL_law 525 = .ok (.ldc 190, 2) := by decide +kernel
theorem dL_law_527 : decode cL_law 527 = .ok (.iand, 1) := by decide +kernel
theorem dL_law_528 : decode cL_law 528 = .ok (.aload_n 2, 1) := by decide +kernel
theorem dL_law_529 : decode cL_law 529 = .ok (.aload_n 3, 1) := by decide +kernel
theorem dL_law_530 : decode cL_law 530 = .ok (.aload 4, 2) := by decide +kernel
theorem dL_law_532 : decode cL_law 532 = .ok (.aload 5, 2) := by decide +kernel
theorem dL_law_534 : decode cL_law 534 = .ok (.aload 6, 2) := by decide +kernel
theorem dL_law_536 : decode cL_law 536 = .ok (.aload 8, 2) := by decide +kernel
theorem dL_law_538 : decode cL_law 538 = .ok (.aload 9, 2) := by decide +kernel
theorem dL_law_540 : decode cL_law 540 = .ok (.aload 10, 2) := by decide +kernel
theorem dL_law_542 : decode cL_law 542 = .ok (.aload 11, 2) := by decide +kernel
theorem dL_law_544 : decode cL_law 544 = .ok (.aload 13, 2) := by decide +kernel
theorem dL_law_546 : decode cL_law 546 = .ok (.invokestatic 191, 3) := by decide +kernel
theorem dL_law_549 : decode cL_law 549 = .ok (.ifCond .eq 7, 3) := by decide +kernel
theorem dL_law_552 : decode cL_law 552 = .ok (.iconst 1, 1) := by decide +kernel
theorem dL_law_553 : decode cL_law 553 = .ok (.goto 4, 3) := by decide +kernel
theorem dL_law_556 : decode cL_law 556 = .ok (.iconst 0, 1) := by decide +kernel
theorem dL_law_557 : decode cL_law 557 = .ok (.istore 14, 2) := by decide +kernel
theorem dL_law_559 : decode cL_law 559 = .ok (.iinc 15 1, 3) := by decide +kernel
theorem dL_law_562 : decode cL_law 562 = .ok (.goto (-478), 3) := by decide +kernel
theorem dL_law_565 : decode cL_law 565 = .ok (.iload 14, 2) := by decide +kernel
theorem dL_law_567 : decode cL_law 567 = .ok (.ireturn, 1) := by decide +kernel
