theorem dX8_init_0 : decode cX8_init 0 = .ok (.aload_n 0, 1) := by decide +kernel
theorem dX8_init_1 : decode cX8_init 1 = .ok (.invokespecial 1, 3) := by decide +kernel
theorem dX8_init_4 : decode cX8_init 4 = .ok (.aload_n 0, 1) := by decide +kernel
theorem dX8_init_5 : decode cX8_init 5 = .ok (.bipush 6, 2) := by decide +kernel
theorem dX8_init_7 : decode cX8_init 7 = .ok (.newarray .int, 2) := by decide +kernel
theorem dX8_init_9 : decode cX8_init 9 = .ok (.putfield 7, 3) := by decide +kernel
theorem dX8_init_12 : decode cX8_init 12 = .ok (.aload_n 0, 1) := by decide +kernel
theorem dX8_init_13 : decode cX8_init 13 = .ok (.bipush 6, 2) := by decide +kernel
theorem dX8_init_15 : decode cX8_init 15 = .ok (.newarray .int, 2) := by decide +kernel
theorem dX8_init_17 : decode cX8_init 17 = .ok (.putfield 13, 3) := by decide +kernel
theorem dX8_init_20 : decode cX8_init 20 = .ok (.aload_n 0, 1) := by decide +kernel
theorem dX8_init_21 : decode cX8_init 21 = .ok (.bipush 6, 2) := by decide +kernel
theorem dX8_init_23 : decode cX8_init 23 = .ok (.newarray .int, 2) := by decide +kernel
theorem dX8_init_25 : decode cX8_init 25 = .ok (.putfield 16, 3) := by decide +kernel
theorem dX8_init_28 : decode cX8_init 28 = .ok (.aload_n 0, 1) := by decide +kernel
theorem dX8_init_29 : decode cX8_init 29 = .ok (.bipush 6, 2) := by decide +kernel
theorem dX8_init_31 : decode cX8_init 31 = .ok (.newarray .int, 2) := by decide +kernel
theorem dX8_init_33 : decode cX8_init 33 = .ok (.putfield 19, 3) := by decide +kernel
theorem dX8_init_36 : decode cX8_init 36 = .ok (.aload_n 0, 1) := by decide +kernel
theorem dX8_init_37 : decode cX8_init 37 = .ok (.bipush 8, 2) := by decide +kernel
theorem dX8_init_39 : decode cX8_init 39 = .ok (.newarray .int, 2) := by decide +kernel
theorem dX8_init_41 : decode cX8_init 41 = .ok (.putfield 22, 3) := by decide +kernel
theorem dX8_init_44 : decode cX8_init 44 = .ok (.aload_n 0, 1) := by decide +kernel
theorem dX8_init_45 : decode cX8_init 45 = .ok (.bipush 8, 2) := by decide +kernel
theorem dX8_init_47 : decode cX8_init 47 = .ok (.newarray .int, 2) := by decide +kernel
theorem dX8_init_49 : decode cX8_init 49 = .ok (.putfield 25, 3) := by decide +kernel
theorem dX8_init_52 : decode cX8_init 52 = .ok (.aload_n 0, 1) := by decide +kernel
theorem dX8_init_53 : decode cX8_init 53 = .ok (.bipush 8, 2) := by decide +kernel
theorem dX8_init_55 : decode cX8_init 55 = .ok (.newarray .int, 2) := by decide +kernel
theorem dX8_init_57 : decode cX8_init 57 = .ok (.putfield 28, 3) := by decide +kernel
theorem dX8_init_60 : decode cX8_init 60 = .ok (.aload_n 0, 1) := by decide +kernel
theorem dX8_init_61 : decode cX8_init 61 = .ok (.bipush 8, 2) := by decide +kernel
theorem dX8_init_63 : decode cX8_init 63 = .ok (.newarray .int, 2) := by decide +kernel
theorem dX8_init_65 : decode cX8_init 65 = .ok (.putfield 31, 3) := by decide +kernel
theorem dX8_init_68 : decode cX8_init 68 = .ok (.aload_n 0, 1) := by decide +kernel
theorem dX8_init_69 : decode cX8_init 69 = .ok (.bipush 8, 2) := by decide +kernel
theorem dX8_init_71 : decode cX8_init 71 = .ok (.newarray .int, 2) := by decide +kernel
theorem dX8_init_73 : decode cX8_init 73 = .ok (.putfield 34, 3) := by decide +kernel
theorem dX8_init_76 : decode cX8_init 76 = .ok (.aload_n 0, 1) := by decide +kernel
theorem dX8_init_77 : decode cX8_init 77 = .ok (.bipush 8, 2) := by decide +kernel
theorem dX8_init_79 : decode cX8_init 79 = .ok (.newarray .int, 2) := by decide +kernel
theorem dX8_init_81 : decode cX8_init 81 = .ok (.putfield 37, 3) := by decide +kernel
theorem dX8_init_84 : decode cX8_init 84 = .ok (.aload_n 0, 1) := by decide +kernel
theorem dX8_init_85 : decode cX8_init 85 = .ok (.bipush 8, 2) := by decide +kernel
theorem dX8_init_87 : decode cX8_init 87 = .ok (.newarray .boolean, 2) := by decide +kernel
theorem dX8_init_89 : decode cX8_init 89 = .ok (.putfield 40, 3) := by decide +kernel
theorem dX8_init_92 : decode cX8_init 92 = .ok (.aload_n 0, 1) := by decide +kernel
theorem dX8_init_93 : decode cX8_init 93 = .ok (.bipush 40, 2) := by decide +kernel
theorem dX8_init_95 : decode cX8_init 95 = .ok (.newarray .int, 2) := by decide +kernel
theorem dX8_init_97 : decode cX8_init 97 = .ok (.putfield 44, 3) := by decide +kernel
theorem dX8_init_100 : decode cX8_init 100 = .ok (.aload_n 0, 1) := by decide +kernel
theorem dX8_init_101 : decode cX8_init 101 = .ok (.bipush 40, 2) := by decide +kernel
theorem dX8_init_103 : decode cX8_init 103 = .ok (.newarray .int, 2) := by decide +kernel
theorem dX8_init_105 : decode cX8_init 105 = .ok (.putfield 47, 3) := by decide +kernel
theorem dX8_init_108 : decode cX8_init 108 = .ok (.aload_n 0, 1) := by decide +kernel
theorem dX8_init_109 : decode cX8_init 109 = .ok (.bipush 40, 2) := by decide +kernel
theorem dX8_init_111 : decode cX8_init 111 = .ok (.newarray .int, 2) := by decide +kernel
theorem dX8_init_113 : decode cX8_init 113 = .ok (.putfield 50, 3) := by decide +kernel
theorem dX8_init_116 : decode cX8_init 116 = .ok (.aload_n 0, 1) := by decide +kernel
theorem dX8_init_117 : decode cX8_init 117 = .ok (.bipush 40, 2) := by decide +kernel
theorem dX8_init_119 : decode cX8_init 119 = .ok (.newarray .int, 2) := by decide +kernel
theorem dX8_init_121 : decode cX8_init 121 = .ok (.putfield 53, 3) := by decide +kernel
theorem dX8_init_124 : decode cX8_init 124 = .ok (.aload_n 0, 1) := by decide +kernel
theorem dX8_init_125 : decode cX8_init 125 = .ok (.bipush 16, 2) := by decide +kernel
theorem dX8_init_127 : decode cX8_init 127 = .ok (.newarray .int, 2) := by decide +kernel
theorem dX8_init_129 : decode cX8_init 129 = .ok (.putfield 56, 3) := by decide +kernel
theorem dX8_init_132 : decode cX8_init 132 = .ok (.aload_n 0, 1) := by decide +kernel
theorem dX8_init_133 : decode cX8_init 133 = .ok (.bipush 8, 2) := by decide +kernel
theorem dX8_init_135 : decode cX8_init 135 = .ok (.newarray .int, 2) := by decide +kernel
theorem dX8_init_137 : decode cX8_init 137 = .ok (.putfield 59, 3) := by decide +kernel
theorem dX8_init_140 : decode cX8_init 140 = .ok (.aload_n 0, 1) := by decide +kernel
theorem dX8_init_141 : decode cX8_init 141 = .ok (.bipush 8, 2) := by decide +kernel
theorem dX8_init_143 : decode cX8_init 143 = .ok (.newarray .int, 2) := by decide +kernel
theorem dX8_init_145 : decode cX8_init 145 = .ok (.putfield 62, 3) := by decide +kernel
theorem dX8_init_148 : decode cX8_init 148 = .ok (.aload_n 0, 1) := by decide +kernel
theorem dX8_init_149 : decode cX8_init 149 = .ok (.bipush 20, 2) := by decide +kernel
theorem dX8_init_151 : decode cX8_init 151 = .ok (.newarray .int, 2) := by decide +kernel
theorem dX8_init_153 : decode cX8_init 153 = .ok (.putfield 65, 3) := by decide +kernel
theorem dX8_init_156 : decode cX8_init 156 = .ok (.aload_n 0, 1) := by decide +kernel
theorem dX8_init_157 : decode cX8_init 157 = .ok (.bipush 20, 2) := by decide +kernel
theorem dX8_init_159 : decode cX8_init 159 = .ok (.newarray .int, 2) := by decide +kernel
theorem dX8_init_161 : decode cX8_init 161 = .ok (.putfield 68, 3) := by decide +kernel
theorem dX8_init_164 : decode cX8_init 164 = .ok (.aload_n 0, 1) := by decide +kernel
theorem dX8_init_165 : decode cX8_init 165 = .ok (.bipush 20, 2) := by decide +kernel
theorem dX8_init_167 : decode cX8_init 167 = .ok (.newarray .int, 2) := by decide +kernel
theorem dX8_init_169 : decode cX8_init 169 = .ok (.putfield 71, 3) := by decide +kernel
theorem dX8_init_172 : decode cX8_init 172 = .ok (.aload_n 0, 1) := by decide +kernel
theorem dX8_init_173 : decode cX8_init 173 = .ok (.bipush 20, 2) := by decide +kernel
theorem dX8_init_175 : decode cX8_init 175 = .ok (.newarray .int, 2) := by decide +kernel
theorem dX8_init_177 : decode cX8_init 177 = .ok (.putfield 74, 3) := by decide +kernel
theorem dX8_init_180 : decode cX8_init 180 = .ok (.aload_n 0, 1) := by decide +kernel
theorem dX8_init_181 : decode cX8_init 181 = .ok (.bipush 12, 2) := by decide +kernel
theorem dX8_init_183 : decode cX8_init 183 = .ok (.newarray .int, 2) := by decide +kernel
theorem dX8_init_185 : decode cX8_init 185 = .ok (.putfield 77, 3) := by decide +kernel
theorem dX8_init_188 : decode cX8_init 188 = .ok (.aload_n 0, 1) := by decide +kernel
theorem dX8_init_189 : decode cX8_init 189 = .ok (.bipush 12, 2) := by decide +kernel
theorem dX8_init_191 : decode cX8_init 191 = .ok (.newarray .int, 2) := by decide +kernel
theorem dX8_init_193 : decode cX8_init 193 = .ok (.putfield 80, 3) := by decide +kernel
theorem dX8_init_196 : decode cX8_init 196 = .ok (.aload_n 0, 1) := by decide +kernel
theorem dX8_init_197 : decode cX8_init 197 = .ok (.bipush 12, 2) := by decide +kernel
theorem dX8_init_199 : decode cX8_init 199 = .ok (.newarray .int, 2) := by decide +kernel
theorem dX8_init_201 : decode cX8_init 201 = .ok (.putfield 83, 3) := by decide +kernel
theorem dX8_init_204 : decode cX8_init 204 = .ok (.aload_n 0, 1) := by decide +kernel
theorem dX8_init_205 : decode cX8_init 205 = .ok (.bipush 12, 2) := by decide +kernel
theorem dX8_init_207 : decode cX8_init 207 = .ok (.newarray .int, 2) := by decide +kernel
theorem dX8_init_209 : decode cX8_init 209 = .ok (.putfield 86, 3) := by decide +kernel
theorem dX8_init_212 : decode cX8_init 212 = .ok (.aload_n 0, 1) := by decide +kernel
theorem dX8_init_213 : decode cX8_init 213 = .ok (.bipush 12, 2) := by decide +kernel
theorem dX8_init_215 : decode cX8_init 215 = .ok (.newarray .int, 2) := by decide +kernel
theorem dX8_init_217 : decode cX8_init 217 = .ok (.putfield 89, 3) := by decide +kernel
theorem dX8_init_220 : decode cX8_init 220 = .ok (.aload_n 0, 1) := by decide +kernel
theorem dX8_init_221 : decode cX8_init 221 = .ok (.bipush 12, 2) := by decide +kernel
theorem dX8_init_223 : decode cX8_init 223 = .ok (.newarray .int, 2) := by decide +kernel
theorem dX8_init_225 : decode cX8_init 225 = .ok (.putfield 92, 3) := by decide +kernel
theorem dX8_init_228 : decode cX8_init 228 = .ok (.aload_n 0, 1) := by decide +kernel
theorem dX8_init_229 : decode cX8_init 229 = .ok (.bipush 12, 2) := by decide +kernel
theorem dX8_init_231 : decode cX8_init 231 = .ok (.newarray .boolean, 2) := by decide +kernel
theorem dX8_init_233 : decode cX8_init 233 = .ok (.putfield 95, 3) := by decide +kernel
theorem dX8_init_236 : decode cX8_init 236 = .ok (.aload_n 0, 1) := by decide +kernel
theorem dX8_init_237 : decode cX8_init 237 = .ok (.bipush 12, 2) := by decide +kernel
theorem dX8_init_239 : decode cX8_init 239 = .ok (.newarray .int, 2) := by decide +kernel
theorem dX8_init_241 : decode cX8_init 241 = .ok (.putfield 98, 3) := by decide +kernel
theorem dX8_init_244 : decode cX8_init 244 = .ok (.aload_n 0, 1) := by decide +kernel
theorem dX8_init_245 : decode cX8_init 245 = .ok (.bipush 12, 2) := by decide +kernel
theorem dX8_init_247 : decode cX8_init 247 = .ok (.newarray .int, 2) := by decide +kernel
theorem dX8_init_249 : decode cX8_init 249 = .ok (.putfield 101, 3) := by decide +kernel
theorem dX8_init_252 : decode cX8_init 252 = .ok (.aload_n 0, 1) := by decide +kernel
theorem dX8_init_253 : decode cX8_init 253 = .ok (.bipush 12, 2) := by decide +kernel
theorem dX8_init_255 : decode cX8_init 255 = .ok (.newarray .int, 2) := by decide +kernel
theorem dX8_init_257 : decode cX8_init 257 = .ok (.putfield 104, 3) := by decide +kernel
theorem dX8_init_260 : decode cX8_init 260 = .ok (.aload_n 0, 1) := by decide +kernel
theorem dX8_init_261 : decode cX8_init 261 = .ok (.bipush 12, 2) := by decide +kernel
theorem dX8_init_263 : decode cX8_init 263 = .ok (.newarray .int, 2) := by decide +kernel
theorem dX8_init_265 : decode cX8_init 265 = .ok (.putfield 107, 3) := by decide +kernel
theorem dX8_init_268 : decode cX8_init 268 = .ok (.aload_n 0, 1) := by decide +kernel
theorem dX8_init_269 : decode cX8_init 269 = .ok (.bipush 12, 2) := by decide +kernel
theorem dX8_init_271 : decode cX8_init 271 = .ok (.newarray .int, 2) := by decide +kernel
theorem dX8_init_273 : decode cX8_init 273 = .ok (.putfield 110, 3) := by decide +kernel
theorem dX8_init_276 : decode cX8_init 276 = .ok (.aload_n 0, 1) := by decide +kernel
theorem dX8_init_277 : decode cX8_init 277 = .ok (.bipush 12, 2) := by decide +kernel
theorem dX8_init_279 : decode cX8_init 279 = .ok (.newarray .int, 2) := by decide +kernel
theorem dX8_init_281 : decode cX8_init 281 = .ok (.putfield 113, 3) := by decide +kernel
theorem dX8_init_284 : decode cX8_init 284 = .ok (.aload_n 0, 1) := by decide +kernel
theorem dX8_init_285 : decode cX8_init 285 = .ok (.bipush 40, 2) := by decide +kernel
theorem dX8_init_287 : decode cX8_init 287 = .ok (.newarray .int, 2) := by decide +kernel
theorem dX8_init_289 : decode cX8_init 289 = .ok (.putfield 116, 3) := by decide +kernel
theorem dX8_init_292 : decode cX8_init 292 = .ok (.aload_n 0, 1) := by decide +kernel
theorem dX8_init_293 : decode cX8_init 293 = .ok (.bipush 40, 2) := by decide +kernel
theorem dX8_init_295 : decode cX8_init 295 = .ok (.newarray .int, 2) := by decide +kernel
theorem dX8_init_297 : decode cX8_init 297 = .ok (.putfield 119, 3) := by decide +kernel
theorem dX8_init_300 : decode cX8_init 300 = .ok (.aload_n 0, 1) := by decide +kernel
theorem dX8_init_301 : decode cX8_init 301 = .ok (.bipush 40, 2) := by decide +kernel
theorem dX8_init_303 : decode cX8_init 303 = .ok (.newarray .int, 2) := by decide +kernel
theorem dX8_init_305 : decode cX8_init 305 = .ok (.putfield 122, 3) := by decide +kernel
theorem dX8_init_308 : decode cX8_init 308 = .ok (.aload_n 0, 1) := by decide +kernel
theorem dX8_init_309 : decode cX8_init 309 = .ok (.bipush 8, 2) := by decide +kernel
theorem dX8_init_311 : decode cX8_init 311 = .ok (.newarray .int, 2) := by decide +kernel
theorem dX8_init_313 : decode cX8_init 313 = .ok (.putfield 125, 3) := by decide +kernel
theorem dX8_init_316 : decode cX8_init 316 = .ok (.aload_n 0, 1) := by decide +kernel
theorem dX8_init_317 : decode cX8_init 317 = .ok (.bipush 8, 2) := by decide +kernel
theorem dX8_init_319 : decode cX8_init 319 = .ok (.newarray .int, 2) := by decide +kernel
theorem dX8_init_321 : decode cX8_init 321 = .ok (.putfield 128, 3) := by decide +kernel
theorem dX8_init_324 : decode cX8_init 324 = .ok (.aload_n 0, 1) := by decide +kernel
theorem dX8_init_325 : decode cX8_init 325 = .ok (.bipush 8, 2) := by decide +kernel
theorem dX8_init_327 : decode cX8_init 327 = .ok (.newarray .int, 2) := by decide +kernel
theorem dX8_init_329 : decode cX8_init 329 = .ok (.putfield 131, 3) := by decide +kernel
theorem dX8_init_332 : decode cX8_init 332 = .ok (.aload_n 0, 1) := by decide +kernel
theorem dX8_init_333 : decode cX8_init 333 = .ok (.bipush 8, 2) := by decide +kernel
theorem dX8_init_335 : decode cX8_init 335 = .ok (.newarray .int, 2) := by decide +kernel
theorem dX8_init_337 : decode cX8_init 337 = .ok (.putfield 134, 3) := by decide +kernel
theorem dX8_init_340 : decode cX8_init 340 = .ok (.aload_n 0, 1) := by decide +kernel
theorem dX8_init_341 : decode cX8_init 341 = .ok (.bipush 8, 2) := by decide +kernel
theorem dX8_init_343 : decode cX8_init 343 = .ok (.newarray .int, 2) := by decide +kernel
theorem dX8_init_345 : decode cX8_init 345 = .ok (.putfield 137, 3) := by decide +kernel
theorem dX8_init_348 : decode cX8_init 348 = .ok (.aload_n 0, 1) := by decide +kernel
theorem dX8_init_349 : decode cX8_init 349 = .ok (.bipush 48, 2) := by decide +kernel
theorem dX8_init_351 : decode cX8_init 351 = .ok (.newarray .int, 2) := by decide +kernel
theorem dX8_init_353 : decode cX8_init 353 = .ok (.putfield 140, 3) := by decide +kernel
theorem dX8_init_356 : decode cX8_init 356 = .ok (.aload_n 0, 1) := by decide +kernel
theorem dX8_init_357 : decode cX8_init 357 = .ok (.bipush 48, 2) := by decide +kernel
theorem dX8_init_359 : decode cX8_init 359 = .ok (.newarray .int, 2) := by decide +kernel
theorem dX8_init_361 : decode cX8_init 361 = .ok (.putfield 143, 3) := by decide +kernel
theorem dX8_init_364 : decode cX8_init 364 = .ok (.aload_n 0, 1) := by decide +kernel
theorem dX8_init_365 : decode cX8_init 365 = .ok (.bipush 48, 2) := by decide +kernel
theorem dX8_init_367 : decode cX8_init 367 = .ok (.newarray .int, 2) := by decide +kernel
theorem dX8_init_369 : decode cX8_init 369 = .ok (.putfield 146, 3) := by decide +kernel
theorem dX8_init_372 : decode cX8_init 372 = .ok (.aload_n 0, 1) := by decide +kernel
theorem dX8_init_373 : decode cX8_init 373 = .ok (.bipush 48, 2) := by decide +kernel
theorem dX8_init_375 : decode cX8_init 375 = .ok (.newarray .boolean, 2) := by decide +kernel
theorem dX8_init_377 : decode cX8_init 377 = .ok (.putfield 149, 3) := by decide +kernel
theorem dX8_init_380 : decode cX8_init 380 = .ok (.iconst 0, 1) := by decide +kernel
theorem dX8_init_381 : decode cX8_init 381 = .ok (.istore_n 1, 1) := by decide +kernel
theorem dX8_init_382 : decode cX8_init 382 = .ok (.iload_n 1, 1) := by decide +kernel
theorem dX8_init_383 : decode cX8_init 383 = .ok (.bipush 48, 2) := by decide +kernel
theorem dX8_init_385 : decode cX8_init 385 = .ok (.if_icmp .ge 53, 3) := by decide +kernel
theorem dX8_init_388 : decode cX8_init 388 = .ok (.aload_n 0, 1) := by decide +kernel
theorem dX8_init_389 : decode cX8_init 389 = .ok (.getfield 140, 3) := by decide +kernel
theorem dX8_init_392 : decode cX8_init 392 = .ok (.iload_n 1, 1) := by decide +kernel
theorem dX8_init_393 : decode cX8_init 393 = .ok (.iconst (-1), 1) := by decide +kernel
theorem dX8_init_394 : decode cX8_init 394 = .ok (.iastore, 1) := by decide +kernel
theorem dX8_init_395 : decode cX8_init 395 = .ok (.aload_n 0, 1) := by decide +kernel
theorem dX8_init_396 : decode cX8_init 396 = .ok (.getfield 143, 3) := by decide +kernel
theorem dX8_init_399 : decode cX8_init 399 = .ok (.iload_n 1, 1) := by decide +kernel
theorem dX8_init_400 : decode cX8_init 400 = .ok (.iconst (-1), 1) := by decide +kernel
theorem dX8_init_401 : decode cX8_init 401 = .ok (.iastore, 1) := by decide +kernel
theorem dX8_init_402 : decode cX8_init 402 = .ok (.aload_n 0, 1) := by decide +kernel
theorem dX8_init_403 : decode cX8_init 403 = .ok (.getfield 56, 3) := by decide +kernel
theorem dX8_init_406 : decode cX8_init 406 = .ok (.iload_n 1, 1) := by decide +kernel
theorem dX8_init_407 : decode cX8_init 407 = .ok (.bipush 16, 2) := by decide +kernel
theorem dX8_init_409 : decode cX8_init 409 = .ok (.irem, 1) := by decide +kernel
theorem dX8_init_410 : decode cX8_init 410 = .ok (.iconst (-1), 1) := by decide +kernel
theorem dX8_init_411 : decode cX8_init 411 = .ok (.iastore, 1) := by decide +kernel
theorem dX8_init_412 : decode cX8_init 412 = .ok (.aload_n 0, 1) := by decide +kernel
theorem dX8_init_413 : decode cX8_init 413 = .ok (.getfield 134, 3) := by decide +kernel
theorem dX8_init_416 : decode cX8_init 416 = .ok (.iload_n 1, 1) := by decide +kernel
theorem dX8_init_417 : decode cX8_init 417 = .ok (.bipush 8, 2) := by decide +kernel
theorem dX8_init_419 : decode cX8_init 419 = .ok (.irem, 1) := by decide +kernel
theorem dX8_init_420 : decode cX8_init 420 = .ok (.iconst (-1), 1) := by decide +kernel
theorem dX8_init_421 : decode cX8_init 421 = .ok (.iastore, 1) := by decide +kernel
theorem dX8_init_422 : decode cX8_init 422 = .ok (.aload_n 0, 1) := by decide +kernel
theorem dX8_init_423 : decode cX8_init 423 = .ok (.getfield 37, 3) := by decide +kernel
theorem dX8_init_426 : decode cX8_init 426 = .ok (.iload_n 1, 1) := by decide +kernel
theorem dX8_init_427 : decode cX8_init 427 = .ok (.bipush 8, 2) := by decide +kernel
theorem dX8_init_429 : decode cX8_init 429 = .ok (.irem, 1) := by decide +kernel
theorem dX8_init_430 : decode cX8_init 430 = .ok (.iconst (-1), 1) := by decide +kernel
theorem dX8_init_431 : decode cX8_init 431 = .ok (.iastore, 1) := by decide +kernel
theorem dX8_init_432 : decode cX8_init 432 = .ok (.iinc 1 1, 3) := by decide +kernel
theorem dX8_init_435 : decode cX8_init 435 = .ok (.goto (-53), 3) := by decide +kernel
theorem dX8_init_438 : decode cX8_init 438 = .ok (.return_, 1) := by decide +kernel
theorem dX8_thrown_0 : decode cX8_thrown 0 = .ok (.aload_n 0, 1) := by decide +kernel
theorem dX8_thrown_1 : decode cX8_thrown 1 = .ok (.getfield 152, 3) := by decide +kernel
theorem dX8_thrown_4 : decode cX8_thrown 4 = .ok (.ireturn, 1) := by decide +kernel
theorem dX8_in_0 : decode cX8_in 0 = .ok (.iload_n 0, 1) := by decide +kernel
theorem dX8_in_1 : decode cX8_in 1 = .ok (.iload_n 1, 1) := by decide +kernel
theorem dX8_in_2 : decode cX8_in 2 = .ok (.if_icmp .lt 12, 3) := by decide +kernel
theorem dX8_in_5 : decode cX8_in 5 = .ok (.iload_n 0, 1) := by decide +kernel
theorem dX8_in_6 : decode cX8_in 6 = .ok (.iload_n 2, 1) := by decide +kernel
theorem dX8_in_7 : decode cX8_in 7 = .ok (.if_icmp .gt 7, 3) := by decide +kernel
theorem dX8_in_10 : decode cX8_in 10 = .ok (.iconst 1, 1) := by decide +kernel
theorem dX8_in_11 : decode cX8_in 11 = .ok (.goto 4, 3) := by decide +kernel
theorem dX8_in_14 : decode cX8_in 14 = .ok (.iconst 0, 1) := by decide +kernel
theorem dX8_in_15 : decode cX8_in 15 = .ok (.ireturn, 1) := by decide +kernel
set_option maxRecDepth 20000 in
theorem ggX8_isFirm_X8_in : GoodIn wsX8_isFirm wsX8_in := goodIn_r _ [4] (by decide +kernel) (by decide +kernel)
set_option maxRecDepth 20000 in
theorem gX8_isFirm_X8_in : GoodIn wsX8_isFirm (va_wsS RX8 156 yX8_in wsX8_in) := goodIn_app (goodIn_of _ (by decide +kernel)) ggX8_isFirm_X8_in
theorem dX8_isFirm_0 : decode cX8_isFirm 0 = .ok (.iload_n 0, 1) := by decide +kernel
theorem dX8_isFirm_1 : decode cX8_isFirm 1 = .ok (.iconst 0, 1) := by decide +kernel
theorem dX8_isFirm_2 : decode cX8_isFirm 2 = .ok (.iconst 5, 1) := by decide +kernel
theorem dX8_isFirm_3 : decode cX8_isFirm 3 = .ok (.invokestatic 156, 3) := by decide +kernel
theorem dX8_isFirm_6 : decode cX8_isFirm 6 = .ok (.ireturn, 1) := by decide +kernel
set_option maxRecDepth 20000 in
theorem ggX8_isTeller_X8_in : GoodIn wsX8_isTeller wsX8_in := goodIn_r _ [4] (by decide +kernel) (by decide +kernel)
set_option maxRecDepth 20000 in
theorem gX8_isTeller_X8_in : GoodIn wsX8_isTeller (va_wsS RX8 156 yX8_in wsX8_in) := goodIn_app (goodIn_of _ (by decide +kernel)) ggX8_isTeller_X8_in
theorem dX8_isTeller_0 : decode cX8_isTeller 0 = .ok (.iload_n 0, 1) := by decide +kernel
theorem dX8_isTeller_1 : decode cX8_isTeller 1 = .ok (.iconst 0, 1) := by decide +kernel
theorem dX8_isTeller_2 : decode cX8_isTeller 2 = .ok (.bipush 7, 2) := by decide +kernel
theorem dX8_isTeller_4 : decode cX8_isTeller 4 = .ok (.invokestatic 156, 3) := by decide +kernel
theorem dX8_isTeller_7 : decode cX8_isTeller 7 = .ok (.ireturn, 1) := by decide +kernel
set_option maxRecDepth 20000 in
theorem ggX8_isScheme_X8_in : GoodIn wsX8_isScheme wsX8_in := goodIn_r _ [5] (by decide +kernel) (by decide +kernel)
set_option maxRecDepth 20000 in
theorem gX8_isScheme_X8_in : GoodIn wsX8_isScheme (va_wsS RX8 156 yX8_in wsX8_in) := goodIn_app (goodIn_of _ (by decide +kernel)) ggX8_isScheme_X8_in
theorem dX8_isScheme_0 : decode cX8_isScheme 0 = .ok (.iload_n 1, 1) := by decide +kernel
theorem dX8_isScheme_1 : decode cX8_isScheme 1 = .ok (.iconst 0, 1) := by decide +kernel
theorem dX8_isScheme_2 : decode cX8_isScheme 2 = .ok (.aload_n 0, 1) := by decide +kernel
theorem dX8_isScheme_3 : decode cX8_isScheme 3 = .ok (.getfield 160, 3) := by decide +kernel
theorem dX8_isScheme_6 : decode cX8_isScheme 6 = .ok (.iconst 1, 1) := by decide +kernel
theorem dX8_isScheme_7 : decode cX8_isScheme 7 = .ok (.isub, 1) := by decide +kernel
theorem dX8_isScheme_8 : decode cX8_isScheme 8 = .ok (.invokestatic 156, 3) := by decide +kernel
theorem dX8_isScheme_11 : decode cX8_isScheme 11 = .ok (.ireturn, 1) := by decide +kernel
set_option maxRecDepth 20000 in
theorem ggX8_isSuit_X8_in : GoodIn wsX8_isSuit wsX8_in := goodIn_r _ [5] (by decide +kernel) (by decide +kernel)
set_option maxRecDepth 20000 in
theorem gX8_isSuit_X8_in : GoodIn wsX8_isSuit (va_wsS RX8 156 yX8_in wsX8_in) := goodIn_app (goodIn_of _ (by decide +kernel)) ggX8_isSuit_X8_in
theorem dX8_isSuit_0 : decode cX8_isSuit 0 = .ok (.iload_n 1, 1) := by decide +kernel
theorem dX8_isSuit_1 : decode cX8_isSuit 1 = .ok (.iconst 0, 1) := by decide +kernel
theorem dX8_isSuit_2 : decode cX8_isSuit 2 = .ok (.aload_n 0, 1) := by decide +kernel
theorem dX8_isSuit_3 : decode cX8_isSuit 3 = .ok (.getfield 163, 3) := by decide +kernel
theorem dX8_isSuit_6 : decode cX8_isSuit 6 = .ok (.iconst 1, 1) := by decide +kernel
theorem dX8_isSuit_7 : decode cX8_isSuit 7 = .ok (.isub, 1) := by decide +kernel
theorem dX8_isSuit_8 : decode cX8_isSuit 8 = .ok (.invokestatic 156, 3) := by decide +kernel
theorem dX8_isSuit_11 : decode cX8_isSuit 11 = .ok (.ireturn, 1) := by decide +kernel
theorem dX8_bits_0 : decode cX8_bits 0 = .ok (.iconst 0, 1) := by decide +kernel
theorem dX8_bits_1 : decode cX8_bits 1 = .ok (.istore_n 1, 1) := by decide +kernel
theorem dX8_bits_2 : decode cX8_bits 2 = .ok (.iconst 0, 1) := by decide +kernel
theorem dX8_bits_3 : decode cX8_bits 3 = .ok (.istore_n 2, 1) := by decide +kernel
theorem dX8_bits_4 : decode cX8_bits 4 = .ok (.iload_n 2, 1) := by decide +kernel
theorem dX8_bits_5 : decode cX8_bits 5 = .ok (.bipush 16, 2) := by decide +kernel
theorem dX8_bits_7 : decode cX8_bits 7 = .ok (.if_icmp .ge 17, 3) := by decide +kernel
theorem dX8_bits_10 : decode cX8_bits 10 = .ok (.iload_n 1, 1) := by decide +kernel
theorem dX8_bits_11 : decode cX8_bits 11 = .ok (.iload_n 0, 1) := by decide +kernel
theorem dX8_bits_12 : decode cX8_bits 12 = .ok (.iload_n 2, 1) := by decide +kernel
theorem dX8_bits_13 : decode cX8_bits 13 = .ok (.ishr, 1) := by decide +kernel
theorem dX8_bits_14 : decode cX8_bits 14 = .ok (.iconst 1, 1) := by decide +kernel
theorem dX8_bits_15 : decode cX8_bits 15 = .ok (.iand, 1) := by decide +kernel
theorem dX8_bits_16 : decode cX8_bits 16 = .ok (.iadd, 1) := by decide +kernel
theorem dX8_bits_17 : decode cX8_bits 17 = .ok (.istore_n 1, 1) := by decide +kernel
theorem dX8_bits_18 : decode cX8_bits 18 = .ok (.iinc 2 1, 3) := by decide +kernel
theorem dX8_bits_21 : decode cX8_bits 21 = .ok (.goto (-17), 3) := by decide +kernel
theorem dX8_bits_24 : decode cX8_bits 24 = .ok (.iload_n 1, 1) := by decide +kernel
theorem dX8_bits_25 : decode cX8_bits 25 = .ok (.ireturn, 1) := by decide +kernel
set_option maxRecDepth 20000 in
theorem ggX8_fund_X8_isFirm : GoodIn wsX8_fund wsX8_isFirm := goodIn_r _ [9, 10, 11, 8, 12] (by decide +kernel) (by decide +kernel)
set_option maxRecDepth 20000 in
theorem gX8_fund_X8_isFirm : GoodIn wsX8_fund (va_wsS RX8 166 yX8_isFirm wsX8_isFirm) := goodIn_app (goodIn_of _ (by decide +kernel)) ggX8_fund_X8_isFirm
set_option maxRecDepth 20000 in
theorem ggX8_fund_X8_in : GoodIn wsX8_fund wsX8_in := goodIn_r _ [12] (by decide +kernel) (by decide +kernel)
set_option maxRecDepth 20000 in
theorem gX8_fund_X8_in : GoodIn wsX8_fund (va_wsS RX8 156 yX8_in wsX8_in) := goodIn_app (goodIn_of _ (by decide +kernel)) ggX8_fund_X8_in
theorem dX8_fund_0 : decode cX8_fund 0 = .ok (.aload_n 0, 1) := by decide +kernel
theorem dX8_fund_1 : decode cX8_fund 1 = .ok (.iload_n 1, 1) := by decide +kernel
theorem dX8_fund_2 : decode cX8_fund 2 = .ok (.invokestatic 166, 3) := by decide +kernel
theorem dX8_fund_5 : decode cX8_fund 5 = .ok (.ifCond .ne 7, 3) := by decide +kernel
theorem dX8_fund_8 : decode cX8_fund 8 = .ok (.iconst 1, 1) := by decide +kernel
theorem dX8_fund_9 : decode cX8_fund 9 = .ok (.goto 35, 3) := by decide +kernel
theorem dX8_fund_12 : decode cX8_fund 12 = .ok (.iload_n 2, 1) := by decide +kernel
theorem dX8_fund_13 : decode cX8_fund 13 = .ok (.iconst 1, 1) := by decide +kernel
theorem dX8_fund_14 : decode cX8_fund 14 = .ok (.ldc 170, 2) := by decide +kernel
theorem dX8_fund_16 : decode cX8_fund 16 = .ok (.invokestatic 156, 3) := by decide +kernel
theorem dX8_fund_19 : decode cX8_fund 19 = .ok (.ifCond .ne 7, 3) := by decide +kernel
theorem dX8_fund_22 : decode cX8_fund 22 = .ok (.iconst 2, 1) := by decide +kernel
theorem dX8_fund_23 : decode cX8_fund 23 = .ok (.goto 21, 3) := by decide +kernel
theorem dX8_fund_26 : decode cX8_fund 26 = .ok (.aload_n 0, 1) := by decide +kernel
theorem dX8_fund_27 : decode cX8_fund 27 = .ok (.getfield 7, 3) := by decide +kernel
theorem dX8_fund_30 : decode cX8_fund 30 = .ok (.iload_n 1, 1) := by decide +kernel
theorem dX8_fund_31 : decode cX8_fund 31 = .ok (.iaload, 1) := by decide +kernel
theorem dX8_fund_32 : decode cX8_fund 32 = .ok (.iload_n 2, 1) := by decide +kernel
theorem dX8_fund_33 : decode cX8_fund 33 = .ok (.iadd, 1) := by decide +kernel
theorem dX8_fund_34 : decode cX8_fund 34 = .ok (.ldc 171, 2) := by decide +kernel
theorem dX8_fund_36 : decode cX8_fund 36 = .ok (.if_icmp .le 7, 3) := by decide +kernel
theorem dX8_fund_39 : decode cX8_fund 39 = .ok (.iconst 3, 1) := by decide +kernel
theorem dX8_fund_40 : decode cX8_fund 40 = .ok (.goto 4, 3) := by decide +kernel
theorem dX8_fund_43 : decode cX8_fund 43 = .ok (.iconst 0, 1) := by decide +kernel
theorem dX8_fund_44 : decode cX8_fund 44 = .ok (.putfield 152, 3) := by decide +kernel
theorem dX8_fund_47 : decode cX8_fund 47 = .ok (.aload_n 0, 1) := by decide +kernel
theorem dX8_fund_48 : decode cX8_fund 48 = .ok (.getfield 152, 3) := by decide +kernel
theorem dX8_fund_51 : decode cX8_fund 51 = .ok (.ifCond .le 5, 3) := by decide +kernel
theorem dX8_fund_54 : decode cX8_fund 54 = .ok (.iconst 0, 1) := by decide +kernel
theorem dX8_fund_55 : decode cX8_fund 55 = .ok (.ireturn, 1) := by decide +kernel
theorem dX8_fund_56 : decode cX8_fund 56 = .ok (.aload_n 0, 1) := by decide +kernel
theorem dX8_fund_57 : decode cX8_fund 57 = .ok (.getfield 7, 3) := by decide +kernel
theorem dX8_fund_60 : decode cX8_fund 60 = .ok (.iload_n 1, 1) := by decide +kernel
theorem dX8_fund_61 : decode cX8_fund 61 = .ok (.dup2, 1) := by decide +kernel
theorem dX8_fund_62 : decode cX8_fund 62 = .ok (.iaload, 1) := by decide +kernel
theorem dX8_fund_63 : decode cX8_fund 63 = .ok (.iload_n 2, 1) := by decide +kernel
theorem dX8_fund_64 : decode cX8_fund 64 = .ok (.iadd, 1) := by decide +kernel
theorem dX8_fund_65 : decode cX8_fund 65 = .ok (.iastore, 1) := by decide +kernel
theorem dX8_fund_66 : decode cX8_fund 66 = .ok (.aload_n 0, 1) := by decide +kernel
theorem dX8_fund_67 : decode cX8_fund 67 = .ok (.getfield 13, 3) := by decide +kernel
theorem dX8_fund_70 : decode cX8_fund 70 = .ok (.iload_n 1, 1) := by decide +kernel
theorem dX8_fund_71 : decode cX8_fund 71 = .ok (.dup2, 1) := by decide +kernel
theorem dX8_fund_72 : decode cX8_fund 72 = .ok (.iaload, 1) := by decide +kernel
theorem dX8_fund_73 : decode cX8_fund 73 = .ok (.iload_n 2, 1) := by decide +kernel
theorem dX8_fund_74 : decode cX8_fund 74 = .ok (.iadd, 1) := by decide +kernel
theorem dX8_fund_75 : decode cX8_fund 75 = .ok (.iastore, 1) := by decide +kernel
theorem dX8_fund_76 : decode cX8_fund 76 = .ok (.aload_n 0, 1) := by decide +kernel
theorem dX8_fund_77 : decode cX8_fund 77 = .ok (.getfield 7, 3) := by decide +kernel
theorem dX8_fund_80 : decode cX8_fund 80 = .ok (.iload_n 1, 1) := by decide +kernel
theorem dX8_fund_81 : decode cX8_fund 81 = .ok (.iaload, 1) := by decide +kernel
theorem dX8_fund_82 : decode cX8_fund 82 = .ok (.ireturn, 1) := by decide +kernel
set_option maxRecDepth 20000 in
theorem ggX8_scheme_X8_isFirm : GoodIn wsX8_scheme wsX8_isFirm := goodIn_r _ [11, 12, 13, 10, 14] (by decide +kernel) (by decide +kernel)
set_option maxRecDepth 20000 in
theorem gX8_scheme_X8_isFirm : GoodIn wsX8_scheme (va_wsS RX8 166 yX8_isFirm wsX8_isFirm) := goodIn_app (goodIn_of _ (by decide +kernel)) ggX8_scheme_X8_isFirm
set_option maxRecDepth 20000 in
theorem ggX8_scheme_X8_in : GoodIn wsX8_scheme wsX8_in := goodIn_r _ [14] (by decide +kernel) (by decide +kernel)
set_option maxRecDepth 20000 in
theorem gX8_scheme_X8_in : GoodIn wsX8_scheme (va_wsS RX8 156 yX8_in wsX8_in) := goodIn_app (goodIn_of _ (by decide +kernel)) ggX8_scheme_X8_in
theorem dX8_scheme_0 : decode cX8_scheme 0 = .ok (.aload_n 0, 1) := by decide +kernel
theorem dX8_scheme_1 : decode cX8_scheme 1 = .ok (.iload_n 1, 1) := by decide +kernel
theorem dX8_scheme_2 : decode cX8_scheme 2 = .ok (.invokestatic 166, 3) := by decide +kernel
theorem dX8_scheme_5 : decode cX8_scheme 5 = .ok (.ifCond .ne 7, 3) := by decide +kernel
theorem dX8_scheme_8 : decode cX8_scheme 8 = .ok (.iconst 1, 1) := by decide +kernel
theorem dX8_scheme_9 : decode cX8_scheme 9 = .ok (.goto 40, 3) := by decide +kernel
theorem dX8_scheme_12 : decode cX8_scheme 12 = .ok (.iload_n 2, 1) := by decide +kernel
theorem dX8_scheme_13 : decode cX8_scheme 13 = .ok (.iconst 1, 1) := by decide +kernel
theorem dX8_scheme_14 : decode cX8_scheme 14 = .ok (.ldc 172, 2) := by decide +kernel
theorem dX8_scheme_16 : decode cX8_scheme 16 = .ok (.invokestatic 156, 3) := by decide +kernel
theorem dX8_scheme_19 : decode cX8_scheme 19 = .ok (.ifCond .eq 12, 3) := by decide +kernel
theorem dX8_scheme_22 : decode cX8_scheme 22 = .ok (.iload_n 3, 1) := by decide +kernel
theorem dX8_scheme_23 : decode cX8_scheme 23 = .ok (.iconst 0, 1) := by decide +kernel
theorem dX8_scheme_24 : decode cX8_scheme 24 = .ok (.iconst 2, 1) := by decide +kernel
theorem dX8_scheme_25 : decode cX8_scheme 25 = .ok (.invokestatic 156, 3) := by decide +kernel
theorem dX8_scheme_28 : decode cX8_scheme 28 = .ok (.ifCond .ne 7, 3) := by decide +kernel
theorem dX8_scheme_31 : decode cX8_scheme 31 = .ok (.iconst 2, 1) := by decide +kernel
theorem dX8_scheme_32 : decode cX8_scheme 32 = .ok (.goto 17, 3) := by decide +kernel
theorem dX8_scheme_35 : decode cX8_scheme 35 = .ok (.aload_n 0, 1) := by decide +kernel
theorem dX8_scheme_36 : decode cX8_scheme 36 = .ok (.getfield 160, 3) := by decide +kernel
theorem dX8_scheme_39 : decode cX8_scheme 39 = .ok (.bipush 8, 2) := by decide +kernel
theorem dX8_scheme_41 : decode cX8_scheme 41 = .ok (.if_icmp .ne 7, 3) := by decide +kernel
theorem dX8_scheme_44 : decode cX8_scheme 44 = .ok (.iconst 3, 1) := by decide +kernel
theorem dX8_scheme_45 : decode cX8_scheme 45 = .ok (.goto 4, 3) := by decide +kernel
theorem dX8_scheme_48 : decode cX8_scheme 48 = .ok (.iconst 0, 1) := by decide +kernel
theorem dX8_scheme_49 : decode cX8_scheme 49 = .ok (.putfield 152, 3) := by decide +kernel
theorem dX8_scheme_52 : decode cX8_scheme 52 = .ok (.aload_n 0, 1) := by decide +kernel
theorem dX8_scheme_53 : decode cX8_scheme 53 = .ok (.getfield 152, 3) := by decide +kernel
theorem dX8_scheme_56 : decode cX8_scheme 56 = .ok (.ifCond .le 5, 3) := by decide +kernel
theorem dX8_scheme_59 : decode cX8_scheme 59 = .ok (.iconst 0, 1) := by decide +kernel
theorem dX8_scheme_60 : decode cX8_scheme 60 = .ok (.ireturn, 1) := by decide +kernel
theorem dX8_scheme_61 : decode cX8_scheme 61 = .ok (.aload_n 0, 1) := by decide +kernel
theorem dX8_scheme_62 : decode cX8_scheme 62 = .ok (.getfield 22, 3) := by decide +kernel
theorem dX8_scheme_65 : decode cX8_scheme 65 = .ok (.aload_n 0, 1) := by decide +kernel
theorem dX8_scheme_66 : decode cX8_scheme 66 = .ok (.getfield 160, 3) := by decide +kernel
theorem dX8_scheme_69 : decode cX8_scheme 69 = .ok (.iload_n 1, 1) := by decide +kernel
theorem dX8_scheme_70 : decode cX8_scheme 70 = .ok (.iastore, 1) := by decide +kernel
theorem dX8_scheme_71 : decode cX8_scheme 71 = .ok (.aload_n 0, 1) := by decide +kernel
theorem dX8_scheme_72 : decode cX8_scheme 72 = .ok (.getfield 25, 3) := by decide +kernel
theorem dX8_scheme_75 : decode cX8_scheme 75 = .ok (.aload_n 0, 1) := by decide +kernel
theorem dX8_scheme_76 : decode cX8_scheme 76 = .ok (.getfield 160, 3) := by decide +kernel
theorem dX8_scheme_79 : decode cX8_scheme 79 = .ok (.iload_n 2, 1) := by decide +kernel
theorem dX8_scheme_80 : decode cX8_scheme 80 = .ok (.iastore, 1) := by decide +kernel
theorem dX8_scheme_81 : decode cX8_scheme 81 = .ok (.aload_n 0, 1) := by decide +kernel
theorem dX8_scheme_82 : decode cX8_scheme 82 = .ok (.getfield 28, 3) := by decide +kernel
theorem dX8_scheme_85 : decode cX8_scheme 85 = .ok (.aload_n 0, 1) := by decide +kernel
theorem dX8_scheme_86 : decode cX8_scheme 86 = .ok (.getfield 160, 3) := by decide +kernel
theorem dX8_scheme_89 : decode cX8_scheme 89 = .ok (.iload_n 3, 1) := by decide +kernel
theorem dX8_scheme_90 : decode cX8_scheme 90 = .ok (.iastore, 1) := by decide +kernel
theorem dX8_scheme_91 : decode cX8_scheme 91 = .ok (.aload_n 0, 1) := by decide +kernel
theorem dX8_scheme_92 : decode cX8_scheme 92 = .ok (.getfield 31, 3) := by decide +kernel
theorem dX8_scheme_95 : decode cX8_scheme 95 = .ok (.aload_n 0, 1) := by decide +kernel
theorem dX8_scheme_96 : decode cX8_scheme 96 = .ok (.getfield 160, 3) := by decide +kernel
theorem dX8_scheme_99 : decode cX8_scheme 99 = .ok (.iconst 1, 1) := by decide +kernel
theorem dX8_scheme_100 : decode cX8_scheme 100 = .ok (.iastore, 1) := by decide +kernel
theorem dX8_scheme_101 : decode cX8_scheme 101 = .ok (.aload_n 0, 1) := by decide +kernel
theorem dX8_scheme_102 : decode cX8_scheme 102 = .ok (.dup, 1) := by decide +kernel
theorem dX8_scheme_103 : decode cX8_scheme 103 = .ok (.getfield 160, 3) := by decide +kernel
theorem dX8_scheme_106 : decode cX8_scheme 106 = .ok (.iconst 1, 1) := by decide +kernel
theorem dX8_scheme_107 : decode cX8_scheme 107 = .ok (.iadd, 1) := by decide +kernel
theorem dX8_scheme_108 : decode cX8_scheme 108 = .ok (.putfield 160, 3) := by decide +kernel
theorem dX8_scheme_111 : decode cX8_scheme 111 = .ok (.aload_n 0, 1) := by decide +kernel
theorem dX8_scheme_112 : decode cX8_scheme 112 = .ok (.getfield 160, 3) := by decide +kernel
theorem dX8_scheme_115 : decode cX8_scheme 115 = .ok (.iconst 1, 1) := by decide +kernel
theorem dX8_scheme_116 : decode cX8_scheme 116 = .ok (.isub, 1) := by decide +kernel
theorem dX8_scheme_117 : decode cX8_scheme 117 = .ok (.ireturn, 1) := by decide +kernel
set_option maxRecDepth 20000 in
theorem ggX8_claim_X8_isScheme : GoodIn wsX8_claim wsX8_isScheme := goodIn_r _ [12, 13, 14, 15, 11, 16, 17, 18, 19, 20, 21, 22, 23, 24, 25, 26, 27, 28, 29, 30, 31, 32, 33, 34, 35, 36, 37, 38, 39, 40, 41, 42, 43, 44, 45, 46, 47, 48, 49, 50, 51, 52, 53, 54, 55, 56, 57, 58, 59, 60, 61, 62, 63, 64, 65, 66, 67, 68, 69, 70, 71] (by decide +kernel) (by decide +kernel)
set_option maxRecDepth 20000 in
theorem gX8_claim_X8_isScheme : GoodIn wsX8_claim (wsV RX8 173 RX8 yX8_isScheme wsX8_isScheme) := goodIn_app (goodIn_of _ (by decide +kernel)) ggX8_claim_X8_isScheme
set_option maxRecDepth 20000 in
theorem ggX8_claim_X8_in : GoodIn wsX8_claim wsX8_in := goodIn_r _ [16] (by decide +kernel) (by decide +kernel)
set_option maxRecDepth 20000 in
theorem gX8_claim_X8_in : GoodIn wsX8_claim (va_wsS RX8 156 yX8_in wsX8_in) := goodIn_app (goodIn_of _ (by decide +kernel)) ggX8_claim_X8_in
theorem dX8_claim_0 : decode cX8_claim 0 = .ok (.aload_n 0, 1) := by decide +kernel
theorem dX8_claim_1 : decode cX8_claim 1 = .ok (.aload_n 0, 1) := by decide +kernel
theorem dX8_claim_2 : decode cX8_claim 2 = .ok (.iload_n 1, 1) := by decide +kernel
theorem dX8_claim_3 : decode cX8_claim 3 = .ok (.invokevirtual 173, 3) := by decide +kernel
theorem dX8_claim_6 : decode cX8_claim 6 = .ok (.ifCond .ne 7, 3) := by decide +kernel
theorem dX8_claim_9 : decode cX8_claim 9 = .ok (.iconst 1, 1) := by decide +kernel
theorem dX8_claim_10 : decode cX8_claim 10 = .ok (.goto 32, 3) := by decide +kernel
theorem dX8_claim_13 : decode cX8_claim 13 = .ok (.iload_n 2, 1) := by decide +kernel
theorem dX8_claim_14 : decode cX8_claim 14 = .ok (.iconst 1, 1) := by decide +kernel
theorem dX8_claim_15 : decode cX8_claim 15 = .ok (.sipush 9999, 3) := by decide +kernel
theorem dX8_claim_18 : decode cX8_claim 18 = .ok (.invokestatic 156, 3) := by decide +kernel
theorem dX8_claim_21 : decode cX8_claim 21 = .ok (.ifCond .ne 7, 3) := by decide +kernel
theorem dX8_claim_24 : decode cX8_claim 24 = .ok (.iconst 2, 1) := by decide +kernel
theorem dX8_claim_25 : decode cX8_claim 25 = .ok (.goto 17, 3) := by decide +kernel
theorem dX8_claim_28 : decode cX8_claim 28 = .ok (.aload_n 0, 1) := by decide +kernel
theorem dX8_claim_29 : decode cX8_claim 29 = .ok (.getfield 176, 3) := by decide +kernel
theorem dX8_claim_32 : decode cX8_claim 32 = .ok (.bipush 40, 2) := by decide +kernel
theorem dX8_claim_34 : decode cX8_claim 34 = .ok (.if_icmp .ne 7, 3) := by decide +kernel
theorem dX8_claim_37 : decode cX8_claim 37 = .ok (.iconst 3, 1) := by decide +kernel
theorem dX8_claim_38 : decode cX8_claim 38 = .ok (.goto 4, 3) := by decide +kernel
theorem dX8_claim_41 : decode cX8_claim 41 = .ok (.iconst 0, 1) := by decide +kernel
theorem dX8_claim_42 : decode cX8_claim 42 = .ok (.putfield 152, 3) := by decide +kernel
theorem dX8_claim_45 : decode cX8_claim 45 = .ok (.aload_n 0, 1) := by decide +kernel
theorem dX8_claim_46 : decode cX8_claim 46 = .ok (.getfield 152, 3) := by decide +kernel
theorem dX8_claim_49 : decode cX8_claim 49 = .ok (.ifCond .le 5, 3) := by decide +kernel
theorem dX8_claim_52 : decode cX8_claim 52 = .ok (.iconst 0, 1) := by decide +kernel
theorem dX8_claim_53 : decode cX8_claim 53 = .ok (.ireturn, 1) := by decide +kernel
theorem dX8_claim_54 : decode cX8_claim 54 = .ok (.aload_n 0, 1) := by decide +kernel
theorem dX8_claim_55 : decode cX8_claim 55 = .ok (.getfield 44, 3) := by decide +kernel
theorem dX8_claim_58 : decode cX8_claim 58 = .ok (.aload_n 0, 1) := by decide +kernel
theorem dX8_claim_59 : decode cX8_claim 59 = .ok (.getfield 176, 3) := by decide +kernel
theorem dX8_claim_62 : decode cX8_claim 62 = .ok (.iload_n 1, 1) := by decide +kernel
theorem dX8_claim_63 : decode cX8_claim 63 = .ok (.iastore, 1) := by decide +kernel
theorem dX8_claim_64 : decode cX8_claim 64 = .ok (.aload_n 0, 1) := by decide +kernel
theorem dX8_claim_65 : decode cX8_claim 65 = .ok (.getfield 47, 3) := by decide +kernel
theorem dX8_claim_68 : decode cX8_claim 68 = .ok (.aload_n 0, 1) := by decide +kernel
theorem dX8_claim_69 : decode cX8_claim 69 = .ok (.getfield 176, 3) := by decide +kernel
theorem dX8_claim_72 : decode cX8_claim 72 = .ok (.iload_n 2, 1) := by decide +kernel
theorem dX8_claim_73 : decode cX8_claim 73 = .ok (.iastore, 1) := by decide +kernel
theorem dX8_claim_74 : decode cX8_claim 74 = .ok (.aload_n 0, 1) := by decide +kernel
theorem dX8_claim_75 : decode cX8_claim 75 = .ok (.getfield 50, 3) := by decide +kernel
theorem dX8_claim_78 : decode cX8_claim 78 = .ok (.aload_n 0, 1) := by decide +kernel
theorem dX8_claim_79 : decode cX8_claim 79 = .ok (.getfield 176, 3) := by decide +kernel
theorem dX8_claim_82 : decode cX8_claim 82 = .ok (.aload_n 0, 1) := by decide +kernel
theorem dX8_claim_83 : decode cX8_claim 83 = .ok (.getfield 179, 3) := by decide +kernel
theorem dX8_claim_86 : decode cX8_claim 86 = .ok (.iastore, 1) := by decide +kernel
theorem dX8_claim_87 : decode cX8_claim 87 = .ok (.aload_n 0, 1) := by decide +kernel
theorem dX8_claim_88 : decode cX8_claim 88 = .ok (.getfield 53, 3) := by decide +kernel
theorem dX8_claim_91 : decode cX8_claim 91 = .ok (.aload_n 0, 1) := by decide +kernel
theorem dX8_claim_92 : decode cX8_claim 92 = .ok (.getfield 176, 3) := by decide +kernel
theorem dX8_claim_95 : decode cX8_claim 95 = .ok (.iconst (-1), 1) := by decide +kernel
theorem dX8_claim_96 : decode cX8_claim 96 = .ok (.iastore, 1) := by decide +kernel
theorem dX8_claim_97 : decode cX8_claim 97 = .ok (.aload_n 0, 1) := by decide +kernel
theorem dX8_claim_98 : decode cX8_claim 98 = .ok (.dup, 1) := by decide +kernel
theorem dX8_claim_99 : decode cX8_claim 99 = .ok (.getfield 176, 3) := by decide +kernel
theorem dX8_claim_102 : decode cX8_claim 102 = .ok (.iconst 1, 1) := by decide +kernel
theorem dX8_claim_103 : decode cX8_claim 103 = .ok (.iadd, 1) := by decide +kernel
theorem dX8_claim_104 : decode cX8_claim 104 = .ok (.putfield 176, 3) := by decide +kernel
theorem dX8_claim_107 : decode cX8_claim 107 = .ok (.aload_n 0, 1) := by decide +kernel
theorem dX8_claim_108 : decode cX8_claim 108 = .ok (.getfield 176, 3) := by decide +kernel
theorem dX8_claim_111 : decode cX8_claim 111 = .ok (.iconst 1, 1) := by decide +kernel
theorem dX8_claim_112 : decode cX8_claim 112 = .ok (.isub, 1) := by decide +kernel
theorem dX8_claim_113 : decode cX8_claim 113 = .ok (.ireturn, 1) := by decide +kernel
set_option maxRecDepth 20000 in
theorem ggX8_sample_X8_isScheme : GoodIn wsX8_sample wsX8_isScheme := goodIn_r _ [8, 9, 10, 11, 7, 12, 13, 14, 15, 16, 17, 18, 19, 20, 21, 22, 23, 24, 25, 26, 27, 28, 29, 30, 31, 32, 33, 34, 35, 36, 37, 38, 39, 40, 41, 42, 43, 44, 45, 46, 47, 48, 49, 50, 51, 52, 53, 54, 55, 56, 57, 58, 59, 60, 61, 62, 63, 64, 65, 66, 67] (by decide +kernel) (by decide +kernel)
set_option maxRecDepth 20000 in
theorem gX8_sample_X8_isScheme : GoodIn wsX8_sample (wsV RX8 173 RX8 yX8_isScheme wsX8_isScheme) := goodIn_app (goodIn_of _ (by decide +kernel)) ggX8_sample_X8_isScheme
set_option maxRecDepth 20000 in
theorem ggX8_sample_X8_in : GoodIn wsX8_sample wsX8_in := goodIn_r _ [12] (by decide +kernel) (by decide +kernel)
set_option maxRecDepth 20000 in
theorem gX8_sample_X8_in : GoodIn wsX8_sample (va_wsS RX8 156 yX8_in wsX8_in) := goodIn_app (goodIn_of _ (by decide +kernel)) ggX8_sample_X8_in
theorem dX8_sample_0 : decode cX8_sample 0 = .ok (.aload_n 0, 1) := by decide +kernel
theorem dX8_sample_1 : decode cX8_sample 1 = .ok (.aload_n 0, 1) := by decide +kernel
theorem dX8_sample_2 : decode cX8_sample 2 = .ok (.iload_n 1, 1) := by decide +kernel
theorem dX8_sample_3 : decode cX8_sample 3 = .ok (.invokevirtual 173, 3) := by decide +kernel
theorem dX8_sample_6 : decode cX8_sample 6 = .ok (.ifCond .ne 7, 3) := by decide +kernel
theorem dX8_sample_9 : decode cX8_sample 9 = .ok (.iconst 1, 1) := by decide +kernel
theorem dX8_sample_10 : decode cX8_sample 10 = .ok (.goto 27, 3) := by decide +kernel
theorem dX8_sample_13 : decode cX8_sample 13 = .ok (.iload_n 2, 1) := by decide +kernel
theorem dX8_sample_14 : decode cX8_sample 14 = .ok (.iconst 1, 1) := by decide +kernel
theorem dX8_sample_15 : decode cX8_sample 15 = .ok (.bipush 100, 2) := by decide +kernel
theorem dX8_sample_17 : decode cX8_sample 17 = .ok (.invokestatic 156, 3) := by decide +kernel
theorem dX8_sample_20 : decode cX8_sample 20 = .ok (.ifCond .eq 12, 3) := by decide +kernel
theorem dX8_sample_23 : decode cX8_sample 23 = .ok (.iload_n 3, 1) := by decide +kernel
theorem dX8_sample_24 : decode cX8_sample 24 = .ok (.iconst 0, 1) := by decide +kernel
theorem dX8_sample_25 : decode cX8_sample 25 = .ok (.iload_n 2, 1) := by decide +kernel
theorem dX8_sample_26 : decode cX8_sample 26 = .ok (.invokestatic 156, 3) := by decide +kernel
theorem dX8_sample_29 : decode cX8_sample 29 = .ok (.ifCond .ne 7, 3) := by decide +kernel
theorem dX8_sample_32 : decode cX8_sample 32 = .ok (.iconst 2, 1) := by decide +kernel
theorem dX8_sample_33 : decode cX8_sample 33 = .ok (.goto 4, 3) := by decide +kernel
theorem dX8_sample_36 : decode cX8_sample 36 = .ok (.iconst 0, 1) := by decide +kernel
theorem dX8_sample_37 : decode cX8_sample 37 = .ok (.putfield 152, 3) := by decide +kernel
theorem dX8_sample_40 : decode cX8_sample 40 = .ok (.aload_n 0, 1) := by decide +kernel
theorem dX8_sample_41 : decode cX8_sample 41 = .ok (.getfield 152, 3) := by decide +kernel
theorem dX8_sample_44 : decode cX8_sample 44 = .ok (.ifCond .ne 17, 3) := by decide +kernel
theorem dX8_sample_47 : decode cX8_sample 47 = .ok (.aload_n 0, 1) := by decide +kernel
theorem dX8_sample_48 : decode cX8_sample 48 = .ok (.getfield 31, 3) := by decide +kernel
theorem dX8_sample_51 : decode cX8_sample 51 = .ok (.iload_n 1, 1) := by decide +kernel
theorem dX8_sample_52 : decode cX8_sample 52 = .ok (.iload_n 2, 1) := by decide +kernel
theorem dX8_sample_53 : decode cX8_sample 53 = .ok (.iastore, 1) := by decide +kernel
theorem dX8_sample_54 : decode cX8_sample 54 = .ok (.aload_n 0, 1) := by decide +kernel
theorem dX8_sample_55 : decode cX8_sample 55 = .ok (.getfield 34, 3) := by decide +kernel
theorem dX8_sample_58 : decode cX8_sample 58 = .ok (.iload_n 1, 1) := by decide +kernel
theorem dX8_sample_59 : decode cX8_sample 59 = .ok (.iload_n 3, 1) := by decide +kernel
theorem dX8_sample_60 : decode cX8_sample 60 = .ok (.iastore, 1) := by decide +kernel
theorem dX8_sample_61 : decode cX8_sample 61 = .ok (.return_, 1) := by decide +kernel
set_option maxRecDepth 20000 in
theorem ggX8_learn_X8_isTeller : GoodIn wsX8_learn wsX8_isTeller := goodIn_r _ [6, 7, 8, 5, 9] (by decide +kernel) (by decide +kernel)
set_option maxRecDepth 20000 in
theorem gX8_learn_X8_isTeller : GoodIn wsX8_learn (va_wsS RX8 182 yX8_isTeller wsX8_isTeller) := goodIn_app (goodIn_of _ (by decide +kernel)) ggX8_learn_X8_isTeller
set_option maxRecDepth 20000 in
theorem ggX8_learn_X8_in : GoodIn wsX8_learn wsX8_in := goodIn_r _ [9] (by decide +kernel) (by decide +kernel)
set_option maxRecDepth 20000 in
theorem gX8_learn_X8_in : GoodIn wsX8_learn (va_wsS RX8 156 yX8_in wsX8_in) := goodIn_app (goodIn_of _ (by decide +kernel)) ggX8_learn_X8_in
set_option maxRecDepth 20000 in
theorem ggX8_learn_X8_bits : GoodIn wsX8_learn wsX8_bits := goodIn_r _ [12] (by decide +kernel) (by decide +kernel)
set_option maxRecDepth 20000 in
theorem gX8_learn_X8_bits : GoodIn wsX8_learn (va_wsS RX8 185 yX8_bits wsX8_bits) := goodIn_app (goodIn_of _ (by decide +kernel)) ggX8_learn_X8_bits
theorem dX8_learn_0 : decode cX8_learn 0 = .ok (.aload_n 0, 1) := by decide +kernel
theorem dX8_learn_1 : decode cX8_learn 1 = .ok (.iload_n 1, 1) := by decide +kernel
theorem dX8_learn_2 : decode cX8_learn 2 = .ok (.invokestatic 182, 3) := by decide +kernel
theorem dX8_learn_5 : decode cX8_learn 5 = .ok (.ifCond .eq 17, 3) := by decide +kernel
theorem dX8_learn_8 : decode cX8_learn 8 = .ok (.iload_n 2, 1) := by decide +kernel
theorem dX8_learn_9 : decode cX8_learn 9 = .ok (.iconst 0, 1) := by decide +kernel
theorem dX8_learn_10 : decode cX8_learn 10 = .ok (.bipush 15, 2) := by decide +kernel
theorem dX8_learn_12 : decode cX8_learn 12 = .ok (.invokestatic 156, 3) := by decide +kernel
theorem dX8_learn_15 : decode cX8_learn 15 = .ok (.ifCond .eq 7, 3) := by decide +kernel
theorem dX8_learn_18 : decode cX8_learn 18 = .ok (.iconst 0, 1) := by decide +kernel
theorem dX8_learn_19 : decode cX8_learn 19 = .ok (.goto 4, 3) := by decide +kernel
theorem dX8_learn_22 : decode cX8_learn 22 = .ok (.iconst 1, 1) := by decide +kernel
theorem dX8_learn_23 : decode cX8_learn 23 = .ok (.putfield 152, 3) := by decide +kernel
theorem dX8_learn_26 : decode cX8_learn 26 = .ok (.aload_n 0, 1) := by decide +kernel
theorem dX8_learn_27 : decode cX8_learn 27 = .ok (.getfield 152, 3) := by decide +kernel
theorem dX8_learn_30 : decode cX8_learn 30 = .ok (.ifCond .le 5, 3) := by decide +kernel
theorem dX8_learn_33 : decode cX8_learn 33 = .ok (.iconst 0, 1) := by decide +kernel
theorem dX8_learn_34 : decode cX8_learn 34 = .ok (.ireturn, 1) := by decide +kernel
theorem dX8_learn_35 : decode cX8_learn 35 = .ok (.aload_n 0, 1) := by decide +kernel
theorem dX8_learn_36 : decode cX8_learn 36 = .ok (.getfield 59, 3) := by decide +kernel
theorem dX8_learn_39 : decode cX8_learn 39 = .ok (.iload_n 1, 1) := by decide +kernel
theorem dX8_learn_40 : decode cX8_learn 40 = .ok (.dup2, 1) := by decide +kernel
theorem dX8_learn_41 : decode cX8_learn 41 = .ok (.iaload, 1) := by decide +kernel
theorem dX8_learn_42 : decode cX8_learn 42 = .ok (.iconst 1, 1) := by decide +kernel
theorem dX8_learn_43 : decode cX8_learn 43 = .ok (.iload_n 2, 1) := by decide +kernel
theorem dX8_learn_44 : decode cX8_learn 44 = .ok (.ishl, 1) := by decide +kernel
theorem dX8_learn_45 : decode cX8_learn 45 = .ok (.ior, 1) := by decide +kernel
theorem dX8_learn_46 : decode cX8_learn 46 = .ok (.iastore, 1) := by decide +kernel
theorem dX8_learn_47 : decode cX8_learn 47 = .ok (.aload_n 0, 1) := by decide +kernel
theorem dX8_learn_48 : decode cX8_learn 48 = .ok (.getfield 59, 3) := by decide +kernel
theorem dX8_learn_51 : decode cX8_learn 51 = .ok (.iload_n 1, 1) := by decide +kernel
theorem dX8_learn_52 : decode cX8_learn 52 = .ok (.iaload, 1) := by decide +kernel
theorem dX8_learn_53 : decode cX8_learn 53 = .ok (.invokestatic 185, 3) := by decide +kernel
theorem dX8_learn_56 : decode cX8_learn 56 = .ok (.ireturn, 1) := by decide +kernel
theorem dX8_publicBy_0 : decode cX8_publicBy 0 = .ok (.iconst 0, 1) := by decide +kernel
theorem dX8_publicBy_1 : decode cX8_publicBy 1 = .ok (.istore_n 2, 1) := by decide +kernel
theorem dX8_publicBy_2 : decode cX8_publicBy 2 = .ok (.iconst 0, 1) := by decide +kernel
theorem dX8_publicBy_3 : decode cX8_publicBy 3 = .ok (.istore_n 3, 1) := by decide +kernel
theorem dX8_publicBy_4 : decode cX8_publicBy 4 = .ok (.iload_n 3, 1) := by decide +kernel
theorem dX8_publicBy_5 : decode cX8_publicBy 5 = .ok (.bipush 16, 2) := by decide +kernel
theorem dX8_publicBy_7 : decode cX8_publicBy 7 = .ok (.if_icmp .ge 39, 3) := by decide +kernel
theorem dX8_publicBy_10 : decode cX8_publicBy 10 = .ok (.iload_n 2, 1) := by decide +kernel
theorem dX8_publicBy_11 : decode cX8_publicBy 11 = .ok (.aload_n 0, 1) := by decide +kernel
theorem dX8_publicBy_12 : decode cX8_publicBy 12 = .ok (.getfield 56, 3) := by decide +kernel
theorem dX8_publicBy_15 : decode cX8_publicBy 15 = .ok (.iload_n 3, 1) := by decide +kernel
theorem dX8_publicBy_16 : decode cX8_publicBy 16 = .ok (.iaload, 1) := by decide +kernel
theorem dX8_publicBy_17 : decode cX8_publicBy 17 = .ok (.iconst (-1), 1) := by decide +kernel
theorem dX8_publicBy_18 : decode cX8_publicBy 18 = .ok (.if_icmp .eq 19, 3) := by decide +kernel
theorem dX8_publicBy_21 : decode cX8_publicBy 21 = .ok (.aload_n 0, 1) := by decide +kernel
theorem dX8_publicBy_22 : decode cX8_publicBy 22 = .ok (.getfield 56, 3) := by decide +kernel
theorem dX8_publicBy_25 : decode cX8_publicBy 25 = .ok (.iload_n 3, 1) := by decide +kernel
theorem dX8_publicBy_26 : decode cX8_publicBy 26 = .ok (.iaload, 1) := by decide +kernel
theorem dX8_publicBy_27 : decode cX8_publicBy 27 = .ok (.iload_n 1, 1) := by decide +kernel
theorem dX8_publicBy_28 : decode cX8_publicBy 28 = .ok (.if_icmp .gt 9, 3) := by decide +kernel
theorem dX8_publicBy_31 : decode cX8_publicBy 31 = .ok (.iconst 1, 1) := by decide +kernel
theorem dX8_publicBy_32 : decode cX8_publicBy 32 = .ok (.iload_n 3, 1) := by decide +kernel
theorem dX8_publicBy_33 : decode cX8_publicBy 33 = .ok (.ishl, 1) := by decide +kernel
theorem dX8_publicBy_34 : decode cX8_publicBy 34 = .ok (.goto 4, 3) := by decide +kernel
theorem dX8_publicBy_37 : decode cX8_publicBy 37 = .ok (.iconst 0, 1) := by decide +kernel
theorem dX8_publicBy_38 : decode cX8_publicBy 38 = .ok (.ior, 1) := by decide +kernel
theorem dX8_publicBy_39 : decode cX8_publicBy 39 = .ok (.istore_n 2, 1) := by decide +kernel
theorem dX8_publicBy_40 : decode cX8_publicBy 40 = .ok (.iinc 3 1, 3) := by decide +kernel
theorem dX8_publicBy_43 : decode cX8_publicBy 43 = .ok (.goto (-39), 3) := by decide +kernel
theorem dX8_publicBy_46 : decode cX8_publicBy 46 = .ok (.iload_n 2, 1) := by decide +kernel
theorem dX8_publicBy_47 : decode cX8_publicBy 47 = .ok (.ireturn, 1) := by decide +kernel
set_option maxRecDepth 20000 in
theorem ggX8_publish_X8_in : GoodIn wsX8_publish wsX8_in := goodIn_r _ [7] (by decide +kernel) (by decide +kernel)
set_option maxRecDepth 20000 in
theorem gX8_publish_X8_in : GoodIn wsX8_publish (va_wsS RX8 156 yX8_in wsX8_in) := goodIn_app (goodIn_of _ (by decide +kernel)) ggX8_publish_X8_in
set_option maxRecDepth 20000 in
theorem ggX8_publish_X8_publicBy : GoodIn wsX8_publish wsX8_publicBy := goodIn_r _ [11, 2, 15, 16, 17, 18, 19, 20, 21, 22, 23, 24, 25, 26, 27, 28, 29, 30, 31, 32, 33, 34, 35, 36, 37, 38, 39, 40, 41, 42, 43, 44, 45, 46, 47, 48, 49, 50, 51, 52, 53, 54, 55, 56, 57, 58, 59, 60, 61, 62, 63, 64, 65, 66, 67, 68, 69] (by decide +kernel) (by decide +kernel)
set_option maxRecDepth 20000 in
theorem gX8_publish_X8_publicBy : GoodIn wsX8_publish (wsV RX8 189 RX8 yX8_publicBy wsX8_publicBy) := goodIn_app (goodIn_of _ (by decide +kernel)) ggX8_publish_X8_publicBy
set_option maxRecDepth 20000 in
theorem ggX8_publish_X8_bits : GoodIn wsX8_publish wsX8_bits := goodIn_r _ [14] (by decide +kernel) (by decide +kernel)
set_option maxRecDepth 20000 in
theorem gX8_publish_X8_bits : GoodIn wsX8_publish (va_wsS RX8 185 yX8_bits wsX8_bits) := goodIn_app (goodIn_of _ (by decide +kernel)) ggX8_publish_X8_bits
theorem dX8_publish_0 : decode cX8_publish 0 = .ok (.aload_n 0, 1) := by decide +kernel
theorem dX8_publish_1 : decode cX8_publish 1 = .ok (.iload_n 1, 1) := by decide +kernel
theorem dX8_publish_2 : decode cX8_publish 2 = .ok (.iconst 0, 1) := by decide +kernel
theorem dX8_publish_3 : decode cX8_publish 3 = .ok (.bipush 15, 2) := by decide +kernel
theorem dX8_publish_5 : decode cX8_publish 5 = .ok (.invokestatic 156, 3) := by decide +kernel
theorem dX8_publish_8 : decode cX8_publish 8 = .ok (.ifCond .eq 7, 3) := by decide +kernel
theorem dX8_publish_11 : decode cX8_publish 11 = .ok (.iconst 0, 1) := by decide +kernel
theorem dX8_publish_12 : decode cX8_publish 12 = .ok (.goto 4, 3) := by decide +kernel
theorem dX8_publish_15 : decode cX8_publish 15 = .ok (.iconst 1, 1) := by decide +kernel
theorem dX8_publish_16 : decode cX8_publish 16 = .ok (.putfield 152, 3) := by decide +kernel
theorem dX8_publish_19 : decode cX8_publish 19 = .ok (.aload_n 0, 1) := by decide +kernel
theorem dX8_publish_20 : decode cX8_publish 20 = .ok (.getfield 152, 3) := by decide +kernel
theorem dX8_publish_23 : decode cX8_publish 23 = .ok (.ifCond .le 5, 3) := by decide +kernel
theorem dX8_publish_26 : decode cX8_publish 26 = .ok (.iconst 0, 1) := by decide +kernel
theorem dX8_publish_27 : decode cX8_publish 27 = .ok (.ireturn, 1) := by decide +kernel
theorem dX8_publish_28 : decode cX8_publish 28 = .ok (.aload_n 0, 1) := by decide +kernel
theorem dX8_publish_29 : decode cX8_publish 29 = .ok (.getfield 56, 3) := by decide +kernel
theorem dX8_publish_32 : decode cX8_publish 32 = .ok (.iload_n 1, 1) := by decide +kernel
theorem dX8_publish_33 : decode cX8_publish 33 = .ok (.aload_n 0, 1) := by decide +kernel
theorem dX8_publish_34 : decode cX8_publish 34 = .ok (.getfield 56, 3) := by decide +kernel
theorem dX8_publish_37 : decode cX8_publish 37 = .ok (.iload_n 1, 1) := by decide +kernel
theorem dX8_publish_38 : decode cX8_publish 38 = .ok (.iaload, 1) := by decide +kernel
theorem dX8_publish_39 : decode cX8_publish 39 = .ok (.iconst (-1), 1) := by decide +kernel
theorem dX8_publish_40 : decode cX8_publish 40 = .ok (.if_icmp .ne 10, 3) := by decide +kernel
theorem dX8_publish_43 : decode cX8_publish 43 = .ok (.aload_n 0, 1) := by decide +kernel
theorem dX8_publish_44 : decode cX8_publish 44 = .ok (.getfield 179, 3) := by decide +kernel
theorem dX8_publish_47 : decode cX8_publish 47 = .ok (.goto 9, 3) := by decide +kernel
theorem dX8_publish_50 : decode cX8_publish 50 = .ok (.aload_n 0, 1) := by decide +kernel
theorem dX8_publish_51 : decode cX8_publish 51 = .ok (.getfield 56, 3) := by decide +kernel
theorem dX8_publish_54 : decode cX8_publish 54 = .ok (.iload_n 1, 1) := by decide +kernel
theorem dX8_publish_55 : decode cX8_publish 55 = .ok (.iaload, 1) := by decide +kernel
theorem dX8_publish_56 : decode cX8_publish 56 = .ok (.iastore, 1) := by decide +kernel
theorem dX8_publish_57 : decode cX8_publish 57 = .ok (.aload_n 0, 1) := by decide +kernel
theorem dX8_publish_58 : decode cX8_publish 58 = .ok (.aload_n 0, 1) := by decide +kernel
theorem dX8_publish_59 : decode cX8_publish 59 = .ok (.getfield 179, 3) := by decide +kernel
theorem dX8_publish_62 : decode cX8_publish 62 = .ok (.invokevirtual 189, 3) := by decide +kernel
theorem dX8_publish_65 : decode cX8_publish 65 = .ok (.invokestatic 185, 3) := by decide +kernel
theorem dX8_publish_68 : decode cX8_publish 68 = .ok (.ireturn, 1) := by decide +kernel
set_option maxRecDepth 20000 in
theorem ggX8_plan_X8_isTeller : GoodIn wsX8_plan wsX8_isTeller := goodIn_r _ [6, 7, 8, 5, 9] (by decide +kernel) (by decide +kernel)
set_option maxRecDepth 20000 in
theorem gX8_plan_X8_isTeller : GoodIn wsX8_plan (va_wsS RX8 182 yX8_isTeller wsX8_isTeller) := goodIn_app (goodIn_of _ (by decide +kernel)) ggX8_plan_X8_isTeller
set_option maxRecDepth 20000 in
theorem ggX8_plan_X8_isScheme : GoodIn wsX8_plan wsX8_isScheme := goodIn_r _ [13, 14, 7, 8, 5, 9, 15, 16, 17, 18, 19, 20, 21, 22, 23, 24, 25, 26, 27, 28, 29, 30, 31, 32, 33, 34, 35, 36, 37, 38, 39, 40, 41, 42, 43, 44, 45, 46, 47, 48, 49, 50, 51, 52, 53, 54, 55, 56, 57, 58, 59, 60, 61, 62, 63, 64, 65, 66, 67, 68, 69] (by decide +kernel) (by decide +kernel)
set_option maxRecDepth 20000 in
theorem gX8_plan_X8_isScheme : GoodIn wsX8_plan (wsV RX8 173 RX8 yX8_isScheme wsX8_isScheme) := goodIn_app (goodIn_of _ (by decide +kernel)) ggX8_plan_X8_isScheme
theorem dX8_plan_0 : decode cX8_plan 0 = .ok (.aload_n 0, 1) := by decide +kernel
theorem dX8_plan_1 : decode cX8_plan 1 = .ok (.iload_n 1, 1) := by decide +kernel
theorem dX8_plan_2 : decode cX8_plan 2 = .ok (.invokestatic 182, 3) := by decide +kernel
theorem dX8_plan_5 : decode cX8_plan 5 = .ok (.ifCond .eq 15, 3) := by decide +kernel
theorem dX8_plan_8 : decode cX8_plan 8 = .ok (.aload_n 0, 1) := by decide +kernel
theorem dX8_plan_9 : decode cX8_plan 9 = .ok (.iload_n 2, 1) := by decide +kernel
theorem dX8_plan_10 : decode cX8_plan 10 = .ok (.invokevirtual 173, 3) := by decide +kernel
theorem dX8_plan_13 : decode cX8_plan 13 = .ok (.ifCond .eq 7, 3) := by decide +kernel
theorem dX8_plan_16 : decode cX8_plan 16 = .ok (.iconst 0, 1) := by decide +kernel
theorem dX8_plan_17 : decode cX8_plan 17 = .ok (.goto 4, 3) := by decide +kernel
theorem dX8_plan_20 : decode cX8_plan 20 = .ok (.iconst 1, 1) := by decide +kernel
theorem dX8_plan_21 : decode cX8_plan 21 = .ok (.putfield 152, 3) := by decide +kernel
theorem dX8_plan_24 : decode cX8_plan 24 = .ok (.aload_n 0, 1) := by decide +kernel
theorem dX8_plan_25 : decode cX8_plan 25 = .ok (.getfield 152, 3) := by decide +kernel
theorem dX8_plan_28 : decode cX8_plan 28 = .ok (.ifCond .le 5, 3) := by decide +kernel
theorem dX8_plan_31 : decode cX8_plan 31 = .ok (.iconst 0, 1) := by decide +kernel
theorem dX8_plan_32 : decode cX8_plan 32 = .ok (.ireturn, 1) := by decide +kernel
theorem dX8_plan_33 : decode cX8_plan 33 = .ok (.aload_n 0, 1) := by decide +kernel
theorem dX8_plan_34 : decode cX8_plan 34 = .ok (.getfield 62, 3) := by decide +kernel
theorem dX8_plan_37 : decode cX8_plan 37 = .ok (.iload_n 1, 1) := by decide +kernel
theorem dX8_plan_38 : decode cX8_plan 38 = .ok (.iaload, 1) := by decide +kernel
theorem dX8_plan_39 : decode cX8_plan 39 = .ok (.iload_n 2, 1) := by decide +kernel
theorem dX8_plan_40 : decode cX8_plan 40 = .ok (.ishr, 1) := by decide +kernel
theorem dX8_plan_41 : decode cX8_plan 41 = .ok (.iconst 1, 1) := by decide +kernel
theorem dX8_plan_42 : decode cX8_plan 42 = .ok (.iand, 1) := by decide +kernel
theorem dX8_plan_43 : decode cX8_plan 43 = .ok (.iconst 1, 1) := by decide +kernel
theorem dX8_plan_44 : decode cX8_plan 44 = .ok (.if_icmp .ne 7, 3) := by decide +kernel
theorem dX8_plan_47 : decode cX8_plan 47 = .ok (.iconst 1, 1) := by decide +kernel
theorem dX8_plan_48 : decode cX8_plan 48 = .ok (.goto 4, 3) := by decide +kernel
theorem dX8_plan_51 : decode cX8_plan 51 = .ok (.iconst 0, 1) := by decide +kernel
theorem dX8_plan_52 : decode cX8_plan 52 = .ok (.istore_n 3, 1) := by decide +kernel
theorem dX8_plan_53 : decode cX8_plan 53 = .ok (.aload_n 0, 1) := by decide +kernel
theorem dX8_plan_54 : decode cX8_plan 54 = .ok (.getfield 62, 3) := by decide +kernel
theorem dX8_plan_57 : decode cX8_plan 57 = .ok (.iload_n 1, 1) := by decide +kernel
theorem dX8_plan_58 : decode cX8_plan 58 = .ok (.dup2, 1) := by decide +kernel
theorem dX8_plan_59 : decode cX8_plan 59 = .ok (.iaload, 1) := by decide +kernel
theorem dX8_plan_60 : decode cX8_plan 60 = .ok (.iconst 1, 1) := by decide +kernel
theorem dX8_plan_61 : decode cX8_plan 61 = .ok (.iload_n 2, 1) := by decide +kernel
theorem dX8_plan_62 : decode cX8_plan 62 = .ok (.ishl, 1) := by decide +kernel
theorem dX8_plan_63 : decode cX8_plan 63 = .ok (.ior, 1) := by decide +kernel
theorem dX8_plan_64 : decode cX8_plan 64 = .ok (.iastore, 1) := by decide +kernel
theorem dX8_plan_65 : decode cX8_plan 65 = .ok (.iload_n 3, 1) := by decide +kernel
theorem dX8_plan_66 : decode cX8_plan 66 = .ok (.ireturn, 1) := by decide +kernel
set_option maxRecDepth 20000 in
theorem ggX8_know_X8_isScheme : GoodIn wsX8_know wsX8_isScheme := goodIn_r _ [8, 9, 10, 11, 7, 12, 13, 14, 15, 16, 17, 18, 19, 20, 21, 22, 23, 24, 25, 26, 27, 28, 29, 30, 31, 32, 33, 34, 35, 36, 37, 38, 39, 40, 41, 42, 43, 44, 45, 46, 47, 48, 49, 50, 51, 52, 53, 54, 55, 56, 57, 58, 59, 60, 61, 62, 63, 64, 65, 66, 67] (by decide +kernel) (by decide +kernel)
set_option maxRecDepth 20000 in
theorem gX8_know_X8_isScheme : GoodIn wsX8_know (wsV RX8 173 RX8 yX8_isScheme wsX8_isScheme) := goodIn_app (goodIn_of _ (by decide +kernel)) ggX8_know_X8_isScheme
theorem dX8_know_0 : decode cX8_know 0 = .ok (.aload_n 0, 1) := by decide +kernel
theorem dX8_know_1 : decode cX8_know 1 = .ok (.aload_n 0, 1) := by decide +kernel
theorem dX8_know_2 : decode cX8_know 2 = .ok (.iload_n 1, 1) := by decide +kernel
theorem dX8_know_3 : decode cX8_know 3 = .ok (.invokevirtual 173, 3) := by decide +kernel
theorem dX8_know_6 : decode cX8_know 6 = .ok (.ifCond .eq 7, 3) := by decide +kernel
theorem dX8_know_9 : decode cX8_know 9 = .ok (.iconst 0, 1) := by decide +kernel
theorem dX8_know_10 : decode cX8_know 10 = .ok (.goto 4, 3) := by decide +kernel
theorem dX8_know_13 : decode cX8_know 13 = .ok (.iconst 1, 1) := by decide +kernel
theorem dX8_know_14 : decode cX8_know 14 = .ok (.putfield 152, 3) := by decide +kernel
theorem dX8_know_17 : decode cX8_know 17 = .ok (.aload_n 0, 1) := by decide +kernel
theorem dX8_know_18 : decode cX8_know 18 = .ok (.getfield 152, 3) := by decide +kernel
theorem dX8_know_21 : decode cX8_know 21 = .ok (.ifCond .le 5, 3) := by decide +kernel
theorem dX8_know_24 : decode cX8_know 24 = .ok (.iconst 0, 1) := by decide +kernel
theorem dX8_know_25 : decode cX8_know 25 = .ok (.ireturn, 1) := by decide +kernel
theorem dX8_know_26 : decode cX8_know 26 = .ok (.aload_n 0, 1) := by decide +kernel
theorem dX8_know_27 : decode cX8_know 27 = .ok (.getfield 37, 3) := by decide +kernel
theorem dX8_know_30 : decode cX8_know 30 = .ok (.iload_n 1, 1) := by decide +kernel
theorem dX8_know_31 : decode cX8_know 31 = .ok (.iaload, 1) := by decide +kernel
theorem dX8_know_32 : decode cX8_know 32 = .ok (.iconst (-1), 1) := by decide +kernel
theorem dX8_know_33 : decode cX8_know 33 = .ok (.if_icmp .eq 7, 3) := by decide +kernel
theorem dX8_know_36 : decode cX8_know 36 = .ok (.iconst 1, 1) := by decide +kernel
theorem dX8_know_37 : decode cX8_know 37 = .ok (.goto 4, 3) := by decide +kernel
theorem dX8_know_40 : decode cX8_know 40 = .ok (.iconst 0, 1) := by decide +kernel
theorem dX8_know_41 : decode cX8_know 41 = .ok (.istore_n 2, 1) := by decide +kernel
theorem dX8_know_42 : decode cX8_know 42 = .ok (.aload_n 0, 1) := by decide +kernel
theorem dX8_know_43 : decode cX8_know 43 = .ok (.getfield 37, 3) := by decide +kernel
theorem dX8_know_46 : decode cX8_know 46 = .ok (.iload_n 1, 1) := by decide +kernel
theorem dX8_know_47 : decode cX8_know 47 = .ok (.iload_n 2, 1) := by decide +kernel
theorem dX8_know_48 : decode cX8_know 48 = .ok (.ifCond .eq 12, 3) := by decide +kernel
theorem dX8_know_51 : decode cX8_know 51 = .ok (.aload_n 0, 1) := by decide +kernel
theorem dX8_know_52 : decode cX8_know 52 = .ok (.getfield 37, 3) := by decide +kernel
theorem dX8_know_55 : decode cX8_know 55 = .ok (.iload_n 1, 1) := by decide +kernel
theorem dX8_know_56 : decode cX8_know 56 = .ok (.iaload, 1) := by decide +kernel
theorem dX8_know_57 : decode cX8_know 57 = .ok (.goto 7, 3) := by decide +kernel
theorem dX8_know_60 : decode cX8_know 60 = .ok (.aload_n 0, 1) := by decide +kernel
theorem dX8_know_61 : decode cX8_know 61 = .ok (.getfield 179, 3) := by decide +kernel
theorem dX8_know_64 : decode cX8_know 64 = .ok (.iastore, 1) := by decide +kernel
theorem dX8_know_65 : decode cX8_know 65 = .ok (.iload_n 2, 1) := by decide +kernel
theorem dX8_know_66 : decode cX8_know 66 = .ok (.ireturn, 1) := by decide +kernel
theorem dX8_isSealed_0 : decode cX8_isSealed 0 = .ok (.aload_n 0, 1) := by decide +kernel
theorem dX8_isSealed_1 : decode cX8_isSealed 1 = .ok (.getfield 179, 3) := by decide +kernel
theorem dX8_isSealed_4 : decode cX8_isSealed 4 = .ok (.aload_n 0, 1) := by decide +kernel
theorem dX8_isSealed_5 : decode cX8_isSealed 5 = .ok (.getfield 98, 3) := by decide +kernel
theorem dX8_isSealed_8 : decode cX8_isSealed 8 = .ok (.iload_n 1, 1) := by decide +kernel
theorem dX8_isSealed_9 : decode cX8_isSealed 9 = .ok (.iaload, 1) := by decide +kernel
theorem dX8_isSealed_10 : decode cX8_isSealed 10 = .ok (.if_icmp .ge 7, 3) := by decide +kernel
theorem dX8_isSealed_13 : decode cX8_isSealed 13 = .ok (.iconst 1, 1) := by decide +kernel
theorem dX8_isSealed_14 : decode cX8_isSealed 14 = .ok (.goto 4, 3) := by decide +kernel
theorem dX8_isSealed_17 : decode cX8_isSealed 17 = .ok (.iconst 0, 1) := by decide +kernel
theorem dX8_isSealed_18 : decode cX8_isSealed 18 = .ok (.ireturn, 1) := by decide +kernel
set_option maxRecDepth 20000 in
theorem ggX8_admit_X8_isScheme : GoodIn wsX8_admit wsX8_isScheme := goodIn_r _ [9, 10, 11, 12, 8, 13, 41, 42, 43, 44, 45, 46, 47, 48, 49, 50, 51, 52, 53, 54, 55, 56, 57, 58, 59, 60, 61, 62, 63, 64, 65, 66, 67, 68, 69, 70, 71, 72, 73, 74, 75, 76, 77, 78, 79, 80, 81, 82, 83, 84, 85, 86, 87, 88, 89, 90, 91, 92, 93, 94, 95] (by decide +kernel) (by decide +kernel)
set_option maxRecDepth 20000 in
theorem gX8_admit_X8_isScheme : GoodIn wsX8_admit (wsV RX8 173 RX8 yX8_isScheme wsX8_isScheme) := goodIn_app (goodIn_of _ (by decide +kernel)) ggX8_admit_X8_isScheme
set_option maxRecDepth 20000 in
theorem ggX8_admit_X8_dayOf : GoodIn wsX8_admit wsX8_dayOf := goodIn_r _ [17, 18, 19, 20, 21, 22, 23, 24, 25, 26, 27, 28, 29, 30, 8, 31, 32, 33, 34, 41, 42, 43, 44, 45, 46, 47, 48, 49, 50, 51, 52, 53, 54, 55, 56, 57, 58, 59, 60, 61, 62, 63, 64, 65, 66, 67, 68, 69, 70, 71, 72, 73, 74, 75, 76, 77, 78, 79, 80, 81, 82, 83, 84, 85, 86, 87, 88, 89, 90, 91, 92, 93, 94, 95] (by decide +kernel) (by decide +kernel)
set_option maxRecDepth 20000 in
theorem gX8_admit_X8_dayOf : GoodIn wsX8_admit (wsV RX8 192 RX8 yX8_dayOf wsX8_dayOf) := goodIn_app (goodIn_of _ (by decide +kernel)) ggX8_admit_X8_dayOf
set_option maxRecDepth 20000 in
theorem ggX8_admit_X8_isSealed : GoodIn wsX8_admit wsX8_isSealed := goodIn_r _ [38, 39, 40, 41, 42, 43, 44, 45, 46, 47, 48, 49, 50, 51, 52, 53, 54, 55, 56, 57, 58, 59, 60, 61, 62, 63, 64, 65, 66, 67, 68, 69, 70, 71, 72, 73, 74, 75, 76, 77, 78, 79, 80, 81, 82, 83, 84, 85, 86, 87, 88, 89, 90, 91, 92, 93, 94, 95] (by decide +kernel) (by decide +kernel)
set_option maxRecDepth 20000 in
theorem gX8_admit_X8_isSealed : GoodIn wsX8_admit (wsV RX8 196 RX8 yX8_isSealed wsX8_isSealed) := goodIn_app (goodIn_of _ (by decide +kernel)) ggX8_admit_X8_isSealed
theorem dX8_admit_0 : decode cX8_admit 0 = .ok (.aload_n 0, 1) := by decide +kernel
theorem dX8_admit_1 : decode cX8_admit 1 = .ok (.aload_n 0, 1) := by decide +kernel
theorem dX8_admit_2 : decode cX8_admit 2 = .ok (.iload_n 1, 1) := by decide +kernel
theorem dX8_admit_3 : decode cX8_admit 3 = .ok (.invokevirtual 173, 3) := by decide +kernel
theorem dX8_admit_6 : decode cX8_admit 6 = .ok (.ifCond .eq 7, 3) := by decide +kernel
theorem dX8_admit_9 : decode cX8_admit 9 = .ok (.iconst 0, 1) := by decide +kernel
theorem dX8_admit_10 : decode cX8_admit 10 = .ok (.goto 4, 3) := by decide +kernel
theorem dX8_admit_13 : decode cX8_admit 13 = .ok (.iconst 1, 1) := by decide +kernel
theorem dX8_admit_14 : decode cX8_admit 14 = .ok (.putfield 152, 3) := by decide +kernel
theorem dX8_admit_17 : decode cX8_admit 17 = .ok (.iconst 0, 1) := by decide +kernel
theorem dX8_admit_18 : decode cX8_admit 18 = .ok (.istore_n 2, 1) := by decide +kernel
theorem dX8_admit_19 : decode cX8_admit 19 = .ok (.iload_n 2, 1) := by decide +kernel
theorem dX8_admit_20 : decode cX8_admit 20 = .ok (.aload_n 0, 1) := by decide +kernel
theorem dX8_admit_21 : decode cX8_admit 21 = .ok (.getfield 163, 3) := by decide +kernel
theorem dX8_admit_24 : decode cX8_admit 24 = .ok (.if_icmp .ge 53, 3) := by decide +kernel
theorem dX8_admit_27 : decode cX8_admit 27 = .ok (.aload_n 0, 1) := by decide +kernel
theorem dX8_admit_28 : decode cX8_admit 28 = .ok (.getfield 152, 3) := by decide +kernel
theorem dX8_admit_31 : decode cX8_admit 31 = .ok (.ifCond .ne 46, 3) := by decide +kernel
theorem dX8_admit_34 : decode cX8_admit 34 = .ok (.aload_n 0, 1) := by decide +kernel
theorem dX8_admit_35 : decode cX8_admit 35 = .ok (.aload_n 0, 1) := by decide +kernel
theorem dX8_admit_36 : decode cX8_admit 36 = .ok (.iload_n 2, 1) := by decide +kernel
theorem dX8_admit_37 : decode cX8_admit 37 = .ok (.iload_n 1, 1) := by decide +kernel
theorem dX8_admit_38 : decode cX8_admit 38 = .ok (.invokevirtual 192, 3) := by decide +kernel
theorem dX8_admit_41 : decode cX8_admit 41 = .ok (.iconst (-1), 1) := by decide +kernel
theorem dX8_admit_42 : decode cX8_admit 42 = .ok (.if_icmp .eq 25, 3) := by decide +kernel
theorem dX8_admit_45 : decode cX8_admit 45 = .ok (.aload_n 0, 1) := by decide +kernel
theorem dX8_admit_46 : decode cX8_admit 46 = .ok (.iload_n 2, 1) := by decide +kernel
theorem dX8_admit_47 : decode cX8_admit 47 = .ok (.invokevirtual 196, 3) := by decide +kernel
theorem dX8_admit_50 : decode cX8_admit 50 = .ok (.ifCond .ne 17, 3) := by decide +kernel
theorem dX8_admit_53 : decode cX8_admit 53 = .ok (.aload_n 0, 1) := by decide +kernel
theorem dX8_admit_54 : decode cX8_admit 54 = .ok (.getfield 92, 3) := by decide +kernel
theorem dX8_admit_57 : decode cX8_admit 57 = .ok (.iload_n 2, 1) := by decide +kernel
theorem dX8_admit_58 : decode cX8_admit 58 = .ok (.iaload, 1) := by decide +kernel
theorem dX8_admit_59 : decode cX8_admit 59 = .ok (.iconst 3, 1) := by decide +kernel
theorem dX8_admit_60 : decode cX8_admit 60 = .ok (.if_icmp .eq 7, 3) := by decide +kernel
theorem dX8_admit_63 : decode cX8_admit 63 = .ok (.iconst 2, 1) := by decide +kernel
theorem dX8_admit_64 : decode cX8_admit 64 = .ok (.goto 4, 3) := by decide +kernel
theorem dX8_admit_67 : decode cX8_admit 67 = .ok (.iconst 0, 1) := by decide +kernel
theorem dX8_admit_68 : decode cX8_admit 68 = .ok (.putfield 152, 3) := by decide +kernel
theorem dX8_admit_71 : decode cX8_admit 71 = .ok (.iinc 2 1, 3) := by decide +kernel
theorem dX8_admit_74 : decode cX8_admit 74 = .ok (.goto (-55), 3) := by decide +kernel
theorem dX8_admit_77 : decode cX8_admit 77 = .ok (.aload_n 0, 1) := by decide +kernel
theorem dX8_admit_78 : decode cX8_admit 78 = .ok (.getfield 152, 3) := by decide +kernel
theorem dX8_admit_81 : decode cX8_admit 81 = .ok (.ifCond .le 5, 3) := by decide +kernel
theorem dX8_admit_84 : decode cX8_admit 84 = .ok (.iconst 0, 1) := by decide +kernel
theorem dX8_admit_85 : decode cX8_admit 85 = .ok (.ireturn, 1) := by decide +kernel
theorem dX8_admit_86 : decode cX8_admit 86 = .ok (.aload_n 0, 1) := by decide +kernel
theorem dX8_admit_87 : decode cX8_admit 87 = .ok (.getfield 40, 3) := by decide +kernel
theorem dX8_admit_90 : decode cX8_admit 90 = .ok (.iload_n 1, 1) := by decide +kernel
theorem dX8_admit_91 : decode cX8_admit 91 = .ok (.baload, 1) := by decide +kernel
theorem dX8_admit_92 : decode cX8_admit 92 = .ok (.istore_n 2, 1) := by decide +kernel
theorem dX8_admit_93 : decode cX8_admit 93 = .ok (.aload_n 0, 1) := by decide +kernel
theorem dX8_admit_94 : decode cX8_admit 94 = .ok (.getfield 40, 3) := by decide +kernel
theorem dX8_admit_97 : decode cX8_admit 97 = .ok (.iload_n 1, 1) := by decide +kernel
theorem dX8_admit_98 : decode cX8_admit 98 = .ok (.iconst 1, 1) := by decide +kernel
theorem dX8_admit_99 : decode cX8_admit 99 = .ok (.bastore, 1) := by decide +kernel
theorem dX8_admit_100 : decode cX8_admit 100 = .ok (.iload_n 2, 1) := by decide +kernel
theorem dX8_admit_101 : decode cX8_admit 101 = .ok (.ireturn, 1) := by decide +kernel
set_option maxRecDepth 20000 in
theorem ggX8_isHalf_X8_bits : GoodIn wsX8_isHalf wsX8_bits := goodIn_r _ [5] (by decide +kernel) (by decide +kernel)
set_option maxRecDepth 20000 in
theorem gX8_isHalf_X8_bits : GoodIn wsX8_isHalf (va_wsS RX8 185 yX8_bits wsX8_bits) := goodIn_app (goodIn_of _ (by decide +kernel)) ggX8_isHalf_X8_bits
theorem dX8_isHalf_0 : decode cX8_isHalf 0 = .ok (.iconst 2, 1) := by decide +kernel
theorem dX8_isHalf_1 : decode cX8_isHalf 1 = .ok (.iload_n 1, 1) := by decide +kernel
theorem dX8_isHalf_2 : decode cX8_isHalf 2 = .ok (.aload_n 0, 1) := by decide +kernel
theorem dX8_isHalf_3 : decode cX8_isHalf 3 = .ok (.getfield 25, 3) := by decide +kernel
theorem dX8_isHalf_6 : decode cX8_isHalf 6 = .ok (.iload_n 2, 1) := by decide +kernel
theorem dX8_isHalf_7 : decode cX8_isHalf 7 = .ok (.iaload, 1) := by decide +kernel
theorem dX8_isHalf_8 : decode cX8_isHalf 8 = .ok (.iand, 1) := by decide +kernel
theorem dX8_isHalf_9 : decode cX8_isHalf 9 = .ok (.invokestatic 185, 3) := by decide +kernel
theorem dX8_isHalf_12 : decode cX8_isHalf 12 = .ok (.imul, 1) := by decide +kernel
theorem dX8_isHalf_13 : decode cX8_isHalf 13 = .ok (.aload_n 0, 1) := by decide +kernel
theorem dX8_isHalf_14 : decode cX8_isHalf 14 = .ok (.getfield 25, 3) := by decide +kernel
theorem dX8_isHalf_17 : decode cX8_isHalf 17 = .ok (.iload_n 2, 1) := by decide +kernel
theorem dX8_isHalf_18 : decode cX8_isHalf 18 = .ok (.iaload, 1) := by decide +kernel
theorem dX8_isHalf_19 : decode cX8_isHalf 19 = .ok (.invokestatic 185, 3) := by decide +kernel
theorem dX8_isHalf_22 : decode cX8_isHalf 22 = .ok (.if_icmp .lt 7, 3) := by decide +kernel
theorem dX8_isHalf_25 : decode cX8_isHalf 25 = .ok (.iconst 1, 1) := by decide +kernel
theorem dX8_isHalf_26 : decode cX8_isHalf 26 = .ok (.goto 4, 3) := by decide +kernel
theorem dX8_isHalf_29 : decode cX8_isHalf 29 = .ok (.iconst 0, 1) := by decide +kernel
theorem dX8_isHalf_30 : decode cX8_isHalf 30 = .ok (.ireturn, 1) := by decide +kernel
set_option maxRecDepth 20000 in
theorem ggX8_dayOf_X8_isHalf : GoodIn wsX8_dayOf wsX8_isHalf := goodIn_r _ [15, 5, 16, 17, 14, 18, 19, 20, 21, 22, 23, 24, 25, 26, 27, 28, 29, 30, 31, 32, 33, 34, 35, 36, 37, 38, 39, 40, 41, 42, 43, 44, 45, 46, 47, 48, 49, 50, 51, 52, 53, 54, 55, 56, 57, 58, 59, 60, 61, 62, 63, 64, 65, 66, 67, 68, 69, 70, 71, 72, 73] (by decide +kernel) (by decide +kernel)
set_option maxRecDepth 20000 in
theorem gX8_dayOf_X8_isHalf : GoodIn wsX8_dayOf (wsV RX8 199 RX8 yX8_isHalf wsX8_isHalf) := goodIn_app (goodIn_of _ (by decide +kernel)) ggX8_dayOf_X8_isHalf
theorem dX8_dayOf_0 : decode cX8_dayOf 0 = .ok (.aload_n 0, 1) := by decide +kernel
theorem dX8_dayOf_1 : decode cX8_dayOf 1 = .ok (.getfield 80, 3) := by decide +kernel
theorem dX8_dayOf_4 : decode cX8_dayOf 4 = .ok (.iload_n 1, 1) := by decide +kernel
theorem dX8_dayOf_5 : decode cX8_dayOf 5 = .ok (.iaload, 1) := by decide +kernel
theorem dX8_dayOf_6 : decode cX8_dayOf 6 = .ok (.aload_n 0, 1) := by decide +kernel
theorem dX8_dayOf_7 : decode cX8_dayOf 7 = .ok (.getfield 22, 3) := by decide +kernel
theorem dX8_dayOf_10 : decode cX8_dayOf 10 = .ok (.iload_n 2, 1) := by decide +kernel
theorem dX8_dayOf_11 : decode cX8_dayOf 11 = .ok (.iaload, 1) := by decide +kernel
theorem dX8_dayOf_12 : decode cX8_dayOf 12 = .ok (.if_icmp .ne 17, 3) := by decide +kernel
theorem dX8_dayOf_15 : decode cX8_dayOf 15 = .ok (.aload_n 0, 1) := by decide +kernel
theorem dX8_dayOf_16 : decode cX8_dayOf 16 = .ok (.aload_n 0, 1) := by decide +kernel
theorem dX8_dayOf_17 : decode cX8_dayOf 17 = .ok (.getfield 86, 3) := by decide +kernel
theorem dX8_dayOf_20 : decode cX8_dayOf 20 = .ok (.iload_n 1, 1) := by decide +kernel
theorem dX8_dayOf_21 : decode cX8_dayOf 21 = .ok (.iaload, 1) := by decide +kernel
theorem dX8_dayOf_22 : decode cX8_dayOf 22 = .ok (.iload_n 2, 1) := by decide +kernel
theorem dX8_dayOf_23 : decode cX8_dayOf 23 = .ok (.invokevirtual 199, 3) := by decide +kernel
theorem dX8_dayOf_26 : decode cX8_dayOf 26 = .ok (.ifCond .ne 5, 3) := by decide +kernel
theorem dX8_dayOf_29 : decode cX8_dayOf 29 = .ok (.iconst (-1), 1) := by decide +kernel
theorem dX8_dayOf_30 : decode cX8_dayOf 30 = .ok (.ireturn, 1) := by decide +kernel
theorem dX8_dayOf_31 : decode cX8_dayOf 31 = .ok (.aload_n 0, 1) := by decide +kernel
theorem dX8_dayOf_32 : decode cX8_dayOf 32 = .ok (.getfield 83, 3) := by decide +kernel
theorem dX8_dayOf_35 : decode cX8_dayOf 35 = .ok (.iload_n 1, 1) := by decide +kernel
theorem dX8_dayOf_36 : decode cX8_dayOf 36 = .ok (.iaload, 1) := by decide +kernel
theorem dX8_dayOf_37 : decode cX8_dayOf 37 = .ok (.aload_n 0, 1) := by decide +kernel
theorem dX8_dayOf_38 : decode cX8_dayOf 38 = .ok (.getfield 25, 3) := by decide +kernel
theorem dX8_dayOf_41 : decode cX8_dayOf 41 = .ok (.iload_n 2, 1) := by decide +kernel
theorem dX8_dayOf_42 : decode cX8_dayOf 42 = .ok (.iaload, 1) := by decide +kernel
theorem dX8_dayOf_43 : decode cX8_dayOf 43 = .ok (.iand, 1) := by decide +kernel
theorem dX8_dayOf_44 : decode cX8_dayOf 44 = .ok (.ifCond .eq 10, 3) := by decide +kernel
theorem dX8_dayOf_47 : decode cX8_dayOf 47 = .ok (.aload_n 0, 1) := by decide +kernel
theorem dX8_dayOf_48 : decode cX8_dayOf 48 = .ok (.getfield 89, 3) := by decide +kernel
theorem dX8_dayOf_51 : decode cX8_dayOf 51 = .ok (.iload_n 1, 1) := by decide +kernel
theorem dX8_dayOf_52 : decode cX8_dayOf 52 = .ok (.iaload, 1) := by decide +kernel
theorem dX8_dayOf_53 : decode cX8_dayOf 53 = .ok (.ireturn, 1) := by decide +kernel
theorem dX8_dayOf_54 : decode cX8_dayOf 54 = .ok (.iconst 0, 1) := by decide +kernel
theorem dX8_dayOf_55 : decode cX8_dayOf 55 = .ok (.istore_n 3, 1) := by decide +kernel
theorem dX8_dayOf_56 : decode cX8_dayOf 56 = .ok (.iload_n 3, 1) := by decide +kernel
theorem dX8_dayOf_57 : decode cX8_dayOf 57 = .ok (.aload_n 0, 1) := by decide +kernel
theorem dX8_dayOf_58 : decode cX8_dayOf 58 = .ok (.getfield 203, 3) := by decide +kernel
theorem dX8_dayOf_61 : decode cX8_dayOf 61 = .ok (.if_icmp .ge 40, 3) := by decide +kernel
theorem dX8_dayOf_64 : decode cX8_dayOf 64 = .ok (.aload_n 0, 1) := by decide +kernel
theorem dX8_dayOf_65 : decode cX8_dayOf 65 = .ok (.getfield 116, 3) := by decide +kernel
theorem dX8_dayOf_68 : decode cX8_dayOf 68 = .ok (.iload_n 3, 1) := by decide +kernel
theorem dX8_dayOf_69 : decode cX8_dayOf 69 = .ok (.iaload, 1) := by decide +kernel
theorem dX8_dayOf_70 : decode cX8_dayOf 70 = .ok (.iload_n 1, 1) := by decide +kernel
theorem dX8_dayOf_71 : decode cX8_dayOf 71 = .ok (.if_icmp .ne 24, 3) := by decide +kernel
theorem dX8_dayOf_74 : decode cX8_dayOf 74 = .ok (.aload_n 0, 1) := by decide +kernel
theorem dX8_dayOf_75 : decode cX8_dayOf 75 = .ok (.aload_n 0, 1) := by decide +kernel
theorem dX8_dayOf_76 : decode cX8_dayOf 76 = .ok (.getfield 119, 3) := by decide +kernel
theorem dX8_dayOf_79 : decode cX8_dayOf 79 = .ok (.iload_n 3, 1) := by decide +kernel
theorem dX8_dayOf_80 : decode cX8_dayOf 80 = .ok (.iaload, 1) := by decide +kernel
theorem dX8_dayOf_81 : decode cX8_dayOf 81 = .ok (.iload_n 2, 1) := by decide +kernel
theorem dX8_dayOf_82 : decode cX8_dayOf 82 = .ok (.invokevirtual 199, 3) := by decide +kernel
theorem dX8_dayOf_85 : decode cX8_dayOf 85 = .ok (.ifCond .eq 10, 3) := by decide +kernel
theorem dX8_dayOf_88 : decode cX8_dayOf 88 = .ok (.aload_n 0, 1) := by decide +kernel
theorem dX8_dayOf_89 : decode cX8_dayOf 89 = .ok (.getfield 122, 3) := by decide +kernel
theorem dX8_dayOf_92 : decode cX8_dayOf 92 = .ok (.iload_n 3, 1) := by decide +kernel
theorem dX8_dayOf_93 : decode cX8_dayOf 93 = .ok (.iaload, 1) := by decide +kernel
theorem dX8_dayOf_94 : decode cX8_dayOf 94 = .ok (.ireturn, 1) := by decide +kernel
theorem dX8_dayOf_95 : decode cX8_dayOf 95 = .ok (.iinc 3 1, 3) := by decide +kernel
theorem dX8_dayOf_98 : decode cX8_dayOf 98 = .ok (.goto (-42), 3) := by decide +kernel
theorem dX8_dayOf_101 : decode cX8_dayOf 101 = .ok (.iconst (-1), 1) := by decide +kernel
theorem dX8_dayOf_102 : decode cX8_dayOf 102 = .ok (.ireturn, 1) := by decide +kernel
set_option maxRecDepth 20000 in
theorem ggX8_firstOf_X8_dayOf : GoodIn wsX8_firstOf wsX8_dayOf := goodIn_r _ [7, 8, 9, 10, 11, 12, 13, 14, 15, 16, 17, 18, 19, 20, 6, 21, 22, 23, 24, 25, 26, 27, 28, 29, 30, 31, 32, 33, 34, 35, 36, 37, 38, 39, 40, 41, 42, 43, 44, 45, 46, 47, 48, 49, 50, 51, 52, 53, 54, 55, 56, 57, 58, 59, 60, 61, 62, 63, 64, 65, 66, 67, 68, 69, 70, 71, 72, 73, 74, 75, 76, 77, 78, 79] (by decide +kernel) (by decide +kernel)
set_option maxRecDepth 20000 in
theorem gX8_firstOf_X8_dayOf : GoodIn wsX8_firstOf (wsV RX8 192 RX8 yX8_dayOf wsX8_dayOf) := goodIn_app (goodIn_of _ (by decide +kernel)) ggX8_firstOf_X8_dayOf
theorem dX8_firstOf_0 : decode cX8_firstOf 0 = .ok (.iconst (-1), 1) := by decide +kernel
theorem dX8_firstOf_1 : decode cX8_firstOf 1 = .ok (.istore_n 2, 1) := by decide +kernel
theorem dX8_firstOf_2 : decode cX8_firstOf 2 = .ok (.iconst 0, 1) := by decide +kernel
theorem dX8_firstOf_3 : decode cX8_firstOf 3 = .ok (.istore_n 3, 1) := by decide +kernel
theorem dX8_firstOf_4 : decode cX8_firstOf 4 = .ok (.iload_n 3, 1) := by decide +kernel
theorem dX8_firstOf_5 : decode cX8_firstOf 5 = .ok (.aload_n 0, 1) := by decide +kernel
theorem dX8_firstOf_6 : decode cX8_firstOf 6 = .ok (.getfield 163, 3) := by decide +kernel
theorem dX8_firstOf_9 : decode cX8_firstOf 9 = .ok (.if_icmp .ge 67, 3) := by decide +kernel
theorem dX8_firstOf_12 : decode cX8_firstOf 12 = .ok (.aload_n 0, 1) := by decide +kernel
theorem dX8_firstOf_13 : decode cX8_firstOf 13 = .ok (.getfield 92, 3) := by decide +kernel
theorem dX8_firstOf_16 : decode cX8_firstOf 16 = .ok (.iload_n 3, 1) := by decide +kernel
theorem dX8_firstOf_17 : decode cX8_firstOf 17 = .ok (.iaload, 1) := by decide +kernel
theorem dX8_firstOf_18 : decode cX8_firstOf 18 = .ok (.iconst 3, 1) := by decide +kernel
theorem dX8_firstOf_19 : decode cX8_firstOf 19 = .ok (.if_icmp .eq 17, 3) := by decide +kernel
theorem dX8_firstOf_22 : decode cX8_firstOf 22 = .ok (.aload_n 0, 1) := by decide +kernel
theorem dX8_firstOf_23 : decode cX8_firstOf 23 = .ok (.iload_n 3, 1) := by decide +kernel
theorem dX8_firstOf_24 : decode cX8_firstOf 24 = .ok (.iload_n 1, 1) := by decide +kernel
theorem dX8_firstOf_25 : decode cX8_firstOf 25 = .ok (.invokevirtual 192, 3) := by decide +kernel
theorem dX8_firstOf_28 : decode cX8_firstOf 28 = .ok (.iconst (-1), 1) := by decide +kernel
theorem dX8_firstOf_29 : decode cX8_firstOf 29 = .ok (.if_icmp .eq 7, 3) := by decide +kernel
theorem dX8_firstOf_32 : decode cX8_firstOf 32 = .ok (.iconst 1, 1) := by decide +kernel
theorem dX8_firstOf_33 : decode cX8_firstOf 33 = .ok (.goto 4, 3) := by decide +kernel
theorem dX8_firstOf_36 : decode cX8_firstOf 36 = .ok (.iconst 0, 1) := by decide +kernel
theorem dX8_firstOf_37 : decode cX8_firstOf 37 = .ok (.istore 4, 2) := by decide +kernel
theorem dX8_firstOf_39 : decode cX8_firstOf 39 = .ok (.iload 4, 2) := by decide +kernel
theorem dX8_firstOf_41 : decode cX8_firstOf 41 = .ok (.ifCond .eq 27, 3) := by decide +kernel
theorem dX8_firstOf_44 : decode cX8_firstOf 44 = .ok (.iload_n 2, 1) := by decide +kernel
theorem dX8_firstOf_45 : decode cX8_firstOf 45 = .ok (.iconst (-1), 1) := by decide +kernel
theorem dX8_firstOf_46 : decode cX8_firstOf 46 = .ok (.if_icmp .eq 18, 3) := by decide +kernel
theorem dX8_firstOf_49 : decode cX8_firstOf 49 = .ok (.aload_n 0, 1) := by decide +kernel
theorem dX8_firstOf_50 : decode cX8_firstOf 50 = .ok (.iload_n 3, 1) := by decide +kernel
theorem dX8_firstOf_51 : decode cX8_firstOf 51 = .ok (.iload_n 1, 1) := by decide +kernel
theorem dX8_firstOf_52 : decode cX8_firstOf 52 = .ok (.invokevirtual 192, 3) := by decide +kernel
theorem dX8_firstOf_55 : decode cX8_firstOf 55 = .ok (.aload_n 0, 1) := by decide +kernel
theorem dX8_firstOf_56 : decode cX8_firstOf 56 = .ok (.iload_n 2, 1) := by decide +kernel
theorem dX8_firstOf_57 : decode cX8_firstOf 57 = .ok (.iload_n 1, 1) := by decide +kernel
theorem dX8_firstOf_58 : decode cX8_firstOf 58 = .ok (.invokevirtual 192, 3) := by decide +kernel
theorem dX8_firstOf_61 : decode cX8_firstOf 61 = .ok (.if_icmp .ge 7, 3) := by decide +kernel
theorem dX8_firstOf_64 : decode cX8_firstOf 64 = .ok (.iload_n 3, 1) := by decide +kernel
theorem dX8_firstOf_65 : decode cX8_firstOf 65 = .ok (.goto 4, 3) := by decide +kernel
theorem dX8_firstOf_68 : decode cX8_firstOf 68 = .ok (.iload_n 2, 1) := by decide +kernel
theorem dX8_firstOf_69 : decode cX8_firstOf 69 = .ok (.istore_n 2, 1) := by decide +kernel
theorem dX8_firstOf_70 : decode cX8_firstOf 70 = .ok (.iinc 3 1, 3) := by decide +kernel
theorem dX8_firstOf_73 : decode cX8_firstOf 73 = .ok (.goto (-69), 3) := by decide +kernel
theorem dX8_firstOf_76 : decode cX8_firstOf 76 = .ok (.iload_n 2, 1) := by decide +kernel
theorem dX8_firstOf_77 : decode cX8_firstOf 77 = .ok (.ireturn, 1) := by decide +kernel
set_option maxRecDepth 20000 in
theorem ggX8_bar_X8_dayOf : GoodIn wsX8_bar wsX8_dayOf := goodIn_r _ [8, 9, 10, 1, 11, 2, 12, 13, 14, 15, 16, 17, 18, 19, 7, 20, 21, 22, 23, 35, 36, 37, 38, 39, 40, 41, 42, 43, 44, 45, 46, 47, 48, 49, 50, 51, 52, 53, 54, 55, 56, 57, 58, 59, 60, 61, 62, 63, 64, 65, 66, 67, 68, 69, 70, 71, 72, 73, 74, 75, 76, 77, 78, 79, 80, 81, 82, 83, 84, 85, 86, 87, 88, 89] (by decide +kernel) (by decide +kernel)
set_option maxRecDepth 20000 in
theorem gX8_bar_X8_dayOf : GoodIn wsX8_bar (wsV RX8 192 RX8 yX8_dayOf wsX8_dayOf) := goodIn_app (goodIn_of _ (by decide +kernel)) ggX8_bar_X8_dayOf
set_option maxRecDepth 20000 in
theorem ggX8_bar_X8_firstOf : GoodIn wsX8_bar wsX8_firstOf := goodIn_r _ [27, 28, 29, 4, 5, 6, 7, 8, 9, 10, 1, 11, 2, 12, 13, 14, 15, 16, 17, 18, 19, 20, 21, 22, 23, 35, 36, 37, 38, 39, 40, 41, 42, 43, 44, 45, 46, 47, 48, 49, 50, 51, 52, 53, 54, 55, 56, 57, 58, 59, 60, 61, 62, 63, 64, 65, 66, 67, 68, 69, 70, 71, 72, 73, 74, 75, 76, 77, 78, 79, 80, 81, 82, 83, 84, 85, 86, 87, 88, 89] (by decide +kernel) (by decide +kernel)
set_option maxRecDepth 20000 in
theorem gX8_bar_X8_firstOf : GoodIn wsX8_bar (wsV RX8 206 RX8 yX8_firstOf wsX8_firstOf) := goodIn_app (goodIn_of _ (by decide +kernel)) ggX8_bar_X8_firstOf
set_option maxRecDepth 20000 in
theorem ggX8_bar_X8_publicBy : GoodIn wsX8_bar wsX8_publicBy := goodIn_r _ [33, 34, 35, 36, 37, 38, 39, 40, 41, 42, 43, 44, 45, 46, 47, 48, 49, 50, 51, 52, 53, 54, 55, 56, 57, 58, 59, 60, 61, 62, 63, 64, 65, 66, 67, 68, 69, 70, 71, 72, 73, 74, 75, 76, 77, 78, 79, 80, 81, 82, 83, 84, 85, 86, 87, 88, 89] (by decide +kernel) (by decide +kernel)
set_option maxRecDepth 20000 in
theorem gX8_bar_X8_publicBy : GoodIn wsX8_bar (wsV RX8 189 RX8 yX8_publicBy wsX8_publicBy) := goodIn_app (goodIn_of _ (by decide +kernel)) ggX8_bar_X8_publicBy
set_option maxRecDepth 20000 in
theorem ggX8_bar_X8_isHalf : GoodIn wsX8_bar wsX8_isHalf := goodIn_r _ [20, 2, 21, 22, 7, 23, 35, 36, 37, 38, 39, 40, 41, 42, 43, 44, 45, 46, 47, 48, 49, 50, 51, 52, 53, 54, 55, 56, 57, 58, 59, 60, 61, 62, 63, 64, 65, 66, 67, 68, 69, 70, 71, 72, 73, 74, 75, 76, 77, 78, 79, 80, 81, 82, 83, 84, 85, 86, 87, 88, 89] (by decide +kernel) (by decide +kernel)
set_option maxRecDepth 20000 in
theorem gX8_bar_X8_isHalf : GoodIn wsX8_bar (wsV RX8 199 RX8 yX8_isHalf wsX8_isHalf) := goodIn_app (goodIn_of _ (by decide +kernel)) ggX8_bar_X8_isHalf
theorem dX8_bar_0 : decode cX8_bar 0 = .ok (.aload_n 0, 1) := by decide +kernel
theorem dX8_bar_1 : decode cX8_bar 1 = .ok (.iload_n 1, 1) := by decide +kernel
theorem dX8_bar_2 : decode cX8_bar 2 = .ok (.iload_n 2, 1) := by decide +kernel
theorem dX8_bar_3 : decode cX8_bar 3 = .ok (.invokevirtual 192, 3) := by decide +kernel
theorem dX8_bar_6 : decode cX8_bar 6 = .ok (.istore_n 3, 1) := by decide +kernel
theorem dX8_bar_7 : decode cX8_bar 7 = .ok (.iload_n 3, 1) := by decide +kernel
theorem dX8_bar_8 : decode cX8_bar 8 = .ok (.iconst (-1), 1) := by decide +kernel
theorem dX8_bar_9 : decode cX8_bar 9 = .ok (.if_icmp .ne 5, 3) := by decide +kernel
theorem dX8_bar_12 : decode cX8_bar 12 = .ok (.iconst 1, 1) := by decide +kernel
theorem dX8_bar_13 : decode cX8_bar 13 = .ok (.ireturn, 1) := by decide +kernel
theorem dX8_bar_14 : decode cX8_bar 14 = .ok (.aload_n 0, 1) := by decide +kernel
theorem dX8_bar_15 : decode cX8_bar 15 = .ok (.iload_n 2, 1) := by decide +kernel
theorem dX8_bar_16 : decode cX8_bar 16 = .ok (.invokevirtual 206, 3) := by decide +kernel
theorem dX8_bar_19 : decode cX8_bar 19 = .ok (.iload_n 1, 1) := by decide +kernel
theorem dX8_bar_20 : decode cX8_bar 20 = .ok (.if_icmp .eq 5, 3) := by decide +kernel
theorem dX8_bar_23 : decode cX8_bar 23 = .ok (.iconst 2, 1) := by decide +kernel
theorem dX8_bar_24 : decode cX8_bar 24 = .ok (.ireturn, 1) := by decide +kernel
theorem dX8_bar_25 : decode cX8_bar 25 = .ok (.aload_n 0, 1) := by decide +kernel
theorem dX8_bar_26 : decode cX8_bar 26 = .ok (.iload_n 3, 1) := by decide +kernel
theorem dX8_bar_27 : decode cX8_bar 27 = .ok (.invokevirtual 189, 3) := by decide +kernel
theorem dX8_bar_30 : decode cX8_bar 30 = .ok (.istore 4, 2) := by decide +kernel
theorem dX8_bar_32 : decode cX8_bar 32 = .ok (.aload_n 0, 1) := by decide +kernel
theorem dX8_bar_33 : decode cX8_bar 33 = .ok (.iload 4, 2) := by decide +kernel
theorem dX8_bar_35 : decode cX8_bar 35 = .ok (.iload_n 2, 1) := by decide +kernel
theorem dX8_bar_36 : decode cX8_bar 36 = .ok (.invokevirtual 199, 3) := by decide +kernel
theorem dX8_bar_39 : decode cX8_bar 39 = .ok (.ifCond .eq 37, 3) := by decide +kernel
theorem dX8_bar_42 : decode cX8_bar 42 = .ok (.aload_n 0, 1) := by decide +kernel
theorem dX8_bar_43 : decode cX8_bar 43 = .ok (.getfield 86, 3) := by decide +kernel
theorem dX8_bar_46 : decode cX8_bar 46 = .ok (.iload_n 1, 1) := by decide +kernel
theorem dX8_bar_47 : decode cX8_bar 47 = .ok (.iaload, 1) := by decide +kernel
theorem dX8_bar_48 : decode cX8_bar 48 = .ok (.aload_n 0, 1) := by decide +kernel
theorem dX8_bar_49 : decode cX8_bar 49 = .ok (.getfield 25, 3) := by decide +kernel
theorem dX8_bar_52 : decode cX8_bar 52 = .ok (.iload_n 2, 1) := by decide +kernel
theorem dX8_bar_53 : decode cX8_bar 53 = .ok (.iaload, 1) := by decide +kernel
theorem dX8_bar_54 : decode cX8_bar 54 = .ok (.iand, 1) := by decide +kernel
theorem dX8_bar_55 : decode cX8_bar 55 = .ok (.iload 4, 2) := by decide +kernel
theorem dX8_bar_57 : decode cX8_bar 57 = .ok (.iconst (-1), 1) := by decide +kernel
theorem dX8_bar_58 : decode cX8_bar 58 = .ok (.ixor, 1) := by decide +kernel
theorem dX8_bar_59 : decode cX8_bar 59 = .ok (.iand, 1) := by decide +kernel
theorem dX8_bar_60 : decode cX8_bar 60 = .ok (.ifCond .ne 16, 3) := by decide +kernel
theorem dX8_bar_63 : decode cX8_bar 63 = .ok (.aload_n 0, 1) := by decide +kernel
theorem dX8_bar_64 : decode cX8_bar 64 = .ok (.getfield 95, 3) := by decide +kernel
theorem dX8_bar_67 : decode cX8_bar 67 = .ok (.iload_n 1, 1) := by decide +kernel
theorem dX8_bar_68 : decode cX8_bar 68 = .ok (.baload, 1) := by decide +kernel
theorem dX8_bar_69 : decode cX8_bar 69 = .ok (.ifCond .ne 7, 3) := by decide +kernel
theorem dX8_bar_72 : decode cX8_bar 72 = .ok (.iconst 1, 1) := by decide +kernel
theorem dX8_bar_73 : decode cX8_bar 73 = .ok (.goto 4, 3) := by decide +kernel
theorem dX8_bar_76 : decode cX8_bar 76 = .ok (.iconst 0, 1) := by decide +kernel
theorem dX8_bar_77 : decode cX8_bar 77 = .ok (.istore 5, 2) := by decide +kernel
theorem dX8_bar_79 : decode cX8_bar 79 = .ok (.iload 5, 2) := by decide +kernel
theorem dX8_bar_81 : decode cX8_bar 81 = .ok (.ifCond .eq 7, 3) := by decide +kernel
theorem dX8_bar_84 : decode cX8_bar 84 = .ok (.iconst 3, 1) := by decide +kernel
theorem dX8_bar_85 : decode cX8_bar 85 = .ok (.goto 4, 3) := by decide +kernel
theorem dX8_bar_88 : decode cX8_bar 88 = .ok (.iconst 0, 1) := by decide +kernel
theorem dX8_bar_89 : decode cX8_bar 89 = .ok (.ireturn, 1) := by decide +kernel
set_option maxRecDepth 20000 in
theorem ggX8_counts_X8_bar : GoodIn wsX8_counts wsX8_bar := goodIn_r _ [9, 10, 11, 12, 13, 14, 15, 8, 16, 17, 18, 19, 20, 21, 22, 23, 24, 25, 26, 27, 28, 29, 30, 31, 32, 33, 34, 35, 36, 37, 38, 39, 40, 41, 42, 43, 44, 45, 46, 47, 48, 49, 50, 51, 52, 53, 54, 55, 56, 57, 58, 59, 60, 61, 62, 63, 64, 65, 66, 67, 68, 69, 70, 71, 72, 73, 74, 75, 76, 77, 78, 79, 80, 81, 82, 83, 84, 85, 86, 87, 88, 89, 90, 91, 92, 93, 94, 95, 96, 97] (by decide +kernel) (by decide +kernel)
set_option maxRecDepth 20000 in
theorem gX8_counts_X8_bar : GoodIn wsX8_counts (wsV RX8 209 RX8 yX8_bar wsX8_bar) := goodIn_app (goodIn_of _ (by decide +kernel)) ggX8_counts_X8_bar
set_option maxRecDepth 20000 in
theorem ggX8_counts_X8_dayOf : GoodIn wsX8_counts wsX8_dayOf := goodIn_r _ [16, 17, 18, 10, 19, 11, 20, 21, 22, 23, 24, 25, 26, 27, 8, 28, 29, 30, 31, 43, 44, 45, 46, 47, 48, 49, 50, 51, 52, 53, 54, 55, 56, 57, 58, 59, 60, 61, 62, 63, 64, 65, 66, 67, 68, 69, 70, 71, 72, 73, 74, 75, 76, 77, 78, 79, 80, 81, 82, 83, 84, 85, 86, 87, 88, 89, 90, 91, 92, 93, 94, 95, 96, 97] (by decide +kernel) (by decide +kernel)
set_option maxRecDepth 20000 in
theorem gX8_counts_X8_dayOf : GoodIn wsX8_counts (wsV RX8 192 RX8 yX8_dayOf wsX8_dayOf) := goodIn_app (goodIn_of _ (by decide +kernel)) ggX8_counts_X8_dayOf
theorem dX8_counts_0 : decode cX8_counts 0 = .ok (.aload_n 0, 1) := by decide +kernel
theorem dX8_counts_1 : decode cX8_counts 1 = .ok (.getfield 44, 3) := by decide +kernel
theorem dX8_counts_4 : decode cX8_counts 4 = .ok (.iload_n 1, 1) := by decide +kernel
theorem dX8_counts_5 : decode cX8_counts 5 = .ok (.iaload, 1) := by decide +kernel
theorem dX8_counts_6 : decode cX8_counts 6 = .ok (.istore_n 3, 1) := by decide +kernel
theorem dX8_counts_7 : decode cX8_counts 7 = .ok (.aload_n 0, 1) := by decide +kernel
theorem dX8_counts_8 : decode cX8_counts 8 = .ok (.getfield 37, 3) := by decide +kernel
theorem dX8_counts_11 : decode cX8_counts 11 = .ok (.iload_n 3, 1) := by decide +kernel
theorem dX8_counts_12 : decode cX8_counts 12 = .ok (.iaload, 1) := by decide +kernel
theorem dX8_counts_13 : decode cX8_counts 13 = .ok (.iconst (-1), 1) := by decide +kernel
theorem dX8_counts_14 : decode cX8_counts 14 = .ok (.if_icmp .eq 22, 3) := by decide +kernel
theorem dX8_counts_17 : decode cX8_counts 17 = .ok (.aload_n 0, 1) := by decide +kernel
theorem dX8_counts_18 : decode cX8_counts 18 = .ok (.getfield 50, 3) := by decide +kernel
theorem dX8_counts_21 : decode cX8_counts 21 = .ok (.iload_n 1, 1) := by decide +kernel
theorem dX8_counts_22 : decode cX8_counts 22 = .ok (.iaload, 1) := by decide +kernel
theorem dX8_counts_23 : decode cX8_counts 23 = .ok (.aload_n 0, 1) := by decide +kernel
theorem dX8_counts_24 : decode cX8_counts 24 = .ok (.getfield 37, 3) := by decide +kernel
theorem dX8_counts_27 : decode cX8_counts 27 = .ok (.iload_n 3, 1) := by decide +kernel
theorem dX8_counts_28 : decode cX8_counts 28 = .ok (.iaload, 1) := by decide +kernel
theorem dX8_counts_29 : decode cX8_counts 29 = .ok (.if_icmp .lt 7, 3) := by decide +kernel
theorem dX8_counts_32 : decode cX8_counts 32 = .ok (.iconst 1, 1) := by decide +kernel
theorem dX8_counts_33 : decode cX8_counts 33 = .ok (.goto 4, 3) := by decide +kernel
theorem dX8_counts_36 : decode cX8_counts 36 = .ok (.iconst 0, 1) := by decide +kernel
theorem dX8_counts_37 : decode cX8_counts 37 = .ok (.istore 4, 2) := by decide +kernel
theorem dX8_counts_39 : decode cX8_counts 39 = .ok (.aload_n 0, 1) := by decide +kernel
theorem dX8_counts_40 : decode cX8_counts 40 = .ok (.getfield 53, 3) := by decide +kernel
theorem dX8_counts_43 : decode cX8_counts 43 = .ok (.iload_n 1, 1) := by decide +kernel
theorem dX8_counts_44 : decode cX8_counts 44 = .ok (.iaload, 1) := by decide +kernel
theorem dX8_counts_45 : decode cX8_counts 45 = .ok (.iconst (-1), 1) := by decide +kernel
theorem dX8_counts_46 : decode cX8_counts 46 = .ok (.if_icmp .ne 40, 3) := by decide +kernel
theorem dX8_counts_49 : decode cX8_counts 49 = .ok (.iload 4, 2) := by decide +kernel
theorem dX8_counts_51 : decode cX8_counts 51 = .ok (.ifCond .ne 35, 3) := by decide +kernel
theorem dX8_counts_54 : decode cX8_counts 54 = .ok (.aload_n 0, 1) := by decide +kernel
theorem dX8_counts_55 : decode cX8_counts 55 = .ok (.iload_n 2, 1) := by decide +kernel
theorem dX8_counts_56 : decode cX8_counts 56 = .ok (.iload_n 3, 1) := by decide +kernel
theorem dX8_counts_57 : decode cX8_counts 57 = .ok (.invokevirtual 209, 3) := by decide +kernel
theorem dX8_counts_60 : decode cX8_counts 60 = .ok (.ifCond .ne 26, 3) := by decide +kernel
theorem dX8_counts_63 : decode cX8_counts 63 = .ok (.aload_n 0, 1) := by decide +kernel
theorem dX8_counts_64 : decode cX8_counts 64 = .ok (.iload_n 2, 1) := by decide +kernel
theorem dX8_counts_65 : decode cX8_counts 65 = .ok (.iload_n 3, 1) := by decide +kernel
theorem dX8_counts_66 : decode cX8_counts 66 = .ok (.invokevirtual 192, 3) := by decide +kernel
theorem dX8_counts_69 : decode cX8_counts 69 = .ok (.aload_n 0, 1) := by decide +kernel
theorem dX8_counts_70 : decode cX8_counts 70 = .ok (.getfield 50, 3) := by decide +kernel
theorem dX8_counts_73 : decode cX8_counts 73 = .ok (.iload_n 1, 1) := by decide +kernel
theorem dX8_counts_74 : decode cX8_counts 74 = .ok (.iaload, 1) := by decide +kernel
theorem dX8_counts_75 : decode cX8_counts 75 = .ok (.isub, 1) := by decide +kernel
theorem dX8_counts_76 : decode cX8_counts 76 = .ok (.sipush 600, 3) := by decide +kernel
theorem dX8_counts_79 : decode cX8_counts 79 = .ok (.if_icmp .gt 7, 3) := by decide +kernel
theorem dX8_counts_82 : decode cX8_counts 82 = .ok (.iconst 1, 1) := by decide +kernel
theorem dX8_counts_83 : decode cX8_counts 83 = .ok (.goto 4, 3) := by decide +kernel
theorem dX8_counts_86 : decode cX8_counts 86 = .ok (.iconst 0, 1) := by decide +kernel
theorem dX8_counts_87 : decode cX8_counts 87 = .ok (.ireturn, 1) := by decide +kernel
set_option maxRecDepth 20000 in
theorem ggX8_dues_X8_counts : GoodIn wsX8_dues wsX8_counts := goodIn_r _ [14, 4, 15, 16, 17, 18, 19, 20, 13, 21, 22, 23, 24, 25, 26, 27, 28, 29, 30, 31, 32, 33, 34, 35, 36, 37, 38, 39, 40, 41, 42, 43, 44, 45, 46, 47, 48, 2, 49, 50, 51, 52, 53, 54, 55, 56, 57, 58, 59, 60, 61, 62, 63, 64, 65, 66, 67, 68, 69, 70, 71, 72, 73, 74, 75, 76, 77, 78, 79, 80, 81, 82, 83, 84, 85, 86, 87, 88, 89, 90, 91, 92, 93, 94, 95, 96, 97, 98, 99, 100, 101, 102, 103, 104, 105, 106, 107, 108] (by decide +kernel) (by decide +kernel)
set_option maxRecDepth 20000 in
theorem gX8_dues_X8_counts : GoodIn wsX8_dues (wsV RX8 212 RX8 yX8_counts wsX8_counts) := goodIn_app (goodIn_of _ (by decide +kernel)) ggX8_dues_X8_counts
theorem dX8_dues_0 : decode cX8_dues 0 = .ok (.iconst 0, 1) := by decide +kernel
theorem dX8_dues_1 : decode cX8_dues 1 = .ok (.istore_n 2, 1) := by decide +kernel
theorem dX8_dues_2 : decode cX8_dues 2 = .ok (.iconst 0, 1) := by decide +kernel
theorem dX8_dues_3 : decode cX8_dues 3 = .ok (.istore_n 3, 1) := by decide +kernel
theorem dX8_dues_4 : decode cX8_dues 4 = .ok (.iload_n 3, 1) := by decide +kernel
theorem dX8_dues_5 : decode cX8_dues 5 = .ok (.aload_n 0, 1) := by decide +kernel
theorem dX8_dues_6 : decode cX8_dues 6 = .ok (.getfield 160, 3) := by decide +kernel
theorem dX8_dues_9 : decode cX8_dues 9 = .ok (.if_icmp .ge 166, 3) := by decide +kernel
theorem dX8_dues_12 : decode cX8_dues 12 = .ok (.aload_n 0, 1) := by decide +kernel
theorem dX8_dues_13 : decode cX8_dues 13 = .ok (.getfield 92, 3) := by decide +kernel
theorem dX8_dues_16 : decode cX8_dues 16 = .ok (.iload_n 1, 1) := by decide +kernel
theorem dX8_dues_17 : decode cX8_dues 17 = .ok (.iaload, 1) := by decide +kernel
theorem dX8_dues_18 : decode cX8_dues 18 = .ok (.iconst 3, 1) := by decide +kernel
theorem dX8_dues_19 : decode cX8_dues 19 = .ok (.if_icmp .ge 156, 3) := by decide +kernel
theorem dX8_dues_22 : decode cX8_dues 22 = .ok (.iconst 0, 1) := by decide +kernel
theorem dX8_dues_23 : decode cX8_dues 23 = .ok (.istore 4, 2) := by decide +kernel
theorem dX8_dues_25 : decode cX8_dues 25 = .ok (.iconst 0, 1) := by decide +kernel
theorem dX8_dues_26 : decode cX8_dues 26 = .ok (.istore 5, 2) := by decide +kernel
theorem dX8_dues_28 : decode cX8_dues 28 = .ok (.iconst 0, 1) := by decide +kernel
theorem dX8_dues_29 : decode cX8_dues 29 = .ok (.istore 6, 2) := by decide +kernel
theorem dX8_dues_31 : decode cX8_dues 31 = .ok (.iload 6, 2) := by decide +kernel
theorem dX8_dues_33 : decode cX8_dues 33 = .ok (.aload_n 0, 1) := by decide +kernel
theorem dX8_dues_34 : decode cX8_dues 34 = .ok (.getfield 176, 3) := by decide +kernel
theorem dX8_dues_37 : decode cX8_dues 37 = .ok (.if_icmp .ge 45, 3) := by decide +kernel
theorem dX8_dues_40 : decode cX8_dues 40 = .ok (.aload_n 0, 1) := by decide +kernel
theorem dX8_dues_41 : decode cX8_dues 41 = .ok (.getfield 44, 3) := by decide +kernel
theorem dX8_dues_44 : decode cX8_dues 44 = .ok (.iload 6, 2) := by decide +kernel
theorem dX8_dues_46 : decode cX8_dues 46 = .ok (.iaload, 1) := by decide +kernel
theorem dX8_dues_47 : decode cX8_dues 47 = .ok (.iload_n 3, 1) := by decide +kernel
theorem dX8_dues_48 : decode cX8_dues 48 = .ok (.if_icmp .ne 28, 3) := by decide +kernel
theorem dX8_dues_51 : decode cX8_dues 51 = .ok (.aload_n 0, 1) := by decide +kernel
theorem dX8_dues_52 : decode cX8_dues 52 = .ok (.iload 6, 2) := by decide +kernel
theorem dX8_dues_54 : decode cX8_dues 54 = .ok (.iload_n 1, 1) := by decide +kernel
theorem dX8_dues_55 : decode cX8_dues 55 = .ok (.invokevirtual 212, 3) := by decide +kernel
theorem dX8_dues_58 : decode cX8_dues 58 = .ok (.ifCond .eq 18, 3) := by decide +kernel
theorem dX8_dues_61 : decode cX8_dues 61 = .ok (.iload 4, 2) := by decide +kernel
theorem dX8_dues_63 : decode cX8_dues 63 = .ok (.aload_n 0, 1) := by decide +kernel
theorem dX8_dues_64 : decode cX8_dues 64 = .ok (.getfield 47, 3) := by decide +kernel
theorem dX8_dues_67 : decode cX8_dues 67 = .ok (.iload 6, 2) := by decide +kernel
theorem dX8_dues_69 : decode cX8_dues 69 = .ok (.iaload, 1) := by decide +kernel
theorem dX8_dues_70 : decode cX8_dues 70 = .ok (.iadd, 1) := by decide +kernel
theorem dX8_dues_71 : decode cX8_dues 71 = .ok (.istore 4, 2) := by decide +kernel
theorem dX8_dues_73 : decode cX8_dues 73 = .ok (.iinc 5 1, 3) := by decide +kernel
theorem dX8_dues_76 : decode cX8_dues 76 = .ok (.iinc 6 1, 3) := by decide +kernel
theorem dX8_dues_79 : decode cX8_dues 79 = .ok (.goto (-48), 3) := by decide +kernel
theorem dX8_dues_82 : decode cX8_dues 82 = .ok (.aload_n 0, 1) := by decide +kernel
theorem dX8_dues_83 : decode cX8_dues 83 = .ok (.getfield 28, 3) := by decide +kernel
theorem dX8_dues_86 : decode cX8_dues 86 = .ok (.iload_n 3, 1) := by decide +kernel
theorem dX8_dues_87 : decode cX8_dues 87 = .ok (.iaload, 1) := by decide +kernel
theorem dX8_dues_88 : decode cX8_dues 88 = .ok (.ifCond .ne 8, 3) := by decide +kernel
theorem dX8_dues_91 : decode cX8_dues 91 = .ok (.bipush 100, 2) := by decide +kernel
theorem dX8_dues_93 : decode cX8_dues 93 = .ok (.goto 20, 3) := by decide +kernel
theorem dX8_dues_96 : decode cX8_dues 96 = .ok (.aload_n 0, 1) := by decide +kernel
theorem dX8_dues_97 : decode cX8_dues 97 = .ok (.getfield 28, 3) := by decide +kernel
theorem dX8_dues_100 : decode cX8_dues 100 = .ok (.iload_n 3, 1) := by decide +kernel
theorem dX8_dues_101 : decode cX8_dues 101 = .ok (.iaload, 1) := by decide +kernel
theorem dX8_dues_102 : decode cX8_dues 102 = .ok (.iconst 1, 1) := by decide +kernel
theorem dX8_dues_103 : decode cX8_dues 103 = .ok (.if_icmp .ne 8, 3) := by decide +kernel
theorem dX8_dues_106 : decode cX8_dues 106 = .ok (.bipush 50, 2) := by decide +kernel
theorem dX8_dues_108 : decode cX8_dues 108 = .ok (.goto 5, 3) := by decide +kernel
theorem dX8_dues_111 : decode cX8_dues 111 = .ok (.bipush 20, 2) := by decide +kernel
theorem dX8_dues_113 : decode cX8_dues 113 = .ok (.istore 6, 2) := by decide +kernel
theorem dX8_dues_115 : decode cX8_dues 115 = .ok (.iload_n 2, 1) := by decide +kernel
theorem dX8_dues_116 : decode cX8_dues 116 = .ok (.iload 4, 2) := by decide +kernel
theorem dX8_dues_118 : decode cX8_dues 118 = .ok (.aload_n 0, 1) := by decide +kernel
theorem dX8_dues_119 : decode cX8_dues 119 = .ok (.getfield 34, 3) := by decide +kernel
theorem dX8_dues_122 : decode cX8_dues 122 = .ok (.iload_n 3, 1) := by decide +kernel
theorem dX8_dues_123 : decode cX8_dues 123 = .ok (.iaload, 1) := by decide +kernel
theorem dX8_dues_124 : decode cX8_dues 124 = .ok (.imul, 1) := by decide +kernel
theorem dX8_dues_125 : decode cX8_dues 125 = .ok (.aload_n 0, 1) := by decide +kernel
theorem dX8_dues_126 : decode cX8_dues 126 = .ok (.getfield 31, 3) := by decide +kernel
theorem dX8_dues_129 : decode cX8_dues 129 = .ok (.iload_n 3, 1) := by decide +kernel
theorem dX8_dues_130 : decode cX8_dues 130 = .ok (.iaload, 1) := by decide +kernel
theorem dX8_dues_131 : decode cX8_dues 131 = .ok (.idiv, 1) := by decide +kernel
theorem dX8_dues_132 : decode cX8_dues 132 = .ok (.aload_n 0, 1) := by decide +kernel
theorem dX8_dues_133 : decode cX8_dues 133 = .ok (.getfield 40, 3) := by decide +kernel
theorem dX8_dues_136 : decode cX8_dues 136 = .ok (.iload_n 3, 1) := by decide +kernel
theorem dX8_dues_137 : decode cX8_dues 137 = .ok (.baload, 1) := by decide +kernel
theorem dX8_dues_138 : decode cX8_dues 138 = .ok (.ifCond .eq 7, 3) := by decide +kernel
theorem dX8_dues_141 : decode cX8_dues 141 = .ok (.iconst 2, 1) := by decide +kernel
theorem dX8_dues_142 : decode cX8_dues 142 = .ok (.goto 4, 3) := by decide +kernel
theorem dX8_dues_145 : decode cX8_dues 145 = .ok (.iconst 3, 1) := by decide +kernel
theorem dX8_dues_146 : decode cX8_dues 146 = .ok (.imul, 1) := by decide +kernel
theorem dX8_dues_147 : decode cX8_dues 147 = .ok (.iload 5, 2) := by decide +kernel
theorem dX8_dues_149 : decode cX8_dues 149 = .ok (.aload_n 0, 1) := by decide +kernel
theorem dX8_dues_150 : decode cX8_dues 150 = .ok (.getfield 34, 3) := by decide +kernel
theorem dX8_dues_153 : decode cX8_dues 153 = .ok (.iload_n 3, 1) := by decide +kernel
theorem dX8_dues_154 : decode cX8_dues 154 = .ok (.iaload, 1) := by decide +kernel
theorem dX8_dues_155 : decode cX8_dues 155 = .ok (.imul, 1) := by decide +kernel
theorem dX8_dues_156 : decode cX8_dues 156 = .ok (.aload_n 0, 1) := by decide +kernel
theorem dX8_dues_157 : decode cX8_dues 157 = .ok (.getfield 31, 3) := by decide +kernel
theorem dX8_dues_160 : decode cX8_dues 160 = .ok (.iload_n 3, 1) := by decide +kernel
theorem dX8_dues_161 : decode cX8_dues 161 = .ok (.iaload, 1) := by decide +kernel
theorem dX8_dues_162 : decode cX8_dues 162 = .ok (.idiv, 1) := by decide +kernel
theorem dX8_dues_163 : decode cX8_dues 163 = .ok (.iload 6, 2) := by decide +kernel
theorem dX8_dues_165 : decode cX8_dues 165 = .ok (.imul, 1) := by decide +kernel
theorem dX8_dues_166 : decode cX8_dues 166 = .ok (.iadd, 1) := by decide +kernel
theorem dX8_dues_167 : decode cX8_dues 167 = .ok (.iadd, 1) := by decide +kernel
theorem dX8_dues_168 : decode cX8_dues 168 = .ok (.istore_n 2, 1) := by decide +kernel
theorem dX8_dues_169 : decode cX8_dues 169 = .ok (.iinc 3 1, 3) := by decide +kernel
theorem dX8_dues_172 : decode cX8_dues 172 = .ok (.goto (-168), 3) := by decide +kernel
theorem dX8_dues_175 : decode cX8_dues 175 = .ok (.iload_n 2, 1) := by decide +kernel
theorem dX8_dues_176 : decode cX8_dues 176 = .ok (.ireturn, 1) := by decide +kernel
set_option maxRecDepth 20000 in
theorem ggX8_deal_X8_isTeller : GoodIn wsX8_deal wsX8_isTeller := goodIn_r _ [11, 12, 13, 10, 14] (by decide +kernel) (by decide +kernel)
set_option maxRecDepth 20000 in
theorem gX8_deal_X8_isTeller : GoodIn wsX8_deal (va_wsS RX8 182 yX8_isTeller wsX8_isTeller) := goodIn_app (goodIn_of _ (by decide +kernel)) ggX8_deal_X8_isTeller
set_option maxRecDepth 20000 in
theorem ggX8_deal_X8_in : GoodIn wsX8_deal wsX8_in := goodIn_r _ [14] (by decide +kernel) (by decide +kernel)
set_option maxRecDepth 20000 in
theorem gX8_deal_X8_in : GoodIn wsX8_deal (va_wsS RX8 156 yX8_in wsX8_in) := goodIn_app (goodIn_of _ (by decide +kernel)) ggX8_deal_X8_in
theorem dX8_deal_0 : decode cX8_deal 0 = .ok (.aload_n 0, 1) := by decide +kernel
theorem dX8_deal_1 : decode cX8_deal 1 = .ok (.iload_n 1, 1) := by decide +kernel
theorem dX8_deal_2 : decode cX8_deal 2 = .ok (.invokestatic 182, 3) := by decide +kernel
theorem dX8_deal_5 : decode cX8_deal 5 = .ok (.ifCond .eq 10, 3) := by decide +kernel
theorem dX8_deal_8 : decode cX8_deal 8 = .ok (.iload_n 2, 1) := by decide +kernel
theorem dX8_deal_9 : decode cX8_deal 9 = .ok (.invokestatic 182, 3) := by decide +kernel
theorem dX8_deal_12 : decode cX8_deal 12 = .ok (.ifCond .ne 7, 3) := by decide +kernel
theorem dX8_deal_15 : decode cX8_deal 15 = .ok (.iconst 1, 1) := by decide +kernel
theorem dX8_deal_16 : decode cX8_deal 16 = .ok (.goto 23, 3) := by decide +kernel
theorem dX8_deal_19 : decode cX8_deal 19 = .ok (.iload_n 1, 1) := by decide +kernel
theorem dX8_deal_20 : decode cX8_deal 20 = .ok (.iload_n 2, 1) := by decide +kernel
theorem dX8_deal_21 : decode cX8_deal 21 = .ok (.if_icmp .eq 13, 3) := by decide +kernel
theorem dX8_deal_24 : decode cX8_deal 24 = .ok (.iload_n 3, 1) := by decide +kernel
theorem dX8_deal_25 : decode cX8_deal 25 = .ok (.iconst 1, 1) := by decide +kernel
theorem dX8_deal_26 : decode cX8_deal 26 = .ok (.bipush 100, 2) := by decide +kernel
theorem dX8_deal_28 : decode cX8_deal 28 = .ok (.invokestatic 156, 3) := by decide +kernel
theorem dX8_deal_31 : decode cX8_deal 31 = .ok (.ifCond .ne 7, 3) := by decide +kernel
theorem dX8_deal_34 : decode cX8_deal 34 = .ok (.iconst 2, 1) := by decide +kernel
theorem dX8_deal_35 : decode cX8_deal 35 = .ok (.goto 4, 3) := by decide +kernel
theorem dX8_deal_38 : decode cX8_deal 38 = .ok (.iconst 0, 1) := by decide +kernel
theorem dX8_deal_39 : decode cX8_deal 39 = .ok (.putfield 152, 3) := by decide +kernel
theorem dX8_deal_42 : decode cX8_deal 42 = .ok (.aload_n 0, 1) := by decide +kernel
theorem dX8_deal_43 : decode cX8_deal 43 = .ok (.getfield 152, 3) := by decide +kernel
theorem dX8_deal_46 : decode cX8_deal 46 = .ok (.ifCond .le 5, 3) := by decide +kernel
theorem dX8_deal_49 : decode cX8_deal 49 = .ok (.iconst 0, 1) := by decide +kernel
theorem dX8_deal_50 : decode cX8_deal 50 = .ok (.ireturn, 1) := by decide +kernel
theorem dX8_deal_51 : decode cX8_deal 51 = .ok (.iload_n 3, 1) := by decide +kernel
theorem dX8_deal_52 : decode cX8_deal 52 = .ok (.istore 4, 2) := by decide +kernel
theorem dX8_deal_54 : decode cX8_deal 54 = .ok (.iconst 0, 1) := by decide +kernel
theorem dX8_deal_55 : decode cX8_deal 55 = .ok (.istore 5, 2) := by decide +kernel
theorem dX8_deal_57 : decode cX8_deal 57 = .ok (.iload 5, 2) := by decide +kernel
theorem dX8_deal_59 : decode cX8_deal 59 = .ok (.aload_n 0, 1) := by decide +kernel
theorem dX8_deal_60 : decode cX8_deal 60 = .ok (.getfield 215, 3) := by decide +kernel
theorem dX8_deal_63 : decode cX8_deal 63 = .ok (.if_icmp .ge 36, 3) := by decide +kernel
theorem dX8_deal_66 : decode cX8_deal 66 = .ok (.iload 4, 2) := by decide +kernel
theorem dX8_deal_68 : decode cX8_deal 68 = .ok (.aload_n 0, 1) := by decide +kernel
theorem dX8_deal_69 : decode cX8_deal 69 = .ok (.getfield 65, 3) := by decide +kernel
theorem dX8_deal_72 : decode cX8_deal 72 = .ok (.iload 5, 2) := by decide +kernel
theorem dX8_deal_74 : decode cX8_deal 74 = .ok (.iaload, 1) := by decide +kernel
theorem dX8_deal_75 : decode cX8_deal 75 = .ok (.iload_n 1, 1) := by decide +kernel
theorem dX8_deal_76 : decode cX8_deal 76 = .ok (.if_icmp .ne 13, 3) := by decide +kernel
theorem dX8_deal_79 : decode cX8_deal 79 = .ok (.aload_n 0, 1) := by decide +kernel
theorem dX8_deal_80 : decode cX8_deal 80 = .ok (.getfield 71, 3) := by decide +kernel
theorem dX8_deal_83 : decode cX8_deal 83 = .ok (.iload 5, 2) := by decide +kernel
theorem dX8_deal_85 : decode cX8_deal 85 = .ok (.iaload, 1) := by decide +kernel
theorem dX8_deal_86 : decode cX8_deal 86 = .ok (.goto 4, 3) := by decide +kernel
theorem dX8_deal_89 : decode cX8_deal 89 = .ok (.iconst 0, 1) := by decide +kernel
theorem dX8_deal_90 : decode cX8_deal 90 = .ok (.iadd, 1) := by decide +kernel
theorem dX8_deal_91 : decode cX8_deal 91 = .ok (.istore 4, 2) := by decide +kernel
theorem dX8_deal_93 : decode cX8_deal 93 = .ok (.iinc 5 1, 3) := by decide +kernel
theorem dX8_deal_96 : decode cX8_deal 96 = .ok (.goto (-39), 3) := by decide +kernel
theorem dX8_deal_99 : decode cX8_deal 99 = .ok (.aload_n 0, 1) := by decide +kernel
theorem dX8_deal_100 : decode cX8_deal 100 = .ok (.aload_n 0, 1) := by decide +kernel
theorem dX8_deal_101 : decode cX8_deal 101 = .ok (.getfield 215, 3) := by decide +kernel
theorem dX8_deal_104 : decode cX8_deal 104 = .ok (.bipush 20, 2) := by decide +kernel
theorem dX8_deal_106 : decode cX8_deal 106 = .ok (.if_icmp .eq 10, 3) := by decide +kernel
theorem dX8_deal_109 : decode cX8_deal 109 = .ok (.iload 4, 2) := by decide +kernel
theorem dX8_deal_111 : decode cX8_deal 111 = .ok (.bipush 100, 2) := by decide +kernel
theorem dX8_deal_113 : decode cX8_deal 113 = .ok (.if_icmp .le 7, 3) := by decide +kernel
theorem dX8_deal_116 : decode cX8_deal 116 = .ok (.iconst 3, 1) := by decide +kernel
theorem dX8_deal_117 : decode cX8_deal 117 = .ok (.goto 4, 3) := by decide +kernel
theorem dX8_deal_120 : decode cX8_deal 120 = .ok (.iconst 0, 1) := by decide +kernel
theorem dX8_deal_121 : decode cX8_deal 121 = .ok (.putfield 152, 3) := by decide +kernel
theorem dX8_deal_124 : decode cX8_deal 124 = .ok (.aload_n 0, 1) := by decide +kernel
theorem dX8_deal_125 : decode cX8_deal 125 = .ok (.getfield 152, 3) := by decide +kernel
theorem dX8_deal_128 : decode cX8_deal 128 = .ok (.ifCond .le 5, 3) := by decide +kernel
theorem dX8_deal_131 : decode cX8_deal 131 = .ok (.iconst 0, 1) := by decide +kernel
theorem dX8_deal_132 : decode cX8_deal 132 = .ok (.ireturn, 1) := by decide +kernel
theorem dX8_deal_133 : decode cX8_deal 133 = .ok (.aload_n 0, 1) := by decide +kernel
theorem dX8_deal_134 : decode cX8_deal 134 = .ok (.getfield 65, 3) := by decide +kernel
theorem dX8_deal_137 : decode cX8_deal 137 = .ok (.aload_n 0, 1) := by decide +kernel
theorem dX8_deal_138 : decode cX8_deal 138 = .ok (.getfield 215, 3) := by decide +kernel
theorem dX8_deal_141 : decode cX8_deal 141 = .ok (.iload_n 1, 1) := by decide +kernel
theorem dX8_deal_142 : decode cX8_deal 142 = .ok (.iastore, 1) := by decide +kernel
theorem dX8_deal_143 : decode cX8_deal 143 = .ok (.aload_n 0, 1) := by decide +kernel
theorem dX8_deal_144 : decode cX8_deal 144 = .ok (.getfield 68, 3) := by decide +kernel
theorem dX8_deal_147 : decode cX8_deal 147 = .ok (.aload_n 0, 1) := by decide +kernel
theorem dX8_deal_148 : decode cX8_deal 148 = .ok (.getfield 215, 3) := by decide +kernel
theorem dX8_deal_151 : decode cX8_deal 151 = .ok (.iload_n 2, 1) := by decide +kernel
theorem dX8_deal_152 : decode cX8_deal 152 = .ok (.iastore, 1) := by decide +kernel
theorem dX8_deal_153 : decode cX8_deal 153 = .ok (.aload_n 0, 1) := by decide +kernel
theorem dX8_deal_154 : decode cX8_deal 154 = .ok (.getfield 71, 3) := by decide +kernel
theorem dX8_deal_157 : decode cX8_deal 157 = .ok (.aload_n 0, 1) := by decide +kernel
theorem dX8_deal_158 : decode cX8_deal 158 = .ok (.getfield 215, 3) := by decide +kernel
theorem dX8_deal_161 : decode cX8_deal 161 = .ok (.iload_n 3, 1) := by decide +kernel
theorem dX8_deal_162 : decode cX8_deal 162 = .ok (.iastore, 1) := by decide +kernel
theorem dX8_deal_163 : decode cX8_deal 163 = .ok (.aload_n 0, 1) := by decide +kernel
theorem dX8_deal_164 : decode cX8_deal 164 = .ok (.getfield 74, 3) := by decide +kernel
theorem dX8_deal_167 : decode cX8_deal 167 = .ok (.aload_n 0, 1) := by decide +kernel
theorem dX8_deal_168 : decode cX8_deal 168 = .ok (.getfield 215, 3) := by decide +kernel
theorem dX8_deal_171 : decode cX8_deal 171 = .ok (.aload_n 0, 1) := by decide +kernel
theorem dX8_deal_172 : decode cX8_deal 172 = .ok (.getfield 179, 3) := by decide +kernel
theorem dX8_deal_175 : decode cX8_deal 175 = .ok (.iastore, 1) := by decide +kernel
theorem dX8_deal_176 : decode cX8_deal 176 = .ok (.aload_n 0, 1) := by decide +kernel
theorem dX8_deal_177 : decode cX8_deal 177 = .ok (.dup, 1) := by decide +kernel
theorem dX8_deal_178 : decode cX8_deal 178 = .ok (.getfield 215, 3) := by decide +kernel
theorem dX8_deal_181 : decode cX8_deal 181 = .ok (.iconst 1, 1) := by decide +kernel
theorem dX8_deal_182 : decode cX8_deal 182 = .ok (.iadd, 1) := by decide +kernel
theorem dX8_deal_183 : decode cX8_deal 183 = .ok (.putfield 215, 3) := by decide +kernel
theorem dX8_deal_186 : decode cX8_deal 186 = .ok (.iload 4, 2) := by decide +kernel
theorem dX8_deal_188 : decode cX8_deal 188 = .ok (.ireturn, 1) := by decide +kernel
set_option maxRecDepth 20000 in
theorem ggX8_file_X8_isTeller : GoodIn wsX8_file wsX8_isTeller := goodIn_r _ [15, 16, 17, 14, 18] (by decide +kernel) (by decide +kernel)
set_option maxRecDepth 20000 in
theorem gX8_file_X8_isTeller : GoodIn wsX8_file (va_wsS RX8 182 yX8_isTeller wsX8_isTeller) := goodIn_app (goodIn_of _ (by decide +kernel)) ggX8_file_X8_isTeller
set_option maxRecDepth 20000 in
theorem ggX8_file_X8_isFirm : GoodIn wsX8_file wsX8_isFirm := goodIn_r _ [21, 16, 17, 14, 18] (by decide +kernel) (by decide +kernel)
set_option maxRecDepth 20000 in
theorem gX8_file_X8_isFirm : GoodIn wsX8_file (va_wsS RX8 166 yX8_isFirm wsX8_isFirm) := goodIn_app (goodIn_of _ (by decide +kernel)) ggX8_file_X8_isFirm
set_option maxRecDepth 20000 in
theorem ggX8_file_X8_in : GoodIn wsX8_file wsX8_in := goodIn_r _ [18] (by decide +kernel) (by decide +kernel)
set_option maxRecDepth 20000 in
theorem gX8_file_X8_in : GoodIn wsX8_file (va_wsS RX8 156 yX8_in wsX8_in) := goodIn_app (goodIn_of _ (by decide +kernel)) ggX8_file_X8_in
theorem dX8_file_0 : decode cX8_file 0 = .ok (.aload_n 0, 1) := by decide +kernel
theorem dX8_file_1 : decode cX8_file 1 = .ok (.iload_n 1, 1) := by decide +kernel
theorem dX8_file_2 : decode cX8_file 2 = .ok (.invokestatic 182, 3) := by decide +kernel
theorem dX8_file_5 : decode cX8_file 5 = .ok (.ifCond .eq 10, 3) := by decide +kernel
theorem dX8_file_8 : decode cX8_file 8 = .ok (.iload_n 2, 1) := by decide +kernel
theorem dX8_file_9 : decode cX8_file 9 = .ok (.invokestatic 166, 3) := by decide +kernel
theorem dX8_file_12 : decode cX8_file 12 = .ok (.ifCond .ne 7, 3) := by decide +kernel
theorem dX8_file_15 : decode cX8_file 15 = .ok (.iconst 1, 1) := by decide +kernel
theorem dX8_file_16 : decode cX8_file 16 = .ok (.goto 44, 3) := by decide +kernel
theorem dX8_file_19 : decode cX8_file 19 = .ok (.iload_n 3, 1) := by decide +kernel
theorem dX8_file_20 : decode cX8_file 20 = .ok (.iconst 1, 1) := by decide +kernel
theorem dX8_file_21 : decode cX8_file 21 = .ok (.ldc 172, 2) := by decide +kernel
theorem dX8_file_23 : decode cX8_file 23 = .ok (.invokestatic 156, 3) := by decide +kernel
theorem dX8_file_26 : decode cX8_file 26 = .ok (.ifCond .ne 7, 3) := by decide +kernel
theorem dX8_file_29 : decode cX8_file 29 = .ok (.iconst 2, 1) := by decide +kernel
theorem dX8_file_30 : decode cX8_file 30 = .ok (.goto 30, 3) := by decide +kernel
theorem dX8_file_33 : decode cX8_file 33 = .ok (.iload_n 3, 1) := by decide +kernel
theorem dX8_file_34 : decode cX8_file 34 = .ok (.aload_n 0, 1) := by decide +kernel
theorem dX8_file_35 : decode cX8_file 35 = .ok (.getfield 59, 3) := by decide +kernel
theorem dX8_file_38 : decode cX8_file 38 = .ok (.iload_n 1, 1) := by decide +kernel
theorem dX8_file_39 : decode cX8_file 39 = .ok (.iaload, 1) := by decide +kernel
theorem dX8_file_40 : decode cX8_file 40 = .ok (.iconst (-1), 1) := by decide +kernel
theorem dX8_file_41 : decode cX8_file 41 = .ok (.ixor, 1) := by decide +kernel
theorem dX8_file_42 : decode cX8_file 42 = .ok (.iand, 1) := by decide +kernel
theorem dX8_file_43 : decode cX8_file 43 = .ok (.ifCond .ne 12, 3) := by decide +kernel
theorem dX8_file_46 : decode cX8_file 46 = .ok (.aload_n 0, 1) := by decide +kernel
theorem dX8_file_47 : decode cX8_file 47 = .ok (.getfield 163, 3) := by decide +kernel
theorem dX8_file_50 : decode cX8_file 50 = .ok (.bipush 12, 2) := by decide +kernel
theorem dX8_file_52 : decode cX8_file 52 = .ok (.if_icmp .ne 7, 3) := by decide +kernel
theorem dX8_file_55 : decode cX8_file 55 = .ok (.iconst 3, 1) := by decide +kernel
theorem dX8_file_56 : decode cX8_file 56 = .ok (.goto 4, 3) := by decide +kernel
theorem dX8_file_59 : decode cX8_file 59 = .ok (.iconst 0, 1) := by decide +kernel
theorem dX8_file_60 : decode cX8_file 60 = .ok (.putfield 152, 3) := by decide +kernel
theorem dX8_file_63 : decode cX8_file 63 = .ok (.aload_n 0, 1) := by decide +kernel
theorem dX8_file_64 : decode cX8_file 64 = .ok (.getfield 152, 3) := by decide +kernel
theorem dX8_file_67 : decode cX8_file 67 = .ok (.ifCond .le 5, 3) := by decide +kernel
theorem dX8_file_70 : decode cX8_file 70 = .ok (.iconst 0, 1) := by decide +kernel
theorem dX8_file_71 : decode cX8_file 71 = .ok (.ireturn, 1) := by decide +kernel
theorem dX8_file_72 : decode cX8_file 72 = .ok (.aload_n 0, 1) := by decide +kernel
theorem dX8_file_73 : decode cX8_file 73 = .ok (.getfield 77, 3) := by decide +kernel
theorem dX8_file_76 : decode cX8_file 76 = .ok (.aload_n 0, 1) := by decide +kernel
theorem dX8_file_77 : decode cX8_file 77 = .ok (.getfield 163, 3) := by decide +kernel
theorem dX8_file_80 : decode cX8_file 80 = .ok (.iload_n 1, 1) := by decide +kernel
theorem dX8_file_81 : decode cX8_file 81 = .ok (.iastore, 1) := by decide +kernel
theorem dX8_file_82 : decode cX8_file 82 = .ok (.aload_n 0, 1) := by decide +kernel
theorem dX8_file_83 : decode cX8_file 83 = .ok (.getfield 80, 3) := by decide +kernel
theorem dX8_file_86 : decode cX8_file 86 = .ok (.aload_n 0, 1) := by decide +kernel
theorem dX8_file_87 : decode cX8_file 87 = .ok (.getfield 163, 3) := by decide +kernel
theorem dX8_file_90 : decode cX8_file 90 = .ok (.iload_n 2, 1) := by decide +kernel
theorem dX8_file_91 : decode cX8_file 91 = .ok (.iastore, 1) := by decide +kernel
theorem dX8_file_92 : decode cX8_file 92 = .ok (.aload_n 0, 1) := by decide +kernel
theorem dX8_file_93 : decode cX8_file 93 = .ok (.getfield 83, 3) := by decide +kernel
theorem dX8_file_96 : decode cX8_file 96 = .ok (.aload_n 0, 1) := by decide +kernel
theorem dX8_file_97 : decode cX8_file 97 = .ok (.getfield 163, 3) := by decide +kernel
theorem dX8_file_100 : decode cX8_file 100 = .ok (.iload_n 3, 1) := by decide +kernel
theorem dX8_file_101 : decode cX8_file 101 = .ok (.iastore, 1) := by decide +kernel
theorem dX8_file_102 : decode cX8_file 102 = .ok (.aload_n 0, 1) := by decide +kernel
theorem dX8_file_103 : decode cX8_file 103 = .ok (.getfield 86, 3) := by decide +kernel
theorem dX8_file_106 : decode cX8_file 106 = .ok (.aload_n 0, 1) := by decide +kernel
theorem dX8_file_107 : decode cX8_file 107 = .ok (.getfield 163, 3) := by decide +kernel
theorem dX8_file_110 : decode cX8_file 110 = .ok (.iload_n 3, 1) := by decide +kernel
theorem dX8_file_111 : decode cX8_file 111 = .ok (.iastore, 1) := by decide +kernel
theorem dX8_file_112 : decode cX8_file 112 = .ok (.aload_n 0, 1) := by decide +kernel
theorem dX8_file_113 : decode cX8_file 113 = .ok (.getfield 89, 3) := by decide +kernel
theorem dX8_file_116 : decode cX8_file 116 = .ok (.aload_n 0, 1) := by decide +kernel
theorem dX8_file_117 : decode cX8_file 117 = .ok (.getfield 163, 3) := by decide +kernel
theorem dX8_file_120 : decode cX8_file 120 = .ok (.aload_n 0, 1) := by decide +kernel
theorem dX8_file_121 : decode cX8_file 121 = .ok (.getfield 179, 3) := by decide +kernel
theorem dX8_file_124 : decode cX8_file 124 = .ok (.iastore, 1) := by decide +kernel
theorem dX8_file_125 : decode cX8_file 125 = .ok (.aload_n 0, 1) := by decide +kernel
theorem dX8_file_126 : decode cX8_file 126 = .ok (.getfield 98, 3) := by decide +kernel
theorem dX8_file_129 : decode cX8_file 129 = .ok (.aload_n 0, 1) := by decide +kernel
theorem dX8_file_130 : decode cX8_file 130 = .ok (.getfield 163, 3) := by decide +kernel
theorem dX8_file_133 : decode cX8_file 133 = .ok (.aload_n 0, 1) := by decide +kernel
theorem dX8_file_134 : decode cX8_file 134 = .ok (.getfield 179, 3) := by decide +kernel
theorem dX8_file_137 : decode cX8_file 137 = .ok (.bipush 60, 2) := by decide +kernel
theorem dX8_file_139 : decode cX8_file 139 = .ok (.iadd, 1) := by decide +kernel
theorem dX8_file_140 : decode cX8_file 140 = .ok (.iastore, 1) := by decide +kernel
theorem dX8_file_141 : decode cX8_file 141 = .ok (.aload_n 0, 1) := by decide +kernel
theorem dX8_file_142 : decode cX8_file 142 = .ok (.dup, 1) := by decide +kernel
theorem dX8_file_143 : decode cX8_file 143 = .ok (.getfield 163, 3) := by decide +kernel
theorem dX8_file_146 : decode cX8_file 146 = .ok (.iconst 1, 1) := by decide +kernel
theorem dX8_file_147 : decode cX8_file 147 = .ok (.iadd, 1) := by decide +kernel
theorem dX8_file_148 : decode cX8_file 148 = .ok (.putfield 163, 3) := by decide +kernel
theorem dX8_file_151 : decode cX8_file 151 = .ok (.aload_n 0, 1) := by decide +kernel
theorem dX8_file_152 : decode cX8_file 152 = .ok (.getfield 163, 3) := by decide +kernel
theorem dX8_file_155 : decode cX8_file 155 = .ok (.iconst 1, 1) := by decide +kernel
theorem dX8_file_156 : decode cX8_file 156 = .ok (.isub, 1) := by decide +kernel
theorem dX8_file_157 : decode cX8_file 157 = .ok (.ireturn, 1) := by decide +kernel
theorem dX8_isOver_0 : decode cX8_isOver 0 = .ok (.aload_n 0, 1) := by decide +kernel
theorem dX8_isOver_1 : decode cX8_isOver 1 = .ok (.getfield 92, 3) := by decide +kernel
theorem dX8_isOver_4 : decode cX8_isOver 4 = .ok (.iload_n 1, 1) := by decide +kernel
theorem dX8_isOver_5 : decode cX8_isOver 5 = .ok (.iaload, 1) := by decide +kernel
theorem dX8_isOver_6 : decode cX8_isOver 6 = .ok (.iconst 3, 1) := by decide +kernel
theorem dX8_isOver_7 : decode cX8_isOver 7 = .ok (.if_icmp .lt 7, 3) := by decide +kernel
theorem dX8_isOver_10 : decode cX8_isOver 10 = .ok (.iconst 1, 1) := by decide +kernel
theorem dX8_isOver_11 : decode cX8_isOver 11 = .ok (.goto 4, 3) := by decide +kernel
theorem dX8_isOver_14 : decode cX8_isOver 14 = .ok (.iconst 0, 1) := by decide +kernel
theorem dX8_isOver_15 : decode cX8_isOver 15 = .ok (.ireturn, 1) := by decide +kernel
set_option maxRecDepth 20000 in
theorem ggX8_amend_X8_isSuit : GoodIn wsX8_amend wsX8_isSuit := goodIn_r _ [15, 16, 17, 18, 14, 19, 28, 29, 30, 31, 32, 33, 34, 35, 36, 37, 38, 39, 40, 41, 42, 43, 44, 45, 46, 47, 48, 49, 50, 51, 52, 53, 54, 55, 56, 57, 58, 59, 60, 61, 62, 63, 64, 65, 66, 67, 68, 69, 70, 71, 72, 73, 74, 75, 76, 77, 78, 79, 80, 81, 82] (by decide +kernel) (by decide +kernel)
set_option maxRecDepth 20000 in
theorem gX8_amend_X8_isSuit : GoodIn wsX8_amend (wsV RX8 218 RX8 yX8_isSuit wsX8_isSuit) := goodIn_app (goodIn_of _ (by decide +kernel)) ggX8_amend_X8_isSuit
set_option maxRecDepth 20000 in
theorem ggX8_amend_X8_in : GoodIn wsX8_amend wsX8_in := goodIn_r _ [19] (by decide +kernel) (by decide +kernel)
set_option maxRecDepth 20000 in
theorem gX8_amend_X8_in : GoodIn wsX8_amend (va_wsS RX8 156 yX8_in wsX8_in) := goodIn_app (goodIn_of _ (by decide +kernel)) ggX8_amend_X8_in
set_option maxRecDepth 20000 in
theorem ggX8_amend_X8_isOver : GoodIn wsX8_amend wsX8_isOver := goodIn_r _ [23, 24, 28, 29, 30, 31, 32, 33, 34, 35, 36, 37, 38, 39, 40, 41, 42, 43, 44, 45, 46, 47, 48, 49, 50, 51, 52, 53, 54, 55, 56, 57, 58, 59, 60, 61, 62, 63, 64, 65, 66, 67, 68, 69, 70, 71, 72, 73, 74, 75, 76, 77, 78, 79, 80, 81, 82] (by decide +kernel) (by decide +kernel)
set_option maxRecDepth 20000 in
theorem gX8_amend_X8_isOver : GoodIn wsX8_amend (wsV RX8 221 RX8 yX8_isOver wsX8_isOver) := goodIn_app (goodIn_of _ (by decide +kernel)) ggX8_amend_X8_isOver
set_option maxRecDepth 20000 in
theorem ggX8_amend_X8_bits : GoodIn wsX8_amend wsX8_bits := goodIn_r _ [27] (by decide +kernel) (by decide +kernel)
set_option maxRecDepth 20000 in
theorem gX8_amend_X8_bits : GoodIn wsX8_amend (va_wsS RX8 185 yX8_bits wsX8_bits) := goodIn_app (goodIn_of _ (by decide +kernel)) ggX8_amend_X8_bits
theorem dX8_amend_0 : decode cX8_amend 0 = .ok (.aload_n 0, 1) := by decide +kernel
theorem dX8_amend_1 : decode cX8_amend 1 = .ok (.aload_n 0, 1) := by decide +kernel
theorem dX8_amend_2 : decode cX8_amend 2 = .ok (.iload_n 1, 1) := by decide +kernel
theorem dX8_amend_3 : decode cX8_amend 3 = .ok (.invokevirtual 218, 3) := by decide +kernel
theorem dX8_amend_6 : decode cX8_amend 6 = .ok (.ifCond .ne 7, 3) := by decide +kernel
theorem dX8_amend_9 : decode cX8_amend 9 = .ok (.iconst 1, 1) := by decide +kernel
theorem dX8_amend_10 : decode cX8_amend 10 = .ok (.goto 57, 3) := by decide +kernel
theorem dX8_amend_13 : decode cX8_amend 13 = .ok (.iload_n 2, 1) := by decide +kernel
theorem dX8_amend_14 : decode cX8_amend 14 = .ok (.iconst 1, 1) := by decide +kernel
theorem dX8_amend_15 : decode cX8_amend 15 = .ok (.ldc 172, 2) := by decide +kernel
theorem dX8_amend_17 : decode cX8_amend 17 = .ok (.invokestatic 156, 3) := by decide +kernel
theorem dX8_amend_20 : decode cX8_amend 20 = .ok (.ifCond .ne 7, 3) := by decide +kernel
theorem dX8_amend_23 : decode cX8_amend 23 = .ok (.iconst 2, 1) := by decide +kernel
theorem dX8_amend_24 : decode cX8_amend 24 = .ok (.goto 43, 3) := by decide +kernel
theorem dX8_amend_27 : decode cX8_amend 27 = .ok (.aload_n 0, 1) := by decide +kernel
theorem dX8_amend_28 : decode cX8_amend 28 = .ok (.iload_n 1, 1) := by decide +kernel
theorem dX8_amend_29 : decode cX8_amend 29 = .ok (.invokevirtual 221, 3) := by decide +kernel
theorem dX8_amend_32 : decode cX8_amend 32 = .ok (.ifCond .ne 30, 3) := by decide +kernel
theorem dX8_amend_35 : decode cX8_amend 35 = .ok (.iload_n 2, 1) := by decide +kernel
theorem dX8_amend_36 : decode cX8_amend 36 = .ok (.aload_n 0, 1) := by decide +kernel
theorem dX8_amend_37 : decode cX8_amend 37 = .ok (.getfield 59, 3) := by decide +kernel
theorem dX8_amend_40 : decode cX8_amend 40 = .ok (.aload_n 0, 1) := by decide +kernel
theorem dX8_amend_41 : decode cX8_amend 41 = .ok (.getfield 77, 3) := by decide +kernel
theorem dX8_amend_44 : decode cX8_amend 44 = .ok (.iload_n 1, 1) := by decide +kernel
theorem dX8_amend_45 : decode cX8_amend 45 = .ok (.iaload, 1) := by decide +kernel
theorem dX8_amend_46 : decode cX8_amend 46 = .ok (.iaload, 1) := by decide +kernel
theorem dX8_amend_47 : decode cX8_amend 47 = .ok (.iconst (-1), 1) := by decide +kernel
theorem dX8_amend_48 : decode cX8_amend 48 = .ok (.ixor, 1) := by decide +kernel
theorem dX8_amend_49 : decode cX8_amend 49 = .ok (.iand, 1) := by decide +kernel
theorem dX8_amend_50 : decode cX8_amend 50 = .ok (.ifCond .ne 12, 3) := by decide +kernel
theorem dX8_amend_53 : decode cX8_amend 53 = .ok (.aload_n 0, 1) := by decide +kernel
theorem dX8_amend_54 : decode cX8_amend 54 = .ok (.getfield 203, 3) := by decide +kernel
theorem dX8_amend_57 : decode cX8_amend 57 = .ok (.bipush 40, 2) := by decide +kernel
theorem dX8_amend_59 : decode cX8_amend 59 = .ok (.if_icmp .ne 7, 3) := by decide +kernel
theorem dX8_amend_62 : decode cX8_amend 62 = .ok (.iconst 3, 1) := by decide +kernel
theorem dX8_amend_63 : decode cX8_amend 63 = .ok (.goto 4, 3) := by decide +kernel
theorem dX8_amend_66 : decode cX8_amend 66 = .ok (.iconst 0, 1) := by decide +kernel
theorem dX8_amend_67 : decode cX8_amend 67 = .ok (.putfield 152, 3) := by decide +kernel
theorem dX8_amend_70 : decode cX8_amend 70 = .ok (.aload_n 0, 1) := by decide +kernel
theorem dX8_amend_71 : decode cX8_amend 71 = .ok (.getfield 152, 3) := by decide +kernel
theorem dX8_amend_74 : decode cX8_amend 74 = .ok (.ifCond .le 5, 3) := by decide +kernel
theorem dX8_amend_77 : decode cX8_amend 77 = .ok (.iconst 0, 1) := by decide +kernel
theorem dX8_amend_78 : decode cX8_amend 78 = .ok (.ireturn, 1) := by decide +kernel
theorem dX8_amend_79 : decode cX8_amend 79 = .ok (.aload_n 0, 1) := by decide +kernel
theorem dX8_amend_80 : decode cX8_amend 80 = .ok (.getfield 86, 3) := by decide +kernel
theorem dX8_amend_83 : decode cX8_amend 83 = .ok (.iload_n 1, 1) := by decide +kernel
theorem dX8_amend_84 : decode cX8_amend 84 = .ok (.dup2, 1) := by decide +kernel
theorem dX8_amend_85 : decode cX8_amend 85 = .ok (.iaload, 1) := by decide +kernel
theorem dX8_amend_86 : decode cX8_amend 86 = .ok (.iload_n 2, 1) := by decide +kernel
theorem dX8_amend_87 : decode cX8_amend 87 = .ok (.ior, 1) := by decide +kernel
theorem dX8_amend_88 : decode cX8_amend 88 = .ok (.iastore, 1) := by decide +kernel
theorem dX8_amend_89 : decode cX8_amend 89 = .ok (.aload_n 0, 1) := by decide +kernel
theorem dX8_amend_90 : decode cX8_amend 90 = .ok (.getfield 116, 3) := by decide +kernel
theorem dX8_amend_93 : decode cX8_amend 93 = .ok (.aload_n 0, 1) := by decide +kernel
theorem dX8_amend_94 : decode cX8_amend 94 = .ok (.getfield 203, 3) := by decide +kernel
theorem dX8_amend_97 : decode cX8_amend 97 = .ok (.iload_n 1, 1) := by decide +kernel
theorem dX8_amend_98 : decode cX8_amend 98 = .ok (.iastore, 1) := by decide +kernel
theorem dX8_amend_99 : decode cX8_amend 99 = .ok (.aload_n 0, 1) := by decide +kernel
theorem dX8_amend_100 : decode cX8_amend 100 = .ok (.getfield 119, 3) := by decide +kernel
theorem dX8_amend_103 : decode cX8_amend 103 = .ok (.aload_n 0, 1) := by decide +kernel
theorem dX8_amend_104 : decode cX8_amend 104 = .ok (.getfield 203, 3) := by decide +kernel
theorem dX8_amend_107 : decode cX8_amend 107 = .ok (.aload_n 0, 1) := by decide +kernel
theorem dX8_amend_108 : decode cX8_amend 108 = .ok (.getfield 86, 3) := by decide +kernel
theorem dX8_amend_111 : decode cX8_amend 111 = .ok (.iload_n 1, 1) := by decide +kernel
theorem dX8_amend_112 : decode cX8_amend 112 = .ok (.iaload, 1) := by decide +kernel
theorem dX8_amend_113 : decode cX8_amend 113 = .ok (.iastore, 1) := by decide +kernel
theorem dX8_amend_114 : decode cX8_amend 114 = .ok (.aload_n 0, 1) := by decide +kernel
theorem dX8_amend_115 : decode cX8_amend 115 = .ok (.getfield 122, 3) := by decide +kernel
theorem dX8_amend_118 : decode cX8_amend 118 = .ok (.aload_n 0, 1) := by decide +kernel
theorem dX8_amend_119 : decode cX8_amend 119 = .ok (.getfield 203, 3) := by decide +kernel
theorem dX8_amend_122 : decode cX8_amend 122 = .ok (.aload_n 0, 1) := by decide +kernel
theorem dX8_amend_123 : decode cX8_amend 123 = .ok (.getfield 179, 3) := by decide +kernel
theorem dX8_amend_126 : decode cX8_amend 126 = .ok (.iastore, 1) := by decide +kernel
theorem dX8_amend_127 : decode cX8_amend 127 = .ok (.aload_n 0, 1) := by decide +kernel
theorem dX8_amend_128 : decode cX8_amend 128 = .ok (.dup, 1) := by decide +kernel
theorem dX8_amend_129 : decode cX8_amend 129 = .ok (.getfield 203, 3) := by decide +kernel
theorem dX8_amend_132 : decode cX8_amend 132 = .ok (.iconst 1, 1) := by decide +kernel
theorem dX8_amend_133 : decode cX8_amend 133 = .ok (.iadd, 1) := by decide +kernel
theorem dX8_amend_134 : decode cX8_amend 134 = .ok (.putfield 203, 3) := by decide +kernel
theorem dX8_amend_137 : decode cX8_amend 137 = .ok (.aload_n 0, 1) := by decide +kernel
theorem dX8_amend_138 : decode cX8_amend 138 = .ok (.getfield 86, 3) := by decide +kernel
theorem dX8_amend_141 : decode cX8_amend 141 = .ok (.iload_n 1, 1) := by decide +kernel
theorem dX8_amend_142 : decode cX8_amend 142 = .ok (.iaload, 1) := by decide +kernel
theorem dX8_amend_143 : decode cX8_amend 143 = .ok (.invokestatic 185, 3) := by decide +kernel
theorem dX8_amend_146 : decode cX8_amend 146 = .ok (.ireturn, 1) := by decide +kernel
set_option maxRecDepth 20000 in
theorem ggX8_extend_X8_isSuit : GoodIn wsX8_extend wsX8_isSuit := goodIn_r _ [8, 9, 10, 11, 7, 12, 18, 19, 20, 21, 22, 23, 24, 25, 26, 27, 28, 29, 30, 31, 32, 33, 34, 35, 36, 37, 38, 39, 40, 41, 42, 43, 44, 45, 46, 47, 48, 49, 50, 51, 52, 53, 54, 55, 56, 57, 58, 59, 60, 61, 62, 63, 64, 65, 66, 67, 68, 69, 70, 71, 72] (by decide +kernel) (by decide +kernel)
set_option maxRecDepth 20000 in
theorem gX8_extend_X8_isSuit : GoodIn wsX8_extend (wsV RX8 218 RX8 yX8_isSuit wsX8_isSuit) := goodIn_app (goodIn_of _ (by decide +kernel)) ggX8_extend_X8_isSuit
set_option maxRecDepth 20000 in
theorem ggX8_extend_X8_isSealed : GoodIn wsX8_extend wsX8_isSealed := goodIn_r _ [16, 17, 3, 18, 19, 20, 21, 22, 23, 24, 25, 26, 27, 28, 29, 30, 31, 32, 33, 34, 35, 36, 37, 38, 39, 40, 41, 42, 43, 44, 45, 46, 47, 48, 49, 50, 51, 52, 53, 54, 55, 56, 57, 58, 59, 60, 61, 62, 63, 64, 65, 66, 67, 68, 69, 70, 71, 72] (by decide +kernel) (by decide +kernel)
set_option maxRecDepth 20000 in
theorem gX8_extend_X8_isSealed : GoodIn wsX8_extend (wsV RX8 196 RX8 yX8_isSealed wsX8_isSealed) := goodIn_app (goodIn_of _ (by decide +kernel)) ggX8_extend_X8_isSealed
theorem dX8_extend_0 : decode cX8_extend 0 = .ok (.aload_n 0, 1) := by decide +kernel
theorem dX8_extend_1 : decode cX8_extend 1 = .ok (.aload_n 0, 1) := by decide +kernel
theorem dX8_extend_2 : decode cX8_extend 2 = .ok (.iload_n 1, 1) := by decide +kernel
theorem dX8_extend_3 : decode cX8_extend 3 = .ok (.invokevirtual 218, 3) := by decide +kernel
theorem dX8_extend_6 : decode cX8_extend 6 = .ok (.ifCond .ne 7, 3) := by decide +kernel
theorem dX8_extend_9 : decode cX8_extend 9 = .ok (.iconst 1, 1) := by decide +kernel
theorem dX8_extend_10 : decode cX8_extend 10 = .ok (.goto 26, 3) := by decide +kernel
theorem dX8_extend_13 : decode cX8_extend 13 = .ok (.aload_n 0, 1) := by decide +kernel
theorem dX8_extend_14 : decode cX8_extend 14 = .ok (.iload_n 1, 1) := by decide +kernel
theorem dX8_extend_15 : decode cX8_extend 15 = .ok (.invokevirtual 196, 3) := by decide +kernel
theorem dX8_extend_18 : decode cX8_extend 18 = .ok (.ifCond .eq 13, 3) := by decide +kernel
theorem dX8_extend_21 : decode cX8_extend 21 = .ok (.aload_n 0, 1) := by decide +kernel
theorem dX8_extend_22 : decode cX8_extend 22 = .ok (.getfield 101, 3) := by decide +kernel
theorem dX8_extend_25 : decode cX8_extend 25 = .ok (.iload_n 1, 1) := by decide +kernel
theorem dX8_extend_26 : decode cX8_extend 26 = .ok (.iaload, 1) := by decide +kernel
theorem dX8_extend_27 : decode cX8_extend 27 = .ok (.iconst 4, 1) := by decide +kernel
theorem dX8_extend_28 : decode cX8_extend 28 = .ok (.if_icmp .ne 7, 3) := by decide +kernel
theorem dX8_extend_31 : decode cX8_extend 31 = .ok (.iconst 2, 1) := by decide +kernel
theorem dX8_extend_32 : decode cX8_extend 32 = .ok (.goto 4, 3) := by decide +kernel
theorem dX8_extend_35 : decode cX8_extend 35 = .ok (.iconst 0, 1) := by decide +kernel
theorem dX8_extend_36 : decode cX8_extend 36 = .ok (.putfield 152, 3) := by decide +kernel
theorem dX8_extend_39 : decode cX8_extend 39 = .ok (.aload_n 0, 1) := by decide +kernel
theorem dX8_extend_40 : decode cX8_extend 40 = .ok (.getfield 152, 3) := by decide +kernel
theorem dX8_extend_43 : decode cX8_extend 43 = .ok (.ifCond .le 5, 3) := by decide +kernel
theorem dX8_extend_46 : decode cX8_extend 46 = .ok (.iconst 0, 1) := by decide +kernel
theorem dX8_extend_47 : decode cX8_extend 47 = .ok (.ireturn, 1) := by decide +kernel
theorem dX8_extend_48 : decode cX8_extend 48 = .ok (.aload_n 0, 1) := by decide +kernel
theorem dX8_extend_49 : decode cX8_extend 49 = .ok (.getfield 101, 3) := by decide +kernel
theorem dX8_extend_52 : decode cX8_extend 52 = .ok (.iload_n 1, 1) := by decide +kernel
theorem dX8_extend_53 : decode cX8_extend 53 = .ok (.dup2, 1) := by decide +kernel
theorem dX8_extend_54 : decode cX8_extend 54 = .ok (.iaload, 1) := by decide +kernel
theorem dX8_extend_55 : decode cX8_extend 55 = .ok (.iconst 1, 1) := by decide +kernel
theorem dX8_extend_56 : decode cX8_extend 56 = .ok (.iadd, 1) := by decide +kernel
theorem dX8_extend_57 : decode cX8_extend 57 = .ok (.iastore, 1) := by decide +kernel
theorem dX8_extend_58 : decode cX8_extend 58 = .ok (.aload_n 0, 1) := by decide +kernel
theorem dX8_extend_59 : decode cX8_extend 59 = .ok (.getfield 98, 3) := by decide +kernel
theorem dX8_extend_62 : decode cX8_extend 62 = .ok (.iload_n 1, 1) := by decide +kernel
theorem dX8_extend_63 : decode cX8_extend 63 = .ok (.dup2, 1) := by decide +kernel
theorem dX8_extend_64 : decode cX8_extend 64 = .ok (.iaload, 1) := by decide +kernel
theorem dX8_extend_65 : decode cX8_extend 65 = .ok (.bipush 30, 2) := by decide +kernel
theorem dX8_extend_67 : decode cX8_extend 67 = .ok (.iadd, 1) := by decide +kernel
theorem dX8_extend_68 : decode cX8_extend 68 = .ok (.iastore, 1) := by decide +kernel
theorem dX8_extend_69 : decode cX8_extend 69 = .ok (.aload_n 0, 1) := by decide +kernel
theorem dX8_extend_70 : decode cX8_extend 70 = .ok (.getfield 98, 3) := by decide +kernel
theorem dX8_extend_73 : decode cX8_extend 73 = .ok (.iload_n 1, 1) := by decide +kernel
theorem dX8_extend_74 : decode cX8_extend 74 = .ok (.iaload, 1) := by decide +kernel
theorem dX8_extend_75 : decode cX8_extend 75 = .ok (.ireturn, 1) := by decide +kernel
set_option maxRecDepth 20000 in
theorem ggX8_choose_X8_isSuit : GoodIn wsX8_choose wsX8_isSuit := goodIn_r _ [10, 11, 12, 13, 9, 14, 23, 24, 25, 26, 27, 28, 29, 30, 31, 32, 33, 34, 35, 36, 37, 38, 39, 40, 41, 42, 43, 44, 45, 46, 47, 48, 49, 50, 51, 52, 53, 54, 55, 56, 57, 58, 59, 60, 61, 62, 63, 64, 65, 66, 67, 68, 69, 70, 71, 72, 73, 74, 75, 76, 77] (by decide +kernel) (by decide +kernel)
set_option maxRecDepth 20000 in
theorem gX8_choose_X8_isSuit : GoodIn wsX8_choose (wsV RX8 218 RX8 yX8_isSuit wsX8_isSuit) := goodIn_app (goodIn_of _ (by decide +kernel)) ggX8_choose_X8_isSuit
set_option maxRecDepth 20000 in
theorem ggX8_choose_X8_in : GoodIn wsX8_choose wsX8_in := goodIn_r _ [14] (by decide +kernel) (by decide +kernel)
set_option maxRecDepth 20000 in
theorem gX8_choose_X8_in : GoodIn wsX8_choose (va_wsS RX8 156 yX8_in wsX8_in) := goodIn_app (goodIn_of _ (by decide +kernel)) ggX8_choose_X8_in
set_option maxRecDepth 20000 in
theorem ggX8_choose_X8_isOver : GoodIn wsX8_choose wsX8_isOver := goodIn_r _ [18, 1, 23, 24, 25, 26, 27, 28, 29, 30, 31, 32, 33, 34, 35, 36, 37, 38, 39, 40, 41, 42, 43, 44, 45, 46, 47, 48, 49, 50, 51, 52, 53, 54, 55, 56, 57, 58, 59, 60, 61, 62, 63, 64, 65, 66, 67, 68, 69, 70, 71, 72, 73, 74, 75, 76, 77] (by decide +kernel) (by decide +kernel)
set_option maxRecDepth 20000 in
theorem gX8_choose_X8_isOver : GoodIn wsX8_choose (wsV RX8 221 RX8 yX8_isOver wsX8_isOver) := goodIn_app (goodIn_of _ (by decide +kernel)) ggX8_choose_X8_isOver
set_option maxRecDepth 20000 in
theorem ggX8_choose_X8_isSealed : GoodIn wsX8_choose wsX8_isSealed := goodIn_r _ [22, 5, 4, 23, 24, 25, 26, 27, 28, 29, 30, 31, 32, 33, 34, 35, 36, 37, 38, 39, 40, 41, 42, 43, 44, 45, 46, 47, 48, 49, 50, 51, 52, 53, 54, 55, 56, 57, 58, 59, 60, 61, 62, 63, 64, 65, 66, 67, 68, 69, 70, 71, 72, 73, 74, 75, 76, 77] (by decide +kernel) (by decide +kernel)
set_option maxRecDepth 20000 in
theorem gX8_choose_X8_isSealed : GoodIn wsX8_choose (wsV RX8 196 RX8 yX8_isSealed wsX8_isSealed) := goodIn_app (goodIn_of _ (by decide +kernel)) ggX8_choose_X8_isSealed
theorem dX8_choose_0 : decode cX8_choose 0 = .ok (.aload_n 0, 1) := by decide +kernel
theorem dX8_choose_1 : decode cX8_choose 1 = .ok (.aload_n 0, 1) := by decide +kernel
theorem dX8_choose_2 : decode cX8_choose 2 = .ok (.iload_n 1, 1) := by decide +kernel
theorem dX8_choose_3 : decode cX8_choose 3 = .ok (.invokevirtual 218, 3) := by decide +kernel
theorem dX8_choose_6 : decode cX8_choose 6 = .ok (.ifCond .ne 7, 3) := by decide +kernel
theorem dX8_choose_9 : decode cX8_choose 9 = .ok (.iconst 1, 1) := by decide +kernel
theorem dX8_choose_10 : decode cX8_choose 10 = .ok (.goto 44, 3) := by decide +kernel
theorem dX8_choose_13 : decode cX8_choose 13 = .ok (.iload_n 2, 1) := by decide +kernel
theorem dX8_choose_14 : decode cX8_choose 14 = .ok (.iconst 1, 1) := by decide +kernel
theorem dX8_choose_15 : decode cX8_choose 15 = .ok (.iconst 3, 1) := by decide +kernel
theorem dX8_choose_16 : decode cX8_choose 16 = .ok (.invokestatic 156, 3) := by decide +kernel
theorem dX8_choose_19 : decode cX8_choose 19 = .ok (.ifCond .ne 7, 3) := by decide +kernel
theorem dX8_choose_22 : decode cX8_choose 22 = .ok (.iconst 2, 1) := by decide +kernel
theorem dX8_choose_23 : decode cX8_choose 23 = .ok (.goto 31, 3) := by decide +kernel
theorem dX8_choose_26 : decode cX8_choose 26 = .ok (.aload_n 0, 1) := by decide +kernel
theorem dX8_choose_27 : decode cX8_choose 27 = .ok (.iload_n 1, 1) := by decide +kernel
theorem dX8_choose_28 : decode cX8_choose 28 = .ok (.invokevirtual 221, 3) := by decide +kernel
theorem dX8_choose_31 : decode cX8_choose 31 = .ok (.ifCond .ne 18, 3) := by decide +kernel
theorem dX8_choose_34 : decode cX8_choose 34 = .ok (.iload_n 2, 1) := by decide +kernel
theorem dX8_choose_35 : decode cX8_choose 35 = .ok (.iconst 2, 1) := by decide +kernel
theorem dX8_choose_36 : decode cX8_choose 36 = .ok (.if_icmp .ne 17, 3) := by decide +kernel
theorem dX8_choose_39 : decode cX8_choose 39 = .ok (.aload_n 0, 1) := by decide +kernel
theorem dX8_choose_40 : decode cX8_choose 40 = .ok (.getfield 92, 3) := by decide +kernel
theorem dX8_choose_43 : decode cX8_choose 43 = .ok (.iload_n 1, 1) := by decide +kernel
theorem dX8_choose_44 : decode cX8_choose 44 = .ok (.iaload, 1) := by decide +kernel
theorem dX8_choose_45 : decode cX8_choose 45 = .ok (.iconst 1, 1) := by decide +kernel
theorem dX8_choose_46 : decode cX8_choose 46 = .ok (.if_icmp .ne 7, 3) := by decide +kernel
theorem dX8_choose_49 : decode cX8_choose 49 = .ok (.iconst 3, 1) := by decide +kernel
theorem dX8_choose_50 : decode cX8_choose 50 = .ok (.goto 4, 3) := by decide +kernel
theorem dX8_choose_53 : decode cX8_choose 53 = .ok (.iconst 0, 1) := by decide +kernel
theorem dX8_choose_54 : decode cX8_choose 54 = .ok (.putfield 152, 3) := by decide +kernel
theorem dX8_choose_57 : decode cX8_choose 57 = .ok (.aload_n 0, 1) := by decide +kernel
theorem dX8_choose_58 : decode cX8_choose 58 = .ok (.getfield 152, 3) := by decide +kernel
theorem dX8_choose_61 : decode cX8_choose 61 = .ok (.ifCond .le 5, 3) := by decide +kernel
theorem dX8_choose_64 : decode cX8_choose 64 = .ok (.iconst 0, 1) := by decide +kernel
theorem dX8_choose_65 : decode cX8_choose 65 = .ok (.ireturn, 1) := by decide +kernel
theorem dX8_choose_66 : decode cX8_choose 66 = .ok (.aload_n 0, 1) := by decide +kernel
theorem dX8_choose_67 : decode cX8_choose 67 = .ok (.getfield 92, 3) := by decide +kernel
theorem dX8_choose_70 : decode cX8_choose 70 = .ok (.iload_n 1, 1) := by decide +kernel
theorem dX8_choose_71 : decode cX8_choose 71 = .ok (.iaload, 1) := by decide +kernel
theorem dX8_choose_72 : decode cX8_choose 72 = .ok (.istore_n 3, 1) := by decide +kernel
theorem dX8_choose_73 : decode cX8_choose 73 = .ok (.aload_n 0, 1) := by decide +kernel
theorem dX8_choose_74 : decode cX8_choose 74 = .ok (.getfield 92, 3) := by decide +kernel
theorem dX8_choose_77 : decode cX8_choose 77 = .ok (.iload_n 1, 1) := by decide +kernel
theorem dX8_choose_78 : decode cX8_choose 78 = .ok (.iload_n 2, 1) := by decide +kernel
theorem dX8_choose_79 : decode cX8_choose 79 = .ok (.iastore, 1) := by decide +kernel
theorem dX8_choose_80 : decode cX8_choose 80 = .ok (.aload_n 0, 1) := by decide +kernel
theorem dX8_choose_81 : decode cX8_choose 81 = .ok (.getfield 95, 3) := by decide +kernel
theorem dX8_choose_84 : decode cX8_choose 84 = .ok (.iload_n 1, 1) := by decide +kernel
theorem dX8_choose_85 : decode cX8_choose 85 = .ok (.aload_n 0, 1) := by decide +kernel
theorem dX8_choose_86 : decode cX8_choose 86 = .ok (.getfield 95, 3) := by decide +kernel
theorem dX8_choose_89 : decode cX8_choose 89 = .ok (.iload_n 1, 1) := by decide +kernel
theorem dX8_choose_90 : decode cX8_choose 90 = .ok (.baload, 1) := by decide +kernel
theorem dX8_choose_91 : decode cX8_choose 91 = .ok (.ifCond .ne 8, 3) := by decide +kernel
theorem dX8_choose_94 : decode cX8_choose 94 = .ok (.iload_n 2, 1) := by decide +kernel
theorem dX8_choose_95 : decode cX8_choose 95 = .ok (.iconst 1, 1) := by decide +kernel
theorem dX8_choose_96 : decode cX8_choose 96 = .ok (.if_icmp .ne 7, 3) := by decide +kernel
theorem dX8_choose_99 : decode cX8_choose 99 = .ok (.iconst 1, 1) := by decide +kernel
theorem dX8_choose_100 : decode cX8_choose 100 = .ok (.goto 4, 3) := by decide +kernel
theorem dX8_choose_103 : decode cX8_choose 103 = .ok (.iconst 0, 1) := by decide +kernel
theorem dX8_choose_104 : decode cX8_choose 104 = .ok (.bastore, 1) := by decide +kernel
theorem dX8_choose_105 : decode cX8_choose 105 = .ok (.aload_n 0, 1) := by decide +kernel
theorem dX8_choose_106 : decode cX8_choose 106 = .ok (.getfield 98, 3) := by decide +kernel
theorem dX8_choose_109 : decode cX8_choose 109 = .ok (.iload_n 1, 1) := by decide +kernel
theorem dX8_choose_110 : decode cX8_choose 110 = .ok (.aload_n 0, 1) := by decide +kernel
theorem dX8_choose_111 : decode cX8_choose 111 = .ok (.iload_n 1, 1) := by decide +kernel
theorem dX8_choose_112 : decode cX8_choose 112 = .ok (.invokevirtual 196, 3) := by decide +kernel
theorem dX8_choose_115 : decode cX8_choose 115 = .ok (.ifCond .eq 10, 3) := by decide +kernel
theorem dX8_choose_118 : decode cX8_choose 118 = .ok (.aload_n 0, 1) := by decide +kernel
theorem dX8_choose_119 : decode cX8_choose 119 = .ok (.getfield 179, 3) := by decide +kernel
theorem dX8_choose_122 : decode cX8_choose 122 = .ok (.goto 9, 3) := by decide +kernel
theorem dX8_choose_125 : decode cX8_choose 125 = .ok (.aload_n 0, 1) := by decide +kernel
theorem dX8_choose_126 : decode cX8_choose 126 = .ok (.getfield 98, 3) := by decide +kernel
theorem dX8_choose_129 : decode cX8_choose 129 = .ok (.iload_n 1, 1) := by decide +kernel
theorem dX8_choose_130 : decode cX8_choose 130 = .ok (.iaload, 1) := by decide +kernel
theorem dX8_choose_131 : decode cX8_choose 131 = .ok (.iastore, 1) := by decide +kernel
theorem dX8_choose_132 : decode cX8_choose 132 = .ok (.iload_n 3, 1) := by decide +kernel
theorem dX8_choose_133 : decode cX8_choose 133 = .ok (.ireturn, 1) := by decide +kernel
set_option maxRecDepth 20000 in
theorem ggX8_help_X8_isSuit : GoodIn wsX8_help wsX8_isSuit := goodIn_r _ [7, 8, 9, 10, 6, 11, 17, 18, 19, 20, 21, 22, 23, 24, 25, 26, 27, 28, 29, 30, 31, 32, 33, 34, 35, 36, 37, 38, 39, 40, 41, 42, 43, 44, 45, 46, 47, 48, 49, 50, 51, 52, 53, 54, 55, 56, 57, 58, 59, 60, 61, 62, 63, 64, 65, 66, 67, 68, 69, 70, 71] (by decide +kernel) (by decide +kernel)
set_option maxRecDepth 20000 in
theorem gX8_help_X8_isSuit : GoodIn wsX8_help (wsV RX8 218 RX8 yX8_isSuit wsX8_isSuit) := goodIn_app (goodIn_of _ (by decide +kernel)) ggX8_help_X8_isSuit
set_option maxRecDepth 20000 in
theorem ggX8_help_X8_in : GoodIn wsX8_help wsX8_in := goodIn_r _ [11] (by decide +kernel) (by decide +kernel)
set_option maxRecDepth 20000 in
theorem gX8_help_X8_in : GoodIn wsX8_help (va_wsS RX8 156 yX8_in wsX8_in) := goodIn_app (goodIn_of _ (by decide +kernel)) ggX8_help_X8_in
set_option maxRecDepth 20000 in
theorem ggX8_help_X8_isOver : GoodIn wsX8_help wsX8_isOver := goodIn_r _ [15, 16, 17, 18, 19, 20, 21, 22, 23, 24, 25, 26, 27, 28, 29, 30, 31, 32, 33, 34, 35, 36, 37, 38, 39, 40, 41, 42, 43, 44, 45, 46, 47, 48, 49, 50, 51, 52, 53, 54, 55, 56, 57, 58, 59, 60, 61, 62, 63, 64, 65, 66, 67, 68, 69, 70, 71] (by decide +kernel) (by decide +kernel)
set_option maxRecDepth 20000 in
theorem gX8_help_X8_isOver : GoodIn wsX8_help (wsV RX8 221 RX8 yX8_isOver wsX8_isOver) := goodIn_app (goodIn_of _ (by decide +kernel)) ggX8_help_X8_isOver
theorem dX8_help_0 : decode cX8_help 0 = .ok (.aload_n 0, 1) := by decide +kernel
theorem dX8_help_1 : decode cX8_help 1 = .ok (.aload_n 0, 1) := by decide +kernel
theorem dX8_help_2 : decode cX8_help 2 = .ok (.iload_n 1, 1) := by decide +kernel
theorem dX8_help_3 : decode cX8_help 3 = .ok (.invokevirtual 218, 3) := by decide +kernel
theorem dX8_help_6 : decode cX8_help 6 = .ok (.ifCond .ne 7, 3) := by decide +kernel
theorem dX8_help_9 : decode cX8_help 9 = .ok (.iconst 1, 1) := by decide +kernel
theorem dX8_help_10 : decode cX8_help 10 = .ok (.goto 30, 3) := by decide +kernel
theorem dX8_help_13 : decode cX8_help 13 = .ok (.iload_n 2, 1) := by decide +kernel
theorem dX8_help_14 : decode cX8_help 14 = .ok (.iconst 0, 1) := by decide +kernel
theorem dX8_help_15 : decode cX8_help 15 = .ok (.bipush 10, 2) := by decide +kernel
theorem dX8_help_17 : decode cX8_help 17 = .ok (.invokestatic 156, 3) := by decide +kernel
theorem dX8_help_20 : decode cX8_help 20 = .ok (.ifCond .ne 7, 3) := by decide +kernel
theorem dX8_help_23 : decode cX8_help 23 = .ok (.iconst 2, 1) := by decide +kernel
theorem dX8_help_24 : decode cX8_help 24 = .ok (.goto 16, 3) := by decide +kernel
theorem dX8_help_27 : decode cX8_help 27 = .ok (.aload_n 0, 1) := by decide +kernel
theorem dX8_help_28 : decode cX8_help 28 = .ok (.iload_n 1, 1) := by decide +kernel
theorem dX8_help_29 : decode cX8_help 29 = .ok (.invokevirtual 221, 3) := by decide +kernel
theorem dX8_help_32 : decode cX8_help 32 = .ok (.ifCond .eq 7, 3) := by decide +kernel
theorem dX8_help_35 : decode cX8_help 35 = .ok (.iconst 3, 1) := by decide +kernel
theorem dX8_help_36 : decode cX8_help 36 = .ok (.goto 4, 3) := by decide +kernel
theorem dX8_help_39 : decode cX8_help 39 = .ok (.iconst 0, 1) := by decide +kernel
theorem dX8_help_40 : decode cX8_help 40 = .ok (.putfield 152, 3) := by decide +kernel
theorem dX8_help_43 : decode cX8_help 43 = .ok (.aload_n 0, 1) := by decide +kernel
theorem dX8_help_44 : decode cX8_help 44 = .ok (.getfield 152, 3) := by decide +kernel
theorem dX8_help_47 : decode cX8_help 47 = .ok (.ifCond .le 5, 3) := by decide +kernel
theorem dX8_help_50 : decode cX8_help 50 = .ok (.iconst 0, 1) := by decide +kernel
theorem dX8_help_51 : decode cX8_help 51 = .ok (.ireturn, 1) := by decide +kernel
theorem dX8_help_52 : decode cX8_help 52 = .ok (.aload_n 0, 1) := by decide +kernel
theorem dX8_help_53 : decode cX8_help 53 = .ok (.getfield 104, 3) := by decide +kernel
theorem dX8_help_56 : decode cX8_help 56 = .ok (.iload_n 1, 1) := by decide +kernel
theorem dX8_help_57 : decode cX8_help 57 = .ok (.iaload, 1) := by decide +kernel
theorem dX8_help_58 : decode cX8_help 58 = .ok (.istore_n 3, 1) := by decide +kernel
theorem dX8_help_59 : decode cX8_help 59 = .ok (.aload_n 0, 1) := by decide +kernel
theorem dX8_help_60 : decode cX8_help 60 = .ok (.getfield 104, 3) := by decide +kernel
theorem dX8_help_63 : decode cX8_help 63 = .ok (.iload_n 1, 1) := by decide +kernel
theorem dX8_help_64 : decode cX8_help 64 = .ok (.iload_n 2, 1) := by decide +kernel
theorem dX8_help_65 : decode cX8_help 65 = .ok (.iastore, 1) := by decide +kernel
theorem dX8_help_66 : decode cX8_help 66 = .ok (.iload_n 3, 1) := by decide +kernel
theorem dX8_help_67 : decode cX8_help 67 = .ok (.ireturn, 1) := by decide +kernel
set_option maxRecDepth 20000 in
theorem ggX8_hundredthsOf_X8_bar : GoodIn wsX8_hundredthsOf wsX8_bar := goodIn_r _ [11, 12, 13, 14, 15, 16, 17, 10, 18, 19, 20, 21, 22, 23, 24, 25, 26, 27, 28, 29, 30, 31, 32, 33, 34, 35, 36, 37, 38, 1, 39, 40, 41, 42, 43, 44, 45, 46, 47, 48, 49, 50, 51, 52, 53, 54, 55, 56, 57, 58, 59, 60, 61, 62, 63, 64, 65, 66, 67, 68, 69, 70, 71, 72, 73, 74, 75, 76, 77, 78, 79, 80, 81, 82, 83, 84, 85, 86, 87, 88, 89, 90, 91, 92, 93, 94, 95, 96, 97, 98] (by decide +kernel) (by decide +kernel)
set_option maxRecDepth 20000 in
theorem gX8_hundredthsOf_X8_bar : GoodIn wsX8_hundredthsOf (wsV RX8 209 RX8 yX8_bar wsX8_bar) := goodIn_app (goodIn_of _ (by decide +kernel)) ggX8_hundredthsOf_X8_bar
theorem dX8_hundredthsOf_0 : decode cX8_hundredthsOf 0 = .ok (.aload_n 0, 1) := by decide +kernel
theorem dX8_hundredthsOf_1 : decode cX8_hundredthsOf 1 = .ok (.getfield 92, 3) := by decide +kernel
theorem dX8_hundredthsOf_4 : decode cX8_hundredthsOf 4 = .ok (.iload_n 1, 1) := by decide +kernel
theorem dX8_hundredthsOf_5 : decode cX8_hundredthsOf 5 = .ok (.iaload, 1) := by decide +kernel
theorem dX8_hundredthsOf_6 : decode cX8_hundredthsOf 6 = .ok (.iconst 1, 1) := by decide +kernel
theorem dX8_hundredthsOf_7 : decode cX8_hundredthsOf 7 = .ok (.if_icmp .eq 34, 3) := by decide +kernel
theorem dX8_hundredthsOf_10 : decode cX8_hundredthsOf 10 = .ok (.aload_n 0, 1) := by decide +kernel
theorem dX8_hundredthsOf_11 : decode cX8_hundredthsOf 11 = .ok (.getfield 92, 3) := by decide +kernel
theorem dX8_hundredthsOf_14 : decode cX8_hundredthsOf 14 = .ok (.iload_n 1, 1) := by decide +kernel
theorem dX8_hundredthsOf_15 : decode cX8_hundredthsOf 15 = .ok (.iaload, 1) := by decide +kernel
theorem dX8_hundredthsOf_16 : decode cX8_hundredthsOf 16 = .ok (.iconst 2, 1) := by decide +kernel
theorem dX8_hundredthsOf_17 : decode cX8_hundredthsOf 17 = .ok (.if_icmp .eq 24, 3) := by decide +kernel
theorem dX8_hundredthsOf_20 : decode cX8_hundredthsOf 20 = .ok (.aload_n 0, 1) := by decide +kernel
theorem dX8_hundredthsOf_21 : decode cX8_hundredthsOf 21 = .ok (.getfield 92, 3) := by decide +kernel
theorem dX8_hundredthsOf_24 : decode cX8_hundredthsOf 24 = .ok (.iload_n 1, 1) := by decide +kernel
theorem dX8_hundredthsOf_25 : decode cX8_hundredthsOf 25 = .ok (.iaload, 1) := by decide +kernel
theorem dX8_hundredthsOf_26 : decode cX8_hundredthsOf 26 = .ok (.iconst 4, 1) := by decide +kernel
theorem dX8_hundredthsOf_27 : decode cX8_hundredthsOf 27 = .ok (.if_icmp .ne 12, 3) := by decide +kernel
theorem dX8_hundredthsOf_30 : decode cX8_hundredthsOf 30 = .ok (.aload_n 0, 1) := by decide +kernel
theorem dX8_hundredthsOf_31 : decode cX8_hundredthsOf 31 = .ok (.getfield 113, 3) := by decide +kernel
theorem dX8_hundredthsOf_34 : decode cX8_hundredthsOf 34 = .ok (.iload_n 1, 1) := by decide +kernel
theorem dX8_hundredthsOf_35 : decode cX8_hundredthsOf 35 = .ok (.iaload, 1) := by decide +kernel
theorem dX8_hundredthsOf_36 : decode cX8_hundredthsOf 36 = .ok (.goto 4, 3) := by decide +kernel
theorem dX8_hundredthsOf_39 : decode cX8_hundredthsOf 39 = .ok (.iconst 0, 1) := by decide +kernel
theorem dX8_hundredthsOf_40 : decode cX8_hundredthsOf 40 = .ok (.ireturn, 1) := by decide +kernel
theorem dX8_hundredthsOf_41 : decode cX8_hundredthsOf 41 = .ok (.aload_n 0, 1) := by decide +kernel
theorem dX8_hundredthsOf_42 : decode cX8_hundredthsOf 42 = .ok (.getfield 92, 3) := by decide +kernel
theorem dX8_hundredthsOf_45 : decode cX8_hundredthsOf 45 = .ok (.iload_n 1, 1) := by decide +kernel
theorem dX8_hundredthsOf_46 : decode cX8_hundredthsOf 46 = .ok (.iaload, 1) := by decide +kernel
theorem dX8_hundredthsOf_47 : decode cX8_hundredthsOf 47 = .ok (.iconst 1, 1) := by decide +kernel
theorem dX8_hundredthsOf_48 : decode cX8_hundredthsOf 48 = .ok (.if_icmp .ne 15, 3) := by decide +kernel
theorem dX8_hundredthsOf_51 : decode cX8_hundredthsOf 51 = .ok (.bipush 15, 2) := by decide +kernel
theorem dX8_hundredthsOf_53 : decode cX8_hundredthsOf 53 = .ok (.aload_n 0, 1) := by decide +kernel
theorem dX8_hundredthsOf_54 : decode cX8_hundredthsOf 54 = .ok (.getfield 104, 3) := by decide +kernel
theorem dX8_hundredthsOf_57 : decode cX8_hundredthsOf 57 = .ok (.iload_n 1, 1) := by decide +kernel
theorem dX8_hundredthsOf_58 : decode cX8_hundredthsOf 58 = .ok (.iaload, 1) := by decide +kernel
theorem dX8_hundredthsOf_59 : decode cX8_hundredthsOf 59 = .ok (.iadd, 1) := by decide +kernel
theorem dX8_hundredthsOf_60 : decode cX8_hundredthsOf 60 = .ok (.goto 14, 3) := by decide +kernel
theorem dX8_hundredthsOf_63 : decode cX8_hundredthsOf 63 = .ok (.bipush 25, 2) := by decide +kernel
theorem dX8_hundredthsOf_65 : decode cX8_hundredthsOf 65 = .ok (.aload_n 0, 1) := by decide +kernel
theorem dX8_hundredthsOf_66 : decode cX8_hundredthsOf 66 = .ok (.getfield 104, 3) := by decide +kernel
theorem dX8_hundredthsOf_69 : decode cX8_hundredthsOf 69 = .ok (.iload_n 1, 1) := by decide +kernel
theorem dX8_hundredthsOf_70 : decode cX8_hundredthsOf 70 = .ok (.iaload, 1) := by decide +kernel
theorem dX8_hundredthsOf_71 : decode cX8_hundredthsOf 71 = .ok (.iconst 2, 1) := by decide +kernel
theorem dX8_hundredthsOf_72 : decode cX8_hundredthsOf 72 = .ok (.idiv, 1) := by decide +kernel
theorem dX8_hundredthsOf_73 : decode cX8_hundredthsOf 73 = .ok (.iadd, 1) := by decide +kernel
theorem dX8_hundredthsOf_74 : decode cX8_hundredthsOf 74 = .ok (.istore_n 2, 1) := by decide +kernel
theorem dX8_hundredthsOf_75 : decode cX8_hundredthsOf 75 = .ok (.iconst 0, 1) := by decide +kernel
theorem dX8_hundredthsOf_76 : decode cX8_hundredthsOf 76 = .ok (.istore_n 3, 1) := by decide +kernel
theorem dX8_hundredthsOf_77 : decode cX8_hundredthsOf 77 = .ok (.iconst 0, 1) := by decide +kernel
theorem dX8_hundredthsOf_78 : decode cX8_hundredthsOf 78 = .ok (.istore 4, 2) := by decide +kernel
theorem dX8_hundredthsOf_80 : decode cX8_hundredthsOf 80 = .ok (.iload 4, 2) := by decide +kernel
theorem dX8_hundredthsOf_82 : decode cX8_hundredthsOf 82 = .ok (.aload_n 0, 1) := by decide +kernel
theorem dX8_hundredthsOf_83 : decode cX8_hundredthsOf 83 = .ok (.getfield 160, 3) := by decide +kernel
theorem dX8_hundredthsOf_86 : decode cX8_hundredthsOf 86 = .ok (.if_icmp .ge 49, 3) := by decide +kernel
theorem dX8_hundredthsOf_89 : decode cX8_hundredthsOf 89 = .ok (.iload_n 3, 1) := by decide +kernel
theorem dX8_hundredthsOf_90 : decode cX8_hundredthsOf 90 = .ok (.ifCond .ne 33, 3) := by decide +kernel
theorem dX8_hundredthsOf_93 : decode cX8_hundredthsOf 93 = .ok (.aload_n 0, 1) := by decide +kernel
theorem dX8_hundredthsOf_94 : decode cX8_hundredthsOf 94 = .ok (.getfield 62, 3) := by decide +kernel
theorem dX8_hundredthsOf_97 : decode cX8_hundredthsOf 97 = .ok (.aload_n 0, 1) := by decide +kernel
theorem dX8_hundredthsOf_98 : decode cX8_hundredthsOf 98 = .ok (.getfield 77, 3) := by decide +kernel
theorem dX8_hundredthsOf_101 : decode cX8_hundredthsOf 101 = .ok (.iload_n 1, 1) := by decide +kernel
theorem dX8_hundredthsOf_102 : decode cX8_hundredthsOf 102 = .ok (.iaload, 1) := by decide +kernel
theorem dX8_hundredthsOf_103 : decode cX8_hundredthsOf 103 = .ok (.iaload, 1) := by decide +kernel
theorem dX8_hundredthsOf_104 : decode cX8_hundredthsOf 104 = .ok (.iload 4, 2) := by decide +kernel
theorem dX8_hundredthsOf_106 : decode cX8_hundredthsOf 106 = .ok (.ishr, 1) := by decide +kernel
theorem dX8_hundredthsOf_107 : decode cX8_hundredthsOf 107 = .ok (.iconst 1, 1) := by decide +kernel
theorem dX8_hundredthsOf_108 : decode cX8_hundredthsOf 108 = .ok (.iand, 1) := by decide +kernel
theorem dX8_hundredthsOf_109 : decode cX8_hundredthsOf 109 = .ok (.iconst 1, 1) := by decide +kernel
theorem dX8_hundredthsOf_110 : decode cX8_hundredthsOf 110 = .ok (.if_icmp .ne 17, 3) := by decide +kernel
theorem dX8_hundredthsOf_113 : decode cX8_hundredthsOf 113 = .ok (.aload_n 0, 1) := by decide +kernel
theorem dX8_hundredthsOf_114 : decode cX8_hundredthsOf 114 = .ok (.iload_n 1, 1) := by decide +kernel
theorem dX8_hundredthsOf_115 : decode cX8_hundredthsOf 115 = .ok (.iload 4, 2) := by decide +kernel
theorem dX8_hundredthsOf_117 : decode cX8_hundredthsOf 117 = .ok (.invokevirtual 209, 3) := by decide +kernel
theorem dX8_hundredthsOf_120 : decode cX8_hundredthsOf 120 = .ok (.ifCond .ne 7, 3) := by decide +kernel
theorem dX8_hundredthsOf_123 : decode cX8_hundredthsOf 123 = .ok (.iconst 1, 1) := by decide +kernel
theorem dX8_hundredthsOf_124 : decode cX8_hundredthsOf 124 = .ok (.goto 4, 3) := by decide +kernel
theorem dX8_hundredthsOf_127 : decode cX8_hundredthsOf 127 = .ok (.iconst 0, 1) := by decide +kernel
theorem dX8_hundredthsOf_128 : decode cX8_hundredthsOf 128 = .ok (.istore_n 3, 1) := by decide +kernel
theorem dX8_hundredthsOf_129 : decode cX8_hundredthsOf 129 = .ok (.iinc 4 1, 3) := by decide +kernel
theorem dX8_hundredthsOf_132 : decode cX8_hundredthsOf 132 = .ok (.goto (-52), 3) := by decide +kernel
theorem dX8_hundredthsOf_135 : decode cX8_hundredthsOf 135 = .ok (.iload_n 3, 1) := by decide +kernel
theorem dX8_hundredthsOf_136 : decode cX8_hundredthsOf 136 = .ok (.ifCond .eq 9, 3) := by decide +kernel
theorem dX8_hundredthsOf_139 : decode cX8_hundredthsOf 139 = .ok (.iload_n 2, 1) := by decide +kernel
theorem dX8_hundredthsOf_140 : decode cX8_hundredthsOf 140 = .ok (.iconst 2, 1) := by decide +kernel
theorem dX8_hundredthsOf_141 : decode cX8_hundredthsOf 141 = .ok (.idiv, 1) := by decide +kernel
theorem dX8_hundredthsOf_142 : decode cX8_hundredthsOf 142 = .ok (.goto 4, 3) := by decide +kernel
theorem dX8_hundredthsOf_145 : decode cX8_hundredthsOf 145 = .ok (.iload_n 2, 1) := by decide +kernel
theorem dX8_hundredthsOf_146 : decode cX8_hundredthsOf 146 = .ok (.ireturn, 1) := by decide +kernel
set_option maxRecDepth 20000 in
theorem ggX8_wins_X8_hundredthsOf : GoodIn wsX8_wins wsX8_hundredthsOf := goodIn_r _ [25, 20, 2, 26, 27, 28, 11, 29, 30, 31, 24, 32, 33, 34, 35, 36, 37, 38, 39, 1, 40, 41, 13, 42, 43, 44, 45, 46, 47, 48, 49, 50, 51, 52, 53, 54, 55, 56, 57, 58, 59, 60, 61, 62, 70, 71, 72, 73, 74, 75, 76, 77, 78, 79, 80, 81, 82, 83, 84, 85, 86, 87, 88, 89, 90, 91, 92, 93, 94, 95, 96, 97, 98, 99, 100, 101, 102, 103, 104, 105, 106, 107, 108, 109, 110, 111, 112, 113, 114, 115, 116, 117, 118, 119, 120, 121, 122, 123, 124] (by decide +kernel) (by decide +kernel)
set_option maxRecDepth 20000 in
theorem gX8_wins_X8_hundredthsOf : GoodIn wsX8_wins (wsV RX8 224 RX8 yX8_hundredthsOf wsX8_hundredthsOf) := goodIn_app (goodIn_of _ (by decide +kernel)) ggX8_wins_X8_hundredthsOf
set_option maxRecDepth 20000 in
theorem ggX8_wins_X8_counts : GoodIn wsX8_wins wsX8_counts := goodIn_r _ [66, 67, 68, 69, 19, 29, 30, 31, 24, 32, 33, 34, 35, 36, 37, 38, 39, 1, 40, 41, 13, 42, 43, 44, 45, 46, 47, 48, 49, 50, 51, 52, 53, 54, 55, 56, 57, 20, 58, 59, 60, 61, 62, 70, 71, 72, 73, 74, 75, 76, 77, 78, 79, 80, 81, 82, 83, 84, 85, 86, 87, 88, 89, 90, 91, 92, 93, 94, 95, 96, 97, 98, 99, 100, 101, 102, 103, 104, 105, 106, 107, 108, 109, 110, 111, 112, 113, 114, 115, 116, 117, 118, 119, 120, 121, 122, 123, 124] (by decide +kernel) (by decide +kernel)
set_option maxRecDepth 20000 in
theorem gX8_wins_X8_counts : GoodIn wsX8_wins (wsV RX8 212 RX8 yX8_counts wsX8_counts) := goodIn_app (goodIn_of _ (by decide +kernel)) ggX8_wins_X8_counts
theorem dX8_wins_0 : decode cX8_wins 0 = .ok (.aload_n 0, 1) := by decide +kernel
theorem dX8_wins_1 : decode cX8_wins 1 = .ok (.getfield 80, 3) := by decide +kernel
theorem dX8_wins_4 : decode cX8_wins 4 = .ok (.iload_n 1, 1) := by decide +kernel
theorem dX8_wins_5 : decode cX8_wins 5 = .ok (.iaload, 1) := by decide +kernel
theorem dX8_wins_6 : decode cX8_wins 6 = .ok (.istore_n 3, 1) := by decide +kernel
theorem dX8_wins_7 : decode cX8_wins 7 = .ok (.aload_n 0, 1) := by decide +kernel
theorem dX8_wins_8 : decode cX8_wins 8 = .ok (.getfield 113, 3) := by decide +kernel
theorem dX8_wins_11 : decode cX8_wins 11 = .ok (.iload_n 1, 1) := by decide +kernel
theorem dX8_wins_12 : decode cX8_wins 12 = .ok (.aload_n 0, 1) := by decide +kernel
theorem dX8_wins_13 : decode cX8_wins 13 = .ok (.iload_n 1, 1) := by decide +kernel
theorem dX8_wins_14 : decode cX8_wins 14 = .ok (.invokevirtual 224, 3) := by decide +kernel
theorem dX8_wins_17 : decode cX8_wins 17 = .ok (.iastore, 1) := by decide +kernel
theorem dX8_wins_18 : decode cX8_wins 18 = .ok (.aload_n 0, 1) := by decide +kernel
theorem dX8_wins_19 : decode cX8_wins 19 = .ok (.getfield 107, 3) := by decide +kernel
theorem dX8_wins_22 : decode cX8_wins 22 = .ok (.iload_n 1, 1) := by decide +kernel
theorem dX8_wins_23 : decode cX8_wins 23 = .ok (.iload_n 2, 1) := by decide +kernel
theorem dX8_wins_24 : decode cX8_wins 24 = .ok (.iastore, 1) := by decide +kernel
theorem dX8_wins_25 : decode cX8_wins 25 = .ok (.aload_n 0, 1) := by decide +kernel
theorem dX8_wins_26 : decode cX8_wins 26 = .ok (.getfield 110, 3) := by decide +kernel
theorem dX8_wins_29 : decode cX8_wins 29 = .ok (.iload_n 1, 1) := by decide +kernel
theorem dX8_wins_30 : decode cX8_wins 30 = .ok (.iload_n 2, 1) := by decide +kernel
theorem dX8_wins_31 : decode cX8_wins 31 = .ok (.i2l, 1) := by decide +kernel
theorem dX8_wins_32 : decode cX8_wins 32 = .ok (.aload_n 0, 1) := by decide +kernel
theorem dX8_wins_33 : decode cX8_wins 33 = .ok (.getfield 113, 3) := by decide +kernel
theorem dX8_wins_36 : decode cX8_wins 36 = .ok (.iload_n 1, 1) := by decide +kernel
theorem dX8_wins_37 : decode cX8_wins 37 = .ok (.iaload, 1) := by decide +kernel
theorem dX8_wins_38 : decode cX8_wins 38 = .ok (.i2l, 1) := by decide +kernel
theorem dX8_wins_39 : decode cX8_wins 39 = .ok (.lmul, 1) := by decide +kernel
theorem dX8_wins_40 : decode cX8_wins 40 = .ok (.ldc2_w 227, 3) := by decide +kernel
theorem dX8_wins_43 : decode cX8_wins 43 = .ok (.ldiv, 1) := by decide +kernel
theorem dX8_wins_44 : decode cX8_wins 44 = .ok (.l2i, 1) := by decide +kernel
theorem dX8_wins_45 : decode cX8_wins 45 = .ok (.iastore, 1) := by decide +kernel
theorem dX8_wins_46 : decode cX8_wins 46 = .ok (.aload_n 0, 1) := by decide +kernel
theorem dX8_wins_47 : decode cX8_wins 47 = .ok (.getfield 7, 3) := by decide +kernel
theorem dX8_wins_50 : decode cX8_wins 50 = .ok (.iload_n 3, 1) := by decide +kernel
theorem dX8_wins_51 : decode cX8_wins 51 = .ok (.dup2, 1) := by decide +kernel
theorem dX8_wins_52 : decode cX8_wins 52 = .ok (.iaload, 1) := by decide +kernel
theorem dX8_wins_53 : decode cX8_wins 53 = .ok (.iload_n 2, 1) := by decide +kernel
theorem dX8_wins_54 : decode cX8_wins 54 = .ok (.isub, 1) := by decide +kernel
theorem dX8_wins_55 : decode cX8_wins 55 = .ok (.iastore, 1) := by decide +kernel
theorem dX8_wins_56 : decode cX8_wins 56 = .ok (.aload_n 0, 1) := by decide +kernel
theorem dX8_wins_57 : decode cX8_wins 57 = .ok (.getfield 16, 3) := by decide +kernel
theorem dX8_wins_60 : decode cX8_wins 60 = .ok (.iload_n 3, 1) := by decide +kernel
theorem dX8_wins_61 : decode cX8_wins 61 = .ok (.dup2, 1) := by decide +kernel
theorem dX8_wins_62 : decode cX8_wins 62 = .ok (.iaload, 1) := by decide +kernel
theorem dX8_wins_63 : decode cX8_wins 63 = .ok (.iload_n 2, 1) := by decide +kernel
theorem dX8_wins_64 : decode cX8_wins 64 = .ok (.iadd, 1) := by decide +kernel
theorem dX8_wins_65 : decode cX8_wins 65 = .ok (.iastore, 1) := by decide +kernel
theorem dX8_wins_66 : decode cX8_wins 66 = .ok (.aload_n 0, 1) := by decide +kernel
theorem dX8_wins_67 : decode cX8_wins 67 = .ok (.dup, 1) := by decide +kernel
theorem dX8_wins_68 : decode cX8_wins 68 = .ok (.getfield 229, 3) := by decide +kernel
theorem dX8_wins_71 : decode cX8_wins 71 = .ok (.iload_n 2, 1) := by decide +kernel
theorem dX8_wins_72 : decode cX8_wins 72 = .ok (.aload_n 0, 1) := by decide +kernel
theorem dX8_wins_73 : decode cX8_wins 73 = .ok (.getfield 110, 3) := by decide +kernel
theorem dX8_wins_76 : decode cX8_wins 76 = .ok (.iload_n 1, 1) := by decide +kernel
theorem dX8_wins_77 : decode cX8_wins 77 = .ok (.iaload, 1) := by decide +kernel
theorem dX8_wins_78 : decode cX8_wins 78 = .ok (.isub, 1) := by decide +kernel
theorem dX8_wins_79 : decode cX8_wins 79 = .ok (.iadd, 1) := by decide +kernel
theorem dX8_wins_80 : decode cX8_wins 80 = .ok (.putfield 229, 3) := by decide +kernel
theorem dX8_wins_83 : decode cX8_wins 83 = .ok (.aload_n 0, 1) := by decide +kernel
theorem dX8_wins_84 : decode cX8_wins 84 = .ok (.getfield 110, 3) := by decide +kernel
theorem dX8_wins_87 : decode cX8_wins 87 = .ok (.iload_n 1, 1) := by decide +kernel
theorem dX8_wins_88 : decode cX8_wins 88 = .ok (.iaload, 1) := by decide +kernel
theorem dX8_wins_89 : decode cX8_wins 89 = .ok (.istore 4, 2) := by decide +kernel
theorem dX8_wins_91 : decode cX8_wins 91 = .ok (.iconst 0, 1) := by decide +kernel
theorem dX8_wins_92 : decode cX8_wins 92 = .ok (.istore 5, 2) := by decide +kernel
theorem dX8_wins_94 : decode cX8_wins 94 = .ok (.iload 5, 2) := by decide +kernel
theorem dX8_wins_96 : decode cX8_wins 96 = .ok (.aload_n 0, 1) := by decide +kernel
theorem dX8_wins_97 : decode cX8_wins 97 = .ok (.getfield 215, 3) := by decide +kernel
theorem dX8_wins_100 : decode cX8_wins 100 = .ok (.if_icmp .ge 88, 3) := by decide +kernel
theorem dX8_wins_103 : decode cX8_wins 103 = .ok (.aload_n 0, 1) := by decide +kernel
theorem dX8_wins_104 : decode cX8_wins 104 = .ok (.getfield 65, 3) := by decide +kernel
theorem dX8_wins_107 : decode cX8_wins 107 = .ok (.iload 5, 2) := by decide +kernel
theorem dX8_wins_109 : decode cX8_wins 109 = .ok (.iaload, 1) := by decide +kernel
theorem dX8_wins_110 : decode cX8_wins 110 = .ok (.aload_n 0, 1) := by decide +kernel
theorem dX8_wins_111 : decode cX8_wins 111 = .ok (.getfield 77, 3) := by decide +kernel
theorem dX8_wins_114 : decode cX8_wins 114 = .ok (.iload_n 1, 1) := by decide +kernel
theorem dX8_wins_115 : decode cX8_wins 115 = .ok (.iaload, 1) := by decide +kernel
theorem dX8_wins_116 : decode cX8_wins 116 = .ok (.if_icmp .ne 66, 3) := by decide +kernel
theorem dX8_wins_119 : decode cX8_wins 119 = .ok (.aload_n 0, 1) := by decide +kernel
theorem dX8_wins_120 : decode cX8_wins 120 = .ok (.getfield 74, 3) := by decide +kernel
theorem dX8_wins_123 : decode cX8_wins 123 = .ok (.iload 5, 2) := by decide +kernel
theorem dX8_wins_125 : decode cX8_wins 125 = .ok (.iaload, 1) := by decide +kernel
theorem dX8_wins_126 : decode cX8_wins 126 = .ok (.aload_n 0, 1) := by decide +kernel
theorem dX8_wins_127 : decode cX8_wins 127 = .ok (.getfield 89, 3) := by decide +kernel
theorem dX8_wins_130 : decode cX8_wins 130 = .ok (.iload_n 1, 1) := by decide +kernel
theorem dX8_wins_131 : decode cX8_wins 131 = .ok (.iaload, 1) := by decide +kernel
theorem dX8_wins_132 : decode cX8_wins 132 = .ok (.if_icmp .ge 50, 3) := by decide +kernel
theorem dX8_wins_135 : decode cX8_wins 135 = .ok (.aload_n 0, 1) := by decide +kernel
theorem dX8_wins_136 : decode cX8_wins 136 = .ok (.getfield 110, 3) := by decide +kernel
theorem dX8_wins_139 : decode cX8_wins 139 = .ok (.iload_n 1, 1) := by decide +kernel
theorem dX8_wins_140 : decode cX8_wins 140 = .ok (.iaload, 1) := by decide +kernel
theorem dX8_wins_141 : decode cX8_wins 141 = .ok (.i2l, 1) := by decide +kernel
theorem dX8_wins_142 : decode cX8_wins 142 = .ok (.aload_n 0, 1) := by decide +kernel
theorem dX8_wins_143 : decode cX8_wins 143 = .ok (.getfield 71, 3) := by decide +kernel
theorem dX8_wins_146 : decode cX8_wins 146 = .ok (.iload 5, 2) := by decide +kernel
theorem dX8_wins_148 : decode cX8_wins 148 = .ok (.iaload, 1) := by decide +kernel
theorem dX8_wins_149 : decode cX8_wins 149 = .ok (.i2l, 1) := by decide +kernel
theorem dX8_wins_150 : decode cX8_wins 150 = .ok (.lmul, 1) := by decide +kernel
theorem dX8_wins_151 : decode cX8_wins 151 = .ok (.ldc2_w 227, 3) := by decide +kernel
theorem dX8_wins_154 : decode cX8_wins 154 = .ok (.ldiv, 1) := by decide +kernel
theorem dX8_wins_155 : decode cX8_wins 155 = .ok (.l2i, 1) := by decide +kernel
theorem dX8_wins_156 : decode cX8_wins 156 = .ok (.istore 6, 2) := by decide +kernel
theorem dX8_wins_158 : decode cX8_wins 158 = .ok (.aload_n 0, 1) := by decide +kernel
theorem dX8_wins_159 : decode cX8_wins 159 = .ok (.getfield 128, 3) := by decide +kernel
theorem dX8_wins_162 : decode cX8_wins 162 = .ok (.aload_n 0, 1) := by decide +kernel
theorem dX8_wins_163 : decode cX8_wins 163 = .ok (.getfield 68, 3) := by decide +kernel
theorem dX8_wins_166 : decode cX8_wins 166 = .ok (.iload 5, 2) := by decide +kernel
theorem dX8_wins_168 : decode cX8_wins 168 = .ok (.iaload, 1) := by decide +kernel
theorem dX8_wins_169 : decode cX8_wins 169 = .ok (.dup2, 1) := by decide +kernel
theorem dX8_wins_170 : decode cX8_wins 170 = .ok (.iaload, 1) := by decide +kernel
theorem dX8_wins_171 : decode cX8_wins 171 = .ok (.iload 6, 2) := by decide +kernel
theorem dX8_wins_173 : decode cX8_wins 173 = .ok (.iadd, 1) := by decide +kernel
theorem dX8_wins_174 : decode cX8_wins 174 = .ok (.iastore, 1) := by decide +kernel
theorem dX8_wins_175 : decode cX8_wins 175 = .ok (.iload 4, 2) := by decide +kernel
theorem dX8_wins_177 : decode cX8_wins 177 = .ok (.iload 6, 2) := by decide +kernel
theorem dX8_wins_179 : decode cX8_wins 179 = .ok (.isub, 1) := by decide +kernel
theorem dX8_wins_180 : decode cX8_wins 180 = .ok (.istore 4, 2) := by decide +kernel
theorem dX8_wins_182 : decode cX8_wins 182 = .ok (.iinc 5 1, 3) := by decide +kernel
theorem dX8_wins_185 : decode cX8_wins 185 = .ok (.goto (-91), 3) := by decide +kernel
theorem dX8_wins_188 : decode cX8_wins 188 = .ok (.aload_n 0, 1) := by decide +kernel
theorem dX8_wins_189 : decode cX8_wins 189 = .ok (.getfield 125, 3) := by decide +kernel
theorem dX8_wins_192 : decode cX8_wins 192 = .ok (.aload_n 0, 1) := by decide +kernel
theorem dX8_wins_193 : decode cX8_wins 193 = .ok (.getfield 77, 3) := by decide +kernel
theorem dX8_wins_196 : decode cX8_wins 196 = .ok (.iload_n 1, 1) := by decide +kernel
theorem dX8_wins_197 : decode cX8_wins 197 = .ok (.iaload, 1) := by decide +kernel
theorem dX8_wins_198 : decode cX8_wins 198 = .ok (.dup2, 1) := by decide +kernel
theorem dX8_wins_199 : decode cX8_wins 199 = .ok (.iaload, 1) := by decide +kernel
theorem dX8_wins_200 : decode cX8_wins 200 = .ok (.iload 4, 2) := by decide +kernel
theorem dX8_wins_202 : decode cX8_wins 202 = .ok (.iadd, 1) := by decide +kernel
theorem dX8_wins_203 : decode cX8_wins 203 = .ok (.iastore, 1) := by decide +kernel
theorem dX8_wins_204 : decode cX8_wins 204 = .ok (.iconst 0, 1) := by decide +kernel
theorem dX8_wins_205 : decode cX8_wins 205 = .ok (.istore 5, 2) := by decide +kernel
theorem dX8_wins_207 : decode cX8_wins 207 = .ok (.iload 5, 2) := by decide +kernel
theorem dX8_wins_209 : decode cX8_wins 209 = .ok (.aload_n 0, 1) := by decide +kernel
theorem dX8_wins_210 : decode cX8_wins 210 = .ok (.getfield 176, 3) := by decide +kernel
theorem dX8_wins_213 : decode cX8_wins 213 = .ok (.if_icmp .ge 37, 3) := by decide +kernel
theorem dX8_wins_216 : decode cX8_wins 216 = .ok (.aload_n 0, 1) := by decide +kernel
theorem dX8_wins_217 : decode cX8_wins 217 = .ok (.getfield 53, 3) := by decide +kernel
theorem dX8_wins_220 : decode cX8_wins 220 = .ok (.iload 5, 2) := by decide +kernel
theorem dX8_wins_222 : decode cX8_wins 222 = .ok (.aload_n 0, 1) := by decide +kernel
theorem dX8_wins_223 : decode cX8_wins 223 = .ok (.iload 5, 2) := by decide +kernel
theorem dX8_wins_225 : decode cX8_wins 225 = .ok (.iload_n 1, 1) := by decide +kernel
theorem dX8_wins_226 : decode cX8_wins 226 = .ok (.invokevirtual 212, 3) := by decide +kernel
theorem dX8_wins_229 : decode cX8_wins 229 = .ok (.ifCond .eq 7, 3) := by decide +kernel
theorem dX8_wins_232 : decode cX8_wins 232 = .ok (.iload_n 1, 1) := by decide +kernel
theorem dX8_wins_233 : decode cX8_wins 233 = .ok (.goto 10, 3) := by decide +kernel
theorem dX8_wins_236 : decode cX8_wins 236 = .ok (.aload_n 0, 1) := by decide +kernel
theorem dX8_wins_237 : decode cX8_wins 237 = .ok (.getfield 53, 3) := by decide +kernel
theorem dX8_wins_240 : decode cX8_wins 240 = .ok (.iload 5, 2) := by decide +kernel
theorem dX8_wins_242 : decode cX8_wins 242 = .ok (.iaload, 1) := by decide +kernel
theorem dX8_wins_243 : decode cX8_wins 243 = .ok (.iastore, 1) := by decide +kernel
theorem dX8_wins_244 : decode cX8_wins 244 = .ok (.iinc 5 1, 3) := by decide +kernel
theorem dX8_wins_247 : decode cX8_wins 247 = .ok (.goto (-40), 3) := by decide +kernel
theorem dX8_wins_250 : decode cX8_wins 250 = .ok (.aload_n 0, 1) := by decide +kernel
theorem dX8_wins_251 : decode cX8_wins 251 = .ok (.getfield 92, 3) := by decide +kernel
theorem dX8_wins_254 : decode cX8_wins 254 = .ok (.iload_n 1, 1) := by decide +kernel
theorem dX8_wins_255 : decode cX8_wins 255 = .ok (.iconst 4, 1) := by decide +kernel
theorem dX8_wins_256 : decode cX8_wins 256 = .ok (.iastore, 1) := by decide +kernel
theorem dX8_wins_257 : decode cX8_wins 257 = .ok (.return_, 1) := by decide +kernel
set_option maxRecDepth 20000 in
theorem ggX8_judge_X8_isSuit : GoodIn wsX8_judge wsX8_isSuit := goodIn_r _ [9, 10, 11, 12, 8, 13, 91, 92, 93, 94, 95, 96, 97, 98, 99, 100, 101, 102, 103, 104, 105, 106, 107, 108, 109, 110, 111, 112, 113, 114, 115, 116, 117, 118, 119, 120, 121, 122, 123, 124, 125, 126, 127, 128, 129, 130, 131, 132, 133, 134, 135, 136, 137, 138, 139, 140, 141, 142, 143, 144, 145] (by decide +kernel) (by decide +kernel)
set_option maxRecDepth 20000 in
theorem gX8_judge_X8_isSuit : GoodIn wsX8_judge (wsV RX8 218 RX8 yX8_isSuit wsX8_isSuit) := goodIn_app (goodIn_of _ (by decide +kernel)) ggX8_judge_X8_isSuit
set_option maxRecDepth 20000 in
theorem ggX8_judge_X8_dues : GoodIn wsX8_judge wsX8_dues := goodIn_r _ [17, 18, 1, 19, 20, 21, 22, 23, 24, 25, 26, 27, 28, 8, 29, 30, 31, 32, 33, 34, 35, 36, 37, 38, 39, 40, 41, 42, 43, 4, 44, 45, 46, 47, 48, 49, 50, 51, 52, 53, 54, 55, 56, 57, 58, 59, 60, 61, 10, 62, 63, 64, 65, 66, 91, 92, 93, 94, 95, 96, 97, 98, 99, 100, 101, 102, 103, 104, 105, 106, 107, 108, 109, 110, 111, 112, 113, 114, 115, 116, 117, 118, 119, 120, 121, 122, 123, 124, 125, 126, 127, 128, 129, 130, 131, 132, 133, 134, 135, 136, 137, 138, 139, 140, 141, 142, 143, 144, 145] (by decide +kernel) (by decide +kernel)
set_option maxRecDepth 20000 in
theorem gX8_judge_X8_dues : GoodIn wsX8_judge (wsV RX8 232 RX8 yX8_dues wsX8_dues) := goodIn_app (goodIn_of _ (by decide +kernel)) ggX8_judge_X8_dues
set_option maxRecDepth 20000 in
theorem ggX8_judge_X8_wins : GoodIn wsX8_judge wsX8_wins := goodIn_r _ [70, 4, 71, 72, 73, 74, 3, 75, 76, 77, 78, 79, 80, 46, 81, 82, 83, 84, 19, 32, 1, 85, 86, 87, 8, 88, 89, 18, 90, 33, 34, 35, 36, 37, 38, 39, 40, 41, 42, 43, 44, 45, 47, 48, 49, 50, 51, 52, 53, 54, 55, 56, 57, 58, 59, 60, 61, 10, 62, 63, 64, 65, 66, 26, 27, 28, 29, 20, 30, 31, 91, 92, 93, 94, 95, 96, 97, 98, 99, 100, 101, 102, 103, 104, 105, 106, 107, 108, 109, 110, 111, 112, 113, 114, 115, 116, 117, 118, 119, 120, 121, 122, 123, 124, 125, 126, 127, 128, 129, 130, 131, 132, 133, 134, 135, 136, 137, 138, 139, 140, 141, 142, 143, 144, 145] (by decide +kernel) (by decide +kernel)
set_option maxRecDepth 20000 in
theorem gX8_judge_X8_wins : GoodIn wsX8_judge (wsV RX8 235 RX8 yX8_wins wsX8_wins) := goodIn_app (goodIn_of _ (by decide +kernel)) ggX8_judge_X8_wins
theorem dX8_judge_0 : decode cX8_judge 0 = .ok (.aload_n 0, 1) := by decide +kernel
theorem dX8_judge_1 : decode cX8_judge 1 = .ok (.aload_n 0, 1) := by decide +kernel
theorem dX8_judge_2 : decode cX8_judge 2 = .ok (.iload_n 1, 1) := by decide +kernel
theorem dX8_judge_3 : decode cX8_judge 3 = .ok (.invokevirtual 218, 3) := by decide +kernel
theorem dX8_judge_6 : decode cX8_judge 6 = .ok (.ifCond .ne 7, 3) := by decide +kernel
theorem dX8_judge_9 : decode cX8_judge 9 = .ok (.iconst 1, 1) := by decide +kernel
theorem dX8_judge_10 : decode cX8_judge 10 = .ok (.goto 28, 3) := by decide +kernel
theorem dX8_judge_13 : decode cX8_judge 13 = .ok (.aload_n 0, 1) := by decide +kernel
theorem dX8_judge_14 : decode cX8_judge 14 = .ok (.getfield 92, 3) := by decide +kernel
theorem dX8_judge_17 : decode cX8_judge 17 = .ok (.iload_n 1, 1) := by decide +kernel
theorem dX8_judge_18 : decode cX8_judge 18 = .ok (.iaload, 1) := by decide +kernel
theorem dX8_judge_19 : decode cX8_judge 19 = .ok (.iconst 1, 1) := by decide +kernel
theorem dX8_judge_20 : decode cX8_judge 20 = .ok (.if_icmp .eq 17, 3) := by decide +kernel
theorem dX8_judge_23 : decode cX8_judge 23 = .ok (.aload_n 0, 1) := by decide +kernel
theorem dX8_judge_24 : decode cX8_judge 24 = .ok (.getfield 92, 3) := by decide +kernel
theorem dX8_judge_27 : decode cX8_judge 27 = .ok (.iload_n 1, 1) := by decide +kernel
theorem dX8_judge_28 : decode cX8_judge 28 = .ok (.iaload, 1) := by decide +kernel
theorem dX8_judge_29 : decode cX8_judge 29 = .ok (.iconst 2, 1) := by decide +kernel
theorem dX8_judge_30 : decode cX8_judge 30 = .ok (.if_icmp .eq 7, 3) := by decide +kernel
theorem dX8_judge_33 : decode cX8_judge 33 = .ok (.iconst 2, 1) := by decide +kernel
theorem dX8_judge_34 : decode cX8_judge 34 = .ok (.goto 4, 3) := by decide +kernel
theorem dX8_judge_37 : decode cX8_judge 37 = .ok (.iconst 0, 1) := by decide +kernel
theorem dX8_judge_38 : decode cX8_judge 38 = .ok (.putfield 152, 3) := by decide +kernel
theorem dX8_judge_41 : decode cX8_judge 41 = .ok (.aload_n 0, 1) := by decide +kernel
theorem dX8_judge_42 : decode cX8_judge 42 = .ok (.getfield 152, 3) := by decide +kernel
theorem dX8_judge_45 : decode cX8_judge 45 = .ok (.ifCond .le 5, 3) := by decide +kernel
theorem dX8_judge_48 : decode cX8_judge 48 = .ok (.iconst 0, 1) := by decide +kernel
theorem dX8_judge_49 : decode cX8_judge 49 = .ok (.ireturn, 1) := by decide +kernel
theorem dX8_judge_50 : decode cX8_judge 50 = .ok (.aload_n 0, 1) := by decide +kernel
theorem dX8_judge_51 : decode cX8_judge 51 = .ok (.iload_n 1, 1) := by decide +kernel
theorem dX8_judge_52 : decode cX8_judge 52 = .ok (.invokevirtual 232, 3) := by decide +kernel
theorem dX8_judge_55 : decode cX8_judge 55 = .ok (.istore_n 2, 1) := by decide +kernel
theorem dX8_judge_56 : decode cX8_judge 56 = .ok (.iload_n 2, 1) := by decide +kernel
theorem dX8_judge_57 : decode cX8_judge 57 = .ok (.aload_n 0, 1) := by decide +kernel
theorem dX8_judge_58 : decode cX8_judge 58 = .ok (.getfield 7, 3) := by decide +kernel
theorem dX8_judge_61 : decode cX8_judge 61 = .ok (.aload_n 0, 1) := by decide +kernel
theorem dX8_judge_62 : decode cX8_judge 62 = .ok (.getfield 80, 3) := by decide +kernel
theorem dX8_judge_65 : decode cX8_judge 65 = .ok (.iload_n 1, 1) := by decide +kernel
theorem dX8_judge_66 : decode cX8_judge 66 = .ok (.iaload, 1) := by decide +kernel
theorem dX8_judge_67 : decode cX8_judge 67 = .ok (.iaload, 1) := by decide +kernel
theorem dX8_judge_68 : decode cX8_judge 68 = .ok (.if_icmp .ge 7, 3) := by decide +kernel
theorem dX8_judge_71 : decode cX8_judge 71 = .ok (.iload_n 2, 1) := by decide +kernel
theorem dX8_judge_72 : decode cX8_judge 72 = .ok (.goto 14, 3) := by decide +kernel
theorem dX8_judge_75 : decode cX8_judge 75 = .ok (.aload_n 0, 1) := by decide +kernel
theorem dX8_judge_76 : decode cX8_judge 76 = .ok (.getfield 7, 3) := by decide +kernel
theorem dX8_judge_79 : decode cX8_judge 79 = .ok (.aload_n 0, 1) := by decide +kernel
theorem dX8_judge_80 : decode cX8_judge 80 = .ok (.getfield 80, 3) := by decide +kernel
theorem dX8_judge_83 : decode cX8_judge 83 = .ok (.iload_n 1, 1) := by decide +kernel
theorem dX8_judge_84 : decode cX8_judge 84 = .ok (.iaload, 1) := by decide +kernel
theorem dX8_judge_85 : decode cX8_judge 85 = .ok (.iaload, 1) := by decide +kernel
theorem dX8_judge_86 : decode cX8_judge 86 = .ok (.istore_n 3, 1) := by decide +kernel
theorem dX8_judge_87 : decode cX8_judge 87 = .ok (.aload_n 0, 1) := by decide +kernel
theorem dX8_judge_88 : decode cX8_judge 88 = .ok (.iload_n 1, 1) := by decide +kernel
theorem dX8_judge_89 : decode cX8_judge 89 = .ok (.iload_n 3, 1) := by decide +kernel
theorem dX8_judge_90 : decode cX8_judge 90 = .ok (.invokevirtual 235, 3) := by decide +kernel
theorem dX8_judge_93 : decode cX8_judge 93 = .ok (.iload_n 3, 1) := by decide +kernel
theorem dX8_judge_94 : decode cX8_judge 94 = .ok (.ireturn, 1) := by decide +kernel
set_option maxRecDepth 20000 in
theorem ggX8_settle_X8_isSuit : GoodIn wsX8_settle wsX8_isSuit := goodIn_r _ [11, 12, 13, 14, 10, 15, 92, 93, 94, 95, 96, 97, 98, 99, 100, 101, 102, 103, 104, 105, 106, 107, 108, 109, 110, 111, 112, 113, 114, 115, 116, 117, 118, 119, 120, 121, 122, 123, 124, 125, 126, 127, 128, 129, 130, 131, 132, 133, 134, 135, 136, 137, 138, 139, 140, 141, 142, 143, 144, 145, 146] (by decide +kernel) (by decide +kernel)
set_option maxRecDepth 20000 in
theorem gX8_settle_X8_isSuit : GoodIn wsX8_settle (wsV RX8 218 RX8 yX8_isSuit wsX8_isSuit) := goodIn_app (goodIn_of _ (by decide +kernel)) ggX8_settle_X8_isSuit
set_option maxRecDepth 20000 in
theorem ggX8_settle_X8_in : GoodIn wsX8_settle wsX8_in := goodIn_r _ [15] (by decide +kernel) (by decide +kernel)
set_option maxRecDepth 20000 in
theorem gX8_settle_X8_in : GoodIn wsX8_settle (va_wsS RX8 156 yX8_in wsX8_in) := goodIn_app (goodIn_of _ (by decide +kernel)) ggX8_settle_X8_in
set_option maxRecDepth 20000 in
theorem ggX8_settle_X8_dues : GoodIn wsX8_settle wsX8_dues := goodIn_r _ [19, 20, 3, 21, 22, 23, 24, 25, 26, 27, 28, 29, 30, 10, 31, 32, 33, 34, 35, 36, 37, 38, 39, 40, 41, 42, 43, 44, 45, 5, 46, 47, 48, 49, 50, 51, 52, 53, 54, 55, 56, 57, 58, 59, 60, 61, 62, 63, 12, 64, 65, 66, 67, 68, 92, 93, 94, 95, 96, 97, 98, 99, 100, 101, 102, 103, 104, 105, 106, 107, 108, 109, 110, 111, 112, 113, 114, 115, 116, 117, 118, 119, 120, 121, 122, 123, 124, 125, 126, 127, 128, 129, 130, 131, 132, 133, 134, 135, 136, 137, 138, 139, 140, 141, 142, 143, 144, 145, 146] (by decide +kernel) (by decide +kernel)
set_option maxRecDepth 20000 in
theorem gX8_settle_X8_dues : GoodIn wsX8_settle (wsV RX8 232 RX8 yX8_dues wsX8_dues) := goodIn_app (goodIn_of _ (by decide +kernel)) ggX8_settle_X8_dues
set_option maxRecDepth 20000 in
theorem ggX8_settle_X8_wins : GoodIn wsX8_settle wsX8_wins := goodIn_r _ [72, 5, 73, 74, 6, 75, 4, 76, 77, 78, 79, 80, 81, 48, 82, 83, 84, 85, 21, 34, 3, 86, 87, 88, 10, 89, 90, 20, 91, 35, 36, 37, 38, 39, 40, 41, 42, 43, 44, 45, 46, 47, 49, 50, 51, 52, 53, 54, 55, 56, 57, 58, 59, 60, 61, 62, 63, 12, 64, 65, 66, 67, 68, 28, 29, 30, 31, 22, 32, 33, 92, 93, 94, 95, 96, 97, 98, 99, 100, 101, 102, 103, 104, 105, 106, 107, 108, 109, 110, 111, 112, 113, 114, 115, 116, 117, 118, 119, 120, 121, 122, 123, 124, 125, 126, 127, 128, 129, 130, 131, 132, 133, 134, 135, 136, 137, 138, 139, 140, 141, 142, 143, 144, 145, 146] (by decide +kernel) (by decide +kernel)
set_option maxRecDepth 20000 in
theorem gX8_settle_X8_wins : GoodIn wsX8_settle (wsV RX8 235 RX8 yX8_wins wsX8_wins) := goodIn_app (goodIn_of _ (by decide +kernel)) ggX8_settle_X8_wins
theorem dX8_settle_0 : decode cX8_settle 0 = .ok (.aload_n 0, 1) := by decide +kernel
theorem dX8_settle_1 : decode cX8_settle 1 = .ok (.aload_n 0, 1) := by decide +kernel
theorem dX8_settle_2 : decode cX8_settle 2 = .ok (.iload_n 1, 1) := by decide +kernel
theorem dX8_settle_3 : decode cX8_settle 3 = .ok (.invokevirtual 218, 3) := by decide +kernel
theorem dX8_settle_6 : decode cX8_settle 6 = .ok (.ifCond .ne 7, 3) := by decide +kernel
theorem dX8_settle_9 : decode cX8_settle 9 = .ok (.iconst 1, 1) := by decide +kernel
theorem dX8_settle_10 : decode cX8_settle 10 = .ok (.goto 18, 3) := by decide +kernel
theorem dX8_settle_13 : decode cX8_settle 13 = .ok (.iload_n 2, 1) := by decide +kernel
theorem dX8_settle_14 : decode cX8_settle 14 = .ok (.iconst 0, 1) := by decide +kernel
theorem dX8_settle_15 : decode cX8_settle 15 = .ok (.ldc 171, 2) := by decide +kernel
theorem dX8_settle_17 : decode cX8_settle 17 = .ok (.invokestatic 156, 3) := by decide +kernel
theorem dX8_settle_20 : decode cX8_settle 20 = .ok (.ifCond .ne 7, 3) := by decide +kernel
theorem dX8_settle_23 : decode cX8_settle 23 = .ok (.iconst 2, 1) := by decide +kernel
theorem dX8_settle_24 : decode cX8_settle 24 = .ok (.goto 4, 3) := by decide +kernel
theorem dX8_settle_27 : decode cX8_settle 27 = .ok (.iconst 0, 1) := by decide +kernel
theorem dX8_settle_28 : decode cX8_settle 28 = .ok (.putfield 152, 3) := by decide +kernel
theorem dX8_settle_31 : decode cX8_settle 31 = .ok (.aload_n 0, 1) := by decide +kernel
theorem dX8_settle_32 : decode cX8_settle 32 = .ok (.getfield 152, 3) := by decide +kernel
theorem dX8_settle_35 : decode cX8_settle 35 = .ok (.ifCond .le 5, 3) := by decide +kernel
theorem dX8_settle_38 : decode cX8_settle 38 = .ok (.iconst 0, 1) := by decide +kernel
theorem dX8_settle_39 : decode cX8_settle 39 = .ok (.ireturn, 1) := by decide +kernel
theorem dX8_settle_40 : decode cX8_settle 40 = .ok (.aload_n 0, 1) := by decide +kernel
theorem dX8_settle_41 : decode cX8_settle 41 = .ok (.getfield 92, 3) := by decide +kernel
theorem dX8_settle_44 : decode cX8_settle 44 = .ok (.iload_n 1, 1) := by decide +kernel
theorem dX8_settle_45 : decode cX8_settle 45 = .ok (.iaload, 1) := by decide +kernel
theorem dX8_settle_46 : decode cX8_settle 46 = .ok (.iconst 1, 1) := by decide +kernel
theorem dX8_settle_47 : decode cX8_settle 47 = .ok (.if_icmp .eq 13, 3) := by decide +kernel
theorem dX8_settle_50 : decode cX8_settle 50 = .ok (.aload_n 0, 1) := by decide +kernel
theorem dX8_settle_51 : decode cX8_settle 51 = .ok (.getfield 92, 3) := by decide +kernel
theorem dX8_settle_54 : decode cX8_settle 54 = .ok (.iload_n 1, 1) := by decide +kernel
theorem dX8_settle_55 : decode cX8_settle 55 = .ok (.iaload, 1) := by decide +kernel
theorem dX8_settle_56 : decode cX8_settle 56 = .ok (.iconst 2, 1) := by decide +kernel
theorem dX8_settle_57 : decode cX8_settle 57 = .ok (.if_icmp .ne 43, 3) := by decide +kernel
theorem dX8_settle_60 : decode cX8_settle 60 = .ok (.iload_n 2, 1) := by decide +kernel
theorem dX8_settle_61 : decode cX8_settle 61 = .ok (.aload_n 0, 1) := by decide +kernel
theorem dX8_settle_62 : decode cX8_settle 62 = .ok (.getfield 7, 3) := by decide +kernel
theorem dX8_settle_65 : decode cX8_settle 65 = .ok (.aload_n 0, 1) := by decide +kernel
theorem dX8_settle_66 : decode cX8_settle 66 = .ok (.getfield 80, 3) := by decide +kernel
theorem dX8_settle_69 : decode cX8_settle 69 = .ok (.iload_n 1, 1) := by decide +kernel
theorem dX8_settle_70 : decode cX8_settle 70 = .ok (.iaload, 1) := by decide +kernel
theorem dX8_settle_71 : decode cX8_settle 71 = .ok (.iaload, 1) := by decide +kernel
theorem dX8_settle_72 : decode cX8_settle 72 = .ok (.if_icmp .gt 28, 3) := by decide +kernel
theorem dX8_settle_75 : decode cX8_settle 75 = .ok (.aload_n 0, 1) := by decide +kernel
theorem dX8_settle_76 : decode cX8_settle 76 = .ok (.getfield 92, 3) := by decide +kernel
theorem dX8_settle_79 : decode cX8_settle 79 = .ok (.iload_n 1, 1) := by decide +kernel
theorem dX8_settle_80 : decode cX8_settle 80 = .ok (.iaload, 1) := by decide +kernel
theorem dX8_settle_81 : decode cX8_settle 81 = .ok (.iconst 1, 1) := by decide +kernel
theorem dX8_settle_82 : decode cX8_settle 82 = .ok (.if_icmp .eq 14, 3) := by decide +kernel
theorem dX8_settle_85 : decode cX8_settle 85 = .ok (.iconst 5, 1) := by decide +kernel
theorem dX8_settle_86 : decode cX8_settle 86 = .ok (.iload_n 2, 1) := by decide +kernel
theorem dX8_settle_87 : decode cX8_settle 87 = .ok (.imul, 1) := by decide +kernel
theorem dX8_settle_88 : decode cX8_settle 88 = .ok (.aload_n 0, 1) := by decide +kernel
theorem dX8_settle_89 : decode cX8_settle 89 = .ok (.iload_n 1, 1) := by decide +kernel
theorem dX8_settle_90 : decode cX8_settle 90 = .ok (.invokevirtual 232, 3) := by decide +kernel
theorem dX8_settle_93 : decode cX8_settle 93 = .ok (.if_icmp .lt 7, 3) := by decide +kernel
theorem dX8_settle_96 : decode cX8_settle 96 = .ok (.iconst 1, 1) := by decide +kernel
theorem dX8_settle_97 : decode cX8_settle 97 = .ok (.goto 4, 3) := by decide +kernel
theorem dX8_settle_100 : decode cX8_settle 100 = .ok (.iconst 0, 1) := by decide +kernel
theorem dX8_settle_101 : decode cX8_settle 101 = .ok (.istore_n 3, 1) := by decide +kernel
theorem dX8_settle_102 : decode cX8_settle 102 = .ok (.aload_n 0, 1) := by decide +kernel
theorem dX8_settle_103 : decode cX8_settle 103 = .ok (.iload_n 3, 1) := by decide +kernel
theorem dX8_settle_104 : decode cX8_settle 104 = .ok (.ifCond .eq 7, 3) := by decide +kernel
theorem dX8_settle_107 : decode cX8_settle 107 = .ok (.iconst 0, 1) := by decide +kernel
theorem dX8_settle_108 : decode cX8_settle 108 = .ok (.goto 4, 3) := by decide +kernel
theorem dX8_settle_111 : decode cX8_settle 111 = .ok (.iconst 3, 1) := by decide +kernel
theorem dX8_settle_112 : decode cX8_settle 112 = .ok (.putfield 152, 3) := by decide +kernel
theorem dX8_settle_115 : decode cX8_settle 115 = .ok (.aload_n 0, 1) := by decide +kernel
theorem dX8_settle_116 : decode cX8_settle 116 = .ok (.getfield 152, 3) := by decide +kernel
theorem dX8_settle_119 : decode cX8_settle 119 = .ok (.ifCond .le 5, 3) := by decide +kernel
theorem dX8_settle_122 : decode cX8_settle 122 = .ok (.iconst 0, 1) := by decide +kernel
theorem dX8_settle_123 : decode cX8_settle 123 = .ok (.ireturn, 1) := by decide +kernel
theorem dX8_settle_124 : decode cX8_settle 124 = .ok (.aload_n 0, 1) := by decide +kernel
theorem dX8_settle_125 : decode cX8_settle 125 = .ok (.iload_n 1, 1) := by decide +kernel
theorem dX8_settle_126 : decode cX8_settle 126 = .ok (.iload_n 2, 1) := by decide +kernel
theorem dX8_settle_127 : decode cX8_settle 127 = .ok (.invokevirtual 235, 3) := by decide +kernel
theorem dX8_settle_130 : decode cX8_settle 130 = .ok (.aload_n 0, 1) := by decide +kernel
theorem dX8_settle_131 : decode cX8_settle 131 = .ok (.getfield 110, 3) := by decide +kernel
theorem dX8_settle_134 : decode cX8_settle 134 = .ok (.iload_n 1, 1) := by decide +kernel
theorem dX8_settle_135 : decode cX8_settle 135 = .ok (.iaload, 1) := by decide +kernel
theorem dX8_settle_136 : decode cX8_settle 136 = .ok (.ireturn, 1) := by decide +kernel
set_option maxRecDepth 20000 in
theorem ggX8_work_X8_isTeller : GoodIn wsX8_work wsX8_isTeller := goodIn_r _ [7, 8, 9, 6, 10] (by decide +kernel) (by decide +kernel)
set_option maxRecDepth 20000 in
theorem gX8_work_X8_isTeller : GoodIn wsX8_work (va_wsS RX8 182 yX8_isTeller wsX8_isTeller) := goodIn_app (goodIn_of _ (by decide +kernel)) ggX8_work_X8_isTeller
set_option maxRecDepth 20000 in
theorem ggX8_work_X8_isFirm : GoodIn wsX8_work wsX8_isFirm := goodIn_r _ [13, 8, 9, 6, 10] (by decide +kernel) (by decide +kernel)
set_option maxRecDepth 20000 in
theorem gX8_work_X8_isFirm : GoodIn wsX8_work (va_wsS RX8 166 yX8_isFirm wsX8_isFirm) := goodIn_app (goodIn_of _ (by decide +kernel)) ggX8_work_X8_isFirm
set_option maxRecDepth 20000 in
theorem ggX8_work_X8_in : GoodIn wsX8_work wsX8_in := goodIn_r _ [10] (by decide +kernel) (by decide +kernel)
set_option maxRecDepth 20000 in
theorem gX8_work_X8_in : GoodIn wsX8_work (va_wsS RX8 156 yX8_in wsX8_in) := goodIn_app (goodIn_of _ (by decide +kernel)) ggX8_work_X8_in
theorem dX8_work_0 : decode cX8_work 0 = .ok (.aload_n 0, 1) := by decide +kernel
theorem dX8_work_1 : decode cX8_work 1 = .ok (.iload_n 1, 1) := by decide +kernel
theorem dX8_work_2 : decode cX8_work 2 = .ok (.invokestatic 182, 3) := by decide +kernel
theorem dX8_work_5 : decode cX8_work 5 = .ok (.ifCond .eq 10, 3) := by decide +kernel
theorem dX8_work_8 : decode cX8_work 8 = .ok (.iload_n 2, 1) := by decide +kernel
theorem dX8_work_9 : decode cX8_work 9 = .ok (.invokestatic 166, 3) := by decide +kernel
theorem dX8_work_12 : decode cX8_work 12 = .ok (.ifCond .ne 7, 3) := by decide +kernel
theorem dX8_work_15 : decode cX8_work 15 = .ok (.iconst 1, 1) := by decide +kernel
theorem dX8_work_16 : decode cX8_work 16 = .ok (.goto 19, 3) := by decide +kernel
theorem dX8_work_19 : decode cX8_work 19 = .ok (.iload_n 3, 1) := by decide +kernel
theorem dX8_work_20 : decode cX8_work 20 = .ok (.iconst 0, 1) := by decide +kernel
theorem dX8_work_21 : decode cX8_work 21 = .ok (.sipush 999, 3) := by decide +kernel
theorem dX8_work_24 : decode cX8_work 24 = .ok (.invokestatic 156, 3) := by decide +kernel
theorem dX8_work_27 : decode cX8_work 27 = .ok (.ifCond .ne 7, 3) := by decide +kernel
theorem dX8_work_30 : decode cX8_work 30 = .ok (.iconst 2, 1) := by decide +kernel
theorem dX8_work_31 : decode cX8_work 31 = .ok (.goto 4, 3) := by decide +kernel
theorem dX8_work_34 : decode cX8_work 34 = .ok (.iconst 0, 1) := by decide +kernel
theorem dX8_work_35 : decode cX8_work 35 = .ok (.putfield 152, 3) := by decide +kernel
theorem dX8_work_38 : decode cX8_work 38 = .ok (.aload_n 0, 1) := by decide +kernel
theorem dX8_work_39 : decode cX8_work 39 = .ok (.getfield 152, 3) := by decide +kernel
theorem dX8_work_42 : decode cX8_work 42 = .ok (.ifCond .le 5, 3) := by decide +kernel
theorem dX8_work_45 : decode cX8_work 45 = .ok (.iconst 0, 1) := by decide +kernel
theorem dX8_work_46 : decode cX8_work 46 = .ok (.ireturn, 1) := by decide +kernel
theorem dX8_work_47 : decode cX8_work 47 = .ok (.aload_n 0, 1) := by decide +kernel
theorem dX8_work_48 : decode cX8_work 48 = .ok (.getfield 134, 3) := by decide +kernel
theorem dX8_work_51 : decode cX8_work 51 = .ok (.iload_n 1, 1) := by decide +kernel
theorem dX8_work_52 : decode cX8_work 52 = .ok (.iaload, 1) := by decide +kernel
theorem dX8_work_53 : decode cX8_work 53 = .ok (.istore 4, 2) := by decide +kernel
theorem dX8_work_55 : decode cX8_work 55 = .ok (.aload_n 0, 1) := by decide +kernel
theorem dX8_work_56 : decode cX8_work 56 = .ok (.getfield 134, 3) := by decide +kernel
theorem dX8_work_59 : decode cX8_work 59 = .ok (.iload_n 1, 1) := by decide +kernel
theorem dX8_work_60 : decode cX8_work 60 = .ok (.iload_n 2, 1) := by decide +kernel
theorem dX8_work_61 : decode cX8_work 61 = .ok (.iastore, 1) := by decide +kernel
theorem dX8_work_62 : decode cX8_work 62 = .ok (.aload_n 0, 1) := by decide +kernel
theorem dX8_work_63 : decode cX8_work 63 = .ok (.getfield 137, 3) := by decide +kernel
theorem dX8_work_66 : decode cX8_work 66 = .ok (.iload_n 1, 1) := by decide +kernel
theorem dX8_work_67 : decode cX8_work 67 = .ok (.iload_n 3, 1) := by decide +kernel
theorem dX8_work_68 : decode cX8_work 68 = .ok (.iastore, 1) := by decide +kernel
theorem dX8_work_69 : decode cX8_work 69 = .ok (.iload 4, 2) := by decide +kernel
theorem dX8_work_71 : decode cX8_work 71 = .ok (.ireturn, 1) := by decide +kernel
theorem dX8_place_0 : decode cX8_place 0 = .ok (.bipush 8, 2) := by decide +kernel
theorem dX8_place_2 : decode cX8_place 2 = .ok (.iload_n 0, 1) := by decide +kernel
theorem dX8_place_3 : decode cX8_place 3 = .ok (.imul, 1) := by decide +kernel
theorem dX8_place_4 : decode cX8_place 4 = .ok (.iload_n 1, 1) := by decide +kernel
theorem dX8_place_5 : decode cX8_place 5 = .ok (.iadd, 1) := by decide +kernel
theorem dX8_place_6 : decode cX8_place 6 = .ok (.ireturn, 1) := by decide +kernel
set_option maxRecDepth 20000 in
theorem ggX8_tellsFrom_X8_place : GoodIn wsX8_tellsFrom wsX8_place := goodIn_r _ [9] (by decide +kernel) (by decide +kernel)
set_option maxRecDepth 20000 in
theorem gX8_tellsFrom_X8_place : GoodIn wsX8_tellsFrom (va_wsS RX8 239 yX8_place wsX8_place) := goodIn_app (goodIn_of _ (by decide +kernel)) ggX8_tellsFrom_X8_place
theorem dX8_tellsFrom_0 : decode cX8_tellsFrom 0 = .ok (.aload_n 0, 1) := by decide +kernel
theorem dX8_tellsFrom_1 : decode cX8_tellsFrom 1 = .ok (.getfield 140, 3) := by decide +kernel
theorem dX8_tellsFrom_4 : decode cX8_tellsFrom 4 = .ok (.iload_n 1, 1) := by decide +kernel
theorem dX8_tellsFrom_5 : decode cX8_tellsFrom 5 = .ok (.iload_n 2, 1) := by decide +kernel
theorem dX8_tellsFrom_6 : decode cX8_tellsFrom 6 = .ok (.invokestatic 239, 3) := by decide +kernel
theorem dX8_tellsFrom_9 : decode cX8_tellsFrom 9 = .ok (.iaload, 1) := by decide +kernel
theorem dX8_tellsFrom_10 : decode cX8_tellsFrom 10 = .ok (.iconst (-1), 1) := by decide +kernel
theorem dX8_tellsFrom_11 : decode cX8_tellsFrom 11 = .ok (.if_icmp .ne 9, 3) := by decide +kernel
theorem dX8_tellsFrom_14 : decode cX8_tellsFrom 14 = .ok (.sipush 9999, 3) := by decide +kernel
theorem dX8_tellsFrom_17 : decode cX8_tellsFrom 17 = .ok (.goto 13, 3) := by decide +kernel
theorem dX8_tellsFrom_20 : decode cX8_tellsFrom 20 = .ok (.aload_n 0, 1) := by decide +kernel
theorem dX8_tellsFrom_21 : decode cX8_tellsFrom 21 = .ok (.getfield 140, 3) := by decide +kernel
theorem dX8_tellsFrom_24 : decode cX8_tellsFrom 24 = .ok (.iload_n 1, 1) := by decide +kernel
theorem dX8_tellsFrom_25 : decode cX8_tellsFrom 25 = .ok (.iload_n 2, 1) := by decide +kernel
theorem dX8_tellsFrom_26 : decode cX8_tellsFrom 26 = .ok (.invokestatic 239, 3) := by decide +kernel
theorem dX8_tellsFrom_29 : decode cX8_tellsFrom 29 = .ok (.iaload, 1) := by decide +kernel
theorem dX8_tellsFrom_30 : decode cX8_tellsFrom 30 = .ok (.istore_n 3, 1) := by decide +kernel
theorem dX8_tellsFrom_31 : decode cX8_tellsFrom 31 = .ok (.iconst 0, 1) := by decide +kernel
theorem dX8_tellsFrom_32 : decode cX8_tellsFrom 32 = .ok (.istore 4, 2) := by decide +kernel
theorem dX8_tellsFrom_34 : decode cX8_tellsFrom 34 = .ok (.iload 4, 2) := by decide +kernel
theorem dX8_tellsFrom_36 : decode cX8_tellsFrom 36 = .ok (.aload_n 0, 1) := by decide +kernel
theorem dX8_tellsFrom_37 : decode cX8_tellsFrom 37 = .ok (.getfield 163, 3) := by decide +kernel
theorem dX8_tellsFrom_40 : decode cX8_tellsFrom 40 = .ok (.if_icmp .ge 54, 3) := by decide +kernel
theorem dX8_tellsFrom_43 : decode cX8_tellsFrom 43 = .ok (.aload_n 0, 1) := by decide +kernel
theorem dX8_tellsFrom_44 : decode cX8_tellsFrom 44 = .ok (.getfield 77, 3) := by decide +kernel
theorem dX8_tellsFrom_47 : decode cX8_tellsFrom 47 = .ok (.iload 4, 2) := by decide +kernel
theorem dX8_tellsFrom_49 : decode cX8_tellsFrom 49 = .ok (.iaload, 1) := by decide +kernel
theorem dX8_tellsFrom_50 : decode cX8_tellsFrom 50 = .ok (.iload_n 2, 1) := by decide +kernel
theorem dX8_tellsFrom_51 : decode cX8_tellsFrom 51 = .ok (.if_icmp .ne 35, 3) := by decide +kernel
theorem dX8_tellsFrom_54 : decode cX8_tellsFrom 54 = .ok (.aload_n 0, 1) := by decide +kernel
theorem dX8_tellsFrom_55 : decode cX8_tellsFrom 55 = .ok (.getfield 80, 3) := by decide +kernel
theorem dX8_tellsFrom_58 : decode cX8_tellsFrom 58 = .ok (.iload 4, 2) := by decide +kernel
theorem dX8_tellsFrom_60 : decode cX8_tellsFrom 60 = .ok (.iaload, 1) := by decide +kernel
theorem dX8_tellsFrom_61 : decode cX8_tellsFrom 61 = .ok (.iload_n 1, 1) := by decide +kernel
theorem dX8_tellsFrom_62 : decode cX8_tellsFrom 62 = .ok (.if_icmp .ne 24, 3) := by decide +kernel
theorem dX8_tellsFrom_65 : decode cX8_tellsFrom 65 = .ok (.aload_n 0, 1) := by decide +kernel
theorem dX8_tellsFrom_66 : decode cX8_tellsFrom 66 = .ok (.getfield 98, 3) := by decide +kernel
theorem dX8_tellsFrom_69 : decode cX8_tellsFrom 69 = .ok (.iload 4, 2) := by decide +kernel
theorem dX8_tellsFrom_71 : decode cX8_tellsFrom 71 = .ok (.iaload, 1) := by decide +kernel
theorem dX8_tellsFrom_72 : decode cX8_tellsFrom 72 = .ok (.iload_n 3, 1) := by decide +kernel
theorem dX8_tellsFrom_73 : decode cX8_tellsFrom 73 = .ok (.if_icmp .ge 13, 3) := by decide +kernel
theorem dX8_tellsFrom_76 : decode cX8_tellsFrom 76 = .ok (.aload_n 0, 1) := by decide +kernel
theorem dX8_tellsFrom_77 : decode cX8_tellsFrom 77 = .ok (.getfield 98, 3) := by decide +kernel
theorem dX8_tellsFrom_80 : decode cX8_tellsFrom 80 = .ok (.iload 4, 2) := by decide +kernel
theorem dX8_tellsFrom_82 : decode cX8_tellsFrom 82 = .ok (.iaload, 1) := by decide +kernel
theorem dX8_tellsFrom_83 : decode cX8_tellsFrom 83 = .ok (.goto 4, 3) := by decide +kernel
theorem dX8_tellsFrom_86 : decode cX8_tellsFrom 86 = .ok (.iload_n 3, 1) := by decide +kernel
theorem dX8_tellsFrom_87 : decode cX8_tellsFrom 87 = .ok (.istore_n 3, 1) := by decide +kernel
theorem dX8_tellsFrom_88 : decode cX8_tellsFrom 88 = .ok (.iinc 4 1, 3) := by decide +kernel
theorem dX8_tellsFrom_91 : decode cX8_tellsFrom 91 = .ok (.goto (-57), 3) := by decide +kernel
theorem dX8_tellsFrom_94 : decode cX8_tellsFrom 94 = .ok (.iload_n 3, 1) := by decide +kernel
theorem dX8_tellsFrom_95 : decode cX8_tellsFrom 95 = .ok (.ireturn, 1) := by decide +kernel
set_option maxRecDepth 20000 in
theorem ggX8_tell_X8_isFirm : GoodIn wsX8_tell wsX8_isFirm := goodIn_r _ [7, 8, 9, 6, 10] (by decide +kernel) (by decide +kernel)
set_option maxRecDepth 20000 in
theorem gX8_tell_X8_isFirm : GoodIn wsX8_tell (va_wsS RX8 166 yX8_isFirm wsX8_isFirm) := goodIn_app (goodIn_of _ (by decide +kernel)) ggX8_tell_X8_isFirm
set_option maxRecDepth 20000 in
theorem ggX8_tell_X8_isTeller : GoodIn wsX8_tell wsX8_isTeller := goodIn_r _ [13, 8, 9, 6, 10] (by decide +kernel) (by decide +kernel)
set_option maxRecDepth 20000 in
theorem gX8_tell_X8_isTeller : GoodIn wsX8_tell (va_wsS RX8 182 yX8_isTeller wsX8_isTeller) := goodIn_app (goodIn_of _ (by decide +kernel)) ggX8_tell_X8_isTeller
set_option maxRecDepth 20000 in
theorem ggX8_tell_X8_place : GoodIn wsX8_tell wsX8_place := goodIn_r _ [16] (by decide +kernel) (by decide +kernel)
set_option maxRecDepth 20000 in
theorem gX8_tell_X8_place : GoodIn wsX8_tell (va_wsS RX8 239 yX8_place wsX8_place) := goodIn_app (goodIn_of _ (by decide +kernel)) ggX8_tell_X8_place
set_option maxRecDepth 20000 in
theorem ggX8_tell_X8_tellsFrom : GoodIn wsX8_tell wsX8_tellsFrom := goodIn_r _ [20, 2, 21, 22, 23, 24, 14, 15, 6, 16, 25, 26, 27, 28, 29, 30, 31, 32, 33, 34, 35, 36, 37, 38, 39, 40, 41, 42, 43, 44, 45, 46, 47, 48, 49, 50, 51, 52, 53, 54, 55, 56, 57, 58, 59, 60, 61, 62, 63, 64, 65, 66, 67, 68, 69, 70, 71, 72, 73, 74, 75, 76, 77, 78, 79] (by decide +kernel) (by decide +kernel)
set_option maxRecDepth 20000 in
theorem gX8_tell_X8_tellsFrom : GoodIn wsX8_tell (wsV RX8 242 RX8 yX8_tellsFrom wsX8_tellsFrom) := goodIn_app (goodIn_of _ (by decide +kernel)) ggX8_tell_X8_tellsFrom
theorem dX8_tell_0 : decode cX8_tell 0 = .ok (.aload_n 0, 1) := by decide +kernel
theorem dX8_tell_1 : decode cX8_tell 1 = .ok (.iload_n 1, 1) := by decide +kernel
theorem dX8_tell_2 : decode cX8_tell 2 = .ok (.invokestatic 166, 3) := by decide +kernel
theorem dX8_tell_5 : decode cX8_tell 5 = .ok (.ifCond .eq 14, 3) := by decide +kernel
theorem dX8_tell_8 : decode cX8_tell 8 = .ok (.iload_n 2, 1) := by decide +kernel
theorem dX8_tell_9 : decode cX8_tell 9 = .ok (.invokestatic 182, 3) := by decide +kernel
theorem dX8_tell_12 : decode cX8_tell 12 = .ok (.ifCond .eq 7, 3) := by decide +kernel
theorem dX8_tell_15 : decode cX8_tell 15 = .ok (.iconst 0, 1) := by decide +kernel
theorem dX8_tell_16 : decode cX8_tell 16 = .ok (.goto 4, 3) := by decide +kernel
theorem dX8_tell_19 : decode cX8_tell 19 = .ok (.iconst 1, 1) := by decide +kernel
theorem dX8_tell_20 : decode cX8_tell 20 = .ok (.putfield 152, 3) := by decide +kernel
theorem dX8_tell_23 : decode cX8_tell 23 = .ok (.aload_n 0, 1) := by decide +kernel
theorem dX8_tell_24 : decode cX8_tell 24 = .ok (.getfield 152, 3) := by decide +kernel
theorem dX8_tell_27 : decode cX8_tell 27 = .ok (.ifCond .le 5, 3) := by decide +kernel
theorem dX8_tell_30 : decode cX8_tell 30 = .ok (.iconst 0, 1) := by decide +kernel
theorem dX8_tell_31 : decode cX8_tell 31 = .ok (.ireturn, 1) := by decide +kernel
theorem dX8_tell_32 : decode cX8_tell 32 = .ok (.aload_n 0, 1) := by decide +kernel
theorem dX8_tell_33 : decode cX8_tell 33 = .ok (.getfield 140, 3) := by decide +kernel
theorem dX8_tell_36 : decode cX8_tell 36 = .ok (.iload_n 1, 1) := by decide +kernel
theorem dX8_tell_37 : decode cX8_tell 37 = .ok (.iload_n 2, 1) := by decide +kernel
theorem dX8_tell_38 : decode cX8_tell 38 = .ok (.invokestatic 239, 3) := by decide +kernel
theorem dX8_tell_41 : decode cX8_tell 41 = .ok (.aload_n 0, 1) := by decide +kernel
theorem dX8_tell_42 : decode cX8_tell 42 = .ok (.getfield 140, 3) := by decide +kernel
theorem dX8_tell_45 : decode cX8_tell 45 = .ok (.iload_n 1, 1) := by decide +kernel
theorem dX8_tell_46 : decode cX8_tell 46 = .ok (.iload_n 2, 1) := by decide +kernel
theorem dX8_tell_47 : decode cX8_tell 47 = .ok (.invokestatic 239, 3) := by decide +kernel
theorem dX8_tell_50 : decode cX8_tell 50 = .ok (.iaload, 1) := by decide +kernel
theorem dX8_tell_51 : decode cX8_tell 51 = .ok (.iconst (-1), 1) := by decide +kernel
theorem dX8_tell_52 : decode cX8_tell 52 = .ok (.if_icmp .ne 10, 3) := by decide +kernel
theorem dX8_tell_55 : decode cX8_tell 55 = .ok (.aload_n 0, 1) := by decide +kernel
theorem dX8_tell_56 : decode cX8_tell 56 = .ok (.getfield 179, 3) := by decide +kernel
theorem dX8_tell_59 : decode cX8_tell 59 = .ok (.goto 13, 3) := by decide +kernel
theorem dX8_tell_62 : decode cX8_tell 62 = .ok (.aload_n 0, 1) := by decide +kernel
theorem dX8_tell_63 : decode cX8_tell 63 = .ok (.getfield 140, 3) := by decide +kernel
theorem dX8_tell_66 : decode cX8_tell 66 = .ok (.iload_n 1, 1) := by decide +kernel
theorem dX8_tell_67 : decode cX8_tell 67 = .ok (.iload_n 2, 1) := by decide +kernel
theorem dX8_tell_68 : decode cX8_tell 68 = .ok (.invokestatic 239, 3) := by decide +kernel
theorem dX8_tell_71 : decode cX8_tell 71 = .ok (.iaload, 1) := by decide +kernel
theorem dX8_tell_72 : decode cX8_tell 72 = .ok (.iastore, 1) := by decide +kernel
theorem dX8_tell_73 : decode cX8_tell 73 = .ok (.aload_n 0, 1) := by decide +kernel
theorem dX8_tell_74 : decode cX8_tell 74 = .ok (.iload_n 1, 1) := by decide +kernel
theorem dX8_tell_75 : decode cX8_tell 75 = .ok (.iload_n 2, 1) := by decide +kernel
theorem dX8_tell_76 : decode cX8_tell 76 = .ok (.invokevirtual 242, 3) := by decide +kernel
theorem dX8_tell_79 : decode cX8_tell 79 = .ok (.ireturn, 1) := by decide +kernel
set_option maxRecDepth 20000 in
theorem ggX8_fire_X8_isFirm : GoodIn wsX8_fire wsX8_isFirm := goodIn_r _ [11, 12, 13, 10, 14] (by decide +kernel) (by decide +kernel)
set_option maxRecDepth 20000 in
theorem gX8_fire_X8_isFirm : GoodIn wsX8_fire (va_wsS RX8 166 yX8_isFirm wsX8_isFirm) := goodIn_app (goodIn_of _ (by decide +kernel)) ggX8_fire_X8_isFirm
set_option maxRecDepth 20000 in
theorem ggX8_fire_X8_isTeller : GoodIn wsX8_fire wsX8_isTeller := goodIn_r _ [17, 12, 13, 10, 14] (by decide +kernel) (by decide +kernel)
set_option maxRecDepth 20000 in
theorem gX8_fire_X8_isTeller : GoodIn wsX8_fire (va_wsS RX8 182 yX8_isTeller wsX8_isTeller) := goodIn_app (goodIn_of _ (by decide +kernel)) ggX8_fire_X8_isTeller
set_option maxRecDepth 20000 in
theorem ggX8_fire_X8_place : GoodIn wsX8_fire wsX8_place := goodIn_r _ [20] (by decide +kernel) (by decide +kernel)
set_option maxRecDepth 20000 in
theorem gX8_fire_X8_place : GoodIn wsX8_fire (va_wsS RX8 239 yX8_place wsX8_place) := goodIn_app (goodIn_of _ (by decide +kernel)) ggX8_fire_X8_place
set_option maxRecDepth 20000 in
theorem ggX8_fire_X8_tellsFrom : GoodIn wsX8_fire wsX8_tellsFrom := goodIn_r _ [24, 25, 26, 27, 28, 29, 18, 19, 10, 20, 30, 31, 32, 33, 34, 35, 36, 37, 38, 39, 40, 41, 42, 43, 44, 45, 46, 47, 48, 49, 50, 51, 52, 53, 54, 55, 56, 57, 58, 59, 60, 61, 62, 63, 64, 65, 66, 67, 68, 69, 70, 71, 72, 73, 74, 75, 76, 77, 78, 79, 80, 81, 82, 83, 84] (by decide +kernel) (by decide +kernel)
set_option maxRecDepth 20000 in
theorem gX8_fire_X8_tellsFrom : GoodIn wsX8_fire (wsV RX8 242 RX8 yX8_tellsFrom wsX8_tellsFrom) := goodIn_app (goodIn_of _ (by decide +kernel)) ggX8_fire_X8_tellsFrom
theorem dX8_fire_0 : decode cX8_fire 0 = .ok (.aload_n 0, 1) := by decide +kernel
theorem dX8_fire_1 : decode cX8_fire 1 = .ok (.iload_n 1, 1) := by decide +kernel
theorem dX8_fire_2 : decode cX8_fire 2 = .ok (.invokestatic 166, 3) := by decide +kernel
theorem dX8_fire_5 : decode cX8_fire 5 = .ok (.ifCond .eq 10, 3) := by decide +kernel
theorem dX8_fire_8 : decode cX8_fire 8 = .ok (.iload_n 2, 1) := by decide +kernel
theorem dX8_fire_9 : decode cX8_fire 9 = .ok (.invokestatic 182, 3) := by decide +kernel
theorem dX8_fire_12 : decode cX8_fire 12 = .ok (.ifCond .ne 7, 3) := by decide +kernel
theorem dX8_fire_15 : decode cX8_fire 15 = .ok (.iconst 1, 1) := by decide +kernel
theorem dX8_fire_16 : decode cX8_fire 16 = .ok (.goto 18, 3) := by decide +kernel
theorem dX8_fire_19 : decode cX8_fire 19 = .ok (.aload_n 0, 1) := by decide +kernel
theorem dX8_fire_20 : decode cX8_fire 20 = .ok (.getfield 134, 3) := by decide +kernel
theorem dX8_fire_23 : decode cX8_fire 23 = .ok (.iload_n 2, 1) := by decide +kernel
theorem dX8_fire_24 : decode cX8_fire 24 = .ok (.iaload, 1) := by decide +kernel
theorem dX8_fire_25 : decode cX8_fire 25 = .ok (.iload_n 1, 1) := by decide +kernel
theorem dX8_fire_26 : decode cX8_fire 26 = .ok (.if_icmp .eq 7, 3) := by decide +kernel
theorem dX8_fire_29 : decode cX8_fire 29 = .ok (.iconst 2, 1) := by decide +kernel
theorem dX8_fire_30 : decode cX8_fire 30 = .ok (.goto 4, 3) := by decide +kernel
theorem dX8_fire_33 : decode cX8_fire 33 = .ok (.iconst 0, 1) := by decide +kernel
theorem dX8_fire_34 : decode cX8_fire 34 = .ok (.putfield 152, 3) := by decide +kernel
theorem dX8_fire_37 : decode cX8_fire 37 = .ok (.aload_n 0, 1) := by decide +kernel
theorem dX8_fire_38 : decode cX8_fire 38 = .ok (.getfield 152, 3) := by decide +kernel
theorem dX8_fire_41 : decode cX8_fire 41 = .ok (.ifCond .le 5, 3) := by decide +kernel
theorem dX8_fire_44 : decode cX8_fire 44 = .ok (.iconst 0, 1) := by decide +kernel
theorem dX8_fire_45 : decode cX8_fire 45 = .ok (.ireturn, 1) := by decide +kernel
theorem dX8_fire_46 : decode cX8_fire 46 = .ok (.iload_n 1, 1) := by decide +kernel
theorem dX8_fire_47 : decode cX8_fire 47 = .ok (.iload_n 2, 1) := by decide +kernel
theorem dX8_fire_48 : decode cX8_fire 48 = .ok (.invokestatic 239, 3) := by decide +kernel
theorem dX8_fire_51 : decode cX8_fire 51 = .ok (.istore_n 3, 1) := by decide +kernel
theorem dX8_fire_52 : decode cX8_fire 52 = .ok (.aload_n 0, 1) := by decide +kernel
theorem dX8_fire_53 : decode cX8_fire 53 = .ok (.iload_n 1, 1) := by decide +kernel
theorem dX8_fire_54 : decode cX8_fire 54 = .ok (.iload_n 2, 1) := by decide +kernel
theorem dX8_fire_55 : decode cX8_fire 55 = .ok (.invokevirtual 242, 3) := by decide +kernel
theorem dX8_fire_58 : decode cX8_fire 58 = .ok (.istore 4, 2) := by decide +kernel
theorem dX8_fire_60 : decode cX8_fire 60 = .ok (.aload_n 0, 1) := by decide +kernel
theorem dX8_fire_61 : decode cX8_fire 61 = .ok (.getfield 134, 3) := by decide +kernel
theorem dX8_fire_64 : decode cX8_fire 64 = .ok (.iload_n 2, 1) := by decide +kernel
theorem dX8_fire_65 : decode cX8_fire 65 = .ok (.iconst (-1), 1) := by decide +kernel
theorem dX8_fire_66 : decode cX8_fire 66 = .ok (.iastore, 1) := by decide +kernel
theorem dX8_fire_67 : decode cX8_fire 67 = .ok (.aload_n 0, 1) := by decide +kernel
theorem dX8_fire_68 : decode cX8_fire 68 = .ok (.getfield 143, 3) := by decide +kernel
theorem dX8_fire_71 : decode cX8_fire 71 = .ok (.iload_n 3, 1) := by decide +kernel
theorem dX8_fire_72 : decode cX8_fire 72 = .ok (.aload_n 0, 1) := by decide +kernel
theorem dX8_fire_73 : decode cX8_fire 73 = .ok (.getfield 179, 3) := by decide +kernel
theorem dX8_fire_76 : decode cX8_fire 76 = .ok (.iastore, 1) := by decide +kernel
theorem dX8_fire_77 : decode cX8_fire 77 = .ok (.aload_n 0, 1) := by decide +kernel
theorem dX8_fire_78 : decode cX8_fire 78 = .ok (.getfield 146, 3) := by decide +kernel
theorem dX8_fire_81 : decode cX8_fire 81 = .ok (.iload_n 3, 1) := by decide +kernel
theorem dX8_fire_82 : decode cX8_fire 82 = .ok (.aload_n 0, 1) := by decide +kernel
theorem dX8_fire_83 : decode cX8_fire 83 = .ok (.getfield 137, 3) := by decide +kernel
theorem dX8_fire_86 : decode cX8_fire 86 = .ok (.iload_n 2, 1) := by decide +kernel
theorem dX8_fire_87 : decode cX8_fire 87 = .ok (.iaload, 1) := by decide +kernel
theorem dX8_fire_88 : decode cX8_fire 88 = .ok (.iastore, 1) := by decide +kernel
theorem dX8_fire_89 : decode cX8_fire 89 = .ok (.aload_n 0, 1) := by decide +kernel
theorem dX8_fire_90 : decode cX8_fire 90 = .ok (.getfield 149, 3) := by decide +kernel
theorem dX8_fire_93 : decode cX8_fire 93 = .ok (.iload_n 3, 1) := by decide +kernel
theorem dX8_fire_94 : decode cX8_fire 94 = .ok (.iload 4, 2) := by decide +kernel
theorem dX8_fire_96 : decode cX8_fire 96 = .ok (.aload_n 0, 1) := by decide +kernel
theorem dX8_fire_97 : decode cX8_fire 97 = .ok (.getfield 179, 3) := by decide +kernel
theorem dX8_fire_100 : decode cX8_fire 100 = .ok (.if_icmp .gt 19, 3) := by decide +kernel
theorem dX8_fire_103 : decode cX8_fire 103 = .ok (.aload_n 0, 1) := by decide +kernel
theorem dX8_fire_104 : decode cX8_fire 104 = .ok (.getfield 179, 3) := by decide +kernel
theorem dX8_fire_107 : decode cX8_fire 107 = .ok (.iload 4, 2) := by decide +kernel
theorem dX8_fire_109 : decode cX8_fire 109 = .ok (.isub, 1) := by decide +kernel
theorem dX8_fire_110 : decode cX8_fire 110 = .ok (.bipush 90, 2) := by decide +kernel
theorem dX8_fire_112 : decode cX8_fire 112 = .ok (.if_icmp .gt 7, 3) := by decide +kernel
theorem dX8_fire_115 : decode cX8_fire 115 = .ok (.iconst 1, 1) := by decide +kernel
theorem dX8_fire_116 : decode cX8_fire 116 = .ok (.goto 4, 3) := by decide +kernel
theorem dX8_fire_119 : decode cX8_fire 119 = .ok (.iconst 0, 1) := by decide +kernel
theorem dX8_fire_120 : decode cX8_fire 120 = .ok (.bastore, 1) := by decide +kernel
theorem dX8_fire_121 : decode cX8_fire 121 = .ok (.aload_n 0, 1) := by decide +kernel
theorem dX8_fire_122 : decode cX8_fire 122 = .ok (.getfield 149, 3) := by decide +kernel
theorem dX8_fire_125 : decode cX8_fire 125 = .ok (.iload_n 3, 1) := by decide +kernel
theorem dX8_fire_126 : decode cX8_fire 126 = .ok (.baload, 1) := by decide +kernel
theorem dX8_fire_127 : decode cX8_fire 127 = .ok (.ireturn, 1) := by decide +kernel
set_option maxRecDepth 20000 in
theorem ggX8_award_X8_isFirm : GoodIn wsX8_award wsX8_isFirm := goodIn_r _ [12, 13, 14, 11, 15] (by decide +kernel) (by decide +kernel)
set_option maxRecDepth 20000 in
theorem gX8_award_X8_isFirm : GoodIn wsX8_award (va_wsS RX8 166 yX8_isFirm wsX8_isFirm) := goodIn_app (goodIn_of _ (by decide +kernel)) ggX8_award_X8_isFirm
set_option maxRecDepth 20000 in
theorem ggX8_award_X8_isTeller : GoodIn wsX8_award wsX8_isTeller := goodIn_r _ [18, 13, 14, 11, 15] (by decide +kernel) (by decide +kernel)
set_option maxRecDepth 20000 in
theorem gX8_award_X8_isTeller : GoodIn wsX8_award (va_wsS RX8 182 yX8_isTeller wsX8_isTeller) := goodIn_app (goodIn_of _ (by decide +kernel)) ggX8_award_X8_isTeller
set_option maxRecDepth 20000 in
theorem ggX8_award_X8_place : GoodIn wsX8_award wsX8_place := goodIn_r _ [21] (by decide +kernel) (by decide +kernel)
set_option maxRecDepth 20000 in
theorem gX8_award_X8_place : GoodIn wsX8_award (va_wsS RX8 239 yX8_place wsX8_place) := goodIn_app (goodIn_of _ (by decide +kernel)) ggX8_award_X8_place
theorem dX8_award_0 : decode cX8_award 0 = .ok (.aload_n 0, 1) := by decide +kernel
theorem dX8_award_1 : decode cX8_award 1 = .ok (.iload_n 1, 1) := by decide +kernel
theorem dX8_award_2 : decode cX8_award 2 = .ok (.invokestatic 166, 3) := by decide +kernel
theorem dX8_award_5 : decode cX8_award 5 = .ok (.ifCond .eq 10, 3) := by decide +kernel
theorem dX8_award_8 : decode cX8_award 8 = .ok (.iload_n 2, 1) := by decide +kernel
theorem dX8_award_9 : decode cX8_award 9 = .ok (.invokestatic 182, 3) := by decide +kernel
theorem dX8_award_12 : decode cX8_award 12 = .ok (.ifCond .ne 7, 3) := by decide +kernel
theorem dX8_award_15 : decode cX8_award 15 = .ok (.iconst 1, 1) := by decide +kernel
theorem dX8_award_16 : decode cX8_award 16 = .ok (.goto 21, 3) := by decide +kernel
theorem dX8_award_19 : decode cX8_award 19 = .ok (.aload_n 0, 1) := by decide +kernel
theorem dX8_award_20 : decode cX8_award 20 = .ok (.getfield 149, 3) := by decide +kernel
theorem dX8_award_23 : decode cX8_award 23 = .ok (.iload_n 1, 1) := by decide +kernel
theorem dX8_award_24 : decode cX8_award 24 = .ok (.iload_n 2, 1) := by decide +kernel
theorem dX8_award_25 : decode cX8_award 25 = .ok (.invokestatic 239, 3) := by decide +kernel
theorem dX8_award_28 : decode cX8_award 28 = .ok (.baload, 1) := by decide +kernel
theorem dX8_award_29 : decode cX8_award 29 = .ok (.ifCond .ne 7, 3) := by decide +kernel
theorem dX8_award_32 : decode cX8_award 32 = .ok (.iconst 2, 1) := by decide +kernel
theorem dX8_award_33 : decode cX8_award 33 = .ok (.goto 4, 3) := by decide +kernel
theorem dX8_award_36 : decode cX8_award 36 = .ok (.iconst 0, 1) := by decide +kernel
theorem dX8_award_37 : decode cX8_award 37 = .ok (.putfield 152, 3) := by decide +kernel
theorem dX8_award_40 : decode cX8_award 40 = .ok (.aload_n 0, 1) := by decide +kernel
theorem dX8_award_41 : decode cX8_award 41 = .ok (.getfield 152, 3) := by decide +kernel
theorem dX8_award_44 : decode cX8_award 44 = .ok (.ifCond .le 5, 3) := by decide +kernel
theorem dX8_award_47 : decode cX8_award 47 = .ok (.iconst 0, 1) := by decide +kernel
theorem dX8_award_48 : decode cX8_award 48 = .ok (.ireturn, 1) := by decide +kernel
theorem dX8_award_49 : decode cX8_award 49 = .ok (.iload_n 1, 1) := by decide +kernel
theorem dX8_award_50 : decode cX8_award 50 = .ok (.iload_n 2, 1) := by decide +kernel
theorem dX8_award_51 : decode cX8_award 51 = .ok (.invokestatic 239, 3) := by decide +kernel
theorem dX8_award_54 : decode cX8_award 54 = .ok (.istore_n 3, 1) := by decide +kernel
theorem dX8_award_55 : decode cX8_award 55 = .ok (.aload_n 0, 1) := by decide +kernel
theorem dX8_award_56 : decode cX8_award 56 = .ok (.getfield 179, 3) := by decide +kernel
theorem dX8_award_59 : decode cX8_award 59 = .ok (.aload_n 0, 1) := by decide +kernel
theorem dX8_award_60 : decode cX8_award 60 = .ok (.getfield 143, 3) := by decide +kernel
theorem dX8_award_63 : decode cX8_award 63 = .ok (.iload_n 3, 1) := by decide +kernel
theorem dX8_award_64 : decode cX8_award 64 = .ok (.iaload, 1) := by decide +kernel
theorem dX8_award_65 : decode cX8_award 65 = .ok (.isub, 1) := by decide +kernel
theorem dX8_award_66 : decode cX8_award 66 = .ok (.sipush 400, 3) := by decide +kernel
theorem dX8_award_69 : decode cX8_award 69 = .ok (.if_icmp .le 9, 3) := by decide +kernel
theorem dX8_award_72 : decode cX8_award 72 = .ok (.sipush 400, 3) := by decide +kernel
theorem dX8_award_75 : decode cX8_award 75 = .ok (.goto 14, 3) := by decide +kernel
theorem dX8_award_78 : decode cX8_award 78 = .ok (.aload_n 0, 1) := by decide +kernel
theorem dX8_award_79 : decode cX8_award 79 = .ok (.getfield 179, 3) := by decide +kernel
theorem dX8_award_82 : decode cX8_award 82 = .ok (.aload_n 0, 1) := by decide +kernel
theorem dX8_award_83 : decode cX8_award 83 = .ok (.getfield 143, 3) := by decide +kernel
theorem dX8_award_86 : decode cX8_award 86 = .ok (.iload_n 3, 1) := by decide +kernel
theorem dX8_award_87 : decode cX8_award 87 = .ok (.iaload, 1) := by decide +kernel
theorem dX8_award_88 : decode cX8_award 88 = .ok (.isub, 1) := by decide +kernel
theorem dX8_award_89 : decode cX8_award 89 = .ok (.istore 4, 2) := by decide +kernel
theorem dX8_award_91 : decode cX8_award 91 = .ok (.iconst 2, 1) := by decide +kernel
theorem dX8_award_92 : decode cX8_award 92 = .ok (.aload_n 0, 1) := by decide +kernel
theorem dX8_award_93 : decode cX8_award 93 = .ok (.getfield 146, 3) := by decide +kernel
theorem dX8_award_96 : decode cX8_award 96 = .ok (.iload_n 3, 1) := by decide +kernel
theorem dX8_award_97 : decode cX8_award 97 = .ok (.iaload, 1) := by decide +kernel
theorem dX8_award_98 : decode cX8_award 98 = .ok (.imul, 1) := by decide +kernel
theorem dX8_award_99 : decode cX8_award 99 = .ok (.iload 4, 2) := by decide +kernel
theorem dX8_award_101 : decode cX8_award 101 = .ok (.imul, 1) := by decide +kernel
theorem dX8_award_102 : decode cX8_award 102 = .ok (.aload_n 0, 1) := by decide +kernel
theorem dX8_award_103 : decode cX8_award 103 = .ok (.getfield 7, 3) := by decide +kernel
theorem dX8_award_106 : decode cX8_award 106 = .ok (.iload_n 1, 1) := by decide +kernel
theorem dX8_award_107 : decode cX8_award 107 = .ok (.iaload, 1) := by decide +kernel
theorem dX8_award_108 : decode cX8_award 108 = .ok (.if_icmp .ge 17, 3) := by decide +kernel
theorem dX8_award_111 : decode cX8_award 111 = .ok (.iconst 2, 1) := by decide +kernel
theorem dX8_award_112 : decode cX8_award 112 = .ok (.aload_n 0, 1) := by decide +kernel
theorem dX8_award_113 : decode cX8_award 113 = .ok (.getfield 146, 3) := by decide +kernel
theorem dX8_award_116 : decode cX8_award 116 = .ok (.iload_n 3, 1) := by decide +kernel
theorem dX8_award_117 : decode cX8_award 117 = .ok (.iaload, 1) := by decide +kernel
theorem dX8_award_118 : decode cX8_award 118 = .ok (.imul, 1) := by decide +kernel
theorem dX8_award_119 : decode cX8_award 119 = .ok (.iload 4, 2) := by decide +kernel
theorem dX8_award_121 : decode cX8_award 121 = .ok (.imul, 1) := by decide +kernel
theorem dX8_award_122 : decode cX8_award 122 = .ok (.goto 9, 3) := by decide +kernel
theorem dX8_award_125 : decode cX8_award 125 = .ok (.aload_n 0, 1) := by decide +kernel
theorem dX8_award_126 : decode cX8_award 126 = .ok (.getfield 7, 3) := by decide +kernel
theorem dX8_award_129 : decode cX8_award 129 = .ok (.iload_n 1, 1) := by decide +kernel
theorem dX8_award_130 : decode cX8_award 130 = .ok (.iaload, 1) := by decide +kernel
theorem dX8_award_131 : decode cX8_award 131 = .ok (.istore 5, 2) := by decide +kernel
theorem dX8_award_133 : decode cX8_award 133 = .ok (.aload_n 0, 1) := by decide +kernel
theorem dX8_award_134 : decode cX8_award 134 = .ok (.getfield 149, 3) := by decide +kernel
theorem dX8_award_137 : decode cX8_award 137 = .ok (.iload_n 3, 1) := by decide +kernel
theorem dX8_award_138 : decode cX8_award 138 = .ok (.iconst 0, 1) := by decide +kernel
theorem dX8_award_139 : decode cX8_award 139 = .ok (.bastore, 1) := by decide +kernel
theorem dX8_award_140 : decode cX8_award 140 = .ok (.aload_n 0, 1) := by decide +kernel
theorem dX8_award_141 : decode cX8_award 141 = .ok (.getfield 7, 3) := by decide +kernel
theorem dX8_award_144 : decode cX8_award 144 = .ok (.iload_n 1, 1) := by decide +kernel
theorem dX8_award_145 : decode cX8_award 145 = .ok (.dup2, 1) := by decide +kernel
theorem dX8_award_146 : decode cX8_award 146 = .ok (.iaload, 1) := by decide +kernel
theorem dX8_award_147 : decode cX8_award 147 = .ok (.iload 5, 2) := by decide +kernel
theorem dX8_award_149 : decode cX8_award 149 = .ok (.isub, 1) := by decide +kernel
theorem dX8_award_150 : decode cX8_award 150 = .ok (.iastore, 1) := by decide +kernel
theorem dX8_award_151 : decode cX8_award 151 = .ok (.aload_n 0, 1) := by decide +kernel
theorem dX8_award_152 : decode cX8_award 152 = .ok (.getfield 19, 3) := by decide +kernel
theorem dX8_award_155 : decode cX8_award 155 = .ok (.iload_n 1, 1) := by decide +kernel
theorem dX8_award_156 : decode cX8_award 156 = .ok (.dup2, 1) := by decide +kernel
theorem dX8_award_157 : decode cX8_award 157 = .ok (.iaload, 1) := by decide +kernel
theorem dX8_award_158 : decode cX8_award 158 = .ok (.iload 5, 2) := by decide +kernel
theorem dX8_award_160 : decode cX8_award 160 = .ok (.iadd, 1) := by decide +kernel
theorem dX8_award_161 : decode cX8_award 161 = .ok (.iastore, 1) := by decide +kernel
theorem dX8_award_162 : decode cX8_award 162 = .ok (.aload_n 0, 1) := by decide +kernel
theorem dX8_award_163 : decode cX8_award 163 = .ok (.getfield 131, 3) := by decide +kernel
theorem dX8_award_166 : decode cX8_award 166 = .ok (.iload_n 2, 1) := by decide +kernel
theorem dX8_award_167 : decode cX8_award 167 = .ok (.dup2, 1) := by decide +kernel
theorem dX8_award_168 : decode cX8_award 168 = .ok (.iaload, 1) := by decide +kernel
theorem dX8_award_169 : decode cX8_award 169 = .ok (.iload 5, 2) := by decide +kernel
theorem dX8_award_171 : decode cX8_award 171 = .ok (.iadd, 1) := by decide +kernel
theorem dX8_award_172 : decode cX8_award 172 = .ok (.iastore, 1) := by decide +kernel
theorem dX8_award_173 : decode cX8_award 173 = .ok (.iload 5, 2) := by decide +kernel
theorem dX8_award_175 : decode cX8_award 175 = .ok (.ireturn, 1) := by decide +kernel
set_option maxRecDepth 20000 in
theorem ggX8_pass_X8_in : GoodIn wsX8_pass wsX8_in := goodIn_r _ [6] (by decide +kernel) (by decide +kernel)
set_option maxRecDepth 20000 in
theorem gX8_pass_X8_in : GoodIn wsX8_pass (va_wsS RX8 156 yX8_in wsX8_in) := goodIn_app (goodIn_of _ (by decide +kernel)) ggX8_pass_X8_in
theorem dX8_pass_0 : decode cX8_pass 0 = .ok (.aload_n 0, 1) := by decide +kernel
theorem dX8_pass_1 : decode cX8_pass 1 = .ok (.iload_n 1, 1) := by decide +kernel
theorem dX8_pass_2 : decode cX8_pass 2 = .ok (.iconst 1, 1) := by decide +kernel
theorem dX8_pass_3 : decode cX8_pass 3 = .ok (.sipush 300, 3) := by decide +kernel
theorem dX8_pass_6 : decode cX8_pass 6 = .ok (.invokestatic 156, 3) := by decide +kernel
theorem dX8_pass_9 : decode cX8_pass 9 = .ok (.ifCond .ne 7, 3) := by decide +kernel
theorem dX8_pass_12 : decode cX8_pass 12 = .ok (.iconst 1, 1) := by decide +kernel
theorem dX8_pass_13 : decode cX8_pass 13 = .ok (.goto 20, 3) := by decide +kernel
theorem dX8_pass_16 : decode cX8_pass 16 = .ok (.aload_n 0, 1) := by decide +kernel
theorem dX8_pass_17 : decode cX8_pass 17 = .ok (.getfield 179, 3) := by decide +kernel
theorem dX8_pass_20 : decode cX8_pass 20 = .ok (.iload_n 1, 1) := by decide +kernel
theorem dX8_pass_21 : decode cX8_pass 21 = .ok (.iadd, 1) := by decide +kernel
theorem dX8_pass_22 : decode cX8_pass 22 = .ok (.sipush 3000, 3) := by decide +kernel
theorem dX8_pass_25 : decode cX8_pass 25 = .ok (.if_icmp .le 7, 3) := by decide +kernel
theorem dX8_pass_28 : decode cX8_pass 28 = .ok (.iconst 2, 1) := by decide +kernel
theorem dX8_pass_29 : decode cX8_pass 29 = .ok (.goto 4, 3) := by decide +kernel
theorem dX8_pass_32 : decode cX8_pass 32 = .ok (.iconst 0, 1) := by decide +kernel
theorem dX8_pass_33 : decode cX8_pass 33 = .ok (.putfield 152, 3) := by decide +kernel
theorem dX8_pass_36 : decode cX8_pass 36 = .ok (.aload_n 0, 1) := by decide +kernel
theorem dX8_pass_37 : decode cX8_pass 37 = .ok (.getfield 152, 3) := by decide +kernel
theorem dX8_pass_40 : decode cX8_pass 40 = .ok (.ifCond .le 5, 3) := by decide +kernel
theorem dX8_pass_43 : decode cX8_pass 43 = .ok (.iconst 0, 1) := by decide +kernel
theorem dX8_pass_44 : decode cX8_pass 44 = .ok (.ireturn, 1) := by decide +kernel
theorem dX8_pass_45 : decode cX8_pass 45 = .ok (.aload_n 0, 1) := by decide +kernel
theorem dX8_pass_46 : decode cX8_pass 46 = .ok (.dup, 1) := by decide +kernel
theorem dX8_pass_47 : decode cX8_pass 47 = .ok (.getfield 179, 3) := by decide +kernel
theorem dX8_pass_50 : decode cX8_pass 50 = .ok (.iload_n 1, 1) := by decide +kernel
theorem dX8_pass_51 : decode cX8_pass 51 = .ok (.iadd, 1) := by decide +kernel
theorem dX8_pass_52 : decode cX8_pass 52 = .ok (.putfield 179, 3) := by decide +kernel
theorem dX8_pass_55 : decode cX8_pass 55 = .ok (.aload_n 0, 1) := by decide +kernel
theorem dX8_pass_56 : decode cX8_pass 56 = .ok (.getfield 179, 3) := by decide +kernel
theorem dX8_pass_59 : decode cX8_pass 59 = .ok (.ireturn, 1) := by decide +kernel
set_option maxRecDepth 20000 in
theorem ggX8_covers_X8_isSuit : GoodIn wsX8_covers wsX8_isSuit := goodIn_r _ [6, 7, 8, 9, 5, 10, 37, 38, 39, 40, 41, 42, 43, 44, 45, 46, 47, 48, 49, 50, 51, 52, 53, 54, 55, 56, 57, 58, 59, 60, 61, 62, 63, 64, 65, 66, 67, 68, 69, 70, 71, 72, 73, 74, 75, 76, 77, 78, 79, 80, 81, 82, 83, 84, 85, 86, 87, 88, 89, 90, 91] (by decide +kernel) (by decide +kernel)
set_option maxRecDepth 20000 in
theorem gX8_covers_X8_isSuit : GoodIn wsX8_covers (wsV RX8 218 RX8 yX8_isSuit wsX8_isSuit) := goodIn_app (goodIn_of _ (by decide +kernel)) ggX8_covers_X8_isSuit
set_option maxRecDepth 20000 in
theorem ggX8_covers_X8_isScheme : GoodIn wsX8_covers wsX8_isScheme := goodIn_r _ [14, 15, 8, 9, 5, 10, 37, 38, 39, 40, 41, 42, 43, 44, 45, 46, 47, 48, 49, 50, 51, 52, 53, 54, 55, 56, 57, 58, 59, 60, 61, 62, 63, 64, 65, 66, 67, 68, 69, 70, 71, 72, 73, 74, 75, 76, 77, 78, 79, 80, 81, 82, 83, 84, 85, 86, 87, 88, 89, 90, 91] (by decide +kernel) (by decide +kernel)
set_option maxRecDepth 20000 in
theorem gX8_covers_X8_isScheme : GoodIn wsX8_covers (wsV RX8 173 RX8 yX8_isScheme wsX8_isScheme) := goodIn_app (goodIn_of _ (by decide +kernel)) ggX8_covers_X8_isScheme
set_option maxRecDepth 20000 in
theorem ggX8_covers_X8_dayOf : GoodIn wsX8_covers wsX8_dayOf := goodIn_r _ [19, 20, 21, 22, 23, 24, 25, 26, 27, 28, 29, 30, 31, 32, 5, 33, 34, 35, 36, 37, 38, 39, 40, 41, 42, 43, 44, 45, 46, 47, 48, 49, 50, 51, 52, 53, 54, 55, 56, 57, 58, 59, 60, 61, 62, 63, 64, 65, 66, 67, 68, 69, 70, 71, 72, 73, 74, 75, 76, 77, 78, 79, 80, 81, 82, 83, 84, 85, 86, 87, 88, 89, 90, 91] (by decide +kernel) (by decide +kernel)
set_option maxRecDepth 20000 in
theorem gX8_covers_X8_dayOf : GoodIn wsX8_covers (wsV RX8 192 RX8 yX8_dayOf wsX8_dayOf) := goodIn_app (goodIn_of _ (by decide +kernel)) ggX8_covers_X8_dayOf
theorem dX8_covers_0 : decode cX8_covers 0 = .ok (.aload_n 0, 1) := by decide +kernel
theorem dX8_covers_1 : decode cX8_covers 1 = .ok (.aload_n 0, 1) := by decide +kernel
theorem dX8_covers_2 : decode cX8_covers 2 = .ok (.iload_n 1, 1) := by decide +kernel
theorem dX8_covers_3 : decode cX8_covers 3 = .ok (.invokevirtual 218, 3) := by decide +kernel
theorem dX8_covers_6 : decode cX8_covers 6 = .ok (.ifCond .eq 15, 3) := by decide +kernel
theorem dX8_covers_9 : decode cX8_covers 9 = .ok (.aload_n 0, 1) := by decide +kernel
theorem dX8_covers_10 : decode cX8_covers 10 = .ok (.iload_n 2, 1) := by decide +kernel
theorem dX8_covers_11 : decode cX8_covers 11 = .ok (.invokevirtual 173, 3) := by decide +kernel
theorem dX8_covers_14 : decode cX8_covers 14 = .ok (.ifCond .eq 7, 3) := by decide +kernel
theorem dX8_covers_17 : decode cX8_covers 17 = .ok (.iconst 0, 1) := by decide +kernel
theorem dX8_covers_18 : decode cX8_covers 18 = .ok (.goto 4, 3) := by decide +kernel
theorem dX8_covers_21 : decode cX8_covers 21 = .ok (.iconst 1, 1) := by decide +kernel
theorem dX8_covers_22 : decode cX8_covers 22 = .ok (.putfield 152, 3) := by decide +kernel
theorem dX8_covers_25 : decode cX8_covers 25 = .ok (.aload_n 0, 1) := by decide +kernel
theorem dX8_covers_26 : decode cX8_covers 26 = .ok (.getfield 152, 3) := by decide +kernel
theorem dX8_covers_29 : decode cX8_covers 29 = .ok (.ifCond .le 7, 3) := by decide +kernel
theorem dX8_covers_32 : decode cX8_covers 32 = .ok (.iconst 0, 1) := by decide +kernel
theorem dX8_covers_33 : decode cX8_covers 33 = .ok (.goto 9, 3) := by decide +kernel
theorem dX8_covers_36 : decode cX8_covers 36 = .ok (.aload_n 0, 1) := by decide +kernel
theorem dX8_covers_37 : decode cX8_covers 37 = .ok (.iload_n 1, 1) := by decide +kernel
theorem dX8_covers_38 : decode cX8_covers 38 = .ok (.iload_n 2, 1) := by decide +kernel
theorem dX8_covers_39 : decode cX8_covers 39 = .ok (.invokevirtual 192, 3) := by decide +kernel
theorem dX8_covers_42 : decode cX8_covers 42 = .ok (.ireturn, 1) := by decide +kernel
set_option maxRecDepth 20000 in
theorem ggX8_bars_X8_isSuit : GoodIn wsX8_bars wsX8_isSuit := goodIn_r _ [6, 7, 8, 9, 5, 10, 52, 53, 54, 55, 56, 57, 58, 59, 60, 61, 62, 63, 64, 65, 66, 67, 68, 69, 70, 71, 72, 73, 74, 75, 76, 77, 78, 79, 80, 81, 82, 83, 84, 85, 86, 87, 88, 89, 90, 91, 92, 93, 94, 95, 96, 97, 98, 99, 100, 101, 102, 103, 104, 105, 106] (by decide +kernel) (by decide +kernel)
set_option maxRecDepth 20000 in
theorem gX8_bars_X8_isSuit : GoodIn wsX8_bars (wsV RX8 218 RX8 yX8_isSuit wsX8_isSuit) := goodIn_app (goodIn_of _ (by decide +kernel)) ggX8_bars_X8_isSuit
set_option maxRecDepth 20000 in
theorem ggX8_bars_X8_isScheme : GoodIn wsX8_bars wsX8_isScheme := goodIn_r _ [14, 15, 8, 9, 5, 10, 52, 53, 54, 55, 56, 57, 58, 59, 60, 61, 62, 63, 64, 65, 66, 67, 68, 69, 70, 71, 72, 73, 74, 75, 76, 77, 78, 79, 80, 81, 82, 83, 84, 85, 86, 87, 88, 89, 90, 91, 92, 93, 94, 95, 96, 97, 98, 99, 100, 101, 102, 103, 104, 105, 106] (by decide +kernel) (by decide +kernel)
set_option maxRecDepth 20000 in
theorem gX8_bars_X8_isScheme : GoodIn wsX8_bars (wsV RX8 173 RX8 yX8_isScheme wsX8_isScheme) := goodIn_app (goodIn_of _ (by decide +kernel)) ggX8_bars_X8_isScheme
set_option maxRecDepth 20000 in
theorem ggX8_bars_X8_bar : GoodIn wsX8_bars wsX8_bar := goodIn_r _ [19, 20, 21, 22, 23, 24, 25, 5, 26, 27, 28, 29, 30, 31, 32, 33, 34, 35, 36, 37, 38, 39, 40, 41, 42, 43, 44, 45, 7, 46, 47, 48, 49, 50, 51, 52, 53, 54, 55, 56, 57, 58, 59, 60, 61, 62, 63, 64, 65, 66, 67, 68, 69, 70, 71, 72, 73, 74, 75, 76, 77, 78, 79, 80, 81, 82, 83, 84, 85, 86, 87, 88, 89, 90, 91, 92, 93, 94, 95, 96, 97, 98, 99, 100, 101, 102, 103, 104, 105, 106] (by decide +kernel) (by decide +kernel)
set_option maxRecDepth 20000 in
theorem gX8_bars_X8_bar : GoodIn wsX8_bars (wsV RX8 209 RX8 yX8_bar wsX8_bar) := goodIn_app (goodIn_of _ (by decide +kernel)) ggX8_bars_X8_bar
theorem dX8_bars_0 : decode cX8_bars 0 = .ok (.aload_n 0, 1) := by decide +kernel
theorem dX8_bars_1 : decode cX8_bars 1 = .ok (.aload_n 0, 1) := by decide +kernel
theorem dX8_bars_2 : decode cX8_bars 2 = .ok (.iload_n 1, 1) := by decide +kernel
theorem dX8_bars_3 : decode cX8_bars 3 = .ok (.invokevirtual 218, 3) := by decide +kernel
theorem dX8_bars_6 : decode cX8_bars 6 = .ok (.ifCond .eq 15, 3) := by decide +kernel
theorem dX8_bars_9 : decode cX8_bars 9 = .ok (.aload_n 0, 1) := by decide +kernel
theorem dX8_bars_10 : decode cX8_bars 10 = .ok (.iload_n 2, 1) := by decide +kernel
theorem dX8_bars_11 : decode cX8_bars 11 = .ok (.invokevirtual 173, 3) := by decide +kernel
theorem dX8_bars_14 : decode cX8_bars 14 = .ok (.ifCond .eq 7, 3) := by decide +kernel
theorem dX8_bars_17 : decode cX8_bars 17 = .ok (.iconst 0, 1) := by decide +kernel
theorem dX8_bars_18 : decode cX8_bars 18 = .ok (.goto 4, 3) := by decide +kernel
theorem dX8_bars_21 : decode cX8_bars 21 = .ok (.iconst 1, 1) := by decide +kernel
theorem dX8_bars_22 : decode cX8_bars 22 = .ok (.putfield 152, 3) := by decide +kernel
theorem dX8_bars_25 : decode cX8_bars 25 = .ok (.aload_n 0, 1) := by decide +kernel
theorem dX8_bars_26 : decode cX8_bars 26 = .ok (.getfield 152, 3) := by decide +kernel
theorem dX8_bars_29 : decode cX8_bars 29 = .ok (.ifCond .le 7, 3) := by decide +kernel
theorem dX8_bars_32 : decode cX8_bars 32 = .ok (.iconst 0, 1) := by decide +kernel
theorem dX8_bars_33 : decode cX8_bars 33 = .ok (.goto 9, 3) := by decide +kernel
theorem dX8_bars_36 : decode cX8_bars 36 = .ok (.aload_n 0, 1) := by decide +kernel
theorem dX8_bars_37 : decode cX8_bars 37 = .ok (.iload_n 1, 1) := by decide +kernel
theorem dX8_bars_38 : decode cX8_bars 38 = .ok (.iload_n 2, 1) := by decide +kernel
theorem dX8_bars_39 : decode cX8_bars 39 = .ok (.invokevirtual 209, 3) := by decide +kernel
theorem dX8_bars_42 : decode cX8_bars 42 = .ok (.ireturn, 1) := by decide +kernel
set_option maxRecDepth 20000 in
theorem ggX8_first_X8_isScheme : GoodIn wsX8_first wsX8_isScheme := goodIn_r _ [6, 7, 8, 9, 5, 10, 38, 39, 40, 41, 42, 43, 44, 45, 46, 47, 48, 49, 50, 51, 52, 53, 54, 55, 56, 57, 58, 59, 60, 61, 62, 63, 64, 65, 66, 67, 68, 69, 70, 71, 72, 73, 74, 75, 76, 77, 78, 79, 80, 81, 82, 83, 84, 85, 86, 87, 88, 89, 90, 91, 92] (by decide +kernel) (by decide +kernel)
set_option maxRecDepth 20000 in
theorem gX8_first_X8_isScheme : GoodIn wsX8_first (wsV RX8 173 RX8 yX8_isScheme wsX8_isScheme) := goodIn_app (goodIn_of _ (by decide +kernel)) ggX8_first_X8_isScheme
set_option maxRecDepth 20000 in
theorem ggX8_first_X8_firstOf : GoodIn wsX8_first wsX8_firstOf := goodIn_r _ [14, 15, 16, 17, 18, 19, 5, 20, 21, 22, 23, 24, 25, 26, 27, 28, 29, 30, 31, 32, 33, 34, 35, 36, 37, 38, 39, 40, 41, 42, 43, 44, 45, 46, 47, 48, 49, 50, 51, 52, 53, 54, 55, 56, 57, 58, 59, 60, 61, 62, 63, 64, 65, 66, 67, 68, 69, 70, 71, 72, 73, 74, 75, 76, 77, 78, 79, 80, 81, 82, 83, 84, 85, 86, 87, 88, 89, 90, 91, 92] (by decide +kernel) (by decide +kernel)
set_option maxRecDepth 20000 in
theorem gX8_first_X8_firstOf : GoodIn wsX8_first (wsV RX8 206 RX8 yX8_firstOf wsX8_firstOf) := goodIn_app (goodIn_of _ (by decide +kernel)) ggX8_first_X8_firstOf
theorem dX8_first_0 : decode cX8_first 0 = .ok (.aload_n 0, 1) := by decide +kernel
theorem dX8_first_1 : decode cX8_first 1 = .ok (.aload_n 0, 1) := by decide +kernel
theorem dX8_first_2 : decode cX8_first 2 = .ok (.iload_n 1, 1) := by decide +kernel
theorem dX8_first_3 : decode cX8_first 3 = .ok (.invokevirtual 173, 3) := by decide +kernel
theorem dX8_first_6 : decode cX8_first 6 = .ok (.ifCond .eq 7, 3) := by decide +kernel
theorem dX8_first_9 : decode cX8_first 9 = .ok (.iconst 0, 1) := by decide +kernel
theorem dX8_first_10 : decode cX8_first 10 = .ok (.goto 4, 3) := by decide +kernel
theorem dX8_first_13 : decode cX8_first 13 = .ok (.iconst 1, 1) := by decide +kernel
theorem dX8_first_14 : decode cX8_first 14 = .ok (.putfield 152, 3) := by decide +kernel
theorem dX8_first_17 : decode cX8_first 17 = .ok (.aload_n 0, 1) := by decide +kernel
theorem dX8_first_18 : decode cX8_first 18 = .ok (.getfield 152, 3) := by decide +kernel
theorem dX8_first_21 : decode cX8_first 21 = .ok (.ifCond .le 7, 3) := by decide +kernel
theorem dX8_first_24 : decode cX8_first 24 = .ok (.iconst 0, 1) := by decide +kernel
theorem dX8_first_25 : decode cX8_first 25 = .ok (.goto 8, 3) := by decide +kernel
theorem dX8_first_28 : decode cX8_first 28 = .ok (.aload_n 0, 1) := by decide +kernel
theorem dX8_first_29 : decode cX8_first 29 = .ok (.iload_n 1, 1) := by decide +kernel
theorem dX8_first_30 : decode cX8_first 30 = .ok (.invokevirtual 206, 3) := by decide +kernel
theorem dX8_first_33 : decode cX8_first 33 = .ok (.ireturn, 1) := by decide +kernel
set_option maxRecDepth 20000 in
theorem ggX8_firstAnew_X8_first : GoodIn wsX8_firstAnew wsX8_first := goodIn_r _ [5, 6, 7, 8, 9, 4, 10, 11, 12, 13, 14, 15, 16, 17, 18, 19, 20, 21, 22, 23, 24, 25, 26, 27, 28, 29, 30, 31, 32, 33, 34, 35, 36, 37, 38, 39, 40, 41, 42, 43, 44, 45, 46, 47, 48, 49, 50, 51, 52, 53, 54, 55, 56, 57, 58, 59, 60, 61, 62, 63, 64, 65, 66, 67, 68, 69, 70, 71, 72, 73, 74, 75, 76, 77, 78, 79, 80, 81, 82, 83, 84, 85, 86, 87, 88, 89, 90, 91, 92, 93, 94, 95, 96] (by decide +kernel) (by decide +kernel)
set_option maxRecDepth 20000 in
theorem gX8_firstAnew_X8_first : GoodIn wsX8_firstAnew (wsV RX8 245 RX8 yX8_first wsX8_first) := goodIn_app (goodIn_of _ (by decide +kernel)) ggX8_firstAnew_X8_first
theorem dX8_firstAnew_0 : decode cX8_firstAnew 0 = .ok (.aload_n 0, 1) := by decide +kernel
theorem dX8_firstAnew_1 : decode cX8_firstAnew 1 = .ok (.iload_n 1, 1) := by decide +kernel
theorem dX8_firstAnew_2 : decode cX8_firstAnew 2 = .ok (.invokevirtual 245, 3) := by decide +kernel
theorem dX8_firstAnew_5 : decode cX8_firstAnew 5 = .ok (.ireturn, 1) := by decide +kernel
set_option maxRecDepth 20000 in
theorem ggX8_due_X8_isSuit : GoodIn wsX8_due wsX8_isSuit := goodIn_r _ [6, 7, 8, 9, 5, 10, 66, 67, 68, 69, 70, 71, 72, 73, 74, 75, 76, 77, 78, 79, 80, 81, 82, 83, 84, 85, 86, 87, 88, 89, 90, 91, 92, 93, 94, 95, 96, 97, 98, 99, 100, 101, 102, 103, 104, 105, 106, 107, 108, 109, 110, 111, 112, 113, 114, 115, 116, 117, 118, 119, 120] (by decide +kernel) (by decide +kernel)
set_option maxRecDepth 20000 in
theorem gX8_due_X8_isSuit : GoodIn wsX8_due (wsV RX8 218 RX8 yX8_isSuit wsX8_isSuit) := goodIn_app (goodIn_of _ (by decide +kernel)) ggX8_due_X8_isSuit
set_option maxRecDepth 20000 in
theorem ggX8_due_X8_dues : GoodIn wsX8_due wsX8_dues := goodIn_r _ [14, 15, 16, 17, 18, 19, 20, 21, 22, 23, 24, 25, 26, 5, 27, 28, 29, 30, 31, 32, 33, 34, 35, 36, 37, 38, 39, 40, 41, 42, 43, 44, 45, 46, 47, 48, 49, 50, 51, 52, 53, 54, 55, 56, 57, 58, 59, 60, 7, 61, 62, 63, 64, 65, 66, 67, 68, 69, 70, 71, 72, 73, 74, 75, 76, 77, 78, 79, 80, 81, 82, 83, 84, 85, 86, 87, 88, 89, 90, 91, 92, 93, 94, 95, 96, 97, 98, 99, 100, 101, 102, 103, 104, 105, 106, 107, 108, 109, 110, 111, 112, 113, 114, 115, 116, 117, 118, 119, 120] (by decide +kernel) (by decide +kernel)
set_option maxRecDepth 20000 in
theorem gX8_due_X8_dues : GoodIn wsX8_due (wsV RX8 232 RX8 yX8_dues wsX8_dues) := goodIn_app (goodIn_of _ (by decide +kernel)) ggX8_due_X8_dues
theorem dX8_due_0 : decode cX8_due 0 = .ok (.aload_n 0, 1) := by decide +kernel
theorem dX8_due_1 : decode cX8_due 1 = .ok (.aload_n 0, 1) := by decide +kernel
theorem dX8_due_2 : decode cX8_due 2 = .ok (.iload_n 1, 1) := by decide +kernel
theorem dX8_due_3 : decode cX8_due 3 = .ok (.invokevirtual 218, 3) := by decide +kernel
theorem dX8_due_6 : decode cX8_due 6 = .ok (.ifCond .eq 7, 3) := by decide +kernel
theorem dX8_due_9 : decode cX8_due 9 = .ok (.iconst 0, 1) := by decide +kernel
theorem dX8_due_10 : decode cX8_due 10 = .ok (.goto 4, 3) := by decide +kernel
theorem dX8_due_13 : decode cX8_due 13 = .ok (.iconst 1, 1) := by decide +kernel
theorem dX8_due_14 : decode cX8_due 14 = .ok (.putfield 152, 3) := by decide +kernel
theorem dX8_due_17 : decode cX8_due 17 = .ok (.aload_n 0, 1) := by decide +kernel
theorem dX8_due_18 : decode cX8_due 18 = .ok (.getfield 152, 3) := by decide +kernel
theorem dX8_due_21 : decode cX8_due 21 = .ok (.ifCond .le 7, 3) := by decide +kernel
theorem dX8_due_24 : decode cX8_due 24 = .ok (.iconst 0, 1) := by decide +kernel
theorem dX8_due_25 : decode cX8_due 25 = .ok (.goto 8, 3) := by decide +kernel
theorem dX8_due_28 : decode cX8_due 28 = .ok (.aload_n 0, 1) := by decide +kernel
theorem dX8_due_29 : decode cX8_due 29 = .ok (.iload_n 1, 1) := by decide +kernel
theorem dX8_due_30 : decode cX8_due 30 = .ok (.invokevirtual 232, 3) := by decide +kernel
theorem dX8_due_33 : decode cX8_due 33 = .ok (.ireturn, 1) := by decide +kernel
set_option maxRecDepth 20000 in
theorem ggX8_sees_X8_isTeller : GoodIn wsX8_sees wsX8_isTeller := goodIn_r _ [6, 7, 8, 5, 9] (by decide +kernel) (by decide +kernel)
set_option maxRecDepth 20000 in
theorem gX8_sees_X8_isTeller : GoodIn wsX8_sees (va_wsS RX8 182 yX8_isTeller wsX8_isTeller) := goodIn_app (goodIn_of _ (by decide +kernel)) ggX8_sees_X8_isTeller
set_option maxRecDepth 20000 in
theorem ggX8_sees_X8_isSuit : GoodIn wsX8_sees wsX8_isSuit := goodIn_r _ [13, 14, 7, 8, 5, 9, 21, 22, 23, 24, 25, 26, 27, 28, 29, 30, 31, 32, 33, 34, 35, 36, 37, 38, 39, 40, 41, 42, 43, 44, 45, 46, 47, 48, 49, 50, 51, 52, 53, 54, 55, 56, 57, 58, 59, 60, 61, 62, 63, 64, 65, 66, 67, 68, 69, 70, 71, 72, 73, 74, 75] (by decide +kernel) (by decide +kernel)
set_option maxRecDepth 20000 in
theorem gX8_sees_X8_isSuit : GoodIn wsX8_sees (wsV RX8 218 RX8 yX8_isSuit wsX8_isSuit) := goodIn_app (goodIn_of _ (by decide +kernel)) ggX8_sees_X8_isSuit
set_option maxRecDepth 20000 in
theorem ggX8_sees_X8_isSealed : GoodIn wsX8_sees wsX8_isSealed := goodIn_r _ [18, 19, 20, 21, 22, 23, 24, 25, 26, 27, 28, 29, 30, 31, 32, 33, 34, 35, 36, 37, 38, 39, 40, 41, 42, 43, 44, 45, 46, 47, 48, 49, 50, 51, 52, 53, 54, 55, 56, 57, 58, 59, 60, 61, 62, 63, 64, 65, 66, 67, 68, 69, 70, 71, 72, 73, 74, 75] (by decide +kernel) (by decide +kernel)
set_option maxRecDepth 20000 in
theorem gX8_sees_X8_isSealed : GoodIn wsX8_sees (wsV RX8 196 RX8 yX8_isSealed wsX8_isSealed) := goodIn_app (goodIn_of _ (by decide +kernel)) ggX8_sees_X8_isSealed
theorem dX8_sees_0 : decode cX8_sees 0 = .ok (.aload_n 0, 1) := by decide +kernel
theorem dX8_sees_1 : decode cX8_sees 1 = .ok (.iload_n 1, 1) := by decide +kernel
theorem dX8_sees_2 : decode cX8_sees 2 = .ok (.invokestatic 182, 3) := by decide +kernel
theorem dX8_sees_5 : decode cX8_sees 5 = .ok (.ifCond .eq 15, 3) := by decide +kernel
theorem dX8_sees_8 : decode cX8_sees 8 = .ok (.aload_n 0, 1) := by decide +kernel
theorem dX8_sees_9 : decode cX8_sees 9 = .ok (.iload_n 2, 1) := by decide +kernel
theorem dX8_sees_10 : decode cX8_sees 10 = .ok (.invokevirtual 218, 3) := by decide +kernel
theorem dX8_sees_13 : decode cX8_sees 13 = .ok (.ifCond .eq 7, 3) := by decide +kernel
theorem dX8_sees_16 : decode cX8_sees 16 = .ok (.iconst 0, 1) := by decide +kernel
theorem dX8_sees_17 : decode cX8_sees 17 = .ok (.goto 4, 3) := by decide +kernel
theorem dX8_sees_20 : decode cX8_sees 20 = .ok (.iconst 1, 1) := by decide +kernel
theorem dX8_sees_21 : decode cX8_sees 21 = .ok (.putfield 152, 3) := by decide +kernel
theorem dX8_sees_24 : decode cX8_sees 24 = .ok (.aload_n 0, 1) := by decide +kernel
theorem dX8_sees_25 : decode cX8_sees 25 = .ok (.getfield 152, 3) := by decide +kernel
theorem dX8_sees_28 : decode cX8_sees 28 = .ok (.ifCond .ne 25, 3) := by decide +kernel
theorem dX8_sees_31 : decode cX8_sees 31 = .ok (.aload_n 0, 1) := by decide +kernel
theorem dX8_sees_32 : decode cX8_sees 32 = .ok (.getfield 77, 3) := by decide +kernel
theorem dX8_sees_35 : decode cX8_sees 35 = .ok (.iload_n 2, 1) := by decide +kernel
theorem dX8_sees_36 : decode cX8_sees 36 = .ok (.iaload, 1) := by decide +kernel
theorem dX8_sees_37 : decode cX8_sees 37 = .ok (.iload_n 1, 1) := by decide +kernel
theorem dX8_sees_38 : decode cX8_sees 38 = .ok (.if_icmp .eq 11, 3) := by decide +kernel
theorem dX8_sees_41 : decode cX8_sees 41 = .ok (.aload_n 0, 1) := by decide +kernel
theorem dX8_sees_42 : decode cX8_sees 42 = .ok (.iload_n 2, 1) := by decide +kernel
theorem dX8_sees_43 : decode cX8_sees 43 = .ok (.invokevirtual 196, 3) := by decide +kernel
theorem dX8_sees_46 : decode cX8_sees 46 = .ok (.ifCond .ne 7, 3) := by decide +kernel
theorem dX8_sees_49 : decode cX8_sees 49 = .ok (.iconst 1, 1) := by decide +kernel
theorem dX8_sees_50 : decode cX8_sees 50 = .ok (.goto 4, 3) := by decide +kernel
theorem dX8_sees_53 : decode cX8_sees 53 = .ok (.iconst 0, 1) := by decide +kernel
theorem dX8_sees_54 : decode cX8_sees 54 = .ok (.ireturn, 1) := by decide +kernel
set_option maxRecDepth 20000 in
theorem ggX8_ofSuit_X8_isSuit : GoodIn wsX8_ofSuit wsX8_isSuit := goodIn_r _ [15, 16, 17, 18, 14, 19, 59, 60, 61, 62, 63, 64, 65, 66, 67, 68, 69, 70, 71, 72, 73, 74, 75, 76, 77, 78, 79, 80, 81, 82, 83, 84, 85, 86, 87, 88, 89, 90, 91, 92, 93, 94, 95, 96, 97, 98, 99, 100, 101, 102, 103, 104, 105, 106, 107, 108, 109, 110, 111, 112, 113] (by decide +kernel) (by decide +kernel)
set_option maxRecDepth 20000 in
theorem gX8_ofSuit_X8_isSuit : GoodIn wsX8_ofSuit (wsV RX8 218 RX8 yX8_isSuit wsX8_isSuit) := goodIn_app (goodIn_of _ (by decide +kernel)) ggX8_ofSuit_X8_isSuit
set_option maxRecDepth 20000 in
theorem ggX8_ofSuit_X8_in : GoodIn wsX8_ofSuit wsX8_in := goodIn_r _ [19] (by decide +kernel) (by decide +kernel)
set_option maxRecDepth 20000 in
theorem gX8_ofSuit_X8_in : GoodIn wsX8_ofSuit (va_wsS RX8 156 yX8_in wsX8_in) := goodIn_app (goodIn_of _ (by decide +kernel)) ggX8_ofSuit_X8_in
set_option maxRecDepth 20000 in
theorem ggX8_ofSuit_X8_hundredthsOf : GoodIn wsX8_ofSuit wsX8_hundredthsOf := goodIn_r _ [23, 6, 24, 8, 25, 26, 2, 27, 28, 29, 14, 30, 4, 31, 32, 33, 34, 35, 36, 3, 37, 38, 5, 39, 40, 41, 42, 43, 44, 45, 46, 47, 48, 49, 50, 51, 52, 53, 16, 54, 55, 56, 57, 58, 59, 60, 61, 62, 63, 64, 65, 66, 67, 68, 69, 70, 71, 72, 73, 74, 75, 76, 77, 78, 79, 80, 81, 82, 83, 84, 85, 86, 87, 88, 89, 90, 91, 92, 93, 94, 95, 96, 97, 98, 99, 100, 101, 102, 103, 104, 105, 106, 107, 108, 109, 110, 111, 112, 113] (by decide +kernel) (by decide +kernel)
set_option maxRecDepth 20000 in
theorem gX8_ofSuit_X8_hundredthsOf : GoodIn wsX8_ofSuit (wsV RX8 224 RX8 yX8_hundredthsOf wsX8_hundredthsOf) := goodIn_app (goodIn_of _ (by decide +kernel)) ggX8_ofSuit_X8_hundredthsOf
theorem dX8_ofSuit_0 : decode cX8_ofSuit 0 = .ok (.aload_n 0, 1) := by decide +kernel
theorem dX8_ofSuit_1 : decode cX8_ofSuit 1 = .ok (.aload_n 0, 1) := by decide +kernel
theorem dX8_ofSuit_2 : decode cX8_ofSuit 2 = .ok (.iload_n 1, 1) := by decide +kernel
theorem dX8_ofSuit_3 : decode cX8_ofSuit 3 = .ok (.invokevirtual 218, 3) := by decide +kernel
theorem dX8_ofSuit_6 : decode cX8_ofSuit 6 = .ok (.ifCond .eq 17, 3) := by decide +kernel
theorem dX8_ofSuit_9 : decode cX8_ofSuit 9 = .ok (.iload_n 2, 1) := by decide +kernel
theorem dX8_ofSuit_10 : decode cX8_ofSuit 10 = .ok (.iconst 0, 1) := by decide +kernel
theorem dX8_ofSuit_11 : decode cX8_ofSuit 11 = .ok (.bipush 9, 2) := by decide +kernel
theorem dX8_ofSuit_13 : decode cX8_ofSuit 13 = .ok (.invokestatic 156, 3) := by decide +kernel
theorem dX8_ofSuit_16 : decode cX8_ofSuit 16 = .ok (.ifCond .eq 7, 3) := by decide +kernel
theorem dX8_ofSuit_19 : decode cX8_ofSuit 19 = .ok (.iconst 0, 1) := by decide +kernel
theorem dX8_ofSuit_20 : decode cX8_ofSuit 20 = .ok (.goto 4, 3) := by decide +kernel
theorem dX8_ofSuit_23 : decode cX8_ofSuit 23 = .ok (.iconst 1, 1) := by decide +kernel
theorem dX8_ofSuit_24 : decode cX8_ofSuit 24 = .ok (.putfield 152, 3) := by decide +kernel
theorem dX8_ofSuit_27 : decode cX8_ofSuit 27 = .ok (.aload_n 0, 1) := by decide +kernel
theorem dX8_ofSuit_28 : decode cX8_ofSuit 28 = .ok (.getfield 152, 3) := by decide +kernel
theorem dX8_ofSuit_31 : decode cX8_ofSuit 31 = .ok (.ifCond .le 5, 3) := by decide +kernel
theorem dX8_ofSuit_34 : decode cX8_ofSuit 34 = .ok (.iconst 0, 1) := by decide +kernel
theorem dX8_ofSuit_35 : decode cX8_ofSuit 35 = .ok (.ireturn, 1) := by decide +kernel
theorem dX8_ofSuit_36 : decode cX8_ofSuit 36 = .ok (.iload_n 2, 1) := by decide +kernel
theorem dX8_ofSuit_37 : decode cX8_ofSuit 37 = .ok (.tableswitch 114 0 8 #[51, 58, 65, 72, 79, 86, 93, 100, 107], 51) := by decide +kernel
theorem dX8_ofSuit_88 : decode cX8_ofSuit 88 = .ok (.aload_n 0, 1) := by decide +kernel
theorem dX8_ofSuit_89 : decode cX8_ofSuit 89 = .ok (.getfield 77, 3) := by decide +kernel
theorem dX8_ofSuit_92 : decode cX8_ofSuit 92 = .ok (.iload_n 1, 1) := by decide +kernel
theorem dX8_ofSuit_93 : decode cX8_ofSuit 93 = .ok (.iaload, 1) := by decide +kernel
theorem dX8_ofSuit_94 : decode cX8_ofSuit 94 = .ok (.ireturn, 1) := by decide +kernel
theorem dX8_ofSuit_95 : decode cX8_ofSuit 95 = .ok (.aload_n 0, 1) := by decide +kernel
theorem dX8_ofSuit_96 : decode cX8_ofSuit 96 = .ok (.getfield 80, 3) := by decide +kernel
theorem dX8_ofSuit_99 : decode cX8_ofSuit 99 = .ok (.iload_n 1, 1) := by decide +kernel
theorem dX8_ofSuit_100 : decode cX8_ofSuit 100 = .ok (.iaload, 1) := by decide +kernel
theorem dX8_ofSuit_101 : decode cX8_ofSuit 101 = .ok (.ireturn, 1) := by decide +kernel
theorem dX8_ofSuit_102 : decode cX8_ofSuit 102 = .ok (.aload_n 0, 1) := by decide +kernel
theorem dX8_ofSuit_103 : decode cX8_ofSuit 103 = .ok (.getfield 86, 3) := by decide +kernel
theorem dX8_ofSuit_106 : decode cX8_ofSuit 106 = .ok (.iload_n 1, 1) := by decide +kernel
theorem dX8_ofSuit_107 : decode cX8_ofSuit 107 = .ok (.iaload, 1) := by decide +kernel
theorem dX8_ofSuit_108 : decode cX8_ofSuit 108 = .ok (.ireturn, 1) := by decide +kernel
theorem dX8_ofSuit_109 : decode cX8_ofSuit 109 = .ok (.aload_n 0, 1) := by decide +kernel
theorem dX8_ofSuit_110 : decode cX8_ofSuit 110 = .ok (.getfield 89, 3) := by decide +kernel
theorem dX8_ofSuit_113 : decode cX8_ofSuit 113 = .ok (.iload_n 1, 1) := by decide +kernel
theorem dX8_ofSuit_114 : decode cX8_ofSuit 114 = .ok (.iaload, 1) := by decide +kernel
theorem dX8_ofSuit_115 : decode cX8_ofSuit 115 = .ok (.ireturn, 1) := by decide +kernel
theorem dX8_ofSuit_116 : decode cX8_ofSuit 116 = .ok (.aload_n 0, 1) := by decide +kernel
theorem dX8_ofSuit_117 : decode cX8_ofSuit 117 = .ok (.getfield 92, 3) := by decide +kernel
theorem dX8_ofSuit_120 : decode cX8_ofSuit 120 = .ok (.iload_n 1, 1) := by decide +kernel
theorem dX8_ofSuit_121 : decode cX8_ofSuit 121 = .ok (.iaload, 1) := by decide +kernel
theorem dX8_ofSuit_122 : decode cX8_ofSuit 122 = .ok (.ireturn, 1) := by decide +kernel
theorem dX8_ofSuit_123 : decode cX8_ofSuit 123 = .ok (.aload_n 0, 1) := by decide +kernel
theorem dX8_ofSuit_124 : decode cX8_ofSuit 124 = .ok (.getfield 98, 3) := by decide +kernel
theorem dX8_ofSuit_127 : decode cX8_ofSuit 127 = .ok (.iload_n 1, 1) := by decide +kernel
theorem dX8_ofSuit_128 : decode cX8_ofSuit 128 = .ok (.iaload, 1) := by decide +kernel
theorem dX8_ofSuit_129 : decode cX8_ofSuit 129 = .ok (.ireturn, 1) := by decide +kernel
theorem dX8_ofSuit_130 : decode cX8_ofSuit 130 = .ok (.aload_n 0, 1) := by decide +kernel
theorem dX8_ofSuit_131 : decode cX8_ofSuit 131 = .ok (.getfield 104, 3) := by decide +kernel
theorem dX8_ofSuit_134 : decode cX8_ofSuit 134 = .ok (.iload_n 1, 1) := by decide +kernel
theorem dX8_ofSuit_135 : decode cX8_ofSuit 135 = .ok (.iaload, 1) := by decide +kernel
theorem dX8_ofSuit_136 : decode cX8_ofSuit 136 = .ok (.ireturn, 1) := by decide +kernel
theorem dX8_ofSuit_137 : decode cX8_ofSuit 137 = .ok (.aload_n 0, 1) := by decide +kernel
theorem dX8_ofSuit_138 : decode cX8_ofSuit 138 = .ok (.getfield 107, 3) := by decide +kernel
theorem dX8_ofSuit_141 : decode cX8_ofSuit 141 = .ok (.iload_n 1, 1) := by decide +kernel
theorem dX8_ofSuit_142 : decode cX8_ofSuit 142 = .ok (.iaload, 1) := by decide +kernel
theorem dX8_ofSuit_143 : decode cX8_ofSuit 143 = .ok (.ireturn, 1) := by decide +kernel
theorem dX8_ofSuit_144 : decode cX8_ofSuit 144 = .ok (.aload_n 0, 1) := by decide +kernel
theorem dX8_ofSuit_145 : decode cX8_ofSuit 145 = .ok (.getfield 110, 3) := by decide +kernel
theorem dX8_ofSuit_148 : decode cX8_ofSuit 148 = .ok (.iload_n 1, 1) := by decide +kernel
theorem dX8_ofSuit_149 : decode cX8_ofSuit 149 = .ok (.iaload, 1) := by decide +kernel
theorem dX8_ofSuit_150 : decode cX8_ofSuit 150 = .ok (.ireturn, 1) := by decide +kernel
theorem dX8_ofSuit_151 : decode cX8_ofSuit 151 = .ok (.aload_n 0, 1) := by decide +kernel
theorem dX8_ofSuit_152 : decode cX8_ofSuit 152 = .ok (.iload_n 1, 1) := by decide +kernel
theorem dX8_ofSuit_153 : decode cX8_ofSuit 153 = .ok (.invokevirtual 224, 3) := by decide +kernel
theorem dX8_ofSuit_156 : decode cX8_ofSuit 156 = .ok (.ireturn, 1) := by decide +kernel
set_option maxRecDepth 20000 in
theorem ggX8_ofClaim_X8_in : GoodIn wsX8_ofClaim wsX8_in := goodIn_r _ [10] (by decide +kernel) (by decide +kernel)
set_option maxRecDepth 20000 in
theorem gX8_ofClaim_X8_in : GoodIn wsX8_ofClaim (va_wsS RX8 156 yX8_in wsX8_in) := goodIn_app (goodIn_of _ (by decide +kernel)) ggX8_ofClaim_X8_in
theorem dX8_ofClaim_0 : decode cX8_ofClaim 0 = .ok (.aload_n 0, 1) := by decide +kernel
theorem dX8_ofClaim_1 : decode cX8_ofClaim 1 = .ok (.iload_n 1, 1) := by decide +kernel
theorem dX8_ofClaim_2 : decode cX8_ofClaim 2 = .ok (.iconst 0, 1) := by decide +kernel
theorem dX8_ofClaim_3 : decode cX8_ofClaim 3 = .ok (.aload_n 0, 1) := by decide +kernel
theorem dX8_ofClaim_4 : decode cX8_ofClaim 4 = .ok (.getfield 176, 3) := by decide +kernel
theorem dX8_ofClaim_7 : decode cX8_ofClaim 7 = .ok (.iconst 1, 1) := by decide +kernel
theorem dX8_ofClaim_8 : decode cX8_ofClaim 8 = .ok (.isub, 1) := by decide +kernel
theorem dX8_ofClaim_9 : decode cX8_ofClaim 9 = .ok (.invokestatic 156, 3) := by decide +kernel
theorem dX8_ofClaim_12 : decode cX8_ofClaim 12 = .ok (.ifCond .eq 16, 3) := by decide +kernel
theorem dX8_ofClaim_15 : decode cX8_ofClaim 15 = .ok (.iload_n 2, 1) := by decide +kernel
theorem dX8_ofClaim_16 : decode cX8_ofClaim 16 = .ok (.iconst 0, 1) := by decide +kernel
theorem dX8_ofClaim_17 : decode cX8_ofClaim 17 = .ok (.iconst 3, 1) := by decide +kernel
theorem dX8_ofClaim_18 : decode cX8_ofClaim 18 = .ok (.invokestatic 156, 3) := by decide +kernel
theorem dX8_ofClaim_21 : decode cX8_ofClaim 21 = .ok (.ifCond .eq 7, 3) := by decide +kernel
theorem dX8_ofClaim_24 : decode cX8_ofClaim 24 = .ok (.iconst 0, 1) := by decide +kernel
theorem dX8_ofClaim_25 : decode cX8_ofClaim 25 = .ok (.goto 4, 3) := by decide +kernel
theorem dX8_ofClaim_28 : decode cX8_ofClaim 28 = .ok (.iconst 1, 1) := by decide +kernel
theorem dX8_ofClaim_29 : decode cX8_ofClaim 29 = .ok (.putfield 152, 3) := by decide +kernel
theorem dX8_ofClaim_32 : decode cX8_ofClaim 32 = .ok (.aload_n 0, 1) := by decide +kernel
theorem dX8_ofClaim_33 : decode cX8_ofClaim 33 = .ok (.getfield 152, 3) := by decide +kernel
theorem dX8_ofClaim_36 : decode cX8_ofClaim 36 = .ok (.ifCond .le 5, 3) := by decide +kernel
theorem dX8_ofClaim_39 : decode cX8_ofClaim 39 = .ok (.iconst 0, 1) := by decide +kernel
theorem dX8_ofClaim_40 : decode cX8_ofClaim 40 = .ok (.ireturn, 1) := by decide +kernel
theorem dX8_ofClaim_41 : decode cX8_ofClaim 41 = .ok (.iload_n 2, 1) := by decide +kernel
theorem dX8_ofClaim_42 : decode cX8_ofClaim 42 = .ok (.ifCond .ne 12, 3) := by decide +kernel
theorem dX8_ofClaim_45 : decode cX8_ofClaim 45 = .ok (.aload_n 0, 1) := by decide +kernel
theorem dX8_ofClaim_46 : decode cX8_ofClaim 46 = .ok (.getfield 44, 3) := by decide +kernel
theorem dX8_ofClaim_49 : decode cX8_ofClaim 49 = .ok (.iload_n 1, 1) := by decide +kernel
theorem dX8_ofClaim_50 : decode cX8_ofClaim 50 = .ok (.iaload, 1) := by decide +kernel
theorem dX8_ofClaim_51 : decode cX8_ofClaim 51 = .ok (.goto 37, 3) := by decide +kernel
theorem dX8_ofClaim_54 : decode cX8_ofClaim 54 = .ok (.iload_n 2, 1) := by decide +kernel
theorem dX8_ofClaim_55 : decode cX8_ofClaim 55 = .ok (.iconst 1, 1) := by decide +kernel
theorem dX8_ofClaim_56 : decode cX8_ofClaim 56 = .ok (.if_icmp .ne 12, 3) := by decide +kernel
theorem dX8_ofClaim_59 : decode cX8_ofClaim 59 = .ok (.aload_n 0, 1) := by decide +kernel
theorem dX8_ofClaim_60 : decode cX8_ofClaim 60 = .ok (.getfield 47, 3) := by decide +kernel
theorem dX8_ofClaim_63 : decode cX8_ofClaim 63 = .ok (.iload_n 1, 1) := by decide +kernel
theorem dX8_ofClaim_64 : decode cX8_ofClaim 64 = .ok (.iaload, 1) := by decide +kernel
theorem dX8_ofClaim_65 : decode cX8_ofClaim 65 = .ok (.goto 23, 3) := by decide +kernel
theorem dX8_ofClaim_68 : decode cX8_ofClaim 68 = .ok (.iload_n 2, 1) := by decide +kernel
theorem dX8_ofClaim_69 : decode cX8_ofClaim 69 = .ok (.iconst 2, 1) := by decide +kernel
theorem dX8_ofClaim_70 : decode cX8_ofClaim 70 = .ok (.if_icmp .ne 12, 3) := by decide +kernel
theorem dX8_ofClaim_73 : decode cX8_ofClaim 73 = .ok (.aload_n 0, 1) := by decide +kernel
theorem dX8_ofClaim_74 : decode cX8_ofClaim 74 = .ok (.getfield 50, 3) := by decide +kernel
theorem dX8_ofClaim_77 : decode cX8_ofClaim 77 = .ok (.iload_n 1, 1) := by decide +kernel
theorem dX8_ofClaim_78 : decode cX8_ofClaim 78 = .ok (.iaload, 1) := by decide +kernel
theorem dX8_ofClaim_79 : decode cX8_ofClaim 79 = .ok (.goto 9, 3) := by decide +kernel
theorem dX8_ofClaim_82 : decode cX8_ofClaim 82 = .ok (.aload_n 0, 1) := by decide +kernel
theorem dX8_ofClaim_83 : decode cX8_ofClaim 83 = .ok (.getfield 53, 3) := by decide +kernel
theorem dX8_ofClaim_86 : decode cX8_ofClaim 86 = .ok (.iload_n 1, 1) := by decide +kernel
theorem dX8_ofClaim_87 : decode cX8_ofClaim 87 = .ok (.iaload, 1) := by decide +kernel
theorem dX8_ofClaim_88 : decode cX8_ofClaim 88 = .ok (.ireturn, 1) := by decide +kernel
set_option maxRecDepth 20000 in
theorem ggX8_got_X8_isTeller : GoodIn wsX8_got wsX8_isTeller := goodIn_r _ [8, 9, 10, 7, 11] (by decide +kernel) (by decide +kernel)
set_option maxRecDepth 20000 in
theorem gX8_got_X8_isTeller : GoodIn wsX8_got (va_wsS RX8 182 yX8_isTeller wsX8_isTeller) := goodIn_app (goodIn_of _ (by decide +kernel)) ggX8_got_X8_isTeller
set_option maxRecDepth 20000 in
theorem ggX8_got_X8_in : GoodIn wsX8_got wsX8_in := goodIn_r _ [11] (by decide +kernel) (by decide +kernel)
set_option maxRecDepth 20000 in
theorem gX8_got_X8_in : GoodIn wsX8_got (va_wsS RX8 156 yX8_in wsX8_in) := goodIn_app (goodIn_of _ (by decide +kernel)) ggX8_got_X8_in
theorem dX8_got_0 : decode cX8_got 0 = .ok (.aload_n 0, 1) := by decide +kernel
theorem dX8_got_1 : decode cX8_got 1 = .ok (.iload_n 1, 1) := by decide +kernel
theorem dX8_got_2 : decode cX8_got 2 = .ok (.invokestatic 182, 3) := by decide +kernel
theorem dX8_got_5 : decode cX8_got 5 = .ok (.ifCond .eq 16, 3) := by decide +kernel
theorem dX8_got_8 : decode cX8_got 8 = .ok (.iload_n 2, 1) := by decide +kernel
theorem dX8_got_9 : decode cX8_got 9 = .ok (.iconst 0, 1) := by decide +kernel
theorem dX8_got_10 : decode cX8_got 10 = .ok (.iconst 2, 1) := by decide +kernel
theorem dX8_got_11 : decode cX8_got 11 = .ok (.invokestatic 156, 3) := by decide +kernel
theorem dX8_got_14 : decode cX8_got 14 = .ok (.ifCond .eq 7, 3) := by decide +kernel
theorem dX8_got_17 : decode cX8_got 17 = .ok (.iconst 0, 1) := by decide +kernel
theorem dX8_got_18 : decode cX8_got 18 = .ok (.goto 4, 3) := by decide +kernel
theorem dX8_got_21 : decode cX8_got 21 = .ok (.iconst 1, 1) := by decide +kernel
theorem dX8_got_22 : decode cX8_got 22 = .ok (.putfield 152, 3) := by decide +kernel
theorem dX8_got_25 : decode cX8_got 25 = .ok (.aload_n 0, 1) := by decide +kernel
theorem dX8_got_26 : decode cX8_got 26 = .ok (.getfield 152, 3) := by decide +kernel
theorem dX8_got_29 : decode cX8_got 29 = .ok (.ifCond .le 7, 3) := by decide +kernel
theorem dX8_got_32 : decode cX8_got 32 = .ok (.iconst 0, 1) := by decide +kernel
theorem dX8_got_33 : decode cX8_got 33 = .ok (.goto 36, 3) := by decide +kernel
theorem dX8_got_36 : decode cX8_got 36 = .ok (.iload_n 2, 1) := by decide +kernel
theorem dX8_got_37 : decode cX8_got 37 = .ok (.ifCond .ne 12, 3) := by decide +kernel
theorem dX8_got_40 : decode cX8_got 40 = .ok (.aload_n 0, 1) := by decide +kernel
theorem dX8_got_41 : decode cX8_got 41 = .ok (.getfield 125, 3) := by decide +kernel
theorem dX8_got_44 : decode cX8_got 44 = .ok (.iload_n 1, 1) := by decide +kernel
theorem dX8_got_45 : decode cX8_got 45 = .ok (.iaload, 1) := by decide +kernel
theorem dX8_got_46 : decode cX8_got 46 = .ok (.goto 23, 3) := by decide +kernel
theorem dX8_got_49 : decode cX8_got 49 = .ok (.iload_n 2, 1) := by decide +kernel
theorem dX8_got_50 : decode cX8_got 50 = .ok (.iconst 1, 1) := by decide +kernel
theorem dX8_got_51 : decode cX8_got 51 = .ok (.if_icmp .ne 12, 3) := by decide +kernel
theorem dX8_got_54 : decode cX8_got 54 = .ok (.aload_n 0, 1) := by decide +kernel
theorem dX8_got_55 : decode cX8_got 55 = .ok (.getfield 128, 3) := by decide +kernel
theorem dX8_got_58 : decode cX8_got 58 = .ok (.iload_n 1, 1) := by decide +kernel
theorem dX8_got_59 : decode cX8_got 59 = .ok (.iaload, 1) := by decide +kernel
theorem dX8_got_60 : decode cX8_got 60 = .ok (.goto 9, 3) := by decide +kernel
theorem dX8_got_63 : decode cX8_got 63 = .ok (.aload_n 0, 1) := by decide +kernel
theorem dX8_got_64 : decode cX8_got 64 = .ok (.getfield 131, 3) := by decide +kernel
theorem dX8_got_67 : decode cX8_got 67 = .ok (.iload_n 1, 1) := by decide +kernel
theorem dX8_got_68 : decode cX8_got 68 = .ok (.iaload, 1) := by decide +kernel
theorem dX8_got_69 : decode cX8_got 69 = .ok (.ireturn, 1) := by decide +kernel
set_option maxRecDepth 20000 in
theorem ggX8_ofFirm_X8_isFirm : GoodIn wsX8_ofFirm wsX8_isFirm := goodIn_r _ [9, 10, 11, 8, 12] (by decide +kernel) (by decide +kernel)
set_option maxRecDepth 20000 in
theorem gX8_ofFirm_X8_isFirm : GoodIn wsX8_ofFirm (va_wsS RX8 166 yX8_isFirm wsX8_isFirm) := goodIn_app (goodIn_of _ (by decide +kernel)) ggX8_ofFirm_X8_isFirm
set_option maxRecDepth 20000 in
theorem ggX8_ofFirm_X8_in : GoodIn wsX8_ofFirm wsX8_in := goodIn_r _ [12] (by decide +kernel) (by decide +kernel)
set_option maxRecDepth 20000 in
theorem gX8_ofFirm_X8_in : GoodIn wsX8_ofFirm (va_wsS RX8 156 yX8_in wsX8_in) := goodIn_app (goodIn_of _ (by decide +kernel)) ggX8_ofFirm_X8_in
theorem dX8_ofFirm_0 : decode cX8_ofFirm 0 = .ok (.aload_n 0, 1) := by decide +kernel
theorem dX8_ofFirm_1 : decode cX8_ofFirm 1 = .ok (.iload_n 1, 1) := by decide +kernel
theorem dX8_ofFirm_2 : decode cX8_ofFirm 2 = .ok (.invokestatic 166, 3) := by decide +kernel
theorem dX8_ofFirm_5 : decode cX8_ofFirm 5 = .ok (.ifCond .eq 16, 3) := by decide +kernel
theorem dX8_ofFirm_8 : decode cX8_ofFirm 8 = .ok (.iload_n 2, 1) := by decide +kernel
theorem dX8_ofFirm_9 : decode cX8_ofFirm 9 = .ok (.iconst 0, 1) := by decide +kernel
theorem dX8_ofFirm_10 : decode cX8_ofFirm 10 = .ok (.iconst 3, 1) := by decide +kernel
theorem dX8_ofFirm_11 : decode cX8_ofFirm 11 = .ok (.invokestatic 156, 3) := by decide +kernel
theorem dX8_ofFirm_14 : decode cX8_ofFirm 14 = .ok (.ifCond .eq 7, 3) := by decide +kernel
theorem dX8_ofFirm_17 : decode cX8_ofFirm 17 = .ok (.iconst 0, 1) := by decide +kernel
theorem dX8_ofFirm_18 : decode cX8_ofFirm 18 = .ok (.goto 4, 3) := by decide +kernel
theorem dX8_ofFirm_21 : decode cX8_ofFirm 21 = .ok (.iconst 1, 1) := by decide +kernel
theorem dX8_ofFirm_22 : decode cX8_ofFirm 22 = .ok (.putfield 152, 3) := by decide +kernel
theorem dX8_ofFirm_25 : decode cX8_ofFirm 25 = .ok (.aload_n 0, 1) := by decide +kernel
theorem dX8_ofFirm_26 : decode cX8_ofFirm 26 = .ok (.getfield 152, 3) := by decide +kernel
theorem dX8_ofFirm_29 : decode cX8_ofFirm 29 = .ok (.ifCond .le 7, 3) := by decide +kernel
theorem dX8_ofFirm_32 : decode cX8_ofFirm 32 = .ok (.iconst 0, 1) := by decide +kernel
theorem dX8_ofFirm_33 : decode cX8_ofFirm 33 = .ok (.goto 50, 3) := by decide +kernel
theorem dX8_ofFirm_36 : decode cX8_ofFirm 36 = .ok (.iload_n 2, 1) := by decide +kernel
theorem dX8_ofFirm_37 : decode cX8_ofFirm 37 = .ok (.ifCond .ne 12, 3) := by decide +kernel
theorem dX8_ofFirm_40 : decode cX8_ofFirm 40 = .ok (.aload_n 0, 1) := by decide +kernel
theorem dX8_ofFirm_41 : decode cX8_ofFirm 41 = .ok (.getfield 7, 3) := by decide +kernel
theorem dX8_ofFirm_44 : decode cX8_ofFirm 44 = .ok (.iload_n 1, 1) := by decide +kernel
theorem dX8_ofFirm_45 : decode cX8_ofFirm 45 = .ok (.iaload, 1) := by decide +kernel
theorem dX8_ofFirm_46 : decode cX8_ofFirm 46 = .ok (.goto 37, 3) := by decide +kernel
theorem dX8_ofFirm_49 : decode cX8_ofFirm 49 = .ok (.iload_n 2, 1) := by decide +kernel
theorem dX8_ofFirm_50 : decode cX8_ofFirm 50 = .ok (.iconst 1, 1) := by decide +kernel
theorem dX8_ofFirm_51 : decode cX8_ofFirm 51 = .ok (.if_icmp .ne 12, 3) := by decide +kernel
theorem dX8_ofFirm_54 : decode cX8_ofFirm 54 = .ok (.aload_n 0, 1) := by decide +kernel
theorem dX8_ofFirm_55 : decode cX8_ofFirm 55 = .ok (.getfield 13, 3) := by decide +kernel
theorem dX8_ofFirm_58 : decode cX8_ofFirm 58 = .ok (.iload_n 1, 1) := by decide +kernel
theorem dX8_ofFirm_59 : decode cX8_ofFirm 59 = .ok (.iaload, 1) := by decide +kernel
theorem dX8_ofFirm_60 : decode cX8_ofFirm 60 = .ok (.goto 23, 3) := by decide +kernel
theorem dX8_ofFirm_63 : decode cX8_ofFirm 63 = .ok (.iload_n 2, 1) := by decide +kernel
theorem dX8_ofFirm_64 : decode cX8_ofFirm 64 = .ok (.iconst 2, 1) := by decide +kernel
theorem dX8_ofFirm_65 : decode cX8_ofFirm 65 = .ok (.if_icmp .ne 12, 3) := by decide +kernel
theorem dX8_ofFirm_68 : decode cX8_ofFirm 68 = .ok (.aload_n 0, 1) := by decide +kernel
theorem dX8_ofFirm_69 : decode cX8_ofFirm 69 = .ok (.getfield 16, 3) := by decide +kernel
theorem dX8_ofFirm_72 : decode cX8_ofFirm 72 = .ok (.iload_n 1, 1) := by decide +kernel
theorem dX8_ofFirm_73 : decode cX8_ofFirm 73 = .ok (.iaload, 1) := by decide +kernel
theorem dX8_ofFirm_74 : decode cX8_ofFirm 74 = .ok (.goto 9, 3) := by decide +kernel
theorem dX8_ofFirm_77 : decode cX8_ofFirm 77 = .ok (.aload_n 0, 1) := by decide +kernel
theorem dX8_ofFirm_78 : decode cX8_ofFirm 78 = .ok (.getfield 19, 3) := by decide +kernel
theorem dX8_ofFirm_81 : decode cX8_ofFirm 81 = .ok (.iload_n 1, 1) := by decide +kernel
theorem dX8_ofFirm_82 : decode cX8_ofFirm 82 = .ok (.iaload, 1) := by decide +kernel
theorem dX8_ofFirm_83 : decode cX8_ofFirm 83 = .ok (.ireturn, 1) := by decide +kernel
set_option maxRecDepth 20000 in
theorem ggX8_all_X8_in : GoodIn wsX8_all wsX8_in := goodIn_r _ [8] (by decide +kernel) (by decide +kernel)
set_option maxRecDepth 20000 in
theorem gX8_all_X8_in : GoodIn wsX8_all (va_wsS RX8 156 yX8_in wsX8_in) := goodIn_app (goodIn_of _ (by decide +kernel)) ggX8_all_X8_in
set_option maxRecDepth 20000 in
theorem ggX8_all_X8_isSealed : GoodIn wsX8_all wsX8_isSealed := goodIn_r _ [12, 3, 13, 22, 23, 24, 25, 26, 27, 28, 29, 30, 31, 32, 33, 34, 35, 36, 37, 38, 39, 40, 41, 42, 43, 44, 45, 46, 47, 48, 49, 50, 51, 52, 53, 54, 55, 56, 57, 58, 59, 60, 61, 62, 63, 64, 65, 66, 67, 68, 69, 70, 71, 72, 73, 74, 75, 76] (by decide +kernel) (by decide +kernel)
set_option maxRecDepth 20000 in
theorem gX8_all_X8_isSealed : GoodIn wsX8_all (wsV RX8 196 RX8 yX8_isSealed wsX8_isSealed) := goodIn_app (goodIn_of _ (by decide +kernel)) ggX8_all_X8_isSealed
set_option maxRecDepth 20000 in
theorem ggX8_all_X8_publicBy : GoodIn wsX8_all wsX8_publicBy := goodIn_r _ [17, 18, 22, 23, 24, 25, 26, 27, 28, 29, 30, 31, 32, 33, 34, 35, 36, 37, 38, 39, 40, 41, 42, 43, 44, 45, 46, 47, 48, 49, 50, 51, 52, 53, 54, 55, 56, 57, 58, 59, 60, 61, 62, 63, 64, 65, 66, 67, 68, 69, 70, 71, 72, 73, 74, 75, 76] (by decide +kernel) (by decide +kernel)
set_option maxRecDepth 20000 in
theorem gX8_all_X8_publicBy : GoodIn wsX8_all (wsV RX8 189 RX8 yX8_publicBy wsX8_publicBy) := goodIn_app (goodIn_of _ (by decide +kernel)) ggX8_all_X8_publicBy
set_option maxRecDepth 20000 in
theorem ggX8_all_X8_bits : GoodIn wsX8_all wsX8_bits := goodIn_r _ [21] (by decide +kernel) (by decide +kernel)
set_option maxRecDepth 20000 in
theorem gX8_all_X8_bits : GoodIn wsX8_all (va_wsS RX8 185 yX8_bits wsX8_bits) := goodIn_app (goodIn_of _ (by decide +kernel)) ggX8_all_X8_bits
theorem dX8_all_0 : decode cX8_all 0 = .ok (.aload_n 0, 1) := by decide +kernel
theorem dX8_all_1 : decode cX8_all 1 = .ok (.iload_n 1, 1) := by decide +kernel
theorem dX8_all_2 : decode cX8_all 2 = .ok (.iconst 0, 1) := by decide +kernel
theorem dX8_all_3 : decode cX8_all 3 = .ok (.iconst 3, 1) := by decide +kernel
theorem dX8_all_4 : decode cX8_all 4 = .ok (.invokestatic 156, 3) := by decide +kernel
theorem dX8_all_7 : decode cX8_all 7 = .ok (.ifCond .eq 7, 3) := by decide +kernel
theorem dX8_all_10 : decode cX8_all 10 = .ok (.iconst 0, 1) := by decide +kernel
theorem dX8_all_11 : decode cX8_all 11 = .ok (.goto 4, 3) := by decide +kernel
theorem dX8_all_14 : decode cX8_all 14 = .ok (.iconst 1, 1) := by decide +kernel
theorem dX8_all_15 : decode cX8_all 15 = .ok (.putfield 152, 3) := by decide +kernel
theorem dX8_all_18 : decode cX8_all 18 = .ok (.aload_n 0, 1) := by decide +kernel
theorem dX8_all_19 : decode cX8_all 19 = .ok (.getfield 152, 3) := by decide +kernel
theorem dX8_all_22 : decode cX8_all 22 = .ok (.ifCond .le 5, 3) := by decide +kernel
theorem dX8_all_25 : decode cX8_all 25 = .ok (.iconst 0, 1) := by decide +kernel
theorem dX8_all_26 : decode cX8_all 26 = .ok (.ireturn, 1) := by decide +kernel
theorem dX8_all_27 : decode cX8_all 27 = .ok (.iconst 0, 1) := by decide +kernel
theorem dX8_all_28 : decode cX8_all 28 = .ok (.istore_n 2, 1) := by decide +kernel
theorem dX8_all_29 : decode cX8_all 29 = .ok (.iconst 0, 1) := by decide +kernel
theorem dX8_all_30 : decode cX8_all 30 = .ok (.istore_n 3, 1) := by decide +kernel
theorem dX8_all_31 : decode cX8_all 31 = .ok (.iload_n 3, 1) := by decide +kernel
theorem dX8_all_32 : decode cX8_all 32 = .ok (.aload_n 0, 1) := by decide +kernel
theorem dX8_all_33 : decode cX8_all 33 = .ok (.getfield 163, 3) := by decide +kernel
theorem dX8_all_36 : decode cX8_all 36 = .ok (.if_icmp .ge 25, 3) := by decide +kernel
theorem dX8_all_39 : decode cX8_all 39 = .ok (.iload_n 2, 1) := by decide +kernel
theorem dX8_all_40 : decode cX8_all 40 = .ok (.aload_n 0, 1) := by decide +kernel
theorem dX8_all_41 : decode cX8_all 41 = .ok (.iload_n 3, 1) := by decide +kernel
theorem dX8_all_42 : decode cX8_all 42 = .ok (.invokevirtual 196, 3) := by decide +kernel
theorem dX8_all_45 : decode cX8_all 45 = .ok (.ifCond .eq 7, 3) := by decide +kernel
theorem dX8_all_48 : decode cX8_all 48 = .ok (.iconst 1, 1) := by decide +kernel
theorem dX8_all_49 : decode cX8_all 49 = .ok (.goto 4, 3) := by decide +kernel
theorem dX8_all_52 : decode cX8_all 52 = .ok (.iconst 0, 1) := by decide +kernel
theorem dX8_all_53 : decode cX8_all 53 = .ok (.iadd, 1) := by decide +kernel
theorem dX8_all_54 : decode cX8_all 54 = .ok (.istore_n 2, 1) := by decide +kernel
theorem dX8_all_55 : decode cX8_all 55 = .ok (.iinc 3 1, 3) := by decide +kernel
theorem dX8_all_58 : decode cX8_all 58 = .ok (.goto (-27), 3) := by decide +kernel
theorem dX8_all_61 : decode cX8_all 61 = .ok (.iload_n 1, 1) := by decide +kernel
theorem dX8_all_62 : decode cX8_all 62 = .ok (.ifCond .ne 10, 3) := by decide +kernel
theorem dX8_all_65 : decode cX8_all 65 = .ok (.aload_n 0, 1) := by decide +kernel
theorem dX8_all_66 : decode cX8_all 66 = .ok (.getfield 179, 3) := by decide +kernel
theorem dX8_all_69 : decode cX8_all 69 = .ok (.goto 35, 3) := by decide +kernel
theorem dX8_all_72 : decode cX8_all 72 = .ok (.iload_n 1, 1) := by decide +kernel
theorem dX8_all_73 : decode cX8_all 73 = .ok (.iconst 1, 1) := by decide +kernel
theorem dX8_all_74 : decode cX8_all 74 = .ok (.if_icmp .ne 10, 3) := by decide +kernel
theorem dX8_all_77 : decode cX8_all 77 = .ok (.aload_n 0, 1) := by decide +kernel
theorem dX8_all_78 : decode cX8_all 78 = .ok (.getfield 229, 3) := by decide +kernel
theorem dX8_all_81 : decode cX8_all 81 = .ok (.goto 23, 3) := by decide +kernel
theorem dX8_all_84 : decode cX8_all 84 = .ok (.iload_n 1, 1) := by decide +kernel
theorem dX8_all_85 : decode cX8_all 85 = .ok (.iconst 2, 1) := by decide +kernel
theorem dX8_all_86 : decode cX8_all 86 = .ok (.if_icmp .ne 17, 3) := by decide +kernel
theorem dX8_all_89 : decode cX8_all 89 = .ok (.aload_n 0, 1) := by decide +kernel
theorem dX8_all_90 : decode cX8_all 90 = .ok (.aload_n 0, 1) := by decide +kernel
theorem dX8_all_91 : decode cX8_all 91 = .ok (.getfield 179, 3) := by decide +kernel
theorem dX8_all_94 : decode cX8_all 94 = .ok (.invokevirtual 189, 3) := by decide +kernel
theorem dX8_all_97 : decode cX8_all 97 = .ok (.invokestatic 185, 3) := by decide +kernel
theorem dX8_all_100 : decode cX8_all 100 = .ok (.goto 4, 3) := by decide +kernel
theorem dX8_all_103 : decode cX8_all 103 = .ok (.iload_n 2, 1) := by decide +kernel
theorem dX8_all_104 : decode cX8_all 104 = .ok (.ireturn, 1) := by decide +kernel
theorem dJ6_bitCount_0f7a4_0 : decode cJ6_bitCount_0f7a4 0 = .ok (.iload_n 0, 1) := by decide +kernel
theorem dJ6_bitCount_0f7a4_1 : decode cJ6_bitCount_0f7a4 1 = .ok (.iload_n 0, 1) := by decide +kernel
theorem dJ6_bitCount_0f7a4_2 : decode cJ6_bitCount_0f7a4 2 = .ok (.iconst 1, 1) := by decide +kernel
theorem dJ6_bitCount_0f7a4_3 : decode cJ6_bitCount_0f7a4 3 = .ok (.iushr, 1) := by decide +kernel
theorem dJ6_bitCount_0f7a4_4 : decode cJ6_bitCount_0f7a4 4 = .ok (.ldc_w 265, 3) := by decide +kernel
theorem dJ6_bitCount_0f7a4_7 : decode cJ6_bitCount_0f7a4 7 = .ok (.iand, 1) := by decide +kernel
theorem dJ6_bitCount_0f7a4_8 : decode cJ6_bitCount_0f7a4 8 = .ok (.isub, 1) := by decide +kernel
theorem dJ6_bitCount_0f7a4_9 : decode cJ6_bitCount_0f7a4 9 = .ok (.istore_n 0, 1) := by decide +kernel
theorem dJ6_bitCount_0f7a4_10 : decode cJ6_bitCount_0f7a4 10 = .ok (.iload_n 0, 1) := by decide +kernel
theorem dJ6_bitCount_0f7a4_11 : decode cJ6_bitCount_0f7a4 11 = .ok (.ldc_w 266, 3) := by decide +kernel
theorem dJ6_bitCount_0f7a4_14 : decode cJ6_bitCount_0f7a4 14 = .ok (.iand, 1) := by decide +kernel
theorem dJ6_bitCount_0f7a4_15 : decode cJ6_bitCount_0f7a4 15 = .ok (.iload_n 0, 1) := by decide +kernel
theorem dJ6_bitCount_0f7a4_16 : decode cJ6_bitCount_0f7a4 16 = .ok (.iconst 2, 1) := by decide +kernel
theorem dJ6_bitCount_0f7a4_17 : decode cJ6_bitCount_0f7a4 17 = .ok (.iushr, 1) := by decide +kernel
theorem dJ6_bitCount_0f7a4_18 : decode cJ6_bitCount_0f7a4 18 = .ok (.ldc_w 266, 3) := by decide +kernel
theorem dJ6_bitCount_0f7a4_21 : decode cJ6_bitCount_0f7a4 21 = .ok (.iand, 1) := by decide +kernel
theorem dJ6_bitCount_0f7a4_22 : decode cJ6_bitCount_0f7a4 22 = .ok (.iadd, 1) := by decide +kernel
theorem dJ6_bitCount_0f7a4_23 : decode cJ6_bitCount_0f7a4 23 = .ok (.istore_n 0, 1) := by decide +kernel
theorem dJ6_bitCount_0f7a4_24 : decode cJ6_bitCount_0f7a4 24 = .ok (.iload_n 0, 1) := by decide +kernel
theorem dJ6_bitCount_0f7a4_25 : decode cJ6_bitCount_0f7a4 25 = .ok (.iload_n 0, 1) := by decide +kernel
theorem dJ6_bitCount_0f7a4_26 : decode cJ6_bitCount_0f7a4 26 = .ok (.iconst 4, 1) := by decide +kernel
theorem dJ6_bitCount_0f7a4_27 : decode cJ6_bitCount_0f7a4 27 = .ok (.iushr, 1) := by decide +kernel
theorem dJ6_bitCount_0f7a4_28 : decode cJ6_bitCount_0f7a4 28 = .ok (.iadd, 1) := by decide +kernel
theorem dJ6_bitCount_0f7a4_29 : decode cJ6_bitCount_0f7a4 29 = .ok (.ldc_w 267, 3) := by decide +kernel
theorem dJ6_bitCount_0f7a4_32 : decode cJ6_bitCount_0f7a4 32 = .ok (.iand, 1) := by decide +kernel
theorem dJ6_bitCount_0f7a4_33 : decode cJ6_bitCount_0f7a4 33 = .ok (.istore_n 0, 1) := by decide +kernel
theorem dJ6_bitCount_0f7a4_34 : decode cJ6_bitCount_0f7a4 34 = .ok (.iload_n 0, 1) := by decide +kernel
theorem dJ6_bitCount_0f7a4_35 : decode cJ6_bitCount_0f7a4 35 = .ok (.iload_n 0, 1) := by decide +kernel
theorem dJ6_bitCount_0f7a4_36 : decode cJ6_bitCount_0f7a4 36 = .ok (.bipush 8, 2) := by decide +kernel
theorem dJ6_bitCount_0f7a4_38 : decode cJ6_bitCount_0f7a4 38 = .ok (.iushr, 1) := by decide +kernel
theorem dJ6_bitCount_0f7a4_39 : decode cJ6_bitCount_0f7a4 39 = .ok (.iadd, 1) := by decide +kernel
theorem dJ6_bitCount_0f7a4_40 : decode cJ6_bitCount_0f7a4 40 = .ok (.istore_n 0, 1) := by decide +kernel
theorem dJ6_bitCount_0f7a4_41 : decode cJ6_bitCount_0f7a4 41 = .ok (.iload_n 0, 1) := by decide +kernel
theorem dJ6_bitCount_0f7a4_42 : decode cJ6_bitCount_0f7a4 42 = .ok (.iload_n 0, 1) := by decide +kernel
theorem dJ6_bitCount_0f7a4_43 : decode cJ6_bitCount_0f7a4 43 = .ok (.bipush 16, 2) := by decide +kernel
theorem dJ6_bitCount_0f7a4_45 : decode cJ6_bitCount_0f7a4 45 = .ok (.iushr, 1) := by decide +kernel
theorem dJ6_bitCount_0f7a4_46 : decode cJ6_bitCount_0f7a4 46 = .ok (.iadd, 1) := by decide +kernel
theorem dJ6_bitCount_0f7a4_47 : decode cJ6_bitCount_0f7a4 47 = .ok (.istore_n 0, 1) := by decide +kernel
theorem dJ6_bitCount_0f7a4_48 : decode cJ6_bitCount_0f7a4 48 = .ok (.iload_n 0, 1) := by decide +kernel
theorem dJ6_bitCount_0f7a4_49 : decode cJ6_bitCount_0f7a4 49 = .ok (.bipush 63, 2) := by decide +kernel
theorem dJ6_bitCount_0f7a4_51 : decode cJ6_bitCount_0f7a4 51 = .ok (.iand, 1) := by decide +kernel
theorem dJ6_bitCount_0f7a4_52 : decode cJ6_bitCount_0f7a4 52 = .ok (.ireturn, 1) := by decide +kernel
theorem dJ9_max_7cf53_0 : decode cJ9_max_7cf53 0 = .ok (.iload_n 0, 1) := by decide +kernel
theorem dJ9_max_7cf53_1 : decode cJ9_max_7cf53 1 = .ok (.iload_n 1, 1) := by decide +kernel
theorem dJ9_max_7cf53_2 : decode cJ9_max_7cf53 2 = .ok (.if_icmp .lt 7, 3) := by decide +kernel
theorem dJ9_max_7cf53_5 : decode cJ9_max_7cf53 5 = .ok (.iload_n 0, 1) := by decide +kernel
theorem dJ9_max_7cf53_6 : decode cJ9_max_7cf53 6 = .ok (.goto 4, 3) := by decide +kernel
theorem dJ9_max_7cf53_9 : decode cJ9_max_7cf53 9 = .ok (.iload_n 1, 1) := by decide +kernel
theorem dJ9_max_7cf53_10 : decode cJ9_max_7cf53 10 = .ok (.ireturn, 1) := by decide +kernel
theorem dJ9_min_7cf53_0 : decode cJ9_min_7cf53 0 = .ok (.iload_n 0, 1) := by decide +kernel
theorem dJ9_min_7cf53_1 : decode cJ9_min_7cf53 1 = .ok (.iload_n 1, 1) := by decide +kernel
theorem dJ9_min_7cf53_2 : decode cJ9_min_7cf53 2 = .ok (.if_icmp .gt 7, 3) := by decide +kernel
theorem dJ9_min_7cf53_5 : decode cJ9_min_7cf53 5 = .ok (.iload_n 0, 1) := by decide +kernel
theorem dJ9_min_7cf53_6 : decode cJ9_min_7cf53 6 = .ok (.goto 4, 3) := by decide +kernel
theorem dJ9_min_7cf53_9 : decode cJ9_min_7cf53 9 = .ok (.iload_n 1, 1) := by decide +kernel
theorem dJ9_min_7cf53_10 : decode cJ9_min_7cf53 10 = .ok (.ireturn, 1) := by decide +kernel
theorem dJxa1e45_init_da8c8_0 : decode cJxa1e45_init_da8c8 0 = .ok (.aload_n 0, 1) := by decide +kernel
theorem dJxa1e45_init_da8c8_1 : decode cJxa1e45_init_da8c8 1 = .ok (.invokespecial 1, 3) := by decide +kernel
theorem dJxa1e45_init_da8c8_4 : decode cJxa1e45_init_da8c8 4 = .ok (.return_, 1) := by decide +kernel
set_option maxRecDepth 20000 in
theorem ggJxc12de_init_da8c8_Jxa1e45_init_da8c8 : GoodIn wsJxc12de_init_da8c8 wsJxa1e45_init_da8c8 := goodIn_r _ [5, 6, 7, 8] (by decide +kernel) (by decide +kernel)
set_option maxRecDepth 20000 in
theorem gJxc12de_init_da8c8_Jxa1e45_init_da8c8 : GoodIn wsJxc12de_init_da8c8 (wsJxa1e45_init_da8c8) := ggJxc12de_init_da8c8_Jxa1e45_init_da8c8
theorem dJxc12de_init_da8c8_0 : decode cJxc12de_init_da8c8 0 = .ok (.aload_n 0, 1) := by decide +kernel
theorem dJxc12de_init_da8c8_1 : decode cJxc12de_init_da8c8 1 = .ok (.invokespecial 1, 3) := by decide +kernel
theorem dJxc12de_init_da8c8_4 : decode cJxc12de_init_da8c8 4 = .ok (.aload_n 0, 1) := by decide +kernel
theorem dJxc12de_init_da8c8_5 : decode cJxc12de_init_da8c8 5 = .ok (.iconst 0, 1) := by decide +kernel
theorem dJxc12de_init_da8c8_6 : decode cJxc12de_init_da8c8 6 = .ok (.putfield 7, 3) := by decide +kernel
theorem dJxc12de_init_da8c8_9 : decode cJxc12de_init_da8c8 9 = .ok (.return_, 1) := by decide +kernel
set_option maxRecDepth 20000 in
theorem ggJx4a65c_init_da8c8_Jxc12de_init_da8c8 : GoodIn wsJx4a65c_init_da8c8 wsJxc12de_init_da8c8 := goodIn_r _ [6, 7, 8, 9, 10, 11, 12, 13, 14, 15, 16, 17] (by decide +kernel) (by decide +kernel)
set_option maxRecDepth 20000 in
theorem gJx4a65c_init_da8c8_Jxc12de_init_da8c8 : GoodIn wsJx4a65c_init_da8c8 (wsJxc12de_init_da8c8) := ggJx4a65c_init_da8c8_Jxc12de_init_da8c8
theorem dJx4a65c_init_da8c8_0 : decode cJx4a65c_init_da8c8 0 = .ok (.aload_n 0, 1) := by decide +kernel
theorem dJx4a65c_init_da8c8_1 : decode cJx4a65c_init_da8c8 1 = .ok (.invokespecial 1, 3) := by decide +kernel
theorem dJx4a65c_init_da8c8_4 : decode cJx4a65c_init_da8c8 4 = .ok (.aload_n 0, 1) := by decide +kernel
theorem dJx4a65c_init_da8c8_5 : decode cJx4a65c_init_da8c8 5 = .ok (.getstatic 39, 3) := by decide +kernel
theorem dJx4a65c_init_da8c8_8 : decode cJx4a65c_init_da8c8 8 = .ok (.putfield 9, 3) := by decide +kernel
theorem dJx4a65c_init_da8c8_11 : decode cJx4a65c_init_da8c8 11 = .ok (.return_, 1) := by decide +kernel
set_option maxRecDepth 20000 in
theorem ggJx4a65c_grow_92f84_J8_newLength_cabcc : GoodIn wsJx4a65c_grow_92f84 wsJ8_newLength_cabcc := goodIn_r _ [11, 12, 4, 5, 6, 13, 14, 15, 10, 16] (by decide +kernel) (by decide +kernel)
set_option maxRecDepth 20000 in
theorem gJx4a65c_grow_92f84_J8_newLength_cabcc : GoodIn wsJx4a65c_grow_92f84 (va_wsS RJx4a65c 73 yJ8_newLength_cabcc wsJ8_newLength_cabcc) := goodIn_app (goodIn_of _ (by decide +kernel)) ggJx4a65c_grow_92f84_J8_newLength_cabcc
set_option maxRecDepth 20000 in
theorem ggJx4a65c_grow_92f84_J7_copyOf_1904c : GoodIn wsJx4a65c_grow_92f84 wsJ7_copyOf_1904c := goodIn_r _ [20, 21, 22, 23, 24, 25, 26, 19, 27, 28, 29, 30, 31, 5, 32, 33, 34, 35, 36] (by decide +kernel) (by decide +kernel)
set_option maxRecDepth 20000 in
theorem gJx4a65c_grow_92f84_J7_copyOf_1904c : GoodIn wsJx4a65c_grow_92f84 (va_wsS RJx4a65c 66 yJ7_copyOf_1904c wsJ7_copyOf_1904c) := goodIn_app (goodIn_of _ (by decide +kernel)) ggJx4a65c_grow_92f84_J7_copyOf_1904c
theorem dJx4a65c_grow_92f84_0 : decode cJx4a65c_grow_92f84 0 = .ok (.aload_n 0, 1) := by decide +kernel
theorem dJx4a65c_grow_92f84_1 : decode cJx4a65c_grow_92f84 1 = .ok (.getfield 9, 3) := by decide +kernel
theorem dJx4a65c_grow_92f84_4 : decode cJx4a65c_grow_92f84 4 = .ok (.arraylength, 1) := by decide +kernel
theorem dJx4a65c_grow_92f84_5 : decode cJx4a65c_grow_92f84 5 = .ok (.istore_n 2, 1) := by decide +kernel
theorem dJx4a65c_grow_92f84_6 : decode cJx4a65c_grow_92f84 6 = .ok (.iload_n 2, 1) := by decide +kernel
theorem dJx4a65c_grow_92f84_7 : decode cJx4a65c_grow_92f84 7 = .ok (.ifCond .gt 13, 3) := by decide +kernel
theorem dJx4a65c_grow_92f84_10 : decode cJx4a65c_grow_92f84 10 = .ok (.aload_n 0, 1) := by decide +kernel
theorem dJx4a65c_grow_92f84_11 : decode cJx4a65c_grow_92f84 11 = .ok (.getfield 9, 3) := by decide +kernel
theorem dJx4a65c_grow_92f84_14 : decode cJx4a65c_grow_92f84 14 = .ok (.getstatic 39, 3) := by decide +kernel
theorem dJx4a65c_grow_92f84_17 : decode cJx4a65c_grow_92f84 17 = .ok (.if_acmp .eq 28, 3) := by decide +kernel
theorem dJx4a65c_grow_92f84_20 : decode cJx4a65c_grow_92f84 20 = .ok (.iload_n 2, 1) := by decide +kernel
theorem dJx4a65c_grow_92f84_21 : decode cJx4a65c_grow_92f84 21 = .ok (.iload_n 1, 1) := by decide +kernel
theorem dJx4a65c_grow_92f84_22 : decode cJx4a65c_grow_92f84 22 = .ok (.iload_n 2, 1) := by decide +kernel
theorem dJx4a65c_grow_92f84_23 : decode cJx4a65c_grow_92f84 23 = .ok (.isub, 1) := by decide +kernel
theorem dJx4a65c_grow_92f84_24 : decode cJx4a65c_grow_92f84 24 = .ok (.iload_n 2, 1) := by decide +kernel
theorem dJx4a65c_grow_92f84_25 : decode cJx4a65c_grow_92f84 25 = .ok (.iconst 1, 1) := by decide +kernel
theorem dJx4a65c_grow_92f84_26 : decode cJx4a65c_grow_92f84 26 = .ok (.ishr, 1) := by decide +kernel
theorem dJx4a65c_grow_92f84_27 : decode cJx4a65c_grow_92f84 27 = .ok (.invokestatic 73, 3) := by decide +kernel
theorem dJx4a65c_grow_92f84_30 : decode cJx4a65c_grow_92f84 30 = .ok (.istore_n 3, 1) := by decide +kernel
theorem dJx4a65c_grow_92f84_31 : decode cJx4a65c_grow_92f84 31 = .ok (.aload_n 0, 1) := by decide +kernel
theorem dJx4a65c_grow_92f84_32 : decode cJx4a65c_grow_92f84 32 = .ok (.aload_n 0, 1) := by decide +kernel
theorem dJx4a65c_grow_92f84_33 : decode cJx4a65c_grow_92f84 33 = .ok (.getfield 9, 3) := by decide +kernel
theorem dJx4a65c_grow_92f84_36 : decode cJx4a65c_grow_92f84 36 = .ok (.iload_n 3, 1) := by decide +kernel
theorem dJx4a65c_grow_92f84_37 : decode cJx4a65c_grow_92f84 37 = .ok (.invokestatic 66, 3) := by decide +kernel
theorem dJx4a65c_grow_92f84_40 : decode cJx4a65c_grow_92f84 40 = .ok (.dup_x1, 1) := by decide +kernel
theorem dJx4a65c_grow_92f84_41 : decode cJx4a65c_grow_92f84 41 = .ok (.putfield 9, 3) := by decide +kernel
theorem dJx4a65c_grow_92f84_44 : decode cJx4a65c_grow_92f84 44 = .ok (.areturn, 1) := by decide +kernel
theorem dJx4a65c_grow_92f84_45 : decode cJx4a65c_grow_92f84 45 = .ok (.aload_n 0, 1) := by decide +kernel
theorem dJx4a65c_grow_92f84_46 : decode cJx4a65c_grow_92f84 46 = .ok (.bipush 10, 2) := by decide +kernel
theorem dJx4a65c_grow_92f84_48 : decode cJx4a65c_grow_92f84 48 = .ok (.iload_n 1, 1) := by decide +kernel
theorem dJx4a65c_grow_92f84_49 : decode cJx4a65c_grow_92f84 49 = .ok (.invokestatic 79, 3) := by decide +kernel
theorem dJx4a65c_grow_92f84_52 : decode cJx4a65c_grow_92f84 52 = .ok (.anewarray 7, 3) := by decide +kernel
theorem dJx4a65c_grow_92f84_55 : decode cJx4a65c_grow_92f84 55 = .ok (.dup_x1, 1) := by decide +kernel
theorem dJx4a65c_grow_92f84_56 : decode cJx4a65c_grow_92f84 56 = .ok (.putfield 9, 3) := by decide +kernel
theorem dJx4a65c_grow_92f84_59 : decode cJx4a65c_grow_92f84 59 = .ok (.areturn, 1) := by decide +kernel
set_option maxRecDepth 20000 in
theorem ggJx4a65c_grow_d5877_Jx4a65c_grow_92f84 : GoodIn wsJx4a65c_grow_d5877 wsJx4a65c_grow_92f84 := goodIn_r _ [6, 7, 8, 9, 10, 11, 12, 13, 14, 15, 16, 17, 18, 19, 20, 21, 22, 23, 24, 25, 26, 27, 28, 29, 30, 31, 32, 33, 34, 35, 36, 37, 38, 39, 40, 41, 42, 43, 44, 45] (by decide +kernel) (by decide +kernel)
set_option maxRecDepth 20000 in
theorem gJx4a65c_grow_d5877_Jx4a65c_grow_92f84 : GoodIn wsJx4a65c_grow_d5877 (wsV RJx4a65c 69 RJx4a65c yJx4a65c_grow_92f84 wsJx4a65c_grow_92f84) := goodIn_app (goodIn_of _ (by decide +kernel)) ggJx4a65c_grow_d5877_Jx4a65c_grow_92f84
theorem dJx4a65c_grow_d5877_0 : decode cJx4a65c_grow_d5877 0 = .ok (.aload_n 0, 1) := by decide +kernel
theorem dJx4a65c_grow_d5877_1 : decode cJx4a65c_grow_d5877 1 = .ok (.aload_n 0, 1) := by decide +kernel
theorem dJx4a65c_grow_d5877_2 : decode cJx4a65c_grow_d5877 2 = .ok (.getfield 48, 3) := by decide +kernel
theorem dJx4a65c_grow_d5877_5 : decode cJx4a65c_grow_d5877 5 = .ok (.iconst 1, 1) := by decide +kernel
theorem dJx4a65c_grow_d5877_6 : decode cJx4a65c_grow_d5877 6 = .ok (.iadd, 1) := by decide +kernel
theorem dJx4a65c_grow_d5877_7 : decode cJx4a65c_grow_d5877 7 = .ok (.invokevirtual 69, 3) := by decide +kernel
theorem dJx4a65c_grow_d5877_10 : decode cJx4a65c_grow_d5877 10 = .ok (.areturn, 1) := by decide +kernel
theorem dJx4a65c_size_8abf5_0 : decode cJx4a65c_size_8abf5 0 = .ok (.aload_n 0, 1) := by decide +kernel
theorem dJx4a65c_size_8abf5_1 : decode cJx4a65c_size_8abf5 1 = .ok (.getfield 48, 3) := by decide +kernel
theorem dJx4a65c_size_8abf5_4 : decode cJx4a65c_size_8abf5 4 = .ok (.ireturn, 1) := by decide +kernel
theorem dJx4a65c_elementData_915e3_0 : decode cJx4a65c_elementData_915e3 0 = .ok (.aload_n 0, 1) := by decide +kernel
theorem dJx4a65c_elementData_915e3_1 : decode cJx4a65c_elementData_915e3 1 = .ok (.getfield 9, 3) := by decide +kernel
theorem dJx4a65c_elementData_915e3_4 : decode cJx4a65c_elementData_915e3 4 = .ok (.iload_n 1, 1) := by decide +kernel
theorem dJx4a65c_elementData_915e3_5 : decode cJx4a65c_elementData_915e3 5 = .ok (.aaload, 1) := by decide +kernel
theorem dJx4a65c_elementData_915e3_6 : decode cJx4a65c_elementData_915e3 6 = .ok (.areturn, 1) := by decide +kernel
set_option maxRecDepth 20000 in
theorem ggJx4a65c_get_915e3_J15_checkIndex_7cf53 : GoodIn wsJx4a65c_get_915e3 wsJ15_checkIndex_7cf53 := goodIn_r _ [5, 6, 7, 8, 9] (by decide +kernel) (by decide +kernel)
set_option maxRecDepth 20000 in
theorem gJx4a65c_get_915e3_J15_checkIndex_7cf53 : GoodIn wsJx4a65c_get_915e3 (va_wsS RJx4a65c 118 yJ15_checkIndex_7cf53 wsJ15_checkIndex_7cf53) := goodIn_app (goodIn_of _ (by decide +kernel)) ggJx4a65c_get_915e3_J15_checkIndex_7cf53
set_option maxRecDepth 20000 in
theorem ggJx4a65c_get_915e3_Jx4a65c_elementData_915e3 : GoodIn wsJx4a65c_get_915e3 wsJx4a65c_elementData_915e3 := goodIn_r _ [14, 15, 16, 17, 18] (by decide +kernel) (by decide +kernel)
set_option maxRecDepth 20000 in
theorem gJx4a65c_get_915e3_Jx4a65c_elementData_915e3 : GoodIn wsJx4a65c_get_915e3 (wsV RJx4a65c 123 RJx4a65c yJx4a65c_elementData_915e3 wsJx4a65c_elementData_915e3) := goodIn_app (goodIn_of _ (by decide +kernel)) ggJx4a65c_get_915e3_Jx4a65c_elementData_915e3
theorem dJx4a65c_get_915e3_0 : decode cJx4a65c_get_915e3 0 = .ok (.iload_n 1, 1) := by decide +kernel
theorem dJx4a65c_get_915e3_1 : decode cJx4a65c_get_915e3 1 = .ok (.aload_n 0, 1) := by decide +kernel
theorem dJx4a65c_get_915e3_2 : decode cJx4a65c_get_915e3 2 = .ok (.getfield 48, 3) := by decide +kernel
theorem dJx4a65c_get_915e3_5 : decode cJx4a65c_get_915e3 5 = .ok (.invokestatic 118, 3) := by decide +kernel
theorem dJx4a65c_get_915e3_8 : decode cJx4a65c_get_915e3 8 = .ok (.pop, 1) := by decide +kernel
theorem dJx4a65c_get_915e3_9 : decode cJx4a65c_get_915e3 9 = .ok (.aload_n 0, 1) := by decide +kernel
theorem dJx4a65c_get_915e3_10 : decode cJx4a65c_get_915e3 10 = .ok (.iload_n 1, 1) := by decide +kernel
theorem dJx4a65c_get_915e3_11 : decode cJx4a65c_get_915e3 11 = .ok (.invokevirtual 123, 3) := by decide +kernel
theorem dJx4a65c_get_915e3_14 : decode cJx4a65c_get_915e3 14 = .ok (.areturn, 1) := by decide +kernel
set_option maxRecDepth 20000 in
theorem ggJx4a65c_add_72be8_Jx4a65c_grow_d5877 : GoodIn wsJx4a65c_add_72be8 wsJx4a65c_grow_d5877 := goodIn_r _ [6, 1, 7, 8, 9, 5, 10, 11, 12, 13, 14, 15, 16, 17, 18, 19, 20, 21, 22, 23, 24, 25, 26, 27, 28, 29, 30, 31, 32, 33, 34, 35, 36, 37, 38, 39, 40, 41, 42, 43, 44, 45, 46, 47, 48, 49] (by decide +kernel) (by decide +kernel)
set_option maxRecDepth 20000 in
theorem gJx4a65c_add_72be8_Jx4a65c_grow_d5877 : GoodIn wsJx4a65c_add_72be8 (wsV RJx4a65c 129 RJx4a65c yJx4a65c_grow_d5877 wsJx4a65c_grow_d5877) := goodIn_app (goodIn_of _ (by decide +kernel)) ggJx4a65c_add_72be8_Jx4a65c_grow_d5877
theorem dJx4a65c_add_72be8_0 : decode cJx4a65c_add_72be8 0 = .ok (.iload_n 3, 1) := by decide +kernel
theorem dJx4a65c_add_72be8_1 : decode cJx4a65c_add_72be8 1 = .ok (.aload_n 2, 1) := by decide +kernel
theorem dJx4a65c_add_72be8_2 : decode cJx4a65c_add_72be8 2 = .ok (.arraylength, 1) := by decide +kernel
theorem dJx4a65c_add_72be8_3 : decode cJx4a65c_add_72be8 3 = .ok (.if_icmp .ne 8, 3) := by decide +kernel
theorem dJx4a65c_add_72be8_6 : decode cJx4a65c_add_72be8 6 = .ok (.aload_n 0, 1) := by decide +kernel
theorem dJx4a65c_add_72be8_7 : decode cJx4a65c_add_72be8 7 = .ok (.invokevirtual 129, 3) := by decide +kernel
theorem dJx4a65c_add_72be8_10 : decode cJx4a65c_add_72be8 10 = .ok (.astore_n 2, 1) := by decide +kernel
theorem dJx4a65c_add_72be8_11 : decode cJx4a65c_add_72be8 11 = .ok (.aload_n 2, 1) := by decide +kernel
theorem dJx4a65c_add_72be8_12 : decode cJx4a65c_add_72be8 12 = .ok (.iload_n 3, 1) := by decide +kernel
theorem dJx4a65c_add_72be8_13 : decode cJx4a65c_add_72be8 13 = .ok (.aload_n 1, 1) := by decide +kernel
theorem dJx4a65c_add_72be8_14 : decode cJx4a65c_add_72be8 14 = .ok (.aastore, 1) := by decide +kernel
theorem dJx4a65c_add_72be8_15 : decode cJx4a65c_add_72be8 15 = .ok (.aload_n 0, 1) := by decide +kernel
theorem dJx4a65c_add_72be8_16 : decode cJx4a65c_add_72be8 16 = .ok (.iload_n 3, 1) := by decide +kernel
theorem dJx4a65c_add_72be8_17 : decode cJx4a65c_add_72be8 17 = .ok (.iconst 1, 1) := by decide +kernel
theorem dJx4a65c_add_72be8_18 : decode cJx4a65c_add_72be8 18 = .ok (.iadd, 1) := by decide +kernel
theorem dJx4a65c_add_72be8_19 : decode cJx4a65c_add_72be8 19 = .ok (.putfield 48, 3) := by decide +kernel
theorem dJx4a65c_add_72be8_22 : decode cJx4a65c_add_72be8 22 = .ok (.return_, 1) := by decide +kernel
set_option maxRecDepth 20000 in
theorem ggJx4a65c_add_9ea2d_Jx4a65c_add_72be8 : GoodIn wsJx4a65c_add_9ea2d wsJx4a65c_add_72be8 := goodIn_r _ [9, 4, 10, 11, 12, 8, 13, 14, 15, 16, 17, 3, 18, 19, 20, 21, 22, 23, 24, 25, 26, 27, 28, 29, 30, 31, 32, 33, 34, 35, 36, 37, 38, 39, 40, 41, 42, 43, 44, 45, 46, 47, 48, 49, 50, 51, 52, 53, 54, 55] (by decide +kernel) (by decide +kernel)
set_option maxRecDepth 20000 in
theorem gJx4a65c_add_9ea2d_Jx4a65c_add_72be8 : GoodIn wsJx4a65c_add_9ea2d (wsV RJx4a65c 131 RJx4a65c yJx4a65c_add_72be8 wsJx4a65c_add_72be8) := goodIn_app (goodIn_of _ (by decide +kernel)) ggJx4a65c_add_9ea2d_Jx4a65c_add_72be8
theorem dJx4a65c_add_9ea2d_0 : decode cJx4a65c_add_9ea2d 0 = .ok (.aload_n 0, 1) := by decide +kernel
theorem dJx4a65c_add_9ea2d_1 : decode cJx4a65c_add_9ea2d 1 = .ok (.dup, 1) := by decide +kernel
theorem dJx4a65c_add_9ea2d_2 : decode cJx4a65c_add_9ea2d 2 = .ok (.getfield 63, 3) := by decide +kernel
theorem dJx4a65c_add_9ea2d_5 : decode cJx4a65c_add_9ea2d 5 = .ok (.iconst 1, 1) := by decide +kernel
theorem dJx4a65c_add_9ea2d_6 : decode cJx4a65c_add_9ea2d 6 = .ok (.iadd, 1) := by decide +kernel
theorem dJx4a65c_add_9ea2d_7 : decode cJx4a65c_add_9ea2d 7 = .ok (.putfield 63, 3) := by decide +kernel
theorem dJx4a65c_add_9ea2d_10 : decode cJx4a65c_add_9ea2d 10 = .ok (.aload_n 0, 1) := by decide +kernel
theorem dJx4a65c_add_9ea2d_11 : decode cJx4a65c_add_9ea2d 11 = .ok (.aload_n 1, 1) := by decide +kernel
theorem dJx4a65c_add_9ea2d_12 : decode cJx4a65c_add_9ea2d 12 = .ok (.aload_n 0, 1) := by decide +kernel
theorem dJx4a65c_add_9ea2d_13 : decode cJx4a65c_add_9ea2d 13 = .ok (.getfield 9, 3) := by decide +kernel
theorem dJx4a65c_add_9ea2d_16 : decode cJx4a65c_add_9ea2d 16 = .ok (.aload_n 0, 1) := by decide +kernel
theorem dJx4a65c_add_9ea2d_17 : decode cJx4a65c_add_9ea2d 17 = .ok (.getfield 48, 3) := by decide +kernel
theorem dJx4a65c_add_9ea2d_20 : decode cJx4a65c_add_9ea2d 20 = .ok (.invokevirtual 131, 3) := by decide +kernel
theorem dJx4a65c_add_9ea2d_23 : decode cJx4a65c_add_9ea2d 23 = .ok (.iconst 1, 1) := by decide +kernel
theorem dJx4a65c_add_9ea2d_24 : decode cJx4a65c_add_9ea2d 24 = .ok (.ireturn, 1) := by decide +kernel
theorem dJ7_fill_53178_0 : decode cJ7_fill_53178 0 = .ok (.iconst 0, 1) := by decide +kernel
theorem dJ7_fill_53178_1 : decode cJ7_fill_53178 1 = .ok (.istore_n 2, 1) := by decide +kernel
theorem dJ7_fill_53178_2 : decode cJ7_fill_53178 2 = .ok (.aload_n 0, 1) := by decide +kernel
theorem dJ7_fill_53178_3 : decode cJ7_fill_53178 3 = .ok (.arraylength, 1) := by decide +kernel
theorem dJ7_fill_53178_4 : decode cJ7_fill_53178 4 = .ok (.istore_n 3, 1) := by decide +kernel
theorem dJ7_fill_53178_5 : decode cJ7_fill_53178 5 = .ok (.iload_n 2, 1) := by decide +kernel
theorem dJ7_fill_53178_6 : decode cJ7_fill_53178 6 = .ok (.iload_n 3, 1) := by decide +kernel
theorem dJ7_fill_53178_7 : decode cJ7_fill_53178 7 = .ok (.if_icmp .ge 13, 3) := by decide +kernel
theorem dJ7_fill_53178_10 : decode cJ7_fill_53178 10 = .ok (.aload_n 0, 1) := by decide +kernel
theorem dJ7_fill_53178_11 : decode cJ7_fill_53178 11 = .ok (.iload_n 2, 1) := by decide +kernel
theorem dJ7_fill_53178_12 : decode cJ7_fill_53178 12 = .ok (.iload_n 1, 1) := by decide +kernel
theorem dJ7_fill_53178_13 : decode cJ7_fill_53178 13 = .ok (.iastore, 1) := by decide +kernel
theorem dJ7_fill_53178_14 : decode cJ7_fill_53178 14 = .ok (.iinc 2 1, 3) := by decide +kernel
theorem dJ7_fill_53178_17 : decode cJ7_fill_53178 17 = .ok (.goto (-12), 3) := by decide +kernel
theorem dJ7_fill_53178_20 : decode cJ7_fill_53178 20 = .ok (.return_, 1) := by decide +kernel
set_option maxRecDepth 20000 in
theorem ggJ7_copyOf_1904c_J7_copyOf_6403c : GoodIn wsJ7_copyOf_1904c wsJ7_copyOf_6403c := goodIn_r _ [8, 9, 10, 11, 12, 13, 14, 15, 16, 17, 18] (by decide +kernel) (by decide +kernel)
set_option maxRecDepth 20000 in
theorem gJ7_copyOf_1904c_J7_copyOf_6403c : GoodIn wsJ7_copyOf_1904c (va_wsS RJ7 300 yJ7_copyOf_6403c wsJ7_copyOf_6403c) := goodIn_app (goodIn_of _ (by decide +kernel)) ggJ7_copyOf_1904c_J7_copyOf_6403c
theorem dJ7_copyOf_1904c_0 : decode cJ7_copyOf_1904c 0 = .ok (.aload_n 0, 1) := by decide +kernel
theorem dJ7_copyOf_1904c_1 : decode cJ7_copyOf_1904c 1 = .ok (.iload_n 1, 1) := by decide +kernel
theorem dJ7_copyOf_1904c_2 : decode cJ7_copyOf_1904c 2 = .ok (.aload_n 0, 1) := by decide +kernel
theorem dJ7_copyOf_1904c_3 : decode cJ7_copyOf_1904c 3 = .ok (.invokevirtual 86, 3) := by decide +kernel
theorem dJ7_copyOf_1904c_6 : decode cJ7_copyOf_1904c 6 = .ok (.invokestatic 300, 3) := by decide +kernel
theorem dJ7_copyOf_1904c_9 : decode cJ7_copyOf_1904c 9 = .ok (.areturn, 1) := by decide +kernel
theorem dJ7_copyOf_6403c_0 : decode cJ7_copyOf_6403c 0 = .ok (.aload_n 2, 1) := by decide +kernel
theorem dJ7_copyOf_6403c_1 : decode cJ7_copyOf_6403c 1 = .ok (.ldc 110, 2) := by decide +kernel
theorem dJ7_copyOf_6403c_3 : decode cJ7_copyOf_6403c 3 = .ok (.if_acmp .ne 10, 3) := by decide +kernel
theorem dJ7_copyOf_6403c_6 : decode cJ7_copyOf_6403c 6 = .ok (.iload_n 1, 1) := by decide +kernel
theorem dJ7_copyOf_6403c_7 : decode cJ7_copyOf_6403c 7 = .ok (.anewarray 2, 3) := by decide +kernel
theorem dJ7_copyOf_6403c_10 : decode cJ7_copyOf_6403c 10 = .ok (.goto 14, 3) := by decide +kernel
theorem dJ7_copyOf_6403c_13 : decode cJ7_copyOf_6403c 13 = .ok (.aload_n 2, 1) := by decide +kernel
theorem dJ7_copyOf_6403c_14 : decode cJ7_copyOf_6403c 14 = .ok (.invokevirtual 90, 3) := by decide +kernel
theorem dJ7_copyOf_6403c_17 : decode cJ7_copyOf_6403c 17 = .ok (.iload_n 1, 1) := by decide +kernel
theorem dJ7_copyOf_6403c_18 : decode cJ7_copyOf_6403c 18 = .ok (.invokestatic 95, 3) := by decide +kernel
theorem dJ7_copyOf_6403c_21 : decode cJ7_copyOf_6403c 21 = .ok (.checkcast 110, 3) := by decide +kernel
theorem dJ7_copyOf_6403c_24 : decode cJ7_copyOf_6403c 24 = .ok (.astore_n 3, 1) := by decide +kernel
theorem dJ7_copyOf_6403c_25 : decode cJ7_copyOf_6403c 25 = .ok (.aload_n 0, 1) := by decide +kernel
theorem dJ7_copyOf_6403c_26 : decode cJ7_copyOf_6403c 26 = .ok (.iconst 0, 1) := by decide +kernel
theorem dJ7_copyOf_6403c_27 : decode cJ7_copyOf_6403c 27 = .ok (.aload_n 3, 1) := by decide +kernel
theorem dJ7_copyOf_6403c_28 : decode cJ7_copyOf_6403c 28 = .ok (.iconst 0, 1) := by decide +kernel
theorem dJ7_copyOf_6403c_29 : decode cJ7_copyOf_6403c 29 = .ok (.aload_n 0, 1) := by decide +kernel
theorem dJ7_copyOf_6403c_30 : decode cJ7_copyOf_6403c 30 = .ok (.arraylength, 1) := by decide +kernel
theorem dJ7_copyOf_6403c_31 : decode cJ7_copyOf_6403c 31 = .ok (.iload_n 1, 1) := by decide +kernel
theorem dJ7_copyOf_6403c_32 : decode cJ7_copyOf_6403c 32 = .ok (.invokestatic 304, 3) := by decide +kernel
theorem dJ7_copyOf_6403c_35 : decode cJ7_copyOf_6403c 35 = .ok (.invokestatic 150, 3) := by decide +kernel
theorem dJ7_copyOf_6403c_38 : decode cJ7_copyOf_6403c 38 = .ok (.aload_n 3, 1) := by decide +kernel
theorem dJ7_copyOf_6403c_39 : decode cJ7_copyOf_6403c 39 = .ok (.areturn, 1) := by decide +kernel
set_option maxRecDepth 20000 in
theorem ggJ15_checkIndex_7cf53_J3_checkIndex_8e157 : GoodIn wsJ15_checkIndex_7cf53 wsJ3_checkIndex_8e157 := goodIn_r _ [4] (by decide +kernel) (by decide +kernel)
set_option maxRecDepth 20000 in
theorem gJ15_checkIndex_7cf53_J3_checkIndex_8e157 : GoodIn wsJ15_checkIndex_7cf53 (va_wsS RJ15 105 yJ3_checkIndex_8e157 wsJ3_checkIndex_8e157) := goodIn_app (goodIn_of _ (by decide +kernel)) ggJ15_checkIndex_7cf53_J3_checkIndex_8e157
theorem dJ15_checkIndex_7cf53_0 : decode cJ15_checkIndex_7cf53 0 = .ok (.iload_n 0, 1) := by decide +kernel
theorem dJ15_checkIndex_7cf53_1 : decode cJ15_checkIndex_7cf53 1 = .ok (.iload_n 1, 1) := by decide +kernel
theorem dJ15_checkIndex_7cf53_2 : decode cJ15_checkIndex_7cf53 2 = .ok (.aconst_null, 1) := by decide +kernel
theorem dJ15_checkIndex_7cf53_3 : decode cJ15_checkIndex_7cf53 3 = .ok (.invokestatic 105, 3) := by decide +kernel
theorem dJ15_checkIndex_7cf53_6 : decode cJ15_checkIndex_7cf53 6 = .ok (.ireturn, 1) := by decide +kernel
set_option maxRecDepth 20000 in
theorem ggJ8_newLength_cabcc_J8_hugeLength_7cf53 : GoodIn wsJ8_newLength_cabcc wsJ8_hugeLength_7cf53 := goodIn_r _ [9, 5] (by decide +kernel) (by decide +kernel)
set_option maxRecDepth 20000 in
theorem gJ8_newLength_cabcc_J8_hugeLength_7cf53 : GoodIn wsJ8_newLength_cabcc (va_wsS RJ8 201 yJ8_hugeLength_7cf53 wsJ8_hugeLength_7cf53) := goodIn_app (goodIn_of _ (by decide +kernel)) ggJ8_newLength_cabcc_J8_hugeLength_7cf53
theorem dJ8_newLength_cabcc_0 : decode cJ8_newLength_cabcc 0 = .ok (.iload_n 0, 1) := by decide +kernel
theorem dJ8_newLength_cabcc_1 : decode cJ8_newLength_cabcc 1 = .ok (.iload_n 1, 1) := by decide +kernel
theorem dJ8_newLength_cabcc_2 : decode cJ8_newLength_cabcc 2 = .ok (.iload_n 2, 1) := by decide +kernel
theorem dJ8_newLength_cabcc_3 : decode cJ8_newLength_cabcc 3 = .ok (.invokestatic 194, 3) := by decide +kernel
theorem dJ8_newLength_cabcc_6 : decode cJ8_newLength_cabcc 6 = .ok (.iadd, 1) := by decide +kernel
theorem dJ8_newLength_cabcc_7 : decode cJ8_newLength_cabcc 7 = .ok (.istore_n 3, 1) := by decide +kernel
theorem dJ8_newLength_cabcc_8 : decode cJ8_newLength_cabcc 8 = .ok (.iconst 0, 1) := by decide +kernel
theorem dJ8_newLength_cabcc_9 : decode cJ8_newLength_cabcc 9 = .ok (.iload_n 3, 1) := by decide +kernel
theorem dJ8_newLength_cabcc_10 : decode cJ8_newLength_cabcc 10 = .ok (.if_icmp .ge 11, 3) := by decide +kernel
theorem dJ8_newLength_cabcc_13 : decode cJ8_newLength_cabcc 13 = .ok (.iload_n 3, 1) := by decide +kernel
theorem dJ8_newLength_cabcc_14 : decode cJ8_newLength_cabcc 14 = .ok (.ldc 200, 2) := by decide +kernel
theorem dJ8_newLength_cabcc_16 : decode cJ8_newLength_cabcc 16 = .ok (.if_icmp .gt 5, 3) := by decide +kernel
theorem dJ8_newLength_cabcc_19 : decode cJ8_newLength_cabcc 19 = .ok (.iload_n 3, 1) := by decide +kernel
theorem dJ8_newLength_cabcc_20 : decode cJ8_newLength_cabcc 20 = .ok (.ireturn, 1) := by decide +kernel
theorem dJ8_newLength_cabcc_21 : decode cJ8_newLength_cabcc 21 = .ok (.iload_n 0, 1) := by decide +kernel
theorem dJ8_newLength_cabcc_22 : decode cJ8_newLength_cabcc 22 = .ok (.iload_n 1, 1) := by decide +kernel
theorem dJ8_newLength_cabcc_23 : decode cJ8_newLength_cabcc 23 = .ok (.invokestatic 201, 3) := by decide +kernel
theorem dJ8_newLength_cabcc_26 : decode cJ8_newLength_cabcc 26 = .ok (.ireturn, 1) := by decide +kernel
theorem dJ8_hugeLength_7cf53_0 : decode cJ8_hugeLength_7cf53 0 = .ok (.iload_n 0, 1) := by decide +kernel
theorem dJ8_hugeLength_7cf53_1 : decode cJ8_hugeLength_7cf53 1 = .ok (.iload_n 1, 1) := by decide +kernel
theorem dJ8_hugeLength_7cf53_2 : decode cJ8_hugeLength_7cf53 2 = .ok (.iadd, 1) := by decide +kernel
theorem dJ8_hugeLength_7cf53_3 : decode cJ8_hugeLength_7cf53 3 = .ok (.istore_n 2, 1) := by decide +kernel
theorem dJ8_hugeLength_7cf53_4 : decode cJ8_hugeLength_7cf53 4 = .ok (.iload_n 2, 1) := by decide +kernel
theorem dJ8_hugeLength_7cf53_5 : decode cJ8_hugeLength_7cf53 5 = .ok (.ifCond .ge 44, 3) := by decide +kernel
theorem dJ8_hugeLength_7cf53_8 : decode cJ8_hugeLength_7cf53 8 = .ok (.new 204, 3) := by decide +kernel
theorem dJ8_hugeLength_7cf53_11 : decode cJ8_hugeLength_7cf53 11 = .ok (.dup, 1) := by decide +kernel
theorem dJ8_hugeLength_7cf53_12 : decode cJ8_hugeLength_7cf53 12 = .ok (.new 89, 3) := by decide +kernel
theorem dJ8_hugeLength_7cf53_15 : decode cJ8_hugeLength_7cf53 15 = .ok (.dup, 1) := by decide +kernel
theorem dJ8_hugeLength_7cf53_16 : decode cJ8_hugeLength_7cf53 16 = .ok (.invokespecial 91, 3) := by decide +kernel
theorem dJ8_hugeLength_7cf53_19 : decode cJ8_hugeLength_7cf53 19 = .ok (.ldc 206, 2) := by decide +kernel
theorem dJ8_hugeLength_7cf53_21 : decode cJ8_hugeLength_7cf53 21 = .ok (.invokevirtual 94, 3) := by decide +kernel
theorem dJ8_hugeLength_7cf53_24 : decode cJ8_hugeLength_7cf53 24 = .ok (.iload_n 0, 1) := by decide +kernel
theorem dJ8_hugeLength_7cf53_25 : decode cJ8_hugeLength_7cf53 25 = .ok (.invokevirtual 98, 3) := by decide +kernel
theorem dJ8_hugeLength_7cf53_28 : decode cJ8_hugeLength_7cf53 28 = .ok (.ldc 208, 2) := by decide +kernel
theorem dJ8_hugeLength_7cf53_30 : decode cJ8_hugeLength_7cf53 30 = .ok (.invokevirtual 94, 3) := by decide +kernel
theorem dJ8_hugeLength_7cf53_33 : decode cJ8_hugeLength_7cf53 33 = .ok (.iload_n 1, 1) := by decide +kernel
theorem dJ8_hugeLength_7cf53_34 : decode cJ8_hugeLength_7cf53 34 = .ok (.invokevirtual 98, 3) := by decide +kernel
theorem dJ8_hugeLength_7cf53_37 : decode cJ8_hugeLength_7cf53 37 = .ok (.ldc 210, 2) := by decide +kernel
theorem dJ8_hugeLength_7cf53_39 : decode cJ8_hugeLength_7cf53 39 = .ok (.invokevirtual 94, 3) := by decide +kernel
theorem dJ8_hugeLength_7cf53_42 : decode cJ8_hugeLength_7cf53 42 = .ok (.invokevirtual 101, 3) := by decide +kernel
theorem dJ8_hugeLength_7cf53_45 : decode cJ8_hugeLength_7cf53 45 = .ok (.invokespecial 212, 3) := by decide +kernel
theorem dJ8_hugeLength_7cf53_48 : decode cJ8_hugeLength_7cf53 48 = .ok (.athrow, 1) := by decide +kernel
theorem dJ8_hugeLength_7cf53_49 : decode cJ8_hugeLength_7cf53 49 = .ok (.iload_n 2, 1) := by decide +kernel
theorem dJ8_hugeLength_7cf53_50 : decode cJ8_hugeLength_7cf53 50 = .ok (.ldc 200, 2) := by decide +kernel
theorem dJ8_hugeLength_7cf53_52 : decode cJ8_hugeLength_7cf53 52 = .ok (.if_icmp .gt 6, 3) := by decide +kernel
theorem dJ8_hugeLength_7cf53_55 : decode cJ8_hugeLength_7cf53 55 = .ok (.ldc 200, 2) := by decide +kernel
theorem dJ8_hugeLength_7cf53_57 : decode cJ8_hugeLength_7cf53 57 = .ok (.ireturn, 1) := by decide +kernel
theorem dJ8_hugeLength_7cf53_58 : decode cJ8_hugeLength_7cf53 58 = .ok (.iload_n 2, 1) := by decide +kernel
theorem dJ8_hugeLength_7cf53_59 : decode cJ8_hugeLength_7cf53 59 = .ok (.ireturn, 1) := by decide +kernel
theorem dJ3_checkIndex_8e157_0 : decode cJ3_checkIndex_8e157 0 = .ok (.iload_n 0, 1) := by decide +kernel
theorem dJ3_checkIndex_8e157_1 : decode cJ3_checkIndex_8e157 1 = .ok (.ifCond .lt 8, 3) := by decide +kernel
theorem dJ3_checkIndex_8e157_4 : decode cJ3_checkIndex_8e157 4 = .ok (.iload_n 0, 1) := by decide +kernel
theorem dJ3_checkIndex_8e157_5 : decode cJ3_checkIndex_8e157 5 = .ok (.iload_n 1, 1) := by decide +kernel
theorem dJ3_checkIndex_8e157_6 : decode cJ3_checkIndex_8e157 6 = .ok (.if_icmp .lt 10, 3) := by decide +kernel
theorem dJ3_checkIndex_8e157_9 : decode cJ3_checkIndex_8e157 9 = .ok (.aload_n 2, 1) := by decide +kernel
theorem dJ3_checkIndex_8e157_10 : decode cJ3_checkIndex_8e157 10 = .ok (.iload_n 0, 1) := by decide +kernel
theorem dJ3_checkIndex_8e157_11 : decode cJ3_checkIndex_8e157 11 = .ok (.iload_n 1, 1) := by decide +kernel
theorem dJ3_checkIndex_8e157_12 : decode cJ3_checkIndex_8e157 12 = .ok (.invokestatic 95, 3) := by decide +kernel
theorem dJ3_checkIndex_8e157_15 : decode cJ3_checkIndex_8e157 15 = .ok (.athrow, 1) := by decide +kernel
theorem dJ3_checkIndex_8e157_16 : decode cJ3_checkIndex_8e157 16 = .ok (.iload_n 0, 1) := by decide +kernel
theorem dJ3_checkIndex_8e157_17 : decode cJ3_checkIndex_8e157 17 = .ok (.ireturn, 1) := by decide +kernel
