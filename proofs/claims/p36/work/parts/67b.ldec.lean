/-! the law's instructions -/
theorem dL_tells_0 : decode cL_tells 0 = .ok (.iload_n 2, 1) := by decide +kernel
theorem dL_tells_1 : decode cL_tells 1 = .ok (.iconst 3, 1) := by decide +kernel
theorem dL_tells_2 : decode cL_tells 2 = .ok (.invokestatic 89, 3) := by decide +kernel
theorem dL_tells_5 : decode cL_tells 5 = .ok (.istore 13, 2) := by decide +kernel
theorem dL_tells_7 : decode cL_tells 7 = .ok (.iload_n 2, 1) := by decide +kernel
theorem dL_tells_8 : decode cL_tells 8 = .ok (.iconst 2, 1) := by decide +kernel
theorem dL_tells_9 : decode cL_tells 9 = .ok (.ishr, 1) := by decide +kernel
theorem dL_tells_10 : decode cL_tells 10 = .ok (.iconst 5, 1) := by decide +kernel
theorem dL_tells_11 : decode cL_tells 11 = .ok (.invokestatic 89, 3) := by decide +kernel
theorem dL_tells_14 : decode cL_tells 14 = .ok (.istore 14, 2) := by decide +kernel
theorem dL_tells_16 : decode cL_tells 16 = .ok (.iload_n 2, 1) := by decide +kernel
theorem dL_tells_17 : decode cL_tells 17 = .ok (.iconst 4, 1) := by decide +kernel
theorem dL_tells_18 : decode cL_tells 18 = .ok (.ishr, 1) := by decide +kernel
theorem dL_tells_19 : decode cL_tells 19 = .ok (.bipush 8, 2) := by decide +kernel
theorem dL_tells_21 : decode cL_tells 21 = .ok (.invokestatic 89, 3) := by decide +kernel
theorem dL_tells_24 : decode cL_tells 24 = .ok (.istore 15, 2) := by decide +kernel
theorem dL_tells_26 : decode cL_tells 26 = .ok (.iload_n 1, 1) := by decide +kernel
theorem dL_tells_27 : decode cL_tells 27 = .ok (.ifCond .ne 66, 3) := by decide +kernel
theorem dL_tells_30 : decode cL_tells 30 = .ok (.iconst 1, 1) := by decide +kernel
theorem dL_tells_31 : decode cL_tells 31 = .ok (.iload_n 2, 1) := by decide +kernel
theorem dL_tells_32 : decode cL_tells 32 = .ok (.iconst 3, 1) := by decide +kernel
theorem dL_tells_33 : decode cL_tells 33 = .ok (.ishr, 1) := by decide +kernel
theorem dL_tells_34 : decode cL_tells 34 = .ok (.sipush 3000, 3) := by decide +kernel
theorem dL_tells_37 : decode cL_tells 37 = .ok (.invokestatic 89, 3) := by decide +kernel
theorem dL_tells_40 : decode cL_tells 40 = .ok (.iadd, 1) := by decide +kernel
theorem dL_tells_41 : decode cL_tells 41 = .ok (.istore 16, 2) := by decide +kernel
theorem dL_tells_43 : decode cL_tells 43 = .ok (.aload 11, 2) := by decide +kernel
theorem dL_tells_45 : decode cL_tells 45 = .ok (.iconst 4, 1) := by decide +kernel
theorem dL_tells_46 : decode cL_tells 46 = .ok (.iload 13, 2) := by decide +kernel
theorem dL_tells_48 : decode cL_tells 48 = .ok (.imul, 1) := by decide +kernel
theorem dL_tells_49 : decode cL_tells 49 = .ok (.dup2, 1) := by decide +kernel
theorem dL_tells_50 : decode cL_tells 50 = .ok (.iaload, 1) := by decide +kernel
theorem dL_tells_51 : decode cL_tells 51 = .ok (.iload 16, 2) := by decide +kernel
theorem dL_tells_53 : decode cL_tells 53 = .ok (.iadd, 1) := by decide +kernel
theorem dL_tells_54 : decode cL_tells 54 = .ok (.iastore, 1) := by decide +kernel
theorem dL_tells_55 : decode cL_tells 55 = .ok (.aload 11, 2) := by decide +kernel
theorem dL_tells_57 : decode cL_tells 57 = .ok (.iconst 4, 1) := by decide +kernel
theorem dL_tells_58 : decode cL_tells 58 = .ok (.iload 13, 2) := by decide +kernel
theorem dL_tells_60 : decode cL_tells 60 = .ok (.imul, 1) := by decide +kernel
theorem dL_tells_61 : decode cL_tells 61 = .ok (.iconst 1, 1) := by decide +kernel
theorem dL_tells_62 : decode cL_tells 62 = .ok (.iadd, 1) := by decide +kernel
theorem dL_tells_63 : decode cL_tells 63 = .ok (.dup2, 1) := by decide +kernel
theorem dL_tells_64 : decode cL_tells 64 = .ok (.iaload, 1) := by decide +kernel
theorem dL_tells_65 : decode cL_tells 65 = .ok (.iload 16, 2) := by decide +kernel
theorem dL_tells_67 : decode cL_tells 67 = .ok (.iadd, 1) := by decide +kernel
theorem dL_tells_68 : decode cL_tells 68 = .ok (.iastore, 1) := by decide +kernel
theorem dL_tells_69 : decode cL_tells 69 = .ok (.aload_n 0, 1) := by decide +kernel
theorem dL_tells_70 : decode cL_tells 70 = .ok (.iload 13, 2) := by decide +kernel
theorem dL_tells_72 : decode cL_tells 72 = .ok (.iload 16, 2) := by decide +kernel
theorem dL_tells_74 : decode cL_tells 74 = .ok (.invokevirtual 92, 3) := by decide +kernel
theorem dL_tells_77 : decode cL_tells 77 = .ok (.aload 11, 2) := by decide +kernel
theorem dL_tells_79 : decode cL_tells 79 = .ok (.iconst 4, 1) := by decide +kernel
theorem dL_tells_80 : decode cL_tells 80 = .ok (.iload 13, 2) := by decide +kernel
theorem dL_tells_82 : decode cL_tells 82 = .ok (.imul, 1) := by decide +kernel
theorem dL_tells_83 : decode cL_tells 83 = .ok (.iaload, 1) := by decide +kernel
theorem dL_tells_84 : decode cL_tells 84 = .ok (.if_icmp .ne 7, 3) := by decide +kernel
theorem dL_tells_87 : decode cL_tells 87 = .ok (.iconst 1, 1) := by decide +kernel
theorem dL_tells_88 : decode cL_tells 88 = .ok (.goto 4, 3) := by decide +kernel
theorem dL_tells_91 : decode cL_tells 91 = .ok (.iconst 0, 1) := by decide +kernel
theorem dL_tells_92 : decode cL_tells 92 = .ok (.ireturn, 1) := by decide +kernel
theorem dL_tells_93 : decode cL_tells 93 = .ok (.iload_n 1, 1) := by decide +kernel
theorem dL_tells_94 : decode cL_tells 94 = .ok (.iconst 1, 1) := by decide +kernel
theorem dL_tells_95 : decode cL_tells 95 = .ok (.if_icmp .eq 10, 3) := by decide +kernel
theorem dL_tells_98 : decode cL_tells 98 = .ok (.aload 12, 2) := by decide +kernel
theorem dL_tells_100 : decode cL_tells 100 = .ok (.iconst 1, 1) := by decide +kernel
theorem dL_tells_101 : decode cL_tells 101 = .ok (.iaload, 1) := by decide +kernel
theorem dL_tells_102 : decode cL_tells 102 = .ok (.ifCond .ne 118, 3) := by decide +kernel
theorem dL_tells_105 : decode cL_tells 105 = .ok (.aload 12, 2) := by decide +kernel
theorem dL_tells_107 : decode cL_tells 107 = .ok (.iconst 1, 1) := by decide +kernel
theorem dL_tells_108 : decode cL_tells 108 = .ok (.iaload, 1) := by decide +kernel
theorem dL_tells_109 : decode cL_tells 109 = .ok (.bipush 8, 2) := by decide +kernel
theorem dL_tells_111 : decode cL_tells 111 = .ok (.if_icmp .ne 5, 3) := by decide +kernel
theorem dL_tells_114 : decode cL_tells 114 = .ok (.iconst 1, 1) := by decide +kernel
theorem dL_tells_115 : decode cL_tells 115 = .ok (.ireturn, 1) := by decide +kernel
theorem dL_tells_116 : decode cL_tells 116 = .ok (.aload 12, 2) := by decide +kernel
theorem dL_tells_118 : decode cL_tells 118 = .ok (.iconst 1, 1) := by decide +kernel
theorem dL_tells_119 : decode cL_tells 119 = .ok (.iaload, 1) := by decide +kernel
theorem dL_tells_120 : decode cL_tells 120 = .ok (.istore 16, 2) := by decide +kernel
theorem dL_tells_122 : decode cL_tells 122 = .ok (.aload 12, 2) := by decide +kernel
theorem dL_tells_124 : decode cL_tells 124 = .ok (.iconst 1, 1) := by decide +kernel
theorem dL_tells_125 : decode cL_tells 125 = .ok (.dup2, 1) := by decide +kernel
theorem dL_tells_126 : decode cL_tells 126 = .ok (.iaload, 1) := by decide +kernel
theorem dL_tells_127 : decode cL_tells 127 = .ok (.iconst 1, 1) := by decide +kernel
theorem dL_tells_128 : decode cL_tells 128 = .ok (.iadd, 1) := by decide +kernel
theorem dL_tells_129 : decode cL_tells 129 = .ok (.iastore, 1) := by decide +kernel
theorem dL_tells_130 : decode cL_tells 130 = .ok (.aload_n 3, 1) := by decide +kernel
theorem dL_tells_131 : decode cL_tells 131 = .ok (.bipush 8, 2) := by decide +kernel
theorem dL_tells_133 : decode cL_tells 133 = .ok (.iload 16, 2) := by decide +kernel
theorem dL_tells_135 : decode cL_tells 135 = .ok (.imul, 1) := by decide +kernel
theorem dL_tells_136 : decode cL_tells 136 = .ok (.iload 13, 2) := by decide +kernel
theorem dL_tells_138 : decode cL_tells 138 = .ok (.iastore, 1) := by decide +kernel
theorem dL_tells_139 : decode cL_tells 139 = .ok (.aload_n 3, 1) := by decide +kernel
theorem dL_tells_140 : decode cL_tells 140 = .ok (.bipush 8, 2) := by decide +kernel
theorem dL_tells_142 : decode cL_tells 142 = .ok (.iload 16, 2) := by decide +kernel
theorem dL_tells_144 : decode cL_tells 144 = .ok (.imul, 1) := by decide +kernel
theorem dL_tells_145 : decode cL_tells 145 = .ok (.iconst 1, 1) := by decide +kernel
theorem dL_tells_146 : decode cL_tells 146 = .ok (.iadd, 1) := by decide +kernel
theorem dL_tells_147 : decode cL_tells 147 = .ok (.iconst 1, 1) := by decide +kernel
theorem dL_tells_148 : decode cL_tells 148 = .ok (.iload_n 2, 1) := by decide +kernel
theorem dL_tells_149 : decode cL_tells 149 = .ok (.iconst 3, 1) := by decide +kernel
theorem dL_tells_150 : decode cL_tells 150 = .ok (.ishr, 1) := by decide +kernel
theorem dL_tells_151 : decode cL_tells 151 = .ok (.sipush 255, 3) := by decide +kernel
theorem dL_tells_154 : decode cL_tells 154 = .ok (.invokestatic 89, 3) := by decide +kernel
theorem dL_tells_157 : decode cL_tells 157 = .ok (.iadd, 1) := by decide +kernel
theorem dL_tells_158 : decode cL_tells 158 = .ok (.iastore, 1) := by decide +kernel
theorem dL_tells_159 : decode cL_tells 159 = .ok (.aload_n 3, 1) := by decide +kernel
theorem dL_tells_160 : decode cL_tells 160 = .ok (.bipush 8, 2) := by decide +kernel
theorem dL_tells_162 : decode cL_tells 162 = .ok (.iload 16, 2) := by decide +kernel
theorem dL_tells_164 : decode cL_tells 164 = .ok (.imul, 1) := by decide +kernel
theorem dL_tells_165 : decode cL_tells 165 = .ok (.iconst 2, 1) := by decide +kernel
theorem dL_tells_166 : decode cL_tells 166 = .ok (.iadd, 1) := by decide +kernel
theorem dL_tells_167 : decode cL_tells 167 = .ok (.iload_n 2, 1) := by decide +kernel
theorem dL_tells_168 : decode cL_tells 168 = .ok (.iconst 5, 1) := by decide +kernel
theorem dL_tells_169 : decode cL_tells 169 = .ok (.ishr, 1) := by decide +kernel
theorem dL_tells_170 : decode cL_tells 170 = .ok (.iconst 3, 1) := by decide +kernel
theorem dL_tells_171 : decode cL_tells 171 = .ok (.invokestatic 89, 3) := by decide +kernel
theorem dL_tells_174 : decode cL_tells 174 = .ok (.iastore, 1) := by decide +kernel
theorem dL_tells_175 : decode cL_tells 175 = .ok (.aload_n 3, 1) := by decide +kernel
theorem dL_tells_176 : decode cL_tells 176 = .ok (.bipush 8, 2) := by decide +kernel
theorem dL_tells_178 : decode cL_tells 178 = .ok (.iload 16, 2) := by decide +kernel
theorem dL_tells_180 : decode cL_tells 180 = .ok (.imul, 1) := by decide +kernel
theorem dL_tells_181 : decode cL_tells 181 = .ok (.iconst 3, 1) := by decide +kernel
theorem dL_tells_182 : decode cL_tells 182 = .ok (.iadd, 1) := by decide +kernel
theorem dL_tells_183 : decode cL_tells 183 = .ok (.iconst 1, 1) := by decide +kernel
theorem dL_tells_184 : decode cL_tells 184 = .ok (.iastore, 1) := by decide +kernel
theorem dL_tells_185 : decode cL_tells 185 = .ok (.aload_n 0, 1) := by decide +kernel
theorem dL_tells_186 : decode cL_tells 186 = .ok (.iload 13, 2) := by decide +kernel
theorem dL_tells_188 : decode cL_tells 188 = .ok (.aload_n 3, 1) := by decide +kernel
theorem dL_tells_189 : decode cL_tells 189 = .ok (.bipush 8, 2) := by decide +kernel
theorem dL_tells_191 : decode cL_tells 191 = .ok (.iload 16, 2) := by decide +kernel
theorem dL_tells_193 : decode cL_tells 193 = .ok (.imul, 1) := by decide +kernel
theorem dL_tells_194 : decode cL_tells 194 = .ok (.iconst 1, 1) := by decide +kernel
theorem dL_tells_195 : decode cL_tells 195 = .ok (.iadd, 1) := by decide +kernel
theorem dL_tells_196 : decode cL_tells 196 = .ok (.iaload, 1) := by decide +kernel
theorem dL_tells_197 : decode cL_tells 197 = .ok (.aload_n 3, 1) := by decide +kernel
theorem dL_tells_198 : decode cL_tells 198 = .ok (.bipush 8, 2) := by decide +kernel
theorem dL_tells_200 : decode cL_tells 200 = .ok (.iload 16, 2) := by decide +kernel
theorem dL_tells_202 : decode cL_tells 202 = .ok (.imul, 1) := by decide +kernel
theorem dL_tells_203 : decode cL_tells 203 = .ok (.iconst 2, 1) := by decide +kernel
theorem dL_tells_204 : decode cL_tells 204 = .ok (.iadd, 1) := by decide +kernel
theorem dL_tells_205 : decode cL_tells 205 = .ok (.iaload, 1) := by decide +kernel
theorem dL_tells_206 : decode cL_tells 206 = .ok (.invokevirtual 95, 3) := by decide +kernel
theorem dL_tells_209 : decode cL_tells 209 = .ok (.iload 16, 2) := by decide +kernel
theorem dL_tells_211 : decode cL_tells 211 = .ok (.if_icmp .ne 7, 3) := by decide +kernel
theorem dL_tells_214 : decode cL_tells 214 = .ok (.iconst 1, 1) := by decide +kernel
theorem dL_tells_215 : decode cL_tells 215 = .ok (.goto 4, 3) := by decide +kernel
theorem dL_tells_218 : decode cL_tells 218 = .ok (.iconst 0, 1) := by decide +kernel
theorem dL_tells_219 : decode cL_tells 219 = .ok (.ireturn, 1) := by decide +kernel
theorem dL_tells_220 : decode cL_tells 220 = .ok (.iload_n 2, 1) := by decide +kernel
theorem dL_tells_221 : decode cL_tells 221 = .ok (.iconst 3, 1) := by decide +kernel
theorem dL_tells_222 : decode cL_tells 222 = .ok (.ishr, 1) := by decide +kernel
theorem dL_tells_223 : decode cL_tells 223 = .ok (.aload 12, 2) := by decide +kernel
theorem dL_tells_225 : decode cL_tells 225 = .ok (.iconst 1, 1) := by decide +kernel
theorem dL_tells_226 : decode cL_tells 226 = .ok (.iaload, 1) := by decide +kernel
theorem dL_tells_227 : decode cL_tells 227 = .ok (.invokestatic 89, 3) := by decide +kernel
theorem dL_tells_230 : decode cL_tells 230 = .ok (.istore 16, 2) := by decide +kernel
theorem dL_tells_232 : decode cL_tells 232 = .ok (.iload_n 1, 1) := by decide +kernel
theorem dL_tells_233 : decode cL_tells 233 = .ok (.iconst 2, 1) := by decide +kernel
theorem dL_tells_234 : decode cL_tells 234 = .ok (.if_icmp .ne 104, 3) := by decide +kernel
theorem dL_tells_237 : decode cL_tells 237 = .ok (.aload 12, 2) := by decide +kernel
theorem dL_tells_239 : decode cL_tells 239 = .ok (.iconst 2, 1) := by decide +kernel
theorem dL_tells_240 : decode cL_tells 240 = .ok (.iaload, 1) := by decide +kernel
theorem dL_tells_241 : decode cL_tells 241 = .ok (.bipush 40, 2) := by decide +kernel
theorem dL_tells_243 : decode cL_tells 243 = .ok (.if_icmp .ge 7, 3) := by decide +kernel
theorem dL_tells_246 : decode cL_tells 246 = .ok (.iconst 1, 1) := by decide +kernel
theorem dL_tells_247 : decode cL_tells 247 = .ok (.goto 4, 3) := by decide +kernel
theorem dL_tells_250 : decode cL_tells 250 = .ok (.iconst 0, 1) := by decide +kernel
theorem dL_tells_251 : decode cL_tells 251 = .ok (.istore 17, 2) := by decide +kernel
theorem dL_tells_253 : decode cL_tells 253 = .ok (.iconst 1, 1) := by decide +kernel
theorem dL_tells_254 : decode cL_tells 254 = .ok (.iload_n 2, 1) := by decide +kernel
theorem dL_tells_255 : decode cL_tells 255 = .ok (.iconst 5, 1) := by decide +kernel
theorem dL_tells_256 : decode cL_tells 256 = .ok (.ishr, 1) := by decide +kernel
theorem dL_tells_257 : decode cL_tells 257 = .ok (.sipush 9999, 3) := by decide +kernel
theorem dL_tells_260 : decode cL_tells 260 = .ok (.invokestatic 89, 3) := by decide +kernel
theorem dL_tells_263 : decode cL_tells 263 = .ok (.iadd, 1) := by decide +kernel
theorem dL_tells_264 : decode cL_tells 264 = .ok (.istore 18, 2) := by decide +kernel
theorem dL_tells_266 : decode cL_tells 266 = .ok (.iload 17, 2) := by decide +kernel
theorem dL_tells_268 : decode cL_tells 268 = .ok (.ifCond .eq 34, 3) := by decide +kernel
theorem dL_tells_271 : decode cL_tells 271 = .ok (.aload 4, 2) := by decide +kernel
theorem dL_tells_273 : decode cL_tells 273 = .ok (.aload 12, 2) := by decide +kernel
theorem dL_tells_275 : decode cL_tells 275 = .ok (.iconst 2, 1) := by decide +kernel
theorem dL_tells_276 : decode cL_tells 276 = .ok (.iaload, 1) := by decide +kernel
theorem dL_tells_277 : decode cL_tells 277 = .ok (.iload 16, 2) := by decide +kernel
theorem dL_tells_279 : decode cL_tells 279 = .ok (.bipush 8, 2) := by decide +kernel
theorem dL_tells_281 : decode cL_tells 281 = .ok (.iload 18, 2) := by decide +kernel
theorem dL_tells_283 : decode cL_tells 283 = .ok (.imul, 1) := by decide +kernel
theorem dL_tells_284 : decode cL_tells 284 = .ok (.iadd, 1) := by decide +kernel
theorem dL_tells_285 : decode cL_tells 285 = .ok (.ldc 76, 2) := by decide +kernel
theorem dL_tells_287 : decode cL_tells 287 = .ok (.aload 12, 2) := by decide +kernel
theorem dL_tells_289 : decode cL_tells 289 = .ok (.iconst 0, 1) := by decide +kernel
theorem dL_tells_290 : decode cL_tells 290 = .ok (.iaload, 1) := by decide +kernel
theorem dL_tells_291 : decode cL_tells 291 = .ok (.imul, 1) := by decide +kernel
theorem dL_tells_292 : decode cL_tells 292 = .ok (.iadd, 1) := by decide +kernel
theorem dL_tells_293 : decode cL_tells 293 = .ok (.iastore, 1) := by decide +kernel
theorem dL_tells_294 : decode cL_tells 294 = .ok (.aload 12, 2) := by decide +kernel
theorem dL_tells_296 : decode cL_tells 296 = .ok (.iconst 2, 1) := by decide +kernel
theorem dL_tells_297 : decode cL_tells 297 = .ok (.dup2, 1) := by decide +kernel
theorem dL_tells_298 : decode cL_tells 298 = .ok (.iaload, 1) := by decide +kernel
theorem dL_tells_299 : decode cL_tells 299 = .ok (.iconst 1, 1) := by decide +kernel
theorem dL_tells_300 : decode cL_tells 300 = .ok (.iadd, 1) := by decide +kernel
theorem dL_tells_301 : decode cL_tells 301 = .ok (.iastore, 1) := by decide +kernel
theorem dL_tells_302 : decode cL_tells 302 = .ok (.aload_n 0, 1) := by decide +kernel
theorem dL_tells_303 : decode cL_tells 303 = .ok (.iconst 0, 1) := by decide +kernel
theorem dL_tells_304 : decode cL_tells 304 = .ok (.iload 16, 2) := by decide +kernel
theorem dL_tells_306 : decode cL_tells 306 = .ok (.iload 18, 2) := by decide +kernel
theorem dL_tells_308 : decode cL_tells 308 = .ok (.iconst 0, 1) := by decide +kernel
theorem dL_tells_309 : decode cL_tells 309 = .ok (.invokestatic 98, 3) := by decide +kernel
theorem dL_tells_312 : decode cL_tells 312 = .ok (.iload 17, 2) := by decide +kernel
theorem dL_tells_314 : decode cL_tells 314 = .ok (.ifCond .eq 12, 3) := by decide +kernel
theorem dL_tells_317 : decode cL_tells 317 = .ok (.aload 12, 2) := by decide +kernel
theorem dL_tells_319 : decode cL_tells 319 = .ok (.iconst 2, 1) := by decide +kernel
theorem dL_tells_320 : decode cL_tells 320 = .ok (.iaload, 1) := by decide +kernel
theorem dL_tells_321 : decode cL_tells 321 = .ok (.iconst 1, 1) := by decide +kernel
theorem dL_tells_322 : decode cL_tells 322 = .ok (.isub, 1) := by decide +kernel
theorem dL_tells_323 : decode cL_tells 323 = .ok (.goto 6, 3) := by decide +kernel
theorem dL_tells_326 : decode cL_tells 326 = .ok (.sipush (-1003), 3) := by decide +kernel
theorem dL_tells_329 : decode cL_tells 329 = .ok (.if_icmp .ne 7, 3) := by decide +kernel
theorem dL_tells_332 : decode cL_tells 332 = .ok (.iconst 1, 1) := by decide +kernel
theorem dL_tells_333 : decode cL_tells 333 = .ok (.goto 4, 3) := by decide +kernel
theorem dL_tells_336 : decode cL_tells 336 = .ok (.iconst 0, 1) := by decide +kernel
theorem dL_tells_337 : decode cL_tells 337 = .ok (.ireturn, 1) := by decide +kernel
theorem dL_tells_338 : decode cL_tells 338 = .ok (.iload_n 1, 1) := by decide +kernel
theorem dL_tells_339 : decode cL_tells 339 = .ok (.iconst 3, 1) := by decide +kernel
theorem dL_tells_340 : decode cL_tells 340 = .ok (.if_icmp .ne 75, 3) := by decide +kernel
theorem dL_tells_343 : decode cL_tells 343 = .ok (.aload_n 3, 1) := by decide +kernel
theorem dL_tells_344 : decode cL_tells 344 = .ok (.bipush 8, 2) := by decide +kernel
theorem dL_tells_346 : decode cL_tells 346 = .ok (.iload 16, 2) := by decide +kernel
theorem dL_tells_348 : decode cL_tells 348 = .ok (.imul, 1) := by decide +kernel
theorem dL_tells_349 : decode cL_tells 349 = .ok (.iconst 3, 1) := by decide +kernel
theorem dL_tells_350 : decode cL_tells 350 = .ok (.iadd, 1) := by decide +kernel
theorem dL_tells_351 : decode cL_tells 351 = .ok (.iconst 1, 1) := by decide +kernel
theorem dL_tells_352 : decode cL_tells 352 = .ok (.iload_n 2, 1) := by decide +kernel
theorem dL_tells_353 : decode cL_tells 353 = .ok (.iconst 4, 1) := by decide +kernel
theorem dL_tells_354 : decode cL_tells 354 = .ok (.ishr, 1) := by decide +kernel
theorem dL_tells_355 : decode cL_tells 355 = .ok (.bipush 20, 2) := by decide +kernel
theorem dL_tells_357 : decode cL_tells 357 = .ok (.invokestatic 89, 3) := by decide +kernel
theorem dL_tells_360 : decode cL_tells 360 = .ok (.iadd, 1) := by decide +kernel
theorem dL_tells_361 : decode cL_tells 361 = .ok (.iastore, 1) := by decide +kernel
theorem dL_tells_362 : decode cL_tells 362 = .ok (.aload_n 3, 1) := by decide +kernel
theorem dL_tells_363 : decode cL_tells 363 = .ok (.bipush 8, 2) := by decide +kernel
theorem dL_tells_365 : decode cL_tells 365 = .ok (.iload 16, 2) := by decide +kernel
theorem dL_tells_367 : decode cL_tells 367 = .ok (.imul, 1) := by decide +kernel
theorem dL_tells_368 : decode cL_tells 368 = .ok (.iconst 4, 1) := by decide +kernel
theorem dL_tells_369 : decode cL_tells 369 = .ok (.iadd, 1) := by decide +kernel
theorem dL_tells_370 : decode cL_tells 370 = .ok (.iload_n 2, 1) := by decide +kernel
theorem dL_tells_371 : decode cL_tells 371 = .ok (.bipush 6, 2) := by decide +kernel
theorem dL_tells_373 : decode cL_tells 373 = .ok (.ishr, 1) := by decide +kernel
theorem dL_tells_374 : decode cL_tells 374 = .ok (.aload_n 3, 1) := by decide +kernel
theorem dL_tells_375 : decode cL_tells 375 = .ok (.bipush 8, 2) := by decide +kernel
theorem dL_tells_377 : decode cL_tells 377 = .ok (.iload 16, 2) := by decide +kernel
theorem dL_tells_379 : decode cL_tells 379 = .ok (.imul, 1) := by decide +kernel
theorem dL_tells_380 : decode cL_tells 380 = .ok (.iconst 3, 1) := by decide +kernel
theorem dL_tells_381 : decode cL_tells 381 = .ok (.iadd, 1) := by decide +kernel
theorem dL_tells_382 : decode cL_tells 382 = .ok (.iaload, 1) := by decide +kernel
theorem dL_tells_383 : decode cL_tells 383 = .ok (.iconst 1, 1) := by decide +kernel
theorem dL_tells_384 : decode cL_tells 384 = .ok (.iadd, 1) := by decide +kernel
theorem dL_tells_385 : decode cL_tells 385 = .ok (.invokestatic 89, 3) := by decide +kernel
theorem dL_tells_388 : decode cL_tells 388 = .ok (.iastore, 1) := by decide +kernel
theorem dL_tells_389 : decode cL_tells 389 = .ok (.aload_n 0, 1) := by decide +kernel
theorem dL_tells_390 : decode cL_tells 390 = .ok (.iload 16, 2) := by decide +kernel
theorem dL_tells_392 : decode cL_tells 392 = .ok (.aload_n 3, 1) := by decide +kernel
theorem dL_tells_393 : decode cL_tells 393 = .ok (.bipush 8, 2) := by decide +kernel
theorem dL_tells_395 : decode cL_tells 395 = .ok (.iload 16, 2) := by decide +kernel
theorem dL_tells_397 : decode cL_tells 397 = .ok (.imul, 1) := by decide +kernel
theorem dL_tells_398 : decode cL_tells 398 = .ok (.iconst 3, 1) := by decide +kernel
theorem dL_tells_399 : decode cL_tells 399 = .ok (.iadd, 1) := by decide +kernel
theorem dL_tells_400 : decode cL_tells 400 = .ok (.iaload, 1) := by decide +kernel
theorem dL_tells_401 : decode cL_tells 401 = .ok (.aload_n 3, 1) := by decide +kernel
theorem dL_tells_402 : decode cL_tells 402 = .ok (.bipush 8, 2) := by decide +kernel
theorem dL_tells_404 : decode cL_tells 404 = .ok (.iload 16, 2) := by decide +kernel
theorem dL_tells_406 : decode cL_tells 406 = .ok (.imul, 1) := by decide +kernel
theorem dL_tells_407 : decode cL_tells 407 = .ok (.iconst 4, 1) := by decide +kernel
theorem dL_tells_408 : decode cL_tells 408 = .ok (.iadd, 1) := by decide +kernel
theorem dL_tells_409 : decode cL_tells 409 = .ok (.iaload, 1) := by decide +kernel
theorem dL_tells_410 : decode cL_tells 410 = .ok (.invokevirtual 102, 3) := by decide +kernel
theorem dL_tells_413 : decode cL_tells 413 = .ok (.iconst 1, 1) := by decide +kernel
theorem dL_tells_414 : decode cL_tells 414 = .ok (.ireturn, 1) := by decide +kernel
theorem dL_tells_415 : decode cL_tells 415 = .ok (.iload_n 1, 1) := by decide +kernel
theorem dL_tells_416 : decode cL_tells 416 = .ok (.iconst 4, 1) := by decide +kernel
theorem dL_tells_417 : decode cL_tells 417 = .ok (.if_icmp .ne 46, 3) := by decide +kernel
theorem dL_tells_420 : decode cL_tells 420 = .ok (.aload 7, 2) := by decide +kernel
theorem dL_tells_422 : decode cL_tells 422 = .ok (.bipush 8, 2) := by decide +kernel
theorem dL_tells_424 : decode cL_tells 424 = .ok (.iload 14, 2) := by decide +kernel
theorem dL_tells_426 : decode cL_tells 426 = .ok (.imul, 1) := by decide +kernel
theorem dL_tells_427 : decode cL_tells 427 = .ok (.dup2, 1) := by decide +kernel
theorem dL_tells_428 : decode cL_tells 428 = .ok (.iaload, 1) := by decide +kernel
theorem dL_tells_429 : decode cL_tells 429 = .ok (.iconst 1, 1) := by decide +kernel
theorem dL_tells_430 : decode cL_tells 430 = .ok (.iload 15, 2) := by decide +kernel
theorem dL_tells_432 : decode cL_tells 432 = .ok (.ishl, 1) := by decide +kernel
theorem dL_tells_433 : decode cL_tells 433 = .ok (.ior, 1) := by decide +kernel
theorem dL_tells_434 : decode cL_tells 434 = .ok (.iastore, 1) := by decide +kernel
theorem dL_tells_435 : decode cL_tells 435 = .ok (.aload_n 0, 1) := by decide +kernel
theorem dL_tells_436 : decode cL_tells 436 = .ok (.iload 14, 2) := by decide +kernel
theorem dL_tells_438 : decode cL_tells 438 = .ok (.iload 15, 2) := by decide +kernel
theorem dL_tells_440 : decode cL_tells 440 = .ok (.invokevirtual 106, 3) := by decide +kernel
theorem dL_tells_443 : decode cL_tells 443 = .ok (.aload 7, 2) := by decide +kernel
theorem dL_tells_445 : decode cL_tells 445 = .ok (.bipush 8, 2) := by decide +kernel
theorem dL_tells_447 : decode cL_tells 447 = .ok (.iload 14, 2) := by decide +kernel
theorem dL_tells_449 : decode cL_tells 449 = .ok (.imul, 1) := by decide +kernel
theorem dL_tells_450 : decode cL_tells 450 = .ok (.iaload, 1) := by decide +kernel
theorem dL_tells_451 : decode cL_tells 451 = .ok (.invokestatic 65, 3) := by decide +kernel
theorem dL_tells_454 : decode cL_tells 454 = .ok (.if_icmp .ne 7, 3) := by decide +kernel
theorem dL_tells_457 : decode cL_tells 457 = .ok (.iconst 1, 1) := by decide +kernel
theorem dL_tells_458 : decode cL_tells 458 = .ok (.goto 4, 3) := by decide +kernel
theorem dL_tells_461 : decode cL_tells 461 = .ok (.iconst 0, 1) := by decide +kernel
theorem dL_tells_462 : decode cL_tells 462 = .ok (.ireturn, 1) := by decide +kernel
theorem dL_tells_463 : decode cL_tells 463 = .ok (.iload_n 1, 1) := by decide +kernel
theorem dL_tells_464 : decode cL_tells 464 = .ok (.iconst 5, 1) := by decide +kernel
theorem dL_tells_465 : decode cL_tells 465 = .ok (.if_icmp .ne 84, 3) := by decide +kernel
theorem dL_tells_468 : decode cL_tells 468 = .ok (.aload 6, 2) := by decide +kernel
theorem dL_tells_470 : decode cL_tells 470 = .ok (.iload 15, 2) := by decide +kernel
theorem dL_tells_472 : decode cL_tells 472 = .ok (.aload 6, 2) := by decide +kernel
theorem dL_tells_474 : decode cL_tells 474 = .ok (.iload 15, 2) := by decide +kernel
theorem dL_tells_476 : decode cL_tells 476 = .ok (.iaload, 1) := by decide +kernel
theorem dL_tells_477 : decode cL_tells 477 = .ok (.ifCond .ne 12, 3) := by decide +kernel
theorem dL_tells_480 : decode cL_tells 480 = .ok (.aload 12, 2) := by decide +kernel
theorem dL_tells_482 : decode cL_tells 482 = .ok (.iconst 0, 1) := by decide +kernel
theorem dL_tells_483 : decode cL_tells 483 = .ok (.iaload, 1) := by decide +kernel
theorem dL_tells_484 : decode cL_tells 484 = .ok (.iconst 1, 1) := by decide +kernel
theorem dL_tells_485 : decode cL_tells 485 = .ok (.iadd, 1) := by decide +kernel
theorem dL_tells_486 : decode cL_tells 486 = .ok (.goto 8, 3) := by decide +kernel
theorem dL_tells_489 : decode cL_tells 489 = .ok (.aload 6, 2) := by decide +kernel
theorem dL_tells_491 : decode cL_tells 491 = .ok (.iload 15, 2) := by decide +kernel
theorem dL_tells_493 : decode cL_tells 493 = .ok (.iaload, 1) := by decide +kernel
theorem dL_tells_494 : decode cL_tells 494 = .ok (.iastore, 1) := by decide +kernel
theorem dL_tells_495 : decode cL_tells 495 = .ok (.iconst 0, 1) := by decide +kernel
theorem dL_tells_496 : decode cL_tells 496 = .ok (.istore 17, 2) := by decide +kernel
theorem dL_tells_498 : decode cL_tells 498 = .ok (.iconst 0, 1) := by decide +kernel
theorem dL_tells_499 : decode cL_tells 499 = .ok (.istore 18, 2) := by decide +kernel
theorem dL_tells_501 : decode cL_tells 501 = .ok (.iload 18, 2) := by decide +kernel
theorem dL_tells_503 : decode cL_tells 503 = .ok (.bipush 8, 2) := by decide +kernel
theorem dL_tells_505 : decode cL_tells 505 = .ok (.if_icmp .ge 27, 3) := by decide +kernel
theorem dL_tells_508 : decode cL_tells 508 = .ok (.iload 17, 2) := by decide +kernel
theorem dL_tells_510 : decode cL_tells 510 = .ok (.aload 6, 2) := by decide +kernel
theorem dL_tells_512 : decode cL_tells 512 = .ok (.iload 18, 2) := by decide +kernel
theorem dL_tells_514 : decode cL_tells 514 = .ok (.iaload, 1) := by decide +kernel
theorem dL_tells_515 : decode cL_tells 515 = .ok (.ifCond .le 7, 3) := by decide +kernel
theorem dL_tells_518 : decode cL_tells 518 = .ok (.iconst 1, 1) := by decide +kernel
theorem dL_tells_519 : decode cL_tells 519 = .ok (.goto 4, 3) := by decide +kernel
theorem dL_tells_522 : decode cL_tells 522 = .ok (.iconst 0, 1) := by decide +kernel
theorem dL_tells_523 : decode cL_tells 523 = .ok (.iadd, 1) := by decide +kernel
theorem dL_tells_524 : decode cL_tells 524 = .ok (.istore 17, 2) := by decide +kernel
theorem dL_tells_526 : decode cL_tells 526 = .ok (.iinc 18 1, 3) := by decide +kernel
theorem dL_tells_529 : decode cL_tells 529 = .ok (.goto (-28), 3) := by decide +kernel
theorem dL_tells_532 : decode cL_tells 532 = .ok (.aload_n 0, 1) := by decide +kernel
theorem dL_tells_533 : decode cL_tells 533 = .ok (.iload 15, 2) := by decide +kernel
theorem dL_tells_535 : decode cL_tells 535 = .ok (.invokevirtual 109, 3) := by decide +kernel
theorem dL_tells_538 : decode cL_tells 538 = .ok (.iload 17, 2) := by decide +kernel
theorem dL_tells_540 : decode cL_tells 540 = .ok (.if_icmp .ne 7, 3) := by decide +kernel
theorem dL_tells_543 : decode cL_tells 543 = .ok (.iconst 1, 1) := by decide +kernel
theorem dL_tells_544 : decode cL_tells 544 = .ok (.goto 4, 3) := by decide +kernel
theorem dL_tells_547 : decode cL_tells 547 = .ok (.iconst 0, 1) := by decide +kernel
theorem dL_tells_548 : decode cL_tells 548 = .ok (.ireturn, 1) := by decide +kernel
theorem dL_tells_549 : decode cL_tells 549 = .ok (.iload_n 1, 1) := by decide +kernel
theorem dL_tells_550 : decode cL_tells 550 = .ok (.bipush 6, 2) := by decide +kernel
theorem dL_tells_552 : decode cL_tells 552 = .ok (.if_icmp .ne 65, 3) := by decide +kernel
theorem dL_tells_555 : decode cL_tells 555 = .ok (.aload 7, 2) := by decide +kernel
theorem dL_tells_557 : decode cL_tells 557 = .ok (.bipush 8, 2) := by decide +kernel
theorem dL_tells_559 : decode cL_tells 559 = .ok (.iload 14, 2) := by decide +kernel
theorem dL_tells_561 : decode cL_tells 561 = .ok (.imul, 1) := by decide +kernel
theorem dL_tells_562 : decode cL_tells 562 = .ok (.iconst 1, 1) := by decide +kernel
theorem dL_tells_563 : decode cL_tells 563 = .ok (.iadd, 1) := by decide +kernel
theorem dL_tells_564 : decode cL_tells 564 = .ok (.iaload, 1) := by decide +kernel
theorem dL_tells_565 : decode cL_tells 565 = .ok (.iload 16, 2) := by decide +kernel
theorem dL_tells_567 : decode cL_tells 567 = .ok (.ishr, 1) := by decide +kernel
theorem dL_tells_568 : decode cL_tells 568 = .ok (.iconst 1, 1) := by decide +kernel
theorem dL_tells_569 : decode cL_tells 569 = .ok (.iand, 1) := by decide +kernel
theorem dL_tells_570 : decode cL_tells 570 = .ok (.iconst 1, 1) := by decide +kernel
theorem dL_tells_571 : decode cL_tells 571 = .ok (.if_icmp .ne 7, 3) := by decide +kernel
theorem dL_tells_574 : decode cL_tells 574 = .ok (.iconst 1, 1) := by decide +kernel
theorem dL_tells_575 : decode cL_tells 575 = .ok (.goto 4, 3) := by decide +kernel
theorem dL_tells_578 : decode cL_tells 578 = .ok (.iconst 0, 1) := by decide +kernel
theorem dL_tells_579 : decode cL_tells 579 = .ok (.istore 17, 2) := by decide +kernel
theorem dL_tells_581 : decode cL_tells 581 = .ok (.aload 7, 2) := by decide +kernel
theorem dL_tells_583 : decode cL_tells 583 = .ok (.bipush 8, 2) := by decide +kernel
theorem dL_tells_585 : decode cL_tells 585 = .ok (.iload 14, 2) := by decide +kernel
theorem dL_tells_587 : decode cL_tells 587 = .ok (.imul, 1) := by decide +kernel
theorem dL_tells_588 : decode cL_tells 588 = .ok (.iconst 1, 1) := by decide +kernel
theorem dL_tells_589 : decode cL_tells 589 = .ok (.iadd, 1) := by decide +kernel
theorem dL_tells_590 : decode cL_tells 590 = .ok (.dup2, 1) := by decide +kernel
theorem dL_tells_591 : decode cL_tells 591 = .ok (.iaload, 1) := by decide +kernel
theorem dL_tells_592 : decode cL_tells 592 = .ok (.iconst 1, 1) := by decide +kernel
theorem dL_tells_593 : decode cL_tells 593 = .ok (.iload 16, 2) := by decide +kernel
theorem dL_tells_595 : decode cL_tells 595 = .ok (.ishl, 1) := by decide +kernel
theorem dL_tells_596 : decode cL_tells 596 = .ok (.ior, 1) := by decide +kernel
theorem dL_tells_597 : decode cL_tells 597 = .ok (.iastore, 1) := by decide +kernel
theorem dL_tells_598 : decode cL_tells 598 = .ok (.aload_n 0, 1) := by decide +kernel
theorem dL_tells_599 : decode cL_tells 599 = .ok (.iload 14, 2) := by decide +kernel
theorem dL_tells_601 : decode cL_tells 601 = .ok (.iload 16, 2) := by decide +kernel
theorem dL_tells_603 : decode cL_tells 603 = .ok (.invokevirtual 112, 3) := by decide +kernel
theorem dL_tells_606 : decode cL_tells 606 = .ok (.iload 17, 2) := by decide +kernel
theorem dL_tells_608 : decode cL_tells 608 = .ok (.if_icmp .ne 7, 3) := by decide +kernel
theorem dL_tells_611 : decode cL_tells 611 = .ok (.iconst 1, 1) := by decide +kernel
theorem dL_tells_612 : decode cL_tells 612 = .ok (.goto 4, 3) := by decide +kernel
theorem dL_tells_615 : decode cL_tells 615 = .ok (.iconst 0, 1) := by decide +kernel
theorem dL_tells_616 : decode cL_tells 616 = .ok (.ireturn, 1) := by decide +kernel
theorem dL_tells_617 : decode cL_tells 617 = .ok (.iload_n 1, 1) := by decide +kernel
theorem dL_tells_618 : decode cL_tells 618 = .ok (.bipush 7, 2) := by decide +kernel
theorem dL_tells_620 : decode cL_tells 620 = .ok (.if_icmp .ne 71, 3) := by decide +kernel
theorem dL_tells_623 : decode cL_tells 623 = .ok (.aload_n 3, 1) := by decide +kernel
theorem dL_tells_624 : decode cL_tells 624 = .ok (.bipush 8, 2) := by decide +kernel
theorem dL_tells_626 : decode cL_tells 626 = .ok (.iload 16, 2) := by decide +kernel
theorem dL_tells_628 : decode cL_tells 628 = .ok (.imul, 1) := by decide +kernel
theorem dL_tells_629 : decode cL_tells 629 = .ok (.iconst 5, 1) := by decide +kernel
theorem dL_tells_630 : decode cL_tells 630 = .ok (.iadd, 1) := by decide +kernel
theorem dL_tells_631 : decode cL_tells 631 = .ok (.iaload, 1) := by decide +kernel
theorem dL_tells_632 : decode cL_tells 632 = .ok (.ifCond .le 7, 3) := by decide +kernel
theorem dL_tells_635 : decode cL_tells 635 = .ok (.iconst 1, 1) := by decide +kernel
theorem dL_tells_636 : decode cL_tells 636 = .ok (.goto 4, 3) := by decide +kernel
theorem dL_tells_639 : decode cL_tells 639 = .ok (.iconst 0, 1) := by decide +kernel
theorem dL_tells_640 : decode cL_tells 640 = .ok (.istore 17, 2) := by decide +kernel
theorem dL_tells_642 : decode cL_tells 642 = .ok (.aload_n 3, 1) := by decide +kernel
theorem dL_tells_643 : decode cL_tells 643 = .ok (.bipush 8, 2) := by decide +kernel
theorem dL_tells_645 : decode cL_tells 645 = .ok (.iload 16, 2) := by decide +kernel
theorem dL_tells_647 : decode cL_tells 647 = .ok (.imul, 1) := by decide +kernel
theorem dL_tells_648 : decode cL_tells 648 = .ok (.iconst 5, 1) := by decide +kernel
theorem dL_tells_649 : decode cL_tells 649 = .ok (.iadd, 1) := by decide +kernel
theorem dL_tells_650 : decode cL_tells 650 = .ok (.iload 17, 2) := by decide +kernel
theorem dL_tells_652 : decode cL_tells 652 = .ok (.ifCond .eq 15, 3) := by decide +kernel
theorem dL_tells_655 : decode cL_tells 655 = .ok (.aload_n 3, 1) := by decide +kernel
theorem dL_tells_656 : decode cL_tells 656 = .ok (.bipush 8, 2) := by decide +kernel
theorem dL_tells_658 : decode cL_tells 658 = .ok (.iload 16, 2) := by decide +kernel
theorem dL_tells_660 : decode cL_tells 660 = .ok (.imul, 1) := by decide +kernel
theorem dL_tells_661 : decode cL_tells 661 = .ok (.iconst 5, 1) := by decide +kernel
theorem dL_tells_662 : decode cL_tells 662 = .ok (.iadd, 1) := by decide +kernel
theorem dL_tells_663 : decode cL_tells 663 = .ok (.iaload, 1) := by decide +kernel
theorem dL_tells_664 : decode cL_tells 664 = .ok (.goto 9, 3) := by decide +kernel
theorem dL_tells_667 : decode cL_tells 667 = .ok (.aload 12, 2) := by decide +kernel
theorem dL_tells_669 : decode cL_tells 669 = .ok (.iconst 0, 1) := by decide +kernel
theorem dL_tells_670 : decode cL_tells 670 = .ok (.iaload, 1) := by decide +kernel
theorem dL_tells_671 : decode cL_tells 671 = .ok (.iconst 1, 1) := by decide +kernel
theorem dL_tells_672 : decode cL_tells 672 = .ok (.iadd, 1) := by decide +kernel
theorem dL_tells_673 : decode cL_tells 673 = .ok (.iastore, 1) := by decide +kernel
theorem dL_tells_674 : decode cL_tells 674 = .ok (.aload_n 0, 1) := by decide +kernel
theorem dL_tells_675 : decode cL_tells 675 = .ok (.iload 16, 2) := by decide +kernel
theorem dL_tells_677 : decode cL_tells 677 = .ok (.invokevirtual 115, 3) := by decide +kernel
theorem dL_tells_680 : decode cL_tells 680 = .ok (.iload 17, 2) := by decide +kernel
theorem dL_tells_682 : decode cL_tells 682 = .ok (.if_icmp .ne 7, 3) := by decide +kernel
theorem dL_tells_685 : decode cL_tells 685 = .ok (.iconst 1, 1) := by decide +kernel
theorem dL_tells_686 : decode cL_tells 686 = .ok (.goto 4, 3) := by decide +kernel
theorem dL_tells_689 : decode cL_tells 689 = .ok (.iconst 0, 1) := by decide +kernel
theorem dL_tells_690 : decode cL_tells 690 = .ok (.ireturn, 1) := by decide +kernel
theorem dL_tells_691 : decode cL_tells 691 = .ok (.iload_n 1, 1) := by decide +kernel
theorem dL_tells_692 : decode cL_tells 692 = .ok (.bipush 8, 2) := by decide +kernel
theorem dL_tells_694 : decode cL_tells 694 = .ok (.if_icmp .ne 146, 3) := by decide +kernel
theorem dL_tells_697 : decode cL_tells 697 = .ok (.iconst 1, 1) := by decide +kernel
theorem dL_tells_698 : decode cL_tells 698 = .ok (.istore 17, 2) := by decide +kernel
theorem dL_tells_700 : decode cL_tells 700 = .ok (.iconst 0, 1) := by decide +kernel
theorem dL_tells_701 : decode cL_tells 701 = .ok (.istore 18, 2) := by decide +kernel
theorem dL_tells_703 : decode cL_tells 703 = .ok (.iload 18, 2) := by decide +kernel
theorem dL_tells_705 : decode cL_tells 705 = .ok (.aload 12, 2) := by decide +kernel
theorem dL_tells_707 : decode cL_tells 707 = .ok (.iconst 4, 1) := by decide +kernel
theorem dL_tells_708 : decode cL_tells 708 = .ok (.iaload, 1) := by decide +kernel
theorem dL_tells_709 : decode cL_tells 709 = .ok (.if_icmp .ge 67, 3) := by decide +kernel
theorem dL_tells_712 : decode cL_tells 712 = .ok (.iload 17, 2) := by decide +kernel
theorem dL_tells_714 : decode cL_tells 714 = .ok (.ifCond .eq 53, 3) := by decide +kernel
theorem dL_tells_717 : decode cL_tells 717 = .ok (.aload 9, 2) := by decide +kernel
theorem dL_tells_719 : decode cL_tells 719 = .ok (.bipush 8, 2) := by decide +kernel
theorem dL_tells_721 : decode cL_tells 721 = .ok (.iload 18, 2) := by decide +kernel
theorem dL_tells_723 : decode cL_tells 723 = .ok (.imul, 1) := by decide +kernel
theorem dL_tells_724 : decode cL_tells 724 = .ok (.iconst 3, 1) := by decide +kernel
theorem dL_tells_725 : decode cL_tells 725 = .ok (.iadd, 1) := by decide +kernel
theorem dL_tells_726 : decode cL_tells 726 = .ok (.iaload, 1) := by decide +kernel
theorem dL_tells_727 : decode cL_tells 727 = .ok (.iconst 3, 1) := by decide +kernel
theorem dL_tells_728 : decode cL_tells 728 = .ok (.if_icmp .eq 35, 3) := by decide +kernel
theorem dL_tells_731 : decode cL_tells 731 = .ok (.aload 9, 2) := by decide +kernel
theorem dL_tells_733 : decode cL_tells 733 = .ok (.bipush 8, 2) := by decide +kernel
theorem dL_tells_735 : decode cL_tells 735 = .ok (.iload 18, 2) := by decide +kernel
theorem dL_tells_737 : decode cL_tells 737 = .ok (.imul, 1) := by decide +kernel
theorem dL_tells_738 : decode cL_tells 738 = .ok (.iconst 4, 1) := by decide +kernel
theorem dL_tells_739 : decode cL_tells 739 = .ok (.iadd, 1) := by decide +kernel
theorem dL_tells_740 : decode cL_tells 740 = .ok (.iaload, 1) := by decide +kernel
theorem dL_tells_741 : decode cL_tells 741 = .ok (.aload 12, 2) := by decide +kernel
theorem dL_tells_743 : decode cL_tells 743 = .ok (.iconst 0, 1) := by decide +kernel
theorem dL_tells_744 : decode cL_tells 744 = .ok (.iaload, 1) := by decide +kernel
theorem dL_tells_745 : decode cL_tells 745 = .ok (.if_icmp .gt 18, 3) := by decide +kernel
theorem dL_tells_748 : decode cL_tells 748 = .ok (.iload 18, 2) := by decide +kernel
theorem dL_tells_750 : decode cL_tells 750 = .ok (.iload 16, 2) := by decide +kernel
theorem dL_tells_752 : decode cL_tells 752 = .ok (.aload_n 3, 1) := by decide +kernel
theorem dL_tells_753 : decode cL_tells 753 = .ok (.aload 9, 2) := by decide +kernel
theorem dL_tells_755 : decode cL_tells 755 = .ok (.aload 10, 2) := by decide +kernel
theorem dL_tells_757 : decode cL_tells 757 = .ok (.invokestatic 68, 3) := by decide +kernel
theorem dL_tells_760 : decode cL_tells 760 = .ok (.ifCond .ge 7, 3) := by decide +kernel
theorem dL_tells_763 : decode cL_tells 763 = .ok (.iconst 1, 1) := by decide +kernel
theorem dL_tells_764 : decode cL_tells 764 = .ok (.goto 4, 3) := by decide +kernel
theorem dL_tells_767 : decode cL_tells 767 = .ok (.iconst 0, 1) := by decide +kernel
theorem dL_tells_768 : decode cL_tells 768 = .ok (.istore 17, 2) := by decide +kernel
theorem dL_tells_770 : decode cL_tells 770 = .ok (.iinc 18 1, 3) := by decide +kernel
theorem dL_tells_773 : decode cL_tells 773 = .ok (.goto (-70), 3) := by decide +kernel
theorem dL_tells_776 : decode cL_tells 776 = .ok (.aload_n 3, 1) := by decide +kernel
theorem dL_tells_777 : decode cL_tells 777 = .ok (.bipush 8, 2) := by decide +kernel
theorem dL_tells_779 : decode cL_tells 779 = .ok (.iload 16, 2) := by decide +kernel
theorem dL_tells_781 : decode cL_tells 781 = .ok (.imul, 1) := by decide +kernel
theorem dL_tells_782 : decode cL_tells 782 = .ok (.bipush 6, 2) := by decide +kernel
theorem dL_tells_784 : decode cL_tells 784 = .ok (.iadd, 1) := by decide +kernel
theorem dL_tells_785 : decode cL_tells 785 = .ok (.iaload, 1) := by decide +kernel
theorem dL_tells_786 : decode cL_tells 786 = .ok (.istore 18, 2) := by decide +kernel
theorem dL_tells_788 : decode cL_tells 788 = .ok (.aload_n 3, 1) := by decide +kernel
theorem dL_tells_789 : decode cL_tells 789 = .ok (.bipush 8, 2) := by decide +kernel
theorem dL_tells_791 : decode cL_tells 791 = .ok (.iload 16, 2) := by decide +kernel
theorem dL_tells_793 : decode cL_tells 793 = .ok (.imul, 1) := by decide +kernel
theorem dL_tells_794 : decode cL_tells 794 = .ok (.bipush 6, 2) := by decide +kernel
theorem dL_tells_796 : decode cL_tells 796 = .ok (.iadd, 1) := by decide +kernel
theorem dL_tells_797 : decode cL_tells 797 = .ok (.iload 17, 2) := by decide +kernel
theorem dL_tells_799 : decode cL_tells 799 = .ok (.ifCond .eq 7, 3) := by decide +kernel
theorem dL_tells_802 : decode cL_tells 802 = .ok (.iconst 1, 1) := by decide +kernel
theorem dL_tells_803 : decode cL_tells 803 = .ok (.goto 5, 3) := by decide +kernel
theorem dL_tells_806 : decode cL_tells 806 = .ok (.iload 18, 2) := by decide +kernel
theorem dL_tells_808 : decode cL_tells 808 = .ok (.iastore, 1) := by decide +kernel
theorem dL_tells_809 : decode cL_tells 809 = .ok (.aload_n 0, 1) := by decide +kernel
theorem dL_tells_810 : decode cL_tells 810 = .ok (.iconst 1, 1) := by decide +kernel
theorem dL_tells_811 : decode cL_tells 811 = .ok (.iload 16, 2) := by decide +kernel
theorem dL_tells_813 : decode cL_tells 813 = .ok (.iconst 0, 1) := by decide +kernel
theorem dL_tells_814 : decode cL_tells 814 = .ok (.iconst 0, 1) := by decide +kernel
theorem dL_tells_815 : decode cL_tells 815 = .ok (.invokestatic 98, 3) := by decide +kernel
theorem dL_tells_818 : decode cL_tells 818 = .ok (.iload 17, 2) := by decide +kernel
theorem dL_tells_820 : decode cL_tells 820 = .ok (.ifCond .eq 8, 3) := by decide +kernel
theorem dL_tells_823 : decode cL_tells 823 = .ok (.iload 18, 2) := by decide +kernel
theorem dL_tells_825 : decode cL_tells 825 = .ok (.goto 6, 3) := by decide +kernel
theorem dL_tells_828 : decode cL_tells 828 = .ok (.sipush (-1003), 3) := by decide +kernel
theorem dL_tells_831 : decode cL_tells 831 = .ok (.if_icmp .ne 7, 3) := by decide +kernel
theorem dL_tells_834 : decode cL_tells 834 = .ok (.iconst 1, 1) := by decide +kernel
theorem dL_tells_835 : decode cL_tells 835 = .ok (.goto 4, 3) := by decide +kernel
theorem dL_tells_838 : decode cL_tells 838 = .ok (.iconst 0, 1) := by decide +kernel
theorem dL_tells_839 : decode cL_tells 839 = .ok (.ireturn, 1) := by decide +kernel
theorem dL_tells_840 : decode cL_tells 840 = .ok (.iload 14, 2) := by decide +kernel
theorem dL_tells_842 : decode cL_tells 842 = .ok (.iconst 1, 1) := by decide +kernel
theorem dL_tells_843 : decode cL_tells 843 = .ok (.iadd, 1) := by decide +kernel
theorem dL_tells_844 : decode cL_tells 844 = .ok (.iload_n 2, 1) := by decide +kernel
theorem dL_tells_845 : decode cL_tells 845 = .ok (.bipush 6, 2) := by decide +kernel
theorem dL_tells_847 : decode cL_tells 847 = .ok (.ishr, 1) := by decide +kernel
theorem dL_tells_848 : decode cL_tells 848 = .ok (.iconst 4, 1) := by decide +kernel
theorem dL_tells_849 : decode cL_tells 849 = .ok (.invokestatic 89, 3) := by decide +kernel
theorem dL_tells_852 : decode cL_tells 852 = .ok (.iadd, 1) := by decide +kernel
theorem dL_tells_853 : decode cL_tells 853 = .ok (.iconst 5, 1) := by decide +kernel
theorem dL_tells_854 : decode cL_tells 854 = .ok (.irem, 1) := by decide +kernel
theorem dL_tells_855 : decode cL_tells 855 = .ok (.istore 17, 2) := by decide +kernel
theorem dL_tells_857 : decode cL_tells 857 = .ok (.iconst 1, 1) := by decide +kernel
theorem dL_tells_858 : decode cL_tells 858 = .ok (.iload_n 2, 1) := by decide +kernel
theorem dL_tells_859 : decode cL_tells 859 = .ok (.bipush 7, 2) := by decide +kernel
theorem dL_tells_861 : decode cL_tells 861 = .ok (.ishr, 1) := by decide +kernel
theorem dL_tells_862 : decode cL_tells 862 = .ok (.bipush 40, 2) := by decide +kernel
theorem dL_tells_864 : decode cL_tells 864 = .ok (.invokestatic 89, 3) := by decide +kernel
theorem dL_tells_867 : decode cL_tells 867 = .ok (.iadd, 1) := by decide +kernel
theorem dL_tells_868 : decode cL_tells 868 = .ok (.istore 18, 2) := by decide +kernel
theorem dL_tells_870 : decode cL_tells 870 = .ok (.iload 18, 2) := by decide +kernel
theorem dL_tells_872 : decode cL_tells 872 = .ok (.istore 19, 2) := by decide +kernel
theorem dL_tells_874 : decode cL_tells 874 = .ok (.iconst 0, 1) := by decide +kernel
theorem dL_tells_875 : decode cL_tells 875 = .ok (.istore 20, 2) := by decide +kernel
theorem dL_tells_877 : decode cL_tells 877 = .ok (.iload 20, 2) := by decide +kernel
theorem dL_tells_879 : decode cL_tells 879 = .ok (.aload 12, 2) := by decide +kernel
theorem dL_tells_881 : decode cL_tells 881 = .ok (.iconst 3, 1) := by decide +kernel
theorem dL_tells_882 : decode cL_tells 882 = .ok (.iaload, 1) := by decide +kernel
theorem dL_tells_883 : decode cL_tells 883 = .ok (.if_icmp .ge 43, 3) := by decide +kernel
theorem dL_tells_886 : decode cL_tells 886 = .ok (.iload 19, 2) := by decide +kernel
theorem dL_tells_888 : decode cL_tells 888 = .ok (.aload 8, 2) := by decide +kernel
theorem dL_tells_890 : decode cL_tells 890 = .ok (.iload 20, 2) := by decide +kernel
theorem dL_tells_892 : decode cL_tells 892 = .ok (.iaload, 1) := by decide +kernel
theorem dL_tells_893 : decode cL_tells 893 = .ok (.bipush 8, 2) := by decide +kernel
theorem dL_tells_895 : decode cL_tells 895 = .ok (.irem, 1) := by decide +kernel
theorem dL_tells_896 : decode cL_tells 896 = .ok (.iload 14, 2) := by decide +kernel
theorem dL_tells_898 : decode cL_tells 898 = .ok (.if_icmp .ne 18, 3) := by decide +kernel
theorem dL_tells_901 : decode cL_tells 901 = .ok (.aload 8, 2) := by decide +kernel
theorem dL_tells_903 : decode cL_tells 903 = .ok (.iload 20, 2) := by decide +kernel
theorem dL_tells_905 : decode cL_tells 905 = .ok (.iaload, 1) := by decide +kernel
theorem dL_tells_906 : decode cL_tells 906 = .ok (.bipush 64, 2) := by decide +kernel
theorem dL_tells_908 : decode cL_tells 908 = .ok (.idiv, 1) := by decide +kernel
theorem dL_tells_909 : decode cL_tells 909 = .ok (.sipush 128, 3) := by decide +kernel
theorem dL_tells_912 : decode cL_tells 912 = .ok (.irem, 1) := by decide +kernel
theorem dL_tells_913 : decode cL_tells 913 = .ok (.goto 4, 3) := by decide +kernel
theorem dL_tells_916 : decode cL_tells 916 = .ok (.iconst 0, 1) := by decide +kernel
theorem dL_tells_917 : decode cL_tells 917 = .ok (.iadd, 1) := by decide +kernel
theorem dL_tells_918 : decode cL_tells 918 = .ok (.istore 19, 2) := by decide +kernel
theorem dL_tells_920 : decode cL_tells 920 = .ok (.iinc 20 1, 3) := by decide +kernel
theorem dL_tells_923 : decode cL_tells 923 = .ok (.goto (-46), 3) := by decide +kernel
theorem dL_tells_926 : decode cL_tells 926 = .ok (.iload 19, 2) := by decide +kernel
theorem dL_tells_928 : decode cL_tells 928 = .ok (.bipush 100, 2) := by decide +kernel
theorem dL_tells_930 : decode cL_tells 930 = .ok (.if_icmp .gt 16, 3) := by decide +kernel
theorem dL_tells_933 : decode cL_tells 933 = .ok (.aload 12, 2) := by decide +kernel
theorem dL_tells_935 : decode cL_tells 935 = .ok (.iconst 3, 1) := by decide +kernel
theorem dL_tells_936 : decode cL_tells 936 = .ok (.iaload, 1) := by decide +kernel
theorem dL_tells_937 : decode cL_tells 937 = .ok (.bipush 20, 2) := by decide +kernel
theorem dL_tells_939 : decode cL_tells 939 = .ok (.if_icmp .ge 7, 3) := by decide +kernel
theorem dL_tells_942 : decode cL_tells 942 = .ok (.iconst 1, 1) := by decide +kernel
theorem dL_tells_943 : decode cL_tells 943 = .ok (.goto 4, 3) := by decide +kernel
theorem dL_tells_946 : decode cL_tells 946 = .ok (.iconst 0, 1) := by decide +kernel
theorem dL_tells_947 : decode cL_tells 947 = .ok (.istore 20, 2) := by decide +kernel
theorem dL_tells_949 : decode cL_tells 949 = .ok (.iload 20, 2) := by decide +kernel
theorem dL_tells_951 : decode cL_tells 951 = .ok (.ifCond .eq 41, 3) := by decide +kernel
theorem dL_tells_954 : decode cL_tells 954 = .ok (.aload 8, 2) := by decide +kernel
theorem dL_tells_956 : decode cL_tells 956 = .ok (.aload 12, 2) := by decide +kernel
theorem dL_tells_958 : decode cL_tells 958 = .ok (.iconst 3, 1) := by decide +kernel
theorem dL_tells_959 : decode cL_tells 959 = .ok (.iaload, 1) := by decide +kernel
theorem dL_tells_960 : decode cL_tells 960 = .ok (.iload 14, 2) := by decide +kernel
theorem dL_tells_962 : decode cL_tells 962 = .ok (.bipush 8, 2) := by decide +kernel
theorem dL_tells_964 : decode cL_tells 964 = .ok (.iload 17, 2) := by decide +kernel
theorem dL_tells_966 : decode cL_tells 966 = .ok (.imul, 1) := by decide +kernel
theorem dL_tells_967 : decode cL_tells 967 = .ok (.iadd, 1) := by decide +kernel
theorem dL_tells_968 : decode cL_tells 968 = .ok (.bipush 64, 2) := by decide +kernel
theorem dL_tells_970 : decode cL_tells 970 = .ok (.iload 18, 2) := by decide +kernel
theorem dL_tells_972 : decode cL_tells 972 = .ok (.imul, 1) := by decide +kernel
theorem dL_tells_973 : decode cL_tells 973 = .ok (.iadd, 1) := by decide +kernel
theorem dL_tells_974 : decode cL_tells 974 = .ok (.sipush 8192, 3) := by decide +kernel
theorem dL_tells_977 : decode cL_tells 977 = .ok (.aload 12, 2) := by decide +kernel
theorem dL_tells_979 : decode cL_tells 979 = .ok (.iconst 0, 1) := by decide +kernel
theorem dL_tells_980 : decode cL_tells 980 = .ok (.iaload, 1) := by decide +kernel
theorem dL_tells_981 : decode cL_tells 981 = .ok (.imul, 1) := by decide +kernel
theorem dL_tells_982 : decode cL_tells 982 = .ok (.iadd, 1) := by decide +kernel
theorem dL_tells_983 : decode cL_tells 983 = .ok (.iastore, 1) := by decide +kernel
theorem dL_tells_984 : decode cL_tells 984 = .ok (.aload 12, 2) := by decide +kernel
theorem dL_tells_986 : decode cL_tells 986 = .ok (.iconst 3, 1) := by decide +kernel
theorem dL_tells_987 : decode cL_tells 987 = .ok (.dup2, 1) := by decide +kernel
theorem dL_tells_988 : decode cL_tells 988 = .ok (.iaload, 1) := by decide +kernel
theorem dL_tells_989 : decode cL_tells 989 = .ok (.iconst 1, 1) := by decide +kernel
theorem dL_tells_990 : decode cL_tells 990 = .ok (.iadd, 1) := by decide +kernel
theorem dL_tells_991 : decode cL_tells 991 = .ok (.iastore, 1) := by decide +kernel
theorem dL_tells_992 : decode cL_tells 992 = .ok (.aload_n 0, 1) := by decide +kernel
theorem dL_tells_993 : decode cL_tells 993 = .ok (.iconst 2, 1) := by decide +kernel
theorem dL_tells_994 : decode cL_tells 994 = .ok (.iload 14, 2) := by decide +kernel
theorem dL_tells_996 : decode cL_tells 996 = .ok (.iload 17, 2) := by decide +kernel
theorem dL_tells_998 : decode cL_tells 998 = .ok (.iload 18, 2) := by decide +kernel
theorem dL_tells_1000 : decode cL_tells 1000 = .ok (.invokestatic 98, 3) := by decide +kernel
theorem dL_tells_1003 : decode cL_tells 1003 = .ok (.iload 20, 2) := by decide +kernel
theorem dL_tells_1005 : decode cL_tells 1005 = .ok (.ifCond .eq 8, 3) := by decide +kernel
theorem dL_tells_1008 : decode cL_tells 1008 = .ok (.iload 19, 2) := by decide +kernel
theorem dL_tells_1010 : decode cL_tells 1010 = .ok (.goto 6, 3) := by decide +kernel
theorem dL_tells_1013 : decode cL_tells 1013 = .ok (.sipush (-1003), 3) := by decide +kernel
theorem dL_tells_1016 : decode cL_tells 1016 = .ok (.if_icmp .ne 7, 3) := by decide +kernel
theorem dL_tells_1019 : decode cL_tells 1019 = .ok (.iconst 1, 1) := by decide +kernel
theorem dL_tells_1020 : decode cL_tells 1020 = .ok (.goto 4, 3) := by decide +kernel
theorem dL_tells_1023 : decode cL_tells 1023 = .ok (.iconst 0, 1) := by decide +kernel
theorem dL_tells_1024 : decode cL_tells 1024 = .ok (.ireturn, 1) := by decide +kernel
theorem dL_files_0 : decode cL_files 0 = .ok (.aload 6, 2) := by decide +kernel
theorem dL_files_2 : decode cL_files 2 = .ok (.iconst 4, 1) := by decide +kernel
theorem dL_files_3 : decode cL_files 3 = .ok (.iaload, 1) := by decide +kernel
theorem dL_files_4 : decode cL_files 4 = .ok (.bipush 8, 2) := by decide +kernel
theorem dL_files_6 : decode cL_files 6 = .ok (.if_icmp .ne 5, 3) := by decide +kernel
theorem dL_files_9 : decode cL_files 9 = .ok (.iconst 1, 1) := by decide +kernel
theorem dL_files_10 : decode cL_files 10 = .ok (.ireturn, 1) := by decide +kernel
theorem dL_files_11 : decode cL_files 11 = .ok (.iload_n 1, 1) := by decide +kernel
theorem dL_files_12 : decode cL_files 12 = .ok (.iconst 5, 1) := by decide +kernel
theorem dL_files_13 : decode cL_files 13 = .ok (.invokestatic 89, 3) := by decide +kernel
theorem dL_files_16 : decode cL_files 16 = .ok (.istore 7, 2) := by decide +kernel
theorem dL_files_18 : decode cL_files 18 = .ok (.iload_n 1, 1) := by decide +kernel
theorem dL_files_19 : decode cL_files 19 = .ok (.iconst 3, 1) := by decide +kernel
theorem dL_files_20 : decode cL_files 20 = .ok (.ishr, 1) := by decide +kernel
theorem dL_files_21 : decode cL_files 21 = .ok (.iconst 3, 1) := by decide +kernel
theorem dL_files_22 : decode cL_files 22 = .ok (.invokestatic 89, 3) := by decide +kernel
theorem dL_files_25 : decode cL_files 25 = .ok (.istore 8, 2) := by decide +kernel
theorem dL_files_27 : decode cL_files 27 = .ok (.aload_n 3, 1) := by decide +kernel
theorem dL_files_28 : decode cL_files 28 = .ok (.bipush 8, 2) := by decide +kernel
theorem dL_files_30 : decode cL_files 30 = .ok (.iload 7, 2) := by decide +kernel
theorem dL_files_32 : decode cL_files 32 = .ok (.imul, 1) := by decide +kernel
theorem dL_files_33 : decode cL_files 33 = .ok (.iaload, 1) := by decide +kernel
theorem dL_files_34 : decode cL_files 34 = .ok (.iload_n 1, 1) := by decide +kernel
theorem dL_files_35 : decode cL_files 35 = .ok (.iconst 4, 1) := by decide +kernel
theorem dL_files_36 : decode cL_files 36 = .ok (.ishr, 1) := by decide +kernel
theorem dL_files_37 : decode cL_files 37 = .ok (.sipush 256, 3) := by decide +kernel
theorem dL_files_40 : decode cL_files 40 = .ok (.invokestatic 89, 3) := by decide +kernel
theorem dL_files_43 : decode cL_files 43 = .ok (.iand, 1) := by decide +kernel
theorem dL_files_44 : decode cL_files 44 = .ok (.istore 9, 2) := by decide +kernel
theorem dL_files_46 : decode cL_files 46 = .ok (.iload_n 1, 1) := by decide +kernel
theorem dL_files_47 : decode cL_files 47 = .ok (.bipush 6, 2) := by decide +kernel
theorem dL_files_49 : decode cL_files 49 = .ok (.ishr, 1) := by decide +kernel
theorem dL_files_50 : decode cL_files 50 = .ok (.bipush 6, 2) := by decide +kernel
theorem dL_files_52 : decode cL_files 52 = .ok (.invokestatic 89, 3) := by decide +kernel
theorem dL_files_55 : decode cL_files 55 = .ok (.ifCond .ne 17, 3) := by decide +kernel
theorem dL_files_58 : decode cL_files 58 = .ok (.iconst 1, 1) := by decide +kernel
theorem dL_files_59 : decode cL_files 59 = .ok (.iload_n 1, 1) := by decide +kernel
theorem dL_files_60 : decode cL_files 60 = .ok (.iconst 2, 1) := by decide +kernel
theorem dL_files_61 : decode cL_files 61 = .ok (.ishr, 1) := by decide +kernel
theorem dL_files_62 : decode cL_files 62 = .ok (.sipush 255, 3) := by decide +kernel
theorem dL_files_65 : decode cL_files 65 = .ok (.invokestatic 89, 3) := by decide +kernel
theorem dL_files_68 : decode cL_files 68 = .ok (.iadd, 1) := by decide +kernel
theorem dL_files_69 : decode cL_files 69 = .ok (.goto 20, 3) := by decide +kernel
theorem dL_files_72 : decode cL_files 72 = .ok (.iload 9, 2) := by decide +kernel
theorem dL_files_74 : decode cL_files 74 = .ok (.ifCond .ne 13, 3) := by decide +kernel
theorem dL_files_77 : decode cL_files 77 = .ok (.aload_n 3, 1) := by decide +kernel
theorem dL_files_78 : decode cL_files 78 = .ok (.bipush 8, 2) := by decide +kernel
theorem dL_files_80 : decode cL_files 80 = .ok (.iload 7, 2) := by decide +kernel
theorem dL_files_82 : decode cL_files 82 = .ok (.imul, 1) := by decide +kernel
theorem dL_files_83 : decode cL_files 83 = .ok (.iaload, 1) := by decide +kernel
theorem dL_files_84 : decode cL_files 84 = .ok (.goto 5, 3) := by decide +kernel
theorem dL_files_87 : decode cL_files 87 = .ok (.iload 9, 2) := by decide +kernel
theorem dL_files_89 : decode cL_files 89 = .ok (.istore 9, 2) := by decide +kernel
theorem dL_files_91 : decode cL_files 91 = .ok (.iload 9, 2) := by decide +kernel
theorem dL_files_93 : decode cL_files 93 = .ok (.ifCond .ne 5, 3) := by decide +kernel
theorem dL_files_96 : decode cL_files 96 = .ok (.iconst 1, 1) := by decide +kernel
theorem dL_files_97 : decode cL_files 97 = .ok (.ireturn, 1) := by decide +kernel
theorem dL_files_98 : decode cL_files 98 = .ok (.iload 9, 2) := by decide +kernel
theorem dL_files_100 : decode cL_files 100 = .ok (.aload_n 3, 1) := by decide +kernel
theorem dL_files_101 : decode cL_files 101 = .ok (.bipush 8, 2) := by decide +kernel
theorem dL_files_103 : decode cL_files 103 = .ok (.iload 7, 2) := by decide +kernel
theorem dL_files_105 : decode cL_files 105 = .ok (.imul, 1) := by decide +kernel
theorem dL_files_106 : decode cL_files 106 = .ok (.iaload, 1) := by decide +kernel
theorem dL_files_107 : decode cL_files 107 = .ok (.iconst (-1), 1) := by decide +kernel
theorem dL_files_108 : decode cL_files 108 = .ok (.ixor, 1) := by decide +kernel
theorem dL_files_109 : decode cL_files 109 = .ok (.iand, 1) := by decide +kernel
theorem dL_files_110 : decode cL_files 110 = .ok (.ifCond .ne 7, 3) := by decide +kernel
theorem dL_files_113 : decode cL_files 113 = .ok (.iconst 1, 1) := by decide +kernel
theorem dL_files_114 : decode cL_files 114 = .ok (.goto 4, 3) := by decide +kernel
theorem dL_files_117 : decode cL_files 117 = .ok (.iconst 0, 1) := by decide +kernel
theorem dL_files_118 : decode cL_files 118 = .ok (.istore 10, 2) := by decide +kernel
theorem dL_files_120 : decode cL_files 120 = .ok (.aload 6, 2) := by decide +kernel
theorem dL_files_122 : decode cL_files 122 = .ok (.iconst 4, 1) := by decide +kernel
theorem dL_files_123 : decode cL_files 123 = .ok (.iaload, 1) := by decide +kernel
theorem dL_files_124 : decode cL_files 124 = .ok (.istore 11, 2) := by decide +kernel
theorem dL_files_126 : decode cL_files 126 = .ok (.iload 10, 2) := by decide +kernel
theorem dL_files_128 : decode cL_files 128 = .ok (.ifCond .eq 107, 3) := by decide +kernel
theorem dL_files_131 : decode cL_files 131 = .ok (.aload 4, 2) := by decide +kernel
theorem dL_files_133 : decode cL_files 133 = .ok (.bipush 8, 2) := by decide +kernel
theorem dL_files_135 : decode cL_files 135 = .ok (.iload 11, 2) := by decide +kernel
theorem dL_files_137 : decode cL_files 137 = .ok (.imul, 1) := by decide +kernel
theorem dL_files_138 : decode cL_files 138 = .ok (.iload 7, 2) := by decide +kernel
theorem dL_files_140 : decode cL_files 140 = .ok (.iastore, 1) := by decide +kernel
theorem dL_files_141 : decode cL_files 141 = .ok (.aload 4, 2) := by decide +kernel
theorem dL_files_143 : decode cL_files 143 = .ok (.bipush 8, 2) := by decide +kernel
theorem dL_files_145 : decode cL_files 145 = .ok (.iload 11, 2) := by decide +kernel
theorem dL_files_147 : decode cL_files 147 = .ok (.imul, 1) := by decide +kernel
theorem dL_files_148 : decode cL_files 148 = .ok (.iconst 1, 1) := by decide +kernel
theorem dL_files_149 : decode cL_files 149 = .ok (.iadd, 1) := by decide +kernel
theorem dL_files_150 : decode cL_files 150 = .ok (.iload 8, 2) := by decide +kernel
theorem dL_files_152 : decode cL_files 152 = .ok (.iastore, 1) := by decide +kernel
theorem dL_files_153 : decode cL_files 153 = .ok (.aload 4, 2) := by decide +kernel
theorem dL_files_155 : decode cL_files 155 = .ok (.bipush 8, 2) := by decide +kernel
theorem dL_files_157 : decode cL_files 157 = .ok (.iload 11, 2) := by decide +kernel
theorem dL_files_159 : decode cL_files 159 = .ok (.imul, 1) := by decide +kernel
theorem dL_files_160 : decode cL_files 160 = .ok (.iconst 2, 1) := by decide +kernel
theorem dL_files_161 : decode cL_files 161 = .ok (.iadd, 1) := by decide +kernel
theorem dL_files_162 : decode cL_files 162 = .ok (.aload 6, 2) := by decide +kernel
theorem dL_files_164 : decode cL_files 164 = .ok (.iconst 0, 1) := by decide +kernel
theorem dL_files_165 : decode cL_files 165 = .ok (.iaload, 1) := by decide +kernel
theorem dL_files_166 : decode cL_files 166 = .ok (.iastore, 1) := by decide +kernel
theorem dL_files_167 : decode cL_files 167 = .ok (.aload 4, 2) := by decide +kernel
theorem dL_files_169 : decode cL_files 169 = .ok (.bipush 8, 2) := by decide +kernel
theorem dL_files_171 : decode cL_files 171 = .ok (.iload 11, 2) := by decide +kernel
theorem dL_files_173 : decode cL_files 173 = .ok (.imul, 1) := by decide +kernel
theorem dL_files_174 : decode cL_files 174 = .ok (.iconst 4, 1) := by decide +kernel
theorem dL_files_175 : decode cL_files 175 = .ok (.iadd, 1) := by decide +kernel
theorem dL_files_176 : decode cL_files 176 = .ok (.aload 6, 2) := by decide +kernel
theorem dL_files_178 : decode cL_files 178 = .ok (.iconst 0, 1) := by decide +kernel
theorem dL_files_179 : decode cL_files 179 = .ok (.iaload, 1) := by decide +kernel
theorem dL_files_180 : decode cL_files 180 = .ok (.bipush 60, 2) := by decide +kernel
theorem dL_files_182 : decode cL_files 182 = .ok (.iadd, 1) := by decide +kernel
theorem dL_files_183 : decode cL_files 183 = .ok (.iastore, 1) := by decide +kernel
theorem dL_files_184 : decode cL_files 184 = .ok (.iconst 0, 1) := by decide +kernel
theorem dL_files_185 : decode cL_files 185 = .ok (.istore 12, 2) := by decide +kernel
theorem dL_files_187 : decode cL_files 187 = .ok (.iload 12, 2) := by decide +kernel
theorem dL_files_189 : decode cL_files 189 = .ok (.bipush 8, 2) := by decide +kernel
theorem dL_files_191 : decode cL_files 191 = .ok (.if_icmp .ge 36, 3) := by decide +kernel
theorem dL_files_194 : decode cL_files 194 = .ok (.aload 5, 2) := by decide +kernel
theorem dL_files_196 : decode cL_files 196 = .ok (.bipush 8, 2) := by decide +kernel
theorem dL_files_198 : decode cL_files 198 = .ok (.iload 11, 2) := by decide +kernel
theorem dL_files_200 : decode cL_files 200 = .ok (.imul, 1) := by decide +kernel
theorem dL_files_201 : decode cL_files 201 = .ok (.iload 12, 2) := by decide +kernel
theorem dL_files_203 : decode cL_files 203 = .ok (.iadd, 1) := by decide +kernel
theorem dL_files_204 : decode cL_files 204 = .ok (.iload 9, 2) := by decide +kernel
theorem dL_files_206 : decode cL_files 206 = .ok (.iload 12, 2) := by decide +kernel
theorem dL_files_208 : decode cL_files 208 = .ok (.ishr, 1) := by decide +kernel
theorem dL_files_209 : decode cL_files 209 = .ok (.iconst 1, 1) := by decide +kernel
theorem dL_files_210 : decode cL_files 210 = .ok (.iand, 1) := by decide +kernel
theorem dL_files_211 : decode cL_files 211 = .ok (.aload 6, 2) := by decide +kernel
theorem dL_files_213 : decode cL_files 213 = .ok (.iconst 0, 1) := by decide +kernel
theorem dL_files_214 : decode cL_files 214 = .ok (.iaload, 1) := by decide +kernel
theorem dL_files_215 : decode cL_files 215 = .ok (.sipush 4097, 3) := by decide +kernel
theorem dL_files_218 : decode cL_files 218 = .ok (.iadd, 1) := by decide +kernel
theorem dL_files_219 : decode cL_files 219 = .ok (.imul, 1) := by decide +kernel
theorem dL_files_220 : decode cL_files 220 = .ok (.iastore, 1) := by decide +kernel
theorem dL_files_221 : decode cL_files 221 = .ok (.iinc 12 1, 3) := by decide +kernel
theorem dL_files_224 : decode cL_files 224 = .ok (.goto (-37), 3) := by decide +kernel
theorem dL_files_227 : decode cL_files 227 = .ok (.aload 6, 2) := by decide +kernel
theorem dL_files_229 : decode cL_files 229 = .ok (.iconst 4, 1) := by decide +kernel
theorem dL_files_230 : decode cL_files 230 = .ok (.dup2, 1) := by decide +kernel
theorem dL_files_231 : decode cL_files 231 = .ok (.iaload, 1) := by decide +kernel
theorem dL_files_232 : decode cL_files 232 = .ok (.iconst 1, 1) := by decide +kernel
theorem dL_files_233 : decode cL_files 233 = .ok (.iadd, 1) := by decide +kernel
theorem dL_files_234 : decode cL_files 234 = .ok (.iastore, 1) := by decide +kernel
theorem dL_files_235 : decode cL_files 235 = .ok (.aload_n 0, 1) := by decide +kernel
theorem dL_files_236 : decode cL_files 236 = .ok (.iconst 3, 1) := by decide +kernel
theorem dL_files_237 : decode cL_files 237 = .ok (.iload 7, 2) := by decide +kernel
theorem dL_files_239 : decode cL_files 239 = .ok (.iload 8, 2) := by decide +kernel
theorem dL_files_241 : decode cL_files 241 = .ok (.iload 9, 2) := by decide +kernel
theorem dL_files_243 : decode cL_files 243 = .ok (.invokestatic 98, 3) := by decide +kernel
theorem dL_files_246 : decode cL_files 246 = .ok (.iload 10, 2) := by decide +kernel
theorem dL_files_248 : decode cL_files 248 = .ok (.ifCond .eq 8, 3) := by decide +kernel
theorem dL_files_251 : decode cL_files 251 = .ok (.iload 11, 2) := by decide +kernel
theorem dL_files_253 : decode cL_files 253 = .ok (.goto 6, 3) := by decide +kernel
theorem dL_files_256 : decode cL_files 256 = .ok (.sipush (-1003), 3) := by decide +kernel
theorem dL_files_259 : decode cL_files 259 = .ok (.if_icmp .ne 7, 3) := by decide +kernel
theorem dL_files_262 : decode cL_files 262 = .ok (.iconst 1, 1) := by decide +kernel
theorem dL_files_263 : decode cL_files 263 = .ok (.goto 4, 3) := by decide +kernel
theorem dL_files_266 : decode cL_files 266 = .ok (.iconst 0, 1) := by decide +kernel
theorem dL_files_267 : decode cL_files 267 = .ok (.ireturn, 1) := by decide +kernel
