theorem dL_law_0 : decode cL_law 0 = .ok (.new 19, 3) := by decide +kernel
theorem dL_law_3 : decode cL_law 3 = .ok (.dup, 1) := by decide +kernel
theorem dL_law_4 : decode cL_law 4 = .ok (.invokespecial 82, 3) := by decide +kernel
theorem dL_law_7 : decode cL_law 7 = .ok (.astore_n 1, 1) := by decide +kernel
theorem dL_law_8 : decode cL_law 8 = .ok (.bipush 60, 2) := by decide +kernel
theorem dL_law_10 : decode cL_law 10 = .ok (.newarray .int, 2) := by decide +kernel
theorem dL_law_12 : decode cL_law 12 = .ok (.astore_n 2, 1) := by decide +kernel
theorem dL_law_13 : decode cL_law 13 = .ok (.bipush 10, 2) := by decide +kernel
theorem dL_law_15 : decode cL_law 15 = .ok (.newarray .int, 2) := by decide +kernel
theorem dL_law_17 : decode cL_law 17 = .ok (.astore_n 3, 1) := by decide +kernel
theorem dL_law_18 : decode cL_law 18 = .ok (.iconst 5, 1) := by decide +kernel
theorem dL_law_19 : decode cL_law 19 = .ok (.newarray .long, 2) := by decide +kernel
theorem dL_law_21 : decode cL_law 21 = .ok (.astore 4, 2) := by decide +kernel
theorem dL_law_23 : decode cL_law 23 = .ok (.bipush 63, 2) := by decide +kernel
theorem dL_law_25 : decode cL_law 25 = .ok (.newarray .int, 2) := by decide +kernel
theorem dL_law_27 : decode cL_law 27 = .ok (.astore 5, 2) := by decide +kernel
theorem dL_law_29 : decode cL_law 29 = .ok (.bipush 28, 2) := by decide +kernel
theorem dL_law_31 : decode cL_law 31 = .ok (.newarray .long, 2) := by decide +kernel
theorem dL_law_33 : decode cL_law 33 = .ok (.astore 6, 2) := by decide +kernel
theorem dL_law_35 : decode cL_law 35 = .ok (.bipush 30, 2) := by decide +kernel
theorem dL_law_37 : decode cL_law 37 = .ok (.newarray .long, 2) := by decide +kernel
theorem dL_law_39 : decode cL_law 39 = .ok (.astore 7, 2) := by decide +kernel
theorem dL_law_41 : decode cL_law 41 = .ok (.iconst 5, 1) := by decide +kernel
theorem dL_law_42 : decode cL_law 42 = .ok (.newarray .int, 2) := by decide +kernel
theorem dL_law_44 : decode cL_law 44 = .ok (.astore 8, 2) := by decide +kernel
theorem dL_law_46 : decode cL_law 46 = .ok (.aload 8, 2) := by decide +kernel
theorem dL_law_48 : decode cL_law 48 = .ok (.iconst 4, 1) := by decide +kernel
theorem dL_law_49 : decode cL_law 49 = .ok (.sipush 1000, 3) := by decide +kernel
theorem dL_law_52 : decode cL_law 52 = .ok (.iastore, 1) := by decide +kernel
theorem dL_law_53 : decode cL_law 53 = .ok (.iconst 0, 1) := by decide +kernel
theorem dL_law_54 : decode cL_law 54 = .ok (.istore 9, 2) := by decide +kernel
theorem dL_law_56 : decode cL_law 56 = .ok (.iload 9, 2) := by decide +kernel
theorem dL_law_58 : decode cL_law 58 = .ok (.bipush 64, 2) := by decide +kernel
theorem dL_law_60 : decode cL_law 60 = .ok (.if_icmp .ge 1589, 3) := by decide +kernel
theorem dL_law_63 : decode cL_law 63 = .ok (.aload_n 0, 1) := by decide +kernel
theorem dL_law_64 : decode cL_law 64 = .ok (.iconst 2, 1) := by decide +kernel
theorem dL_law_65 : decode cL_law 65 = .ok (.iload 9, 2) := by decide +kernel
theorem dL_law_67 : decode cL_law 67 = .ok (.imul, 1) := by decide +kernel
theorem dL_law_68 : decode cL_law 68 = .ok (.invokestatic 83, 3) := by decide +kernel
theorem dL_law_71 : decode cL_law 71 = .ok (.istore 10, 2) := by decide +kernel
theorem dL_law_73 : decode cL_law 73 = .ok (.aload_n 0, 1) := by decide +kernel
theorem dL_law_74 : decode cL_law 74 = .ok (.iconst 2, 1) := by decide +kernel
theorem dL_law_75 : decode cL_law 75 = .ok (.iload 9, 2) := by decide +kernel
theorem dL_law_77 : decode cL_law 77 = .ok (.imul, 1) := by decide +kernel
theorem dL_law_78 : decode cL_law 78 = .ok (.iconst 1, 1) := by decide +kernel
theorem dL_law_79 : decode cL_law 79 = .ok (.iadd, 1) := by decide +kernel
theorem dL_law_80 : decode cL_law 80 = .ok (.invokestatic 83, 3) := by decide +kernel
theorem dL_law_83 : decode cL_law 83 = .ok (.istore 11, 2) := by decide +kernel
theorem dL_law_85 : decode cL_law 85 = .ok (.iload 10, 2) := by decide +kernel
theorem dL_law_87 : decode cL_law 87 = .ok (.bipush 20, 2) := by decide +kernel
theorem dL_law_89 : decode cL_law 89 = .ok (.invokestatic 86, 3) := by decide +kernel
theorem dL_law_92 : decode cL_law 92 = .ok (.istore 12, 2) := by decide +kernel
theorem dL_law_94 : decode cL_law 94 = .ok (.iload 10, 2) := by decide +kernel
theorem dL_law_96 : decode cL_law 96 = .ok (.iconst 5, 1) := by decide +kernel
theorem dL_law_97 : decode cL_law 97 = .ok (.ishr, 1) := by decide +kernel
theorem dL_law_98 : decode cL_law 98 = .ok (.iconst 5, 1) := by decide +kernel
theorem dL_law_99 : decode cL_law 99 = .ok (.invokestatic 86, 3) := by decide +kernel
theorem dL_law_102 : decode cL_law 102 = .ok (.istore 13, 2) := by decide +kernel
theorem dL_law_104 : decode cL_law 104 = .ok (.aload 8, 2) := by decide +kernel
theorem dL_law_106 : decode cL_law 106 = .ok (.iconst 1, 1) := by decide +kernel
theorem dL_law_107 : decode cL_law 107 = .ok (.iaload, 1) := by decide +kernel
theorem dL_law_108 : decode cL_law 108 = .ok (.ifCond .ne 7, 3) := by decide +kernel
theorem dL_law_111 : decode cL_law 111 = .ok (.iconst 0, 1) := by decide +kernel
theorem dL_law_112 : decode cL_law 112 = .ok (.goto 12, 3) := by decide +kernel
theorem dL_law_115 : decode cL_law 115 = .ok (.iload 11, 2) := by decide +kernel
theorem dL_law_117 : decode cL_law 117 = .ok (.aload 8, 2) := by decide +kernel
theorem dL_law_119 : decode cL_law 119 = .ok (.iconst 1, 1) := by decide +kernel
theorem dL_law_120 : decode cL_law 120 = .ok (.iaload, 1) := by decide +kernel
theorem dL_law_121 : decode cL_law 121 = .ok (.invokestatic 86, 3) := by decide +kernel
theorem dL_law_124 : decode cL_law 124 = .ok (.istore 14, 2) := by decide +kernel
theorem dL_law_126 : decode cL_law 126 = .ok (.aload 8, 2) := by decide +kernel
theorem dL_law_128 : decode cL_law 128 = .ok (.iconst 2, 1) := by decide +kernel
theorem dL_law_129 : decode cL_law 129 = .ok (.iaload, 1) := by decide +kernel
theorem dL_law_130 : decode cL_law 130 = .ok (.ifCond .ne 7, 3) := by decide +kernel
theorem dL_law_133 : decode cL_law 133 = .ok (.iconst 0, 1) := by decide +kernel
theorem dL_law_134 : decode cL_law 134 = .ok (.goto 12, 3) := by decide +kernel
theorem dL_law_137 : decode cL_law 137 = .ok (.iload 11, 2) := by decide +kernel
theorem dL_law_139 : decode cL_law 139 = .ok (.aload 8, 2) := by decide +kernel
theorem dL_law_141 : decode cL_law 141 = .ok (.iconst 2, 1) := by decide +kernel
theorem dL_law_142 : decode cL_law 142 = .ok (.iaload, 1) := by decide +kernel
theorem dL_law_143 : decode cL_law 143 = .ok (.invokestatic 86, 3) := by decide +kernel
theorem dL_law_146 : decode cL_law 146 = .ok (.istore 15, 2) := by decide +kernel
theorem dL_law_148 : decode cL_law 148 = .ok (.iload 12, 2) := by decide +kernel
theorem dL_law_150 : decode cL_law 150 = .ok (.iconst 4, 1) := by decide +kernel
theorem dL_law_151 : decode cL_law 151 = .ok (.if_icmp .ge 181, 3) := by decide +kernel
theorem dL_law_154 : decode cL_law 154 = .ok (.bipush 100, 2) := by decide +kernel
theorem dL_law_156 : decode cL_law 156 = .ok (.iload 11, 2) := by decide +kernel
theorem dL_law_158 : decode cL_law 158 = .ok (.iconst 3, 1) := by decide +kernel
theorem dL_law_159 : decode cL_law 159 = .ok (.ishr, 1) := by decide +kernel
theorem dL_law_160 : decode cL_law 160 = .ok (.iload 10, 2) := by decide +kernel
theorem dL_law_162 : decode cL_law 162 = .ok (.bipush 9, 2) := by decide +kernel
theorem dL_law_164 : decode cL_law 164 = .ok (.ishr, 1) := by decide +kernel
theorem dL_law_165 : decode cL_law 165 = .ok (.iconst 2, 1) := by decide +kernel
theorem dL_law_166 : decode cL_law 166 = .ok (.invokestatic 86, 3) := by decide +kernel
theorem dL_law_169 : decode cL_law 169 = .ok (.ifCond .ne 9, 3) := by decide +kernel
theorem dL_law_172 : decode cL_law 172 = .ok (.sipush 9901, 3) := by decide +kernel
theorem dL_law_175 : decode cL_law 175 = .ok (.goto 6, 3) := by decide +kernel
theorem dL_law_178 : decode cL_law 178 = .ok (.sipush 1500, 3) := by decide +kernel
theorem dL_law_181 : decode cL_law 181 = .ok (.invokestatic 86, 3) := by decide +kernel
theorem dL_law_184 : decode cL_law 184 = .ok (.iadd, 1) := by decide +kernel
theorem dL_law_185 : decode cL_law 185 = .ok (.istore 16, 2) := by decide +kernel
theorem dL_law_187 : decode cL_law 187 = .ok (.aload_n 2, 1) := by decide +kernel
theorem dL_law_188 : decode cL_law 188 = .ok (.iload 13, 2) := by decide +kernel
theorem dL_law_190 : decode cL_law 190 = .ok (.aload 8, 2) := by decide +kernel
theorem dL_law_192 : decode cL_law 192 = .ok (.iconst 3, 1) := by decide +kernel
theorem dL_law_193 : decode cL_law 193 = .ok (.iaload, 1) := by decide +kernel
theorem dL_law_194 : decode cL_law 194 = .ok (.invokestatic 10, 3) := by decide +kernel
theorem dL_law_197 : decode cL_law 197 = .ok (.istore 17, 2) := by decide +kernel
theorem dL_law_199 : decode cL_law 199 = .ok (.aload 8, 2) := by decide +kernel
theorem dL_law_201 : decode cL_law 201 = .ok (.iconst 0, 1) := by decide +kernel
theorem dL_law_202 : decode cL_law 202 = .ok (.iaload, 1) := by decide +kernel
theorem dL_law_203 : decode cL_law 203 = .ok (.istore 18, 2) := by decide +kernel
theorem dL_law_205 : decode cL_law 205 = .ok (.iconst 0, 1) := by decide +kernel
theorem dL_law_206 : decode cL_law 206 = .ok (.istore 19, 2) := by decide +kernel
theorem dL_law_208 : decode cL_law 208 = .ok (.iload 19, 2) := by decide +kernel
theorem dL_law_210 : decode cL_law 210 = .ok (.aload 8, 2) := by decide +kernel
theorem dL_law_212 : decode cL_law 212 = .ok (.iconst 0, 1) := by decide +kernel
theorem dL_law_213 : decode cL_law 213 = .ok (.iaload, 1) := by decide +kernel
theorem dL_law_214 : decode cL_law 214 = .ok (.if_icmp .ge 39, 3) := by decide +kernel
theorem dL_law_217 : decode cL_law 217 = .ok (.aload_n 2, 1) := by decide +kernel
theorem dL_law_218 : decode cL_law 218 = .ok (.iconst 3, 1) := by decide +kernel
theorem dL_law_219 : decode cL_law 219 = .ok (.iload 19, 2) := by decide +kernel
theorem dL_law_221 : decode cL_law 221 = .ok (.imul, 1) := by decide +kernel
theorem dL_law_222 : decode cL_law 222 = .ok (.iaload, 1) := by decide +kernel
theorem dL_law_223 : decode cL_law 223 = .ok (.iload 13, 2) := by decide +kernel
theorem dL_law_225 : decode cL_law 225 = .ok (.if_icmp .ne 22, 3) := by decide +kernel
theorem dL_law_228 : decode cL_law 228 = .ok (.aload_n 2, 1) := by decide +kernel
theorem dL_law_229 : decode cL_law 229 = .ok (.iconst 3, 1) := by decide +kernel
theorem dL_law_230 : decode cL_law 230 = .ok (.iload 19, 2) := by decide +kernel
theorem dL_law_232 : decode cL_law 232 = .ok (.imul, 1) := by decide +kernel
theorem dL_law_233 : decode cL_law 233 = .ok (.iconst 1, 1) := by decide +kernel
theorem dL_law_234 : decode cL_law 234 = .ok (.iadd, 1) := by decide +kernel
theorem dL_law_235 : decode cL_law 235 = .ok (.iaload, 1) := by decide +kernel
theorem dL_law_236 : decode cL_law 236 = .ok (.aload 8, 2) := by decide +kernel
theorem dL_law_238 : decode cL_law 238 = .ok (.iconst 3, 1) := by decide +kernel
theorem dL_law_239 : decode cL_law 239 = .ok (.iaload, 1) := by decide +kernel
theorem dL_law_240 : decode cL_law 240 = .ok (.if_icmp .ne 7, 3) := by decide +kernel
theorem dL_law_243 : decode cL_law 243 = .ok (.iload 19, 2) := by decide +kernel
theorem dL_law_245 : decode cL_law 245 = .ok (.istore 18, 2) := by decide +kernel
theorem dL_law_247 : decode cL_law 247 = .ok (.iinc 19 1, 3) := by decide +kernel
theorem dL_law_250 : decode cL_law 250 = .ok (.goto (-42), 3) := by decide +kernel
theorem dL_law_253 : decode cL_law 253 = .ok (.iload 18, 2) := by decide +kernel
theorem dL_law_255 : decode cL_law 255 = .ok (.bipush 20, 2) := by decide +kernel
theorem dL_law_257 : decode cL_law 257 = .ok (.if_icmp .ne 6, 3) := by decide +kernel
theorem dL_law_260 : decode cL_law 260 = .ok (.goto 1383, 3) := by decide +kernel
theorem dL_law_263 : decode cL_law 263 = .ok (.aload 8, 2) := by decide +kernel
theorem dL_law_265 : decode cL_law 265 = .ok (.iconst 0, 1) := by decide +kernel
theorem dL_law_266 : decode cL_law 266 = .ok (.dup2, 1) := by decide +kernel
theorem dL_law_267 : decode cL_law 267 = .ok (.iaload, 1) := by decide +kernel
theorem dL_law_268 : decode cL_law 268 = .ok (.iload 18, 2) := by decide +kernel
theorem dL_law_270 : decode cL_law 270 = .ok (.aload 8, 2) := by decide +kernel
theorem dL_law_272 : decode cL_law 272 = .ok (.iconst 0, 1) := by decide +kernel
theorem dL_law_273 : decode cL_law 273 = .ok (.iaload, 1) := by decide +kernel
theorem dL_law_274 : decode cL_law 274 = .ok (.if_icmp .ne 7, 3) := by decide +kernel
theorem dL_law_277 : decode cL_law 277 = .ok (.iconst 1, 1) := by decide +kernel
theorem dL_law_278 : decode cL_law 278 = .ok (.goto 4, 3) := by decide +kernel
theorem dL_law_281 : decode cL_law 281 = .ok (.iconst 0, 1) := by decide +kernel
theorem dL_law_282 : decode cL_law 282 = .ok (.iadd, 1) := by decide +kernel
theorem dL_law_283 : decode cL_law 283 = .ok (.iastore, 1) := by decide +kernel
theorem dL_law_284 : decode cL_law 284 = .ok (.aload_n 2, 1) := by decide +kernel
theorem dL_law_285 : decode cL_law 285 = .ok (.iconst 3, 1) := by decide +kernel
theorem dL_law_286 : decode cL_law 286 = .ok (.iload 18, 2) := by decide +kernel
theorem dL_law_288 : decode cL_law 288 = .ok (.imul, 1) := by decide +kernel
theorem dL_law_289 : decode cL_law 289 = .ok (.iload 13, 2) := by decide +kernel
theorem dL_law_291 : decode cL_law 291 = .ok (.iastore, 1) := by decide +kernel
theorem dL_law_292 : decode cL_law 292 = .ok (.aload_n 2, 1) := by decide +kernel
theorem dL_law_293 : decode cL_law 293 = .ok (.iconst 3, 1) := by decide +kernel
theorem dL_law_294 : decode cL_law 294 = .ok (.iload 18, 2) := by decide +kernel
theorem dL_law_296 : decode cL_law 296 = .ok (.imul, 1) := by decide +kernel
theorem dL_law_297 : decode cL_law 297 = .ok (.iconst 1, 1) := by decide +kernel
theorem dL_law_298 : decode cL_law 298 = .ok (.iadd, 1) := by decide +kernel
theorem dL_law_299 : decode cL_law 299 = .ok (.aload 8, 2) := by decide +kernel
theorem dL_law_301 : decode cL_law 301 = .ok (.iconst 3, 1) := by decide +kernel
theorem dL_law_302 : decode cL_law 302 = .ok (.iaload, 1) := by decide +kernel
theorem dL_law_303 : decode cL_law 303 = .ok (.iastore, 1) := by decide +kernel
theorem dL_law_304 : decode cL_law 304 = .ok (.aload_n 2, 1) := by decide +kernel
theorem dL_law_305 : decode cL_law 305 = .ok (.iconst 3, 1) := by decide +kernel
theorem dL_law_306 : decode cL_law 306 = .ok (.iload 18, 2) := by decide +kernel
theorem dL_law_308 : decode cL_law 308 = .ok (.imul, 1) := by decide +kernel
theorem dL_law_309 : decode cL_law 309 = .ok (.iconst 2, 1) := by decide +kernel
theorem dL_law_310 : decode cL_law 310 = .ok (.iadd, 1) := by decide +kernel
theorem dL_law_311 : decode cL_law 311 = .ok (.iload 16, 2) := by decide +kernel
theorem dL_law_313 : decode cL_law 313 = .ok (.iastore, 1) := by decide +kernel
theorem dL_law_314 : decode cL_law 314 = .ok (.aload_n 1, 1) := by decide +kernel
theorem dL_law_315 : decode cL_law 315 = .ok (.iload 13, 2) := by decide +kernel
theorem dL_law_317 : decode cL_law 317 = .ok (.iload 16, 2) := by decide +kernel
theorem dL_law_319 : decode cL_law 319 = .ok (.invokevirtual 89, 3) := by decide +kernel
theorem dL_law_322 : decode cL_law 322 = .ok (.iload 17, 2) := by decide +kernel
theorem dL_law_324 : decode cL_law 324 = .ok (.if_icmp .eq 5, 3) := by decide +kernel
theorem dL_law_327 : decode cL_law 327 = .ok (.iconst 0, 1) := by decide +kernel
theorem dL_law_328 : decode cL_law 328 = .ok (.ireturn, 1) := by decide +kernel
theorem dL_law_329 : decode cL_law 329 = .ok (.goto 1279, 3) := by decide +kernel
theorem dL_law_332 : decode cL_law 332 = .ok (.iload 12, 2) := by decide +kernel
theorem dL_law_334 : decode cL_law 334 = .ok (.iconst 4, 1) := by decide +kernel
theorem dL_law_335 : decode cL_law 335 = .ok (.if_icmp .ne 42, 3) := by decide +kernel
theorem dL_law_338 : decode cL_law 338 = .ok (.aload 8, 2) := by decide +kernel
theorem dL_law_340 : decode cL_law 340 = .ok (.iconst 4, 1) := by decide +kernel
theorem dL_law_341 : decode cL_law 341 = .ok (.iaload, 1) := by decide +kernel
theorem dL_law_342 : decode cL_law 342 = .ok (.istore 16, 2) := by decide +kernel
theorem dL_law_344 : decode cL_law 344 = .ok (.aload 8, 2) := by decide +kernel
theorem dL_law_346 : decode cL_law 346 = .ok (.iconst 4, 1) := by decide +kernel
theorem dL_law_347 : decode cL_law 347 = .ok (.bipush 100, 2) := by decide +kernel
theorem dL_law_349 : decode cL_law 349 = .ok (.iload 11, 2) := by decide +kernel
theorem dL_law_351 : decode cL_law 351 = .ok (.sipush 9901, 3) := by decide +kernel
theorem dL_law_354 : decode cL_law 354 = .ok (.invokestatic 86, 3) := by decide +kernel
theorem dL_law_357 : decode cL_law 357 = .ok (.iadd, 1) := by decide +kernel
theorem dL_law_358 : decode cL_law 358 = .ok (.iastore, 1) := by decide +kernel
theorem dL_law_359 : decode cL_law 359 = .ok (.aload_n 1, 1) := by decide +kernel
theorem dL_law_360 : decode cL_law 360 = .ok (.aload 8, 2) := by decide +kernel
theorem dL_law_362 : decode cL_law 362 = .ok (.iconst 4, 1) := by decide +kernel
theorem dL_law_363 : decode cL_law 363 = .ok (.iaload, 1) := by decide +kernel
theorem dL_law_364 : decode cL_law 364 = .ok (.invokevirtual 92, 3) := by decide +kernel
theorem dL_law_367 : decode cL_law 367 = .ok (.iload 16, 2) := by decide +kernel
theorem dL_law_369 : decode cL_law 369 = .ok (.if_icmp .eq 5, 3) := by decide +kernel
theorem dL_law_372 : decode cL_law 372 = .ok (.iconst 0, 1) := by decide +kernel
theorem dL_law_373 : decode cL_law 373 = .ok (.ireturn, 1) := by decide +kernel
theorem dL_law_374 : decode cL_law 374 = .ok (.goto 1234, 3) := by decide +kernel
theorem dL_law_377 : decode cL_law 377 = .ok (.iload 12, 2) := by decide +kernel
theorem dL_law_379 : decode cL_law 379 = .ok (.bipush 7, 2) := by decide +kernel
theorem dL_law_381 : decode cL_law 381 = .ok (.if_icmp .ge 109, 3) := by decide +kernel
theorem dL_law_384 : decode cL_law 384 = .ok (.aload 8, 2) := by decide +kernel
theorem dL_law_386 : decode cL_law 386 = .ok (.iconst 1, 1) := by decide +kernel
theorem dL_law_387 : decode cL_law 387 = .ok (.iaload, 1) := by decide +kernel
theorem dL_law_388 : decode cL_law 388 = .ok (.iconst 5, 1) := by decide +kernel
theorem dL_law_389 : decode cL_law 389 = .ok (.if_icmp .ne 6, 3) := by decide +kernel
theorem dL_law_392 : decode cL_law 392 = .ok (.goto 1251, 3) := by decide +kernel
theorem dL_law_395 : decode cL_law 395 = .ok (.iload 11, 2) := by decide +kernel
theorem dL_law_397 : decode cL_law 397 = .ok (.iconst 2, 1) := by decide +kernel
theorem dL_law_398 : decode cL_law 398 = .ok (.ishr, 1) := by decide +kernel
theorem dL_law_399 : decode cL_law 399 = .ok (.iload 10, 2) := by decide +kernel
theorem dL_law_401 : decode cL_law 401 = .ok (.bipush 9, 2) := by decide +kernel
theorem dL_law_403 : decode cL_law 403 = .ok (.ishr, 1) := by decide +kernel
theorem dL_law_404 : decode cL_law 404 = .ok (.iconst 2, 1) := by decide +kernel
theorem dL_law_405 : decode cL_law 405 = .ok (.invokestatic 86, 3) := by decide +kernel
theorem dL_law_408 : decode cL_law 408 = .ok (.ifCond .ne 8, 3) := by decide +kernel
theorem dL_law_411 : decode cL_law 411 = .ok (.ldc 95, 2) := by decide +kernel
theorem dL_law_413 : decode cL_law 413 = .ok (.goto 6, 3) := by decide +kernel
theorem dL_law_416 : decode cL_law 416 = .ok (.sipush 3000, 3) := by decide +kernel
theorem dL_law_419 : decode cL_law 419 = .ok (.invokestatic 86, 3) := by decide +kernel
theorem dL_law_422 : decode cL_law 422 = .ok (.istore 16, 2) := by decide +kernel
theorem dL_law_424 : decode cL_law 424 = .ok (.aload_n 3, 1) := by decide +kernel
theorem dL_law_425 : decode cL_law 425 = .ok (.iconst 2, 1) := by decide +kernel
theorem dL_law_426 : decode cL_law 426 = .ok (.aload 8, 2) := by decide +kernel
theorem dL_law_428 : decode cL_law 428 = .ok (.iconst 1, 1) := by decide +kernel
theorem dL_law_429 : decode cL_law 429 = .ok (.iaload, 1) := by decide +kernel
theorem dL_law_430 : decode cL_law 430 = .ok (.imul, 1) := by decide +kernel
theorem dL_law_431 : decode cL_law 431 = .ok (.iload 13, 2) := by decide +kernel
theorem dL_law_433 : decode cL_law 433 = .ok (.iastore, 1) := by decide +kernel
theorem dL_law_434 : decode cL_law 434 = .ok (.aload 4, 2) := by decide +kernel
theorem dL_law_436 : decode cL_law 436 = .ok (.aload 8, 2) := by decide +kernel
theorem dL_law_438 : decode cL_law 438 = .ok (.iconst 1, 1) := by decide +kernel
theorem dL_law_439 : decode cL_law 439 = .ok (.iaload, 1) := by decide +kernel
theorem dL_law_440 : decode cL_law 440 = .ok (.iload 16, 2) := by decide +kernel
theorem dL_law_442 : decode cL_law 442 = .ok (.i2l, 1) := by decide +kernel
theorem dL_law_443 : decode cL_law 443 = .ok (.ldc2_w 16, 3) := by decide +kernel
theorem dL_law_446 : decode cL_law 446 = .ok (.lmul, 1) := by decide +kernel
theorem dL_law_447 : decode cL_law 447 = .ok (.aload_n 2, 1) := by decide +kernel
theorem dL_law_448 : decode cL_law 448 = .ok (.iload 13, 2) := by decide +kernel
theorem dL_law_450 : decode cL_law 450 = .ok (.aload 8, 2) := by decide +kernel
theorem dL_law_452 : decode cL_law 452 = .ok (.iconst 3, 1) := by decide +kernel
theorem dL_law_453 : decode cL_law 453 = .ok (.iaload, 1) := by decide +kernel
theorem dL_law_454 : decode cL_law 454 = .ok (.invokestatic 10, 3) := by decide +kernel
theorem dL_law_457 : decode cL_law 457 = .ok (.i2l, 1) := by decide +kernel
theorem dL_law_458 : decode cL_law 458 = .ok (.ldiv, 1) := by decide +kernel
theorem dL_law_459 : decode cL_law 459 = .ok (.lastore, 1) := by decide +kernel
theorem dL_law_460 : decode cL_law 460 = .ok (.aload 8, 2) := by decide +kernel
theorem dL_law_462 : decode cL_law 462 = .ok (.iconst 1, 1) := by decide +kernel
theorem dL_law_463 : decode cL_law 463 = .ok (.dup2, 1) := by decide +kernel
theorem dL_law_464 : decode cL_law 464 = .ok (.iaload, 1) := by decide +kernel
theorem dL_law_465 : decode cL_law 465 = .ok (.iconst 1, 1) := by decide +kernel
theorem dL_law_466 : decode cL_law 466 = .ok (.iadd, 1) := by decide +kernel
theorem dL_law_467 : decode cL_law 467 = .ok (.iastore, 1) := by decide +kernel
theorem dL_law_468 : decode cL_law 468 = .ok (.aload_n 1, 1) := by decide +kernel
theorem dL_law_469 : decode cL_law 469 = .ok (.iload 13, 2) := by decide +kernel
theorem dL_law_471 : decode cL_law 471 = .ok (.iload 16, 2) := by decide +kernel
theorem dL_law_473 : decode cL_law 473 = .ok (.invokevirtual 96, 3) := by decide +kernel
theorem dL_law_476 : decode cL_law 476 = .ok (.aload 8, 2) := by decide +kernel
theorem dL_law_478 : decode cL_law 478 = .ok (.iconst 1, 1) := by decide +kernel
theorem dL_law_479 : decode cL_law 479 = .ok (.iaload, 1) := by decide +kernel
theorem dL_law_480 : decode cL_law 480 = .ok (.iconst 1, 1) := by decide +kernel
theorem dL_law_481 : decode cL_law 481 = .ok (.isub, 1) := by decide +kernel
theorem dL_law_482 : decode cL_law 482 = .ok (.if_icmp .eq 5, 3) := by decide +kernel
theorem dL_law_485 : decode cL_law 485 = .ok (.iconst 0, 1) := by decide +kernel
theorem dL_law_486 : decode cL_law 486 = .ok (.ireturn, 1) := by decide +kernel
theorem dL_law_487 : decode cL_law 487 = .ok (.goto 1121, 3) := by decide +kernel
theorem dL_law_490 : decode cL_law 490 = .ok (.iload 12, 2) := by decide +kernel
theorem dL_law_492 : decode cL_law 492 = .ok (.bipush 7, 2) := by decide +kernel
theorem dL_law_494 : decode cL_law 494 = .ok (.if_icmp .ne 148, 3) := by decide +kernel
theorem dL_law_497 : decode cL_law 497 = .ok (.iconst 1, 1) := by decide +kernel
theorem dL_law_498 : decode cL_law 498 = .ok (.iload 11, 2) := by decide +kernel
theorem dL_law_500 : decode cL_law 500 = .ok (.iconst 2, 1) := by decide +kernel
theorem dL_law_501 : decode cL_law 501 = .ok (.ishr, 1) := by decide +kernel
theorem dL_law_502 : decode cL_law 502 = .ok (.ldc 99, 2) := by decide +kernel
theorem dL_law_504 : decode cL_law 504 = .ok (.invokestatic 86, 3) := by decide +kernel
theorem dL_law_507 : decode cL_law 507 = .ok (.iadd, 1) := by decide +kernel
theorem dL_law_508 : decode cL_law 508 = .ok (.istore 16, 2) := by decide +kernel
theorem dL_law_510 : decode cL_law 510 = .ok (.aload 8, 2) := by decide +kernel
theorem dL_law_512 : decode cL_law 512 = .ok (.iconst 1, 1) := by decide +kernel
theorem dL_law_513 : decode cL_law 513 = .ok (.iaload, 1) := by decide +kernel
theorem dL_law_514 : decode cL_law 514 = .ok (.ifCond .ne 7, 3) := by decide +kernel
theorem dL_law_517 : decode cL_law 517 = .ok (.lconst 0, 1) := by decide +kernel
theorem dL_law_518 : decode cL_law 518 = .ok (.goto 26, 3) := by decide +kernel
theorem dL_law_521 : decode cL_law 521 = .ok (.iload 16, 2) := by decide +kernel
theorem dL_law_523 : decode cL_law 523 = .ok (.i2l, 1) := by decide +kernel
theorem dL_law_524 : decode cL_law 524 = .ok (.ldc2_w 16, 3) := by decide +kernel
theorem dL_law_527 : decode cL_law 527 = .ok (.lmul, 1) := by decide +kernel
theorem dL_law_528 : decode cL_law 528 = .ok (.aload_n 2, 1) := by decide +kernel
theorem dL_law_529 : decode cL_law 529 = .ok (.aload_n 3, 1) := by decide +kernel
theorem dL_law_530 : decode cL_law 530 = .ok (.iconst 2, 1) := by decide +kernel
theorem dL_law_531 : decode cL_law 531 = .ok (.iload 14, 2) := by decide +kernel
theorem dL_law_533 : decode cL_law 533 = .ok (.imul, 1) := by decide +kernel
theorem dL_law_534 : decode cL_law 534 = .ok (.iaload, 1) := by decide +kernel
theorem dL_law_535 : decode cL_law 535 = .ok (.aload 8, 2) := by decide +kernel
theorem dL_law_537 : decode cL_law 537 = .ok (.iconst 3, 1) := by decide +kernel
theorem dL_law_538 : decode cL_law 538 = .ok (.iaload, 1) := by decide +kernel
theorem dL_law_539 : decode cL_law 539 = .ok (.invokestatic 10, 3) := by decide +kernel
theorem dL_law_542 : decode cL_law 542 = .ok (.i2l, 1) := by decide +kernel
theorem dL_law_543 : decode cL_law 543 = .ok (.ldiv, 1) := by decide +kernel
theorem dL_law_544 : decode cL_law 544 = .ok (.lstore 17, 2) := by decide +kernel
theorem dL_law_546 : decode cL_law 546 = .ok (.aload 8, 2) := by decide +kernel
theorem dL_law_548 : decode cL_law 548 = .ok (.iconst 1, 1) := by decide +kernel
theorem dL_law_549 : decode cL_law 549 = .ok (.iaload, 1) := by decide +kernel
theorem dL_law_550 : decode cL_law 550 = .ok (.ifCond .ne 7, 3) := by decide +kernel
theorem dL_law_553 : decode cL_law 553 = .ok (.iconst 1, 1) := by decide +kernel
theorem dL_law_554 : decode cL_law 554 = .ok (.goto 35, 3) := by decide +kernel
theorem dL_law_557 : decode cL_law 557 = .ok (.aload_n 3, 1) := by decide +kernel
theorem dL_law_558 : decode cL_law 558 = .ok (.iconst 2, 1) := by decide +kernel
theorem dL_law_559 : decode cL_law 559 = .ok (.iload 14, 2) := by decide +kernel
theorem dL_law_561 : decode cL_law 561 = .ok (.imul, 1) := by decide +kernel
theorem dL_law_562 : decode cL_law 562 = .ok (.iconst 1, 1) := by decide +kernel
theorem dL_law_563 : decode cL_law 563 = .ok (.iadd, 1) := by decide +kernel
theorem dL_law_564 : decode cL_law 564 = .ok (.iaload, 1) := by decide +kernel
theorem dL_law_565 : decode cL_law 565 = .ok (.iconst 1, 1) := by decide +kernel
theorem dL_law_566 : decode cL_law 566 = .ok (.if_icmp .eq 18, 3) := by decide +kernel
theorem dL_law_569 : decode cL_law 569 = .ok (.aload 4, 2) := by decide +kernel
theorem dL_law_571 : decode cL_law 571 = .ok (.iload 14, 2) := by decide +kernel
theorem dL_law_573 : decode cL_law 573 = .ok (.laload, 1) := by decide +kernel
theorem dL_law_574 : decode cL_law 574 = .ok (.lload 17, 2) := by decide +kernel
theorem dL_law_576 : decode cL_law 576 = .ok (.ladd, 1) := by decide +kernel
theorem dL_law_577 : decode cL_law 577 = .ok (.ldc2_w 100, 3) := by decide +kernel
theorem dL_law_580 : decode cL_law 580 = .ok (.lcmp, 1) := by decide +kernel
theorem dL_law_581 : decode cL_law 581 = .ok (.ifCond .le 7, 3) := by decide +kernel
theorem dL_law_584 : decode cL_law 584 = .ok (.iconst 3, 1) := by decide +kernel
theorem dL_law_585 : decode cL_law 585 = .ok (.goto 4, 3) := by decide +kernel
theorem dL_law_588 : decode cL_law 588 = .ok (.iconst 0, 1) := by decide +kernel
theorem dL_law_589 : decode cL_law 589 = .ok (.istore 19, 2) := by decide +kernel
theorem dL_law_591 : decode cL_law 591 = .ok (.iload 19, 2) := by decide +kernel
theorem dL_law_593 : decode cL_law 593 = .ok (.ifCond .le 19, 3) := by decide +kernel
theorem dL_law_596 : decode cL_law 596 = .ok (.aload_n 1, 1) := by decide +kernel
theorem dL_law_597 : decode cL_law 597 = .ok (.iconst 3, 1) := by decide +kernel
theorem dL_law_598 : decode cL_law 598 = .ok (.iload 14, 2) := by decide +kernel
theorem dL_law_600 : decode cL_law 600 = .ok (.iload 16, 2) := by decide +kernel
theorem dL_law_602 : decode cL_law 602 = .ok (.invokestatic 64, 3) := by decide +kernel
theorem dL_law_605 : decode cL_law 605 = .ok (.iload 19, 2) := by decide +kernel
theorem dL_law_607 : decode cL_law 607 = .ok (.if_icmp .eq 1036, 3) := by decide +kernel
theorem dL_law_610 : decode cL_law 610 = .ok (.iconst 0, 1) := by decide +kernel
theorem dL_law_611 : decode cL_law 611 = .ok (.ireturn, 1) := by decide +kernel
theorem dL_law_612 : decode cL_law 612 = .ok (.aload 4, 2) := by decide +kernel
theorem dL_law_614 : decode cL_law 614 = .ok (.iload 14, 2) := by decide +kernel
theorem dL_law_616 : decode cL_law 616 = .ok (.dup2, 1) := by decide +kernel
theorem dL_law_617 : decode cL_law 617 = .ok (.laload, 1) := by decide +kernel
theorem dL_law_618 : decode cL_law 618 = .ok (.lload 17, 2) := by decide +kernel
theorem dL_law_620 : decode cL_law 620 = .ok (.ladd, 1) := by decide +kernel
theorem dL_law_621 : decode cL_law 621 = .ok (.lastore, 1) := by decide +kernel
theorem dL_law_622 : decode cL_law 622 = .ok (.aload_n 1, 1) := by decide +kernel
theorem dL_law_623 : decode cL_law 623 = .ok (.iload 14, 2) := by decide +kernel
theorem dL_law_625 : decode cL_law 625 = .ok (.iload 16, 2) := by decide +kernel
theorem dL_law_627 : decode cL_law 627 = .ok (.invokevirtual 31, 3) := by decide +kernel
theorem dL_law_630 : decode cL_law 630 = .ok (.i2l, 1) := by decide +kernel
theorem dL_law_631 : decode cL_law 631 = .ok (.lload 17, 2) := by decide +kernel
theorem dL_law_633 : decode cL_law 633 = .ok (.lcmp, 1) := by decide +kernel
theorem dL_law_634 : decode cL_law 634 = .ok (.ifCond .eq 5, 3) := by decide +kernel
theorem dL_law_637 : decode cL_law 637 = .ok (.iconst 0, 1) := by decide +kernel
theorem dL_law_638 : decode cL_law 638 = .ok (.ireturn, 1) := by decide +kernel
theorem dL_law_639 : decode cL_law 639 = .ok (.goto 969, 3) := by decide +kernel
theorem dL_law_642 : decode cL_law 642 = .ok (.iload 12, 2) := by decide +kernel
theorem dL_law_644 : decode cL_law 644 = .ok (.bipush 11, 2) := by decide +kernel
theorem dL_law_646 : decode cL_law 646 = .ok (.if_icmp .ge 169, 3) := by decide +kernel
theorem dL_law_649 : decode cL_law 649 = .ok (.aload 8, 2) := by decide +kernel
theorem dL_law_651 : decode cL_law 651 = .ok (.iconst 1, 1) := by decide +kernel
theorem dL_law_652 : decode cL_law 652 = .ok (.iaload, 1) := by decide +kernel
theorem dL_law_653 : decode cL_law 653 = .ok (.ifCond .ne 7, 3) := by decide +kernel
theorem dL_law_656 : decode cL_law 656 = .ok (.iconst 1, 1) := by decide +kernel
theorem dL_law_657 : decode cL_law 657 = .ok (.goto 35, 3) := by decide +kernel
theorem dL_law_660 : decode cL_law 660 = .ok (.iload 13, 2) := by decide +kernel
theorem dL_law_662 : decode cL_law 662 = .ok (.aload_n 3, 1) := by decide +kernel
theorem dL_law_663 : decode cL_law 663 = .ok (.iconst 2, 1) := by decide +kernel
theorem dL_law_664 : decode cL_law 664 = .ok (.iload 14, 2) := by decide +kernel
theorem dL_law_666 : decode cL_law 666 = .ok (.imul, 1) := by decide +kernel
theorem dL_law_667 : decode cL_law 667 = .ok (.iaload, 1) := by decide +kernel
theorem dL_law_668 : decode cL_law 668 = .ok (.if_icmp .ne 7, 3) := by decide +kernel
theorem dL_law_671 : decode cL_law 671 = .ok (.iconst 2, 1) := by decide +kernel
theorem dL_law_672 : decode cL_law 672 = .ok (.goto 20, 3) := by decide +kernel
theorem dL_law_675 : decode cL_law 675 = .ok (.aload_n 3, 1) := by decide +kernel
theorem dL_law_676 : decode cL_law 676 = .ok (.iconst 2, 1) := by decide +kernel
theorem dL_law_677 : decode cL_law 677 = .ok (.iload 14, 2) := by decide +kernel
theorem dL_law_679 : decode cL_law 679 = .ok (.imul, 1) := by decide +kernel
theorem dL_law_680 : decode cL_law 680 = .ok (.iconst 1, 1) := by decide +kernel
theorem dL_law_681 : decode cL_law 681 = .ok (.iadd, 1) := by decide +kernel
theorem dL_law_682 : decode cL_law 682 = .ok (.iaload, 1) := by decide +kernel
theorem dL_law_683 : decode cL_law 683 = .ok (.iconst 1, 1) := by decide +kernel
theorem dL_law_684 : decode cL_law 684 = .ok (.if_icmp .ne 7, 3) := by decide +kernel
theorem dL_law_687 : decode cL_law 687 = .ok (.iconst 3, 1) := by decide +kernel
theorem dL_law_688 : decode cL_law 688 = .ok (.goto 4, 3) := by decide +kernel
theorem dL_law_691 : decode cL_law 691 = .ok (.iconst 0, 1) := by decide +kernel
theorem dL_law_692 : decode cL_law 692 = .ok (.istore 16, 2) := by decide +kernel
theorem dL_law_694 : decode cL_law 694 = .ok (.iload 16, 2) := by decide +kernel
theorem dL_law_696 : decode cL_law 696 = .ok (.ifCond .le 19, 3) := by decide +kernel
theorem dL_law_699 : decode cL_law 699 = .ok (.aload_n 1, 1) := by decide +kernel
theorem dL_law_700 : decode cL_law 700 = .ok (.iconst 2, 1) := by decide +kernel
theorem dL_law_701 : decode cL_law 701 = .ok (.iload 14, 2) := by decide +kernel
theorem dL_law_703 : decode cL_law 703 = .ok (.iload 13, 2) := by decide +kernel
theorem dL_law_705 : decode cL_law 705 = .ok (.invokestatic 64, 3) := by decide +kernel
theorem dL_law_708 : decode cL_law 708 = .ok (.iload 16, 2) := by decide +kernel
theorem dL_law_710 : decode cL_law 710 = .ok (.if_icmp .eq 933, 3) := by decide +kernel
theorem dL_law_713 : decode cL_law 713 = .ok (.iconst 0, 1) := by decide +kernel
theorem dL_law_714 : decode cL_law 714 = .ok (.ireturn, 1) := by decide +kernel
theorem dL_law_715 : decode cL_law 715 = .ok (.aload 8, 2) := by decide +kernel
theorem dL_law_717 : decode cL_law 717 = .ok (.iconst 2, 1) := by decide +kernel
theorem dL_law_718 : decode cL_law 718 = .ok (.iaload, 1) := by decide +kernel
theorem dL_law_719 : decode cL_law 719 = .ok (.bipush 7, 2) := by decide +kernel
theorem dL_law_721 : decode cL_law 721 = .ok (.if_icmp .ne 6, 3) := by decide +kernel
theorem dL_law_724 : decode cL_law 724 = .ok (.goto 919, 3) := by decide +kernel
theorem dL_law_727 : decode cL_law 727 = .ok (.bipush 9, 2) := by decide +kernel
theorem dL_law_729 : decode cL_law 729 = .ok (.aload 8, 2) := by decide +kernel
theorem dL_law_731 : decode cL_law 731 = .ok (.iconst 2, 1) := by decide +kernel
theorem dL_law_732 : decode cL_law 732 = .ok (.iaload, 1) := by decide +kernel
theorem dL_law_733 : decode cL_law 733 = .ok (.imul, 1) := by decide +kernel
theorem dL_law_734 : decode cL_law 734 = .ok (.istore 17, 2) := by decide +kernel
theorem dL_law_736 : decode cL_law 736 = .ok (.aload 5, 2) := by decide +kernel
theorem dL_law_738 : decode cL_law 738 = .ok (.iload 17, 2) := by decide +kernel
theorem dL_law_740 : decode cL_law 740 = .ok (.iload 14, 2) := by decide +kernel
theorem dL_law_742 : decode cL_law 742 = .ok (.iastore, 1) := by decide +kernel
theorem dL_law_743 : decode cL_law 743 = .ok (.aload 5, 2) := by decide +kernel
theorem dL_law_745 : decode cL_law 745 = .ok (.iload 17, 2) := by decide +kernel
theorem dL_law_747 : decode cL_law 747 = .ok (.iconst 1, 1) := by decide +kernel
theorem dL_law_748 : decode cL_law 748 = .ok (.iadd, 1) := by decide +kernel
theorem dL_law_749 : decode cL_law 749 = .ok (.aload_n 3, 1) := by decide +kernel
theorem dL_law_750 : decode cL_law 750 = .ok (.iconst 2, 1) := by decide +kernel
theorem dL_law_751 : decode cL_law 751 = .ok (.iload 14, 2) := by decide +kernel
theorem dL_law_753 : decode cL_law 753 = .ok (.imul, 1) := by decide +kernel
theorem dL_law_754 : decode cL_law 754 = .ok (.iaload, 1) := by decide +kernel
theorem dL_law_755 : decode cL_law 755 = .ok (.iastore, 1) := by decide +kernel
theorem dL_law_756 : decode cL_law 756 = .ok (.aload 5, 2) := by decide +kernel
theorem dL_law_758 : decode cL_law 758 = .ok (.iload 17, 2) := by decide +kernel
theorem dL_law_760 : decode cL_law 760 = .ok (.iconst 2, 1) := by decide +kernel
theorem dL_law_761 : decode cL_law 761 = .ok (.iadd, 1) := by decide +kernel
theorem dL_law_762 : decode cL_law 762 = .ok (.iload 13, 2) := by decide +kernel
theorem dL_law_764 : decode cL_law 764 = .ok (.iastore, 1) := by decide +kernel
theorem dL_law_765 : decode cL_law 765 = .ok (.aload 5, 2) := by decide +kernel
theorem dL_law_767 : decode cL_law 767 = .ok (.iload 17, 2) := by decide +kernel
theorem dL_law_769 : decode cL_law 769 = .ok (.iconst 4, 1) := by decide +kernel
theorem dL_law_770 : decode cL_law 770 = .ok (.iadd, 1) := by decide +kernel
theorem dL_law_771 : decode cL_law 771 = .ok (.aload 8, 2) := by decide +kernel
theorem dL_law_773 : decode cL_law 773 = .ok (.iconst 3, 1) := by decide +kernel
theorem dL_law_774 : decode cL_law 774 = .ok (.iaload, 1) := by decide +kernel
theorem dL_law_775 : decode cL_law 775 = .ok (.iastore, 1) := by decide +kernel
theorem dL_law_776 : decode cL_law 776 = .ok (.aload_n 3, 1) := by decide +kernel
theorem dL_law_777 : decode cL_law 777 = .ok (.iconst 2, 1) := by decide +kernel
theorem dL_law_778 : decode cL_law 778 = .ok (.iload 14, 2) := by decide +kernel
theorem dL_law_780 : decode cL_law 780 = .ok (.imul, 1) := by decide +kernel
theorem dL_law_781 : decode cL_law 781 = .ok (.iconst 1, 1) := by decide +kernel
theorem dL_law_782 : decode cL_law 782 = .ok (.iadd, 1) := by decide +kernel
theorem dL_law_783 : decode cL_law 783 = .ok (.iconst 1, 1) := by decide +kernel
theorem dL_law_784 : decode cL_law 784 = .ok (.iastore, 1) := by decide +kernel
theorem dL_law_785 : decode cL_law 785 = .ok (.aload 8, 2) := by decide +kernel
theorem dL_law_787 : decode cL_law 787 = .ok (.iconst 2, 1) := by decide +kernel
theorem dL_law_788 : decode cL_law 788 = .ok (.dup2, 1) := by decide +kernel
theorem dL_law_789 : decode cL_law 789 = .ok (.iaload, 1) := by decide +kernel
theorem dL_law_790 : decode cL_law 790 = .ok (.iconst 1, 1) := by decide +kernel
theorem dL_law_791 : decode cL_law 791 = .ok (.iadd, 1) := by decide +kernel
theorem dL_law_792 : decode cL_law 792 = .ok (.iastore, 1) := by decide +kernel
theorem dL_law_793 : decode cL_law 793 = .ok (.aload_n 1, 1) := by decide +kernel
theorem dL_law_794 : decode cL_law 794 = .ok (.iload 14, 2) := by decide +kernel
theorem dL_law_796 : decode cL_law 796 = .ok (.iload 13, 2) := by decide +kernel
theorem dL_law_798 : decode cL_law 798 = .ok (.invokevirtual 27, 3) := by decide +kernel
theorem dL_law_801 : decode cL_law 801 = .ok (.aload 8, 2) := by decide +kernel
theorem dL_law_803 : decode cL_law 803 = .ok (.iconst 2, 1) := by decide +kernel
theorem dL_law_804 : decode cL_law 804 = .ok (.iaload, 1) := by decide +kernel
theorem dL_law_805 : decode cL_law 805 = .ok (.iconst 1, 1) := by decide +kernel
theorem dL_law_806 : decode cL_law 806 = .ok (.isub, 1) := by decide +kernel
theorem dL_law_807 : decode cL_law 807 = .ok (.if_icmp .eq 5, 3) := by decide +kernel
theorem dL_law_810 : decode cL_law 810 = .ok (.iconst 0, 1) := by decide +kernel
theorem dL_law_811 : decode cL_law 811 = .ok (.ireturn, 1) := by decide +kernel
theorem dL_law_812 : decode cL_law 812 = .ok (.goto 796, 3) := by decide +kernel
theorem dL_law_815 : decode cL_law 815 = .ok (.iload 12, 2) := by decide +kernel
theorem dL_law_817 : decode cL_law 817 = .ok (.bipush 17, 2) := by decide +kernel
theorem dL_law_819 : decode cL_law 819 = .ok (.if_icmp .ge 722, 3) := by decide +kernel
theorem dL_law_822 : decode cL_law 822 = .ok (.iload 12, 2) := by decide +kernel
theorem dL_law_824 : decode cL_law 824 = .ok (.bipush 14, 2) := by decide +kernel
theorem dL_law_826 : decode cL_law 826 = .ok (.if_icmp .le 7, 3) := by decide +kernel
theorem dL_law_829 : decode cL_law 829 = .ok (.iconst 1, 1) := by decide +kernel
theorem dL_law_830 : decode cL_law 830 = .ok (.goto 4, 3) := by decide +kernel
theorem dL_law_833 : decode cL_law 833 = .ok (.iconst 0, 1) := by decide +kernel
theorem dL_law_834 : decode cL_law 834 = .ok (.istore 16, 2) := by decide +kernel
theorem dL_law_836 : decode cL_law 836 = .ok (.bipush 9, 2) := by decide +kernel
theorem dL_law_838 : decode cL_law 838 = .ok (.iload 15, 2) := by decide +kernel
theorem dL_law_840 : decode cL_law 840 = .ok (.imul, 1) := by decide +kernel
theorem dL_law_841 : decode cL_law 841 = .ok (.istore 17, 2) := by decide +kernel
theorem dL_law_843 : decode cL_law 843 = .ok (.aload 8, 2) := by decide +kernel
theorem dL_law_845 : decode cL_law 845 = .ok (.iconst 2, 1) := by decide +kernel
theorem dL_law_846 : decode cL_law 846 = .ok (.iaload, 1) := by decide +kernel
theorem dL_law_847 : decode cL_law 847 = .ok (.ifCond .eq 28, 3) := by decide +kernel
theorem dL_law_850 : decode cL_law 850 = .ok (.aload 5, 2) := by decide +kernel
theorem dL_law_852 : decode cL_law 852 = .ok (.iload 17, 2) := by decide +kernel
theorem dL_law_854 : decode cL_law 854 = .ok (.iconst 3, 1) := by decide +kernel
theorem dL_law_855 : decode cL_law 855 = .ok (.iadd, 1) := by decide +kernel
theorem dL_law_856 : decode cL_law 856 = .ok (.iaload, 1) := by decide +kernel
theorem dL_law_857 : decode cL_law 857 = .ok (.iconst 3, 1) := by decide +kernel
theorem dL_law_858 : decode cL_law 858 = .ok (.if_icmp .eq 17, 3) := by decide +kernel
theorem dL_law_861 : decode cL_law 861 = .ok (.aload 8, 2) := by decide +kernel
theorem dL_law_863 : decode cL_law 863 = .ok (.iconst 3, 1) := by decide +kernel
theorem dL_law_864 : decode cL_law 864 = .ok (.iaload, 1) := by decide +kernel
theorem dL_law_865 : decode cL_law 865 = .ok (.aload 5, 2) := by decide +kernel
theorem dL_law_867 : decode cL_law 867 = .ok (.iload 15, 2) := by decide +kernel
theorem dL_law_869 : decode cL_law 869 = .ok (.invokestatic 68, 3) := by decide +kernel
theorem dL_law_872 : decode cL_law 872 = .ok (.if_icmp .ge 7, 3) := by decide +kernel
theorem dL_law_875 : decode cL_law 875 = .ok (.iconst 0, 1) := by decide +kernel
theorem dL_law_876 : decode cL_law 876 = .ok (.goto 15, 3) := by decide +kernel
theorem dL_law_879 : decode cL_law 879 = .ok (.aload 8, 2) := by decide +kernel
theorem dL_law_881 : decode cL_law 881 = .ok (.iconst 3, 1) := by decide +kernel
theorem dL_law_882 : decode cL_law 882 = .ok (.iaload, 1) := by decide +kernel
theorem dL_law_883 : decode cL_law 883 = .ok (.aload 5, 2) := by decide +kernel
theorem dL_law_885 : decode cL_law 885 = .ok (.iload 15, 2) := by decide +kernel
theorem dL_law_887 : decode cL_law 887 = .ok (.invokestatic 68, 3) := by decide +kernel
theorem dL_law_890 : decode cL_law 890 = .ok (.isub, 1) := by decide +kernel
theorem dL_law_891 : decode cL_law 891 = .ok (.istore 18, 2) := by decide +kernel
theorem dL_law_893 : decode cL_law 893 = .ok (.aload 8, 2) := by decide +kernel
theorem dL_law_895 : decode cL_law 895 = .ok (.iconst 2, 1) := by decide +kernel
theorem dL_law_896 : decode cL_law 896 = .ok (.iaload, 1) := by decide +kernel
theorem dL_law_897 : decode cL_law 897 = .ok (.ifCond .ne 7, 3) := by decide +kernel
theorem dL_law_900 : decode cL_law 900 = .ok (.iconst 1, 1) := by decide +kernel
theorem dL_law_901 : decode cL_law 901 = .ok (.goto 31, 3) := by decide +kernel
theorem dL_law_904 : decode cL_law 904 = .ok (.aload 5, 2) := by decide +kernel
theorem dL_law_906 : decode cL_law 906 = .ok (.iload 17, 2) := by decide +kernel
theorem dL_law_908 : decode cL_law 908 = .ok (.iconst 3, 1) := by decide +kernel
theorem dL_law_909 : decode cL_law 909 = .ok (.iadd, 1) := by decide +kernel
theorem dL_law_910 : decode cL_law 910 = .ok (.iaload, 1) := by decide +kernel
theorem dL_law_911 : decode cL_law 911 = .ok (.iconst 3, 1) := by decide +kernel
theorem dL_law_912 : decode cL_law 912 = .ok (.if_icmp .eq 15, 3) := by decide +kernel
theorem dL_law_915 : decode cL_law 915 = .ok (.iload 16, 2) := by decide +kernel
theorem dL_law_917 : decode cL_law 917 = .ok (.ifCond .eq 14, 3) := by decide +kernel
theorem dL_law_920 : decode cL_law 920 = .ok (.iload 18, 2) := by decide +kernel
theorem dL_law_922 : decode cL_law 922 = .ok (.bipush 11, 2) := by decide +kernel
theorem dL_law_924 : decode cL_law 924 = .ok (.if_icmp .ge 7, 3) := by decide +kernel
theorem dL_law_927 : decode cL_law 927 = .ok (.iconst 3, 1) := by decide +kernel
theorem dL_law_928 : decode cL_law 928 = .ok (.goto 4, 3) := by decide +kernel
theorem dL_law_931 : decode cL_law 931 = .ok (.iconst 0, 1) := by decide +kernel
theorem dL_law_932 : decode cL_law 932 = .ok (.istore 19, 2) := by decide +kernel
theorem dL_law_934 : decode cL_law 934 = .ok (.aload 5, 2) := by decide +kernel
theorem dL_law_936 : decode cL_law 936 = .ok (.iload 17, 2) := by decide +kernel
theorem dL_law_938 : decode cL_law 938 = .ok (.iconst 3, 1) := by decide +kernel
theorem dL_law_939 : decode cL_law 939 = .ok (.iadd, 1) := by decide +kernel
theorem dL_law_940 : decode cL_law 940 = .ok (.iaload, 1) := by decide +kernel
theorem dL_law_941 : decode cL_law 941 = .ok (.istore 20, 2) := by decide +kernel
theorem dL_law_943 : decode cL_law 943 = .ok (.iload 19, 2) := by decide +kernel
theorem dL_law_945 : decode cL_law 945 = .ok (.ifCond .ne 123, 3) := by decide +kernel
theorem dL_law_948 : decode cL_law 948 = .ok (.iload 20, 2) := by decide +kernel
theorem dL_law_950 : decode cL_law 950 = .ok (.iconst 2, 1) := by decide +kernel
theorem dL_law_951 : decode cL_law 951 = .ok (.if_icmp .ne 117, 3) := by decide +kernel
theorem dL_law_954 : decode cL_law 954 = .ok (.iload 16, 2) := by decide +kernel
theorem dL_law_956 : decode cL_law 956 = .ok (.ifCond .eq 10, 3) := by decide +kernel
theorem dL_law_959 : decode cL_law 959 = .ok (.aload 8, 2) := by decide +kernel
theorem dL_law_961 : decode cL_law 961 = .ok (.iconst 4, 1) := by decide +kernel
theorem dL_law_962 : decode cL_law 962 = .ok (.iaload, 1) := by decide +kernel
theorem dL_law_963 : decode cL_law 963 = .ok (.goto 18, 3) := by decide +kernel
theorem dL_law_966 : decode cL_law 966 = .ok (.aload_n 2, 1) := by decide +kernel
theorem dL_law_967 : decode cL_law 967 = .ok (.aload 5, 2) := by decide +kernel
theorem dL_law_969 : decode cL_law 969 = .ok (.iload 17, 2) := by decide +kernel
theorem dL_law_971 : decode cL_law 971 = .ok (.iconst 2, 1) := by decide +kernel
theorem dL_law_972 : decode cL_law 972 = .ok (.iadd, 1) := by decide +kernel
theorem dL_law_973 : decode cL_law 973 = .ok (.iaload, 1) := by decide +kernel
theorem dL_law_974 : decode cL_law 974 = .ok (.aload 8, 2) := by decide +kernel
theorem dL_law_976 : decode cL_law 976 = .ok (.iconst 3, 1) := by decide +kernel
theorem dL_law_977 : decode cL_law 977 = .ok (.iaload, 1) := by decide +kernel
theorem dL_law_978 : decode cL_law 978 = .ok (.invokestatic 10, 3) := by decide +kernel
theorem dL_law_981 : decode cL_law 981 = .ok (.istore 21, 2) := by decide +kernel
theorem dL_law_983 : decode cL_law 983 = .ok (.aload 6, 2) := by decide +kernel
theorem dL_law_985 : decode cL_law 985 = .ok (.iconst 4, 1) := by decide +kernel
theorem dL_law_986 : decode cL_law 986 = .ok (.iload 15, 2) := by decide +kernel
theorem dL_law_988 : decode cL_law 988 = .ok (.imul, 1) := by decide +kernel
theorem dL_law_989 : decode cL_law 989 = .ok (.iconst 1, 1) := by decide +kernel
theorem dL_law_990 : decode cL_law 990 = .ok (.iadd, 1) := by decide +kernel
theorem dL_law_991 : decode cL_law 991 = .ok (.laload, 1) := by decide +kernel
theorem dL_law_992 : decode cL_law 992 = .ok (.ldc2_w 16, 3) := by decide +kernel
theorem dL_law_995 : decode cL_law 995 = .ok (.lmul, 1) := by decide +kernel
theorem dL_law_996 : decode cL_law 996 = .ok (.iload 21, 2) := by decide +kernel
theorem dL_law_998 : decode cL_law 998 = .ok (.i2l, 1) := by decide +kernel
theorem dL_law_999 : decode cL_law 999 = .ok (.ldiv, 1) := by decide +kernel
theorem dL_law_1000 : decode cL_law 1000 = .ok (.lstore 22, 2) := by decide +kernel
theorem dL_law_1002 : decode cL_law 1002 = .ok (.aload 5, 2) := by decide +kernel
theorem dL_law_1004 : decode cL_law 1004 = .ok (.iload 17, 2) := by decide +kernel
theorem dL_law_1006 : decode cL_law 1006 = .ok (.bipush 7, 2) := by decide +kernel
theorem dL_law_1008 : decode cL_law 1008 = .ok (.iadd, 1) := by decide +kernel
theorem dL_law_1009 : decode cL_law 1009 = .ok (.iaload, 1) := by decide +kernel
theorem dL_law_1010 : decode cL_law 1010 = .ok (.aload 5, 2) := by decide +kernel
theorem dL_law_1012 : decode cL_law 1012 = .ok (.iload 17, 2) := by decide +kernel
theorem dL_law_1014 : decode cL_law 1014 = .ok (.bipush 8, 2) := by decide +kernel
theorem dL_law_1016 : decode cL_law 1016 = .ok (.iadd, 1) := by decide +kernel
theorem dL_law_1017 : decode cL_law 1017 = .ok (.iaload, 1) := by decide +kernel
theorem dL_law_1018 : decode cL_law 1018 = .ok (.iadd, 1) := by decide +kernel
theorem dL_law_1019 : decode cL_law 1019 = .ok (.iload 18, 2) := by decide +kernel
theorem dL_law_1021 : decode cL_law 1021 = .ok (.iadd, 1) := by decide +kernel
theorem dL_law_1022 : decode cL_law 1022 = .ok (.ifCond .le 22, 3) := by decide +kernel
theorem dL_law_1025 : decode cL_law 1025 = .ok (.aload_n 2, 1) := by decide +kernel
theorem dL_law_1026 : decode cL_law 1026 = .ok (.aload 5, 2) := by decide +kernel
theorem dL_law_1028 : decode cL_law 1028 = .ok (.aload 6, 2) := by decide +kernel
theorem dL_law_1030 : decode cL_law 1030 = .ok (.iload 15, 2) := by decide +kernel
theorem dL_law_1032 : decode cL_law 1032 = .ok (.aload 8, 2) := by decide +kernel
theorem dL_law_1034 : decode cL_law 1034 = .ok (.iconst 3, 1) := by decide +kernel
theorem dL_law_1035 : decode cL_law 1035 = .ok (.iaload, 1) := by decide +kernel
theorem dL_law_1036 : decode cL_law 1036 = .ok (.iload 18, 2) := by decide +kernel
theorem dL_law_1038 : decode cL_law 1038 = .ok (.invokestatic 102, 3) := by decide +kernel
theorem dL_law_1041 : decode cL_law 1041 = .ok (.goto 4, 3) := by decide +kernel
theorem dL_law_1044 : decode cL_law 1044 = .ok (.lconst 0, 1) := by decide +kernel
theorem dL_law_1045 : decode cL_law 1045 = .ok (.lstore 24, 2) := by decide +kernel
theorem dL_law_1047 : decode cL_law 1047 = .ok (.lload 22, 2) := by decide +kernel
theorem dL_law_1049 : decode cL_law 1049 = .ok (.ldc2_w 100, 3) := by decide +kernel
theorem dL_law_1052 : decode cL_law 1052 = .ok (.lcmp, 1) := by decide +kernel
theorem dL_law_1053 : decode cL_law 1053 = .ok (.ifCond .gt 12, 3) := by decide +kernel
theorem dL_law_1056 : decode cL_law 1056 = .ok (.lload 24, 2) := by decide +kernel
theorem dL_law_1058 : decode cL_law 1058 = .ok (.ldc2_w 100, 3) := by decide +kernel
theorem dL_law_1061 : decode cL_law 1061 = .ok (.lcmp, 1) := by decide +kernel
theorem dL_law_1062 : decode cL_law 1062 = .ok (.ifCond .le 6, 3) := by decide +kernel
theorem dL_law_1065 : decode cL_law 1065 = .ok (.iconst 3, 1) := by decide +kernel
theorem dL_law_1066 : decode cL_law 1066 = .ok (.istore 19, 2) := by decide +kernel
theorem dL_law_1068 : decode cL_law 1068 = .ok (.iload 19, 2) := by decide +kernel
theorem dL_law_1070 : decode cL_law 1070 = .ok (.ifCond .le 27, 3) := by decide +kernel
theorem dL_law_1073 : decode cL_law 1073 = .ok (.aload_n 1, 1) := by decide +kernel
theorem dL_law_1074 : decode cL_law 1074 = .ok (.iload 16, 2) := by decide +kernel
theorem dL_law_1076 : decode cL_law 1076 = .ok (.ifCond .eq 7, 3) := by decide +kernel
theorem dL_law_1079 : decode cL_law 1079 = .ok (.iconst 1, 1) := by decide +kernel
theorem dL_law_1080 : decode cL_law 1080 = .ok (.goto 4, 3) := by decide +kernel
theorem dL_law_1083 : decode cL_law 1083 = .ok (.iconst 0, 1) := by decide +kernel
theorem dL_law_1084 : decode cL_law 1084 = .ok (.iload 15, 2) := by decide +kernel
theorem dL_law_1086 : decode cL_law 1086 = .ok (.iconst 0, 1) := by decide +kernel
theorem dL_law_1087 : decode cL_law 1087 = .ok (.invokestatic 64, 3) := by decide +kernel
theorem dL_law_1090 : decode cL_law 1090 = .ok (.iload 19, 2) := by decide +kernel
theorem dL_law_1092 : decode cL_law 1092 = .ok (.if_icmp .eq 551, 3) := by decide +kernel
theorem dL_law_1095 : decode cL_law 1095 = .ok (.iconst 0, 1) := by decide +kernel
theorem dL_law_1096 : decode cL_law 1096 = .ok (.ireturn, 1) := by decide +kernel
theorem dL_law_1097 : decode cL_law 1097 = .ok (.iload 20, 2) := by decide +kernel
theorem dL_law_1099 : decode cL_law 1099 = .ok (.ifCond .ne 27, 3) := by decide +kernel
theorem dL_law_1102 : decode cL_law 1102 = .ok (.aload 5, 2) := by decide +kernel
theorem dL_law_1104 : decode cL_law 1104 = .ok (.iload 17, 2) := by decide +kernel
theorem dL_law_1106 : decode cL_law 1106 = .ok (.iconst 5, 1) := by decide +kernel
theorem dL_law_1107 : decode cL_law 1107 = .ok (.iadd, 1) := by decide +kernel
theorem dL_law_1108 : decode cL_law 1108 = .ok (.aload 8, 2) := by decide +kernel
theorem dL_law_1110 : decode cL_law 1110 = .ok (.iconst 3, 1) := by decide +kernel
theorem dL_law_1111 : decode cL_law 1111 = .ok (.iaload, 1) := by decide +kernel
theorem dL_law_1112 : decode cL_law 1112 = .ok (.iastore, 1) := by decide +kernel
theorem dL_law_1113 : decode cL_law 1113 = .ok (.aload 5, 2) := by decide +kernel
theorem dL_law_1115 : decode cL_law 1115 = .ok (.iload 17, 2) := by decide +kernel
theorem dL_law_1117 : decode cL_law 1117 = .ok (.bipush 7, 2) := by decide +kernel
theorem dL_law_1119 : decode cL_law 1119 = .ok (.iadd, 1) := by decide +kernel
theorem dL_law_1120 : decode cL_law 1120 = .ok (.iload 18, 2) := by decide +kernel
theorem dL_law_1122 : decode cL_law 1122 = .ok (.iastore, 1) := by decide +kernel
theorem dL_law_1123 : decode cL_law 1123 = .ok (.goto 377, 3) := by decide +kernel
theorem dL_law_1126 : decode cL_law 1126 = .ok (.iload 20, 2) := by decide +kernel
theorem dL_law_1128 : decode cL_law 1128 = .ok (.iconst 1, 1) := by decide +kernel
theorem dL_law_1129 : decode cL_law 1129 = .ok (.if_icmp .ne 102, 3) := by decide +kernel
theorem dL_law_1132 : decode cL_law 1132 = .ok (.aload 6, 2) := by decide +kernel
theorem dL_law_1134 : decode cL_law 1134 = .ok (.iconst 4, 1) := by decide +kernel
theorem dL_law_1135 : decode cL_law 1135 = .ok (.iload 15, 2) := by decide +kernel
theorem dL_law_1137 : decode cL_law 1137 = .ok (.imul, 1) := by decide +kernel
theorem dL_law_1138 : decode cL_law 1138 = .ok (.aload 4, 2) := by decide +kernel
theorem dL_law_1140 : decode cL_law 1140 = .ok (.aload 5, 2) := by decide +kernel
theorem dL_law_1142 : decode cL_law 1142 = .ok (.iload 17, 2) := by decide +kernel
theorem dL_law_1144 : decode cL_law 1144 = .ok (.iaload, 1) := by decide +kernel
theorem dL_law_1145 : decode cL_law 1145 = .ok (.laload, 1) := by decide +kernel
theorem dL_law_1146 : decode cL_law 1146 = .ok (.lastore, 1) := by decide +kernel
theorem dL_law_1147 : decode cL_law 1147 = .ok (.aload 6, 2) := by decide +kernel
theorem dL_law_1149 : decode cL_law 1149 = .ok (.iconst 4, 1) := by decide +kernel
theorem dL_law_1150 : decode cL_law 1150 = .ok (.iload 15, 2) := by decide +kernel
theorem dL_law_1152 : decode cL_law 1152 = .ok (.imul, 1) := by decide +kernel
theorem dL_law_1153 : decode cL_law 1153 = .ok (.iconst 1, 1) := by decide +kernel
theorem dL_law_1154 : decode cL_law 1154 = .ok (.iadd, 1) := by decide +kernel
theorem dL_law_1155 : decode cL_law 1155 = .ok (.aload 4, 2) := by decide +kernel
theorem dL_law_1157 : decode cL_law 1157 = .ok (.aload 5, 2) := by decide +kernel
theorem dL_law_1159 : decode cL_law 1159 = .ok (.iload 17, 2) := by decide +kernel
theorem dL_law_1161 : decode cL_law 1161 = .ok (.iaload, 1) := by decide +kernel
theorem dL_law_1162 : decode cL_law 1162 = .ok (.laload, 1) := by decide +kernel
theorem dL_law_1163 : decode cL_law 1163 = .ok (.iload 16, 2) := by decide +kernel
theorem dL_law_1165 : decode cL_law 1165 = .ok (.ifCond .eq 10, 3) := by decide +kernel
theorem dL_law_1168 : decode cL_law 1168 = .ok (.aload 8, 2) := by decide +kernel
theorem dL_law_1170 : decode cL_law 1170 = .ok (.iconst 4, 1) := by decide +kernel
theorem dL_law_1171 : decode cL_law 1171 = .ok (.iaload, 1) := by decide +kernel
theorem dL_law_1172 : decode cL_law 1172 = .ok (.goto 18, 3) := by decide +kernel
theorem dL_law_1175 : decode cL_law 1175 = .ok (.aload_n 2, 1) := by decide +kernel
theorem dL_law_1176 : decode cL_law 1176 = .ok (.aload 5, 2) := by decide +kernel
theorem dL_law_1178 : decode cL_law 1178 = .ok (.iload 17, 2) := by decide +kernel
theorem dL_law_1180 : decode cL_law 1180 = .ok (.iconst 1, 1) := by decide +kernel
theorem dL_law_1181 : decode cL_law 1181 = .ok (.iadd, 1) := by decide +kernel
theorem dL_law_1182 : decode cL_law 1182 = .ok (.iaload, 1) := by decide +kernel
theorem dL_law_1183 : decode cL_law 1183 = .ok (.aload 8, 2) := by decide +kernel
theorem dL_law_1185 : decode cL_law 1185 = .ok (.iconst 3, 1) := by decide +kernel
theorem dL_law_1186 : decode cL_law 1186 = .ok (.iaload, 1) := by decide +kernel
theorem dL_law_1187 : decode cL_law 1187 = .ok (.invokestatic 10, 3) := by decide +kernel
theorem dL_law_1190 : decode cL_law 1190 = .ok (.i2l, 1) := by decide +kernel
theorem dL_law_1191 : decode cL_law 1191 = .ok (.lmul, 1) := by decide +kernel
theorem dL_law_1192 : decode cL_law 1192 = .ok (.ldc2_w 16, 3) := by decide +kernel
theorem dL_law_1195 : decode cL_law 1195 = .ok (.ldiv, 1) := by decide +kernel
theorem dL_law_1196 : decode cL_law 1196 = .ok (.lastore, 1) := by decide +kernel
theorem dL_law_1197 : decode cL_law 1197 = .ok (.aload 4, 2) := by decide +kernel
theorem dL_law_1199 : decode cL_law 1199 = .ok (.aload 5, 2) := by decide +kernel
theorem dL_law_1201 : decode cL_law 1201 = .ok (.iload 17, 2) := by decide +kernel
theorem dL_law_1203 : decode cL_law 1203 = .ok (.iaload, 1) := by decide +kernel
theorem dL_law_1204 : decode cL_law 1204 = .ok (.lconst 0, 1) := by decide +kernel
theorem dL_law_1205 : decode cL_law 1205 = .ok (.lastore, 1) := by decide +kernel
theorem dL_law_1206 : decode cL_law 1206 = .ok (.aload 5, 2) := by decide +kernel
theorem dL_law_1208 : decode cL_law 1208 = .ok (.iload 17, 2) := by decide +kernel
theorem dL_law_1210 : decode cL_law 1210 = .ok (.bipush 6, 2) := by decide +kernel
theorem dL_law_1212 : decode cL_law 1212 = .ok (.iadd, 1) := by decide +kernel
theorem dL_law_1213 : decode cL_law 1213 = .ok (.aload 8, 2) := by decide +kernel
theorem dL_law_1215 : decode cL_law 1215 = .ok (.iconst 3, 1) := by decide +kernel
theorem dL_law_1216 : decode cL_law 1216 = .ok (.iaload, 1) := by decide +kernel
theorem dL_law_1217 : decode cL_law 1217 = .ok (.iastore, 1) := by decide +kernel
theorem dL_law_1218 : decode cL_law 1218 = .ok (.aload 5, 2) := by decide +kernel
theorem dL_law_1220 : decode cL_law 1220 = .ok (.iload 17, 2) := by decide +kernel
theorem dL_law_1222 : decode cL_law 1222 = .ok (.bipush 8, 2) := by decide +kernel
theorem dL_law_1224 : decode cL_law 1224 = .ok (.iadd, 1) := by decide +kernel
theorem dL_law_1225 : decode cL_law 1225 = .ok (.iload 18, 2) := by decide +kernel
theorem dL_law_1227 : decode cL_law 1227 = .ok (.iastore, 1) := by decide +kernel
theorem dL_law_1228 : decode cL_law 1228 = .ok (.goto 272, 3) := by decide +kernel
theorem dL_law_1231 : decode cL_law 1231 = .ok (.aload 6, 2) := by decide +kernel
theorem dL_law_1233 : decode cL_law 1233 = .ok (.iconst 4, 1) := by decide +kernel
theorem dL_law_1234 : decode cL_law 1234 = .ok (.iload 15, 2) := by decide +kernel
theorem dL_law_1236 : decode cL_law 1236 = .ok (.imul, 1) := by decide +kernel
theorem dL_law_1237 : decode cL_law 1237 = .ok (.iconst 1, 1) := by decide +kernel
theorem dL_law_1238 : decode cL_law 1238 = .ok (.iadd, 1) := by decide +kernel
theorem dL_law_1239 : decode cL_law 1239 = .ok (.laload, 1) := by decide +kernel
theorem dL_law_1240 : decode cL_law 1240 = .ok (.ldc2_w 16, 3) := by decide +kernel
theorem dL_law_1243 : decode cL_law 1243 = .ok (.lmul, 1) := by decide +kernel
theorem dL_law_1244 : decode cL_law 1244 = .ok (.iload 16, 2) := by decide +kernel
theorem dL_law_1246 : decode cL_law 1246 = .ok (.ifCond .eq 10, 3) := by decide +kernel
theorem dL_law_1249 : decode cL_law 1249 = .ok (.aload 8, 2) := by decide +kernel
theorem dL_law_1251 : decode cL_law 1251 = .ok (.iconst 4, 1) := by decide +kernel
theorem dL_law_1252 : decode cL_law 1252 = .ok (.iaload, 1) := by decide +kernel
theorem dL_law_1253 : decode cL_law 1253 = .ok (.goto 18, 3) := by decide +kernel
theorem dL_law_1256 : decode cL_law 1256 = .ok (.aload_n 2, 1) := by decide +kernel
theorem dL_law_1257 : decode cL_law 1257 = .ok (.aload 5, 2) := by decide +kernel
theorem dL_law_1259 : decode cL_law 1259 = .ok (.iload 17, 2) := by decide +kernel
theorem dL_law_1261 : decode cL_law 1261 = .ok (.iconst 2, 1) := by decide +kernel
theorem dL_law_1262 : decode cL_law 1262 = .ok (.iadd, 1) := by decide +kernel
theorem dL_law_1263 : decode cL_law 1263 = .ok (.iaload, 1) := by decide +kernel
theorem dL_law_1264 : decode cL_law 1264 = .ok (.aload 8, 2) := by decide +kernel
theorem dL_law_1266 : decode cL_law 1266 = .ok (.iconst 3, 1) := by decide +kernel
theorem dL_law_1267 : decode cL_law 1267 = .ok (.iaload, 1) := by decide +kernel
theorem dL_law_1268 : decode cL_law 1268 = .ok (.invokestatic 10, 3) := by decide +kernel
theorem dL_law_1271 : decode cL_law 1271 = .ok (.i2l, 1) := by decide +kernel
theorem dL_law_1272 : decode cL_law 1272 = .ok (.ldiv, 1) := by decide +kernel
theorem dL_law_1273 : decode cL_law 1273 = .ok (.lstore 21, 2) := by decide +kernel
theorem dL_law_1275 : decode cL_law 1275 = .ok (.aload 5, 2) := by decide +kernel
theorem dL_law_1277 : decode cL_law 1277 = .ok (.iload 17, 2) := by decide +kernel
theorem dL_law_1279 : decode cL_law 1279 = .ok (.bipush 7, 2) := by decide +kernel
theorem dL_law_1281 : decode cL_law 1281 = .ok (.iadd, 1) := by decide +kernel
theorem dL_law_1282 : decode cL_law 1282 = .ok (.iaload, 1) := by decide +kernel
theorem dL_law_1283 : decode cL_law 1283 = .ok (.aload 5, 2) := by decide +kernel
theorem dL_law_1285 : decode cL_law 1285 = .ok (.iload 17, 2) := by decide +kernel
theorem dL_law_1287 : decode cL_law 1287 = .ok (.bipush 8, 2) := by decide +kernel
theorem dL_law_1289 : decode cL_law 1289 = .ok (.iadd, 1) := by decide +kernel
theorem dL_law_1290 : decode cL_law 1290 = .ok (.iaload, 1) := by decide +kernel
theorem dL_law_1291 : decode cL_law 1291 = .ok (.iadd, 1) := by decide +kernel
theorem dL_law_1292 : decode cL_law 1292 = .ok (.istore 23, 2) := by decide +kernel
theorem dL_law_1294 : decode cL_law 1294 = .ok (.iload 23, 2) := by decide +kernel
theorem dL_law_1296 : decode cL_law 1296 = .ok (.iload 18, 2) := by decide +kernel
theorem dL_law_1298 : decode cL_law 1298 = .ok (.iadd, 1) := by decide +kernel
theorem dL_law_1299 : decode cL_law 1299 = .ok (.ifCond .le 22, 3) := by decide +kernel
theorem dL_law_1302 : decode cL_law 1302 = .ok (.aload_n 2, 1) := by decide +kernel
theorem dL_law_1303 : decode cL_law 1303 = .ok (.aload 5, 2) := by decide +kernel
theorem dL_law_1305 : decode cL_law 1305 = .ok (.aload 6, 2) := by decide +kernel
theorem dL_law_1307 : decode cL_law 1307 = .ok (.iload 15, 2) := by decide +kernel
theorem dL_law_1309 : decode cL_law 1309 = .ok (.aload 8, 2) := by decide +kernel
theorem dL_law_1311 : decode cL_law 1311 = .ok (.iconst 3, 1) := by decide +kernel
theorem dL_law_1312 : decode cL_law 1312 = .ok (.iaload, 1) := by decide +kernel
theorem dL_law_1313 : decode cL_law 1313 = .ok (.iload 18, 2) := by decide +kernel
theorem dL_law_1315 : decode cL_law 1315 = .ok (.invokestatic 102, 3) := by decide +kernel
theorem dL_law_1318 : decode cL_law 1318 = .ok (.goto 4, 3) := by decide +kernel
theorem dL_law_1321 : decode cL_law 1321 = .ok (.lconst 0, 1) := by decide +kernel
theorem dL_law_1322 : decode cL_law 1322 = .ok (.lstore 24, 2) := by decide +kernel
theorem dL_law_1324 : decode cL_law 1324 = .ok (.lload 24, 2) := by decide +kernel
theorem dL_law_1326 : decode cL_law 1326 = .ok (.lload 21, 2) := by decide +kernel
theorem dL_law_1328 : decode cL_law 1328 = .ok (.lcmp, 1) := by decide +kernel
theorem dL_law_1329 : decode cL_law 1329 = .ok (.ifCond .le 108, 3) := by decide +kernel
theorem dL_law_1332 : decode cL_law 1332 = .ok (.lload 24, 2) := by decide +kernel
theorem dL_law_1334 : decode cL_law 1334 = .ok (.lload 21, 2) := by decide +kernel
theorem dL_law_1336 : decode cL_law 1336 = .ok (.lsub, 1) := by decide +kernel
theorem dL_law_1337 : decode cL_law 1337 = .ok (.aload_n 2, 1) := by decide +kernel
theorem dL_law_1338 : decode cL_law 1338 = .ok (.aload 5, 2) := by decide +kernel
theorem dL_law_1340 : decode cL_law 1340 = .ok (.iload 17, 2) := by decide +kernel
theorem dL_law_1342 : decode cL_law 1342 = .ok (.iconst 2, 1) := by decide +kernel
theorem dL_law_1343 : decode cL_law 1343 = .ok (.iadd, 1) := by decide +kernel
theorem dL_law_1344 : decode cL_law 1344 = .ok (.iaload, 1) := by decide +kernel
theorem dL_law_1345 : decode cL_law 1345 = .ok (.aload 8, 2) := by decide +kernel
theorem dL_law_1347 : decode cL_law 1347 = .ok (.iconst 3, 1) := by decide +kernel
theorem dL_law_1348 : decode cL_law 1348 = .ok (.iaload, 1) := by decide +kernel
theorem dL_law_1349 : decode cL_law 1349 = .ok (.invokestatic 10, 3) := by decide +kernel
theorem dL_law_1352 : decode cL_law 1352 = .ok (.i2l, 1) := by decide +kernel
theorem dL_law_1353 : decode cL_law 1353 = .ok (.lmul, 1) := by decide +kernel
theorem dL_law_1354 : decode cL_law 1354 = .ok (.ldc2_w 16, 3) := by decide +kernel
theorem dL_law_1357 : decode cL_law 1357 = .ok (.invokestatic 106, 3) := by decide +kernel
theorem dL_law_1360 : decode cL_law 1360 = .ok (.lstore 26, 2) := by decide +kernel
theorem dL_law_1362 : decode cL_law 1362 = .ok (.lload 26, 2) := by decide +kernel
theorem dL_law_1364 : decode cL_law 1364 = .ok (.iload 23, 2) := by decide +kernel
theorem dL_law_1366 : decode cL_law 1366 = .ok (.i2l, 1) := by decide +kernel
theorem dL_law_1367 : decode cL_law 1367 = .ok (.lmul, 1) := by decide +kernel
theorem dL_law_1368 : decode cL_law 1368 = .ok (.iload 23, 2) := by decide +kernel
theorem dL_law_1370 : decode cL_law 1370 = .ok (.iload 18, 2) := by decide +kernel
theorem dL_law_1372 : decode cL_law 1372 = .ok (.iadd, 1) := by decide +kernel
theorem dL_law_1373 : decode cL_law 1373 = .ok (.i2l, 1) := by decide +kernel
theorem dL_law_1374 : decode cL_law 1374 = .ok (.ldiv, 1) := by decide +kernel
theorem dL_law_1375 : decode cL_law 1375 = .ok (.lstore 28, 2) := by decide +kernel
theorem dL_law_1377 : decode cL_law 1377 = .ok (.aload 6, 2) := by decide +kernel
theorem dL_law_1379 : decode cL_law 1379 = .ok (.iconst 4, 1) := by decide +kernel
theorem dL_law_1380 : decode cL_law 1380 = .ok (.iload 15, 2) := by decide +kernel
theorem dL_law_1382 : decode cL_law 1382 = .ok (.imul, 1) := by decide +kernel
theorem dL_law_1383 : decode cL_law 1383 = .ok (.iconst 2, 1) := by decide +kernel
theorem dL_law_1384 : decode cL_law 1384 = .ok (.iadd, 1) := by decide +kernel
theorem dL_law_1385 : decode cL_law 1385 = .ok (.lload 24, 2) := by decide +kernel
theorem dL_law_1387 : decode cL_law 1387 = .ok (.lload 21, 2) := by decide +kernel
theorem dL_law_1389 : decode cL_law 1389 = .ok (.lsub, 1) := by decide +kernel
theorem dL_law_1390 : decode cL_law 1390 = .ok (.lastore, 1) := by decide +kernel
theorem dL_law_1391 : decode cL_law 1391 = .ok (.aload 7, 2) := by decide +kernel
theorem dL_law_1393 : decode cL_law 1393 = .ok (.iconst 5, 1) := by decide +kernel
theorem dL_law_1394 : decode cL_law 1394 = .ok (.aload 5, 2) := by decide +kernel
theorem dL_law_1396 : decode cL_law 1396 = .ok (.iload 17, 2) := by decide +kernel
theorem dL_law_1398 : decode cL_law 1398 = .ok (.iconst 1, 1) := by decide +kernel
theorem dL_law_1399 : decode cL_law 1399 = .ok (.iadd, 1) := by decide +kernel
theorem dL_law_1400 : decode cL_law 1400 = .ok (.iaload, 1) := by decide +kernel
theorem dL_law_1401 : decode cL_law 1401 = .ok (.imul, 1) := by decide +kernel
theorem dL_law_1402 : decode cL_law 1402 = .ok (.aload 5, 2) := by decide +kernel
theorem dL_law_1404 : decode cL_law 1404 = .ok (.iload 17, 2) := by decide +kernel
theorem dL_law_1406 : decode cL_law 1406 = .ok (.iconst 2, 1) := by decide +kernel
theorem dL_law_1407 : decode cL_law 1407 = .ok (.iadd, 1) := by decide +kernel
theorem dL_law_1408 : decode cL_law 1408 = .ok (.iaload, 1) := by decide +kernel
theorem dL_law_1409 : decode cL_law 1409 = .ok (.iadd, 1) := by decide +kernel
theorem dL_law_1410 : decode cL_law 1410 = .ok (.dup2, 1) := by decide +kernel
theorem dL_law_1411 : decode cL_law 1411 = .ok (.laload, 1) := by decide +kernel
theorem dL_law_1412 : decode cL_law 1412 = .ok (.lload 28, 2) := by decide +kernel
theorem dL_law_1414 : decode cL_law 1414 = .ok (.ladd, 1) := by decide +kernel
theorem dL_law_1415 : decode cL_law 1415 = .ok (.lastore, 1) := by decide +kernel
theorem dL_law_1416 : decode cL_law 1416 = .ok (.aload 7, 2) := by decide +kernel
theorem dL_law_1418 : decode cL_law 1418 = .ok (.bipush 25, 2) := by decide +kernel
theorem dL_law_1420 : decode cL_law 1420 = .ok (.aload 5, 2) := by decide +kernel
theorem dL_law_1422 : decode cL_law 1422 = .ok (.iload 17, 2) := by decide +kernel
theorem dL_law_1424 : decode cL_law 1424 = .ok (.iconst 2, 1) := by decide +kernel
theorem dL_law_1425 : decode cL_law 1425 = .ok (.iadd, 1) := by decide +kernel
theorem dL_law_1426 : decode cL_law 1426 = .ok (.iaload, 1) := by decide +kernel
theorem dL_law_1427 : decode cL_law 1427 = .ok (.iadd, 1) := by decide +kernel
theorem dL_law_1428 : decode cL_law 1428 = .ok (.dup2, 1) := by decide +kernel
theorem dL_law_1429 : decode cL_law 1429 = .ok (.laload, 1) := by decide +kernel
theorem dL_law_1430 : decode cL_law 1430 = .ok (.lload 26, 2) := by decide +kernel
theorem dL_law_1432 : decode cL_law 1432 = .ok (.lload 28, 2) := by decide +kernel
theorem dL_law_1434 : decode cL_law 1434 = .ok (.lsub, 1) := by decide +kernel
theorem dL_law_1435 : decode cL_law 1435 = .ok (.ladd, 1) := by decide +kernel
theorem dL_law_1436 : decode cL_law 1436 = .ok (.lastore, 1) := by decide +kernel
theorem dL_law_1437 : decode cL_law 1437 = .ok (.aload 4, 2) := by decide +kernel
theorem dL_law_1439 : decode cL_law 1439 = .ok (.aload 5, 2) := by decide +kernel
theorem dL_law_1441 : decode cL_law 1441 = .ok (.iload 17, 2) := by decide +kernel
theorem dL_law_1443 : decode cL_law 1443 = .ok (.iaload, 1) := by decide +kernel
theorem dL_law_1444 : decode cL_law 1444 = .ok (.lload 24, 2) := by decide +kernel
theorem dL_law_1446 : decode cL_law 1446 = .ok (.lload 21, 2) := by decide +kernel
theorem dL_law_1448 : decode cL_law 1448 = .ok (.lcmp, 1) := by decide +kernel
theorem dL_law_1449 : decode cL_law 1449 = .ok (.ifCond .le 8, 3) := by decide +kernel
theorem dL_law_1452 : decode cL_law 1452 = .ok (.lload 24, 2) := by decide +kernel
theorem dL_law_1454 : decode cL_law 1454 = .ok (.goto 5, 3) := by decide +kernel
theorem dL_law_1457 : decode cL_law 1457 = .ok (.lload 21, 2) := by decide +kernel
theorem dL_law_1459 : decode cL_law 1459 = .ok (.lastore, 1) := by decide +kernel
theorem dL_law_1460 : decode cL_law 1460 = .ok (.aload_n 3, 1) := by decide +kernel
theorem dL_law_1461 : decode cL_law 1461 = .ok (.iconst 2, 1) := by decide +kernel
theorem dL_law_1462 : decode cL_law 1462 = .ok (.aload 5, 2) := by decide +kernel
theorem dL_law_1464 : decode cL_law 1464 = .ok (.iload 17, 2) := by decide +kernel
theorem dL_law_1466 : decode cL_law 1466 = .ok (.iaload, 1) := by decide +kernel
theorem dL_law_1467 : decode cL_law 1467 = .ok (.imul, 1) := by decide +kernel
theorem dL_law_1468 : decode cL_law 1468 = .ok (.aload 5, 2) := by decide +kernel
theorem dL_law_1470 : decode cL_law 1470 = .ok (.iload 17, 2) := by decide +kernel
theorem dL_law_1472 : decode cL_law 1472 = .ok (.iconst 2, 1) := by decide +kernel
theorem dL_law_1473 : decode cL_law 1473 = .ok (.iadd, 1) := by decide +kernel
theorem dL_law_1474 : decode cL_law 1474 = .ok (.iaload, 1) := by decide +kernel
theorem dL_law_1475 : decode cL_law 1475 = .ok (.iastore, 1) := by decide +kernel
theorem dL_law_1476 : decode cL_law 1476 = .ok (.aload_n 3, 1) := by decide +kernel
theorem dL_law_1477 : decode cL_law 1477 = .ok (.iconst 2, 1) := by decide +kernel
theorem dL_law_1478 : decode cL_law 1478 = .ok (.aload 5, 2) := by decide +kernel
theorem dL_law_1480 : decode cL_law 1480 = .ok (.iload 17, 2) := by decide +kernel
theorem dL_law_1482 : decode cL_law 1482 = .ok (.iaload, 1) := by decide +kernel
theorem dL_law_1483 : decode cL_law 1483 = .ok (.imul, 1) := by decide +kernel
theorem dL_law_1484 : decode cL_law 1484 = .ok (.iconst 1, 1) := by decide +kernel
theorem dL_law_1485 : decode cL_law 1485 = .ok (.iadd, 1) := by decide +kernel
theorem dL_law_1486 : decode cL_law 1486 = .ok (.iconst 0, 1) := by decide +kernel
theorem dL_law_1487 : decode cL_law 1487 = .ok (.iastore, 1) := by decide +kernel
theorem dL_law_1488 : decode cL_law 1488 = .ok (.aload 6, 2) := by decide +kernel
theorem dL_law_1490 : decode cL_law 1490 = .ok (.iconst 4, 1) := by decide +kernel
theorem dL_law_1491 : decode cL_law 1491 = .ok (.iload 15, 2) := by decide +kernel
theorem dL_law_1493 : decode cL_law 1493 = .ok (.imul, 1) := by decide +kernel
theorem dL_law_1494 : decode cL_law 1494 = .ok (.iconst 3, 1) := by decide +kernel
theorem dL_law_1495 : decode cL_law 1495 = .ok (.iadd, 1) := by decide +kernel
theorem dL_law_1496 : decode cL_law 1496 = .ok (.iload 18, 2) := by decide +kernel
theorem dL_law_1498 : decode cL_law 1498 = .ok (.i2l, 1) := by decide +kernel
theorem dL_law_1499 : decode cL_law 1499 = .ok (.lastore, 1) := by decide +kernel
theorem dL_law_1500 : decode cL_law 1500 = .ok (.aload 5, 2) := by decide +kernel
theorem dL_law_1502 : decode cL_law 1502 = .ok (.iload 17, 2) := by decide +kernel
theorem dL_law_1504 : decode cL_law 1504 = .ok (.iconst 3, 1) := by decide +kernel
theorem dL_law_1505 : decode cL_law 1505 = .ok (.iadd, 1) := by decide +kernel
theorem dL_law_1506 : decode cL_law 1506 = .ok (.dup2, 1) := by decide +kernel
theorem dL_law_1507 : decode cL_law 1507 = .ok (.iaload, 1) := by decide +kernel
theorem dL_law_1508 : decode cL_law 1508 = .ok (.iconst 1, 1) := by decide +kernel
theorem dL_law_1509 : decode cL_law 1509 = .ok (.iadd, 1) := by decide +kernel
theorem dL_law_1510 : decode cL_law 1510 = .ok (.iastore, 1) := by decide +kernel
theorem dL_law_1511 : decode cL_law 1511 = .ok (.iload 16, 2) := by decide +kernel
theorem dL_law_1513 : decode cL_law 1513 = .ok (.ifCond .eq 12, 3) := by decide +kernel
theorem dL_law_1516 : decode cL_law 1516 = .ok (.aload_n 1, 1) := by decide +kernel
theorem dL_law_1517 : decode cL_law 1517 = .ok (.iload 15, 2) := by decide +kernel
theorem dL_law_1519 : decode cL_law 1519 = .ok (.invokevirtual 24, 3) := by decide +kernel
theorem dL_law_1522 : decode cL_law 1522 = .ok (.goto 9, 3) := by decide +kernel
theorem dL_law_1525 : decode cL_law 1525 = .ok (.aload_n 1, 1) := by decide +kernel
theorem dL_law_1526 : decode cL_law 1526 = .ok (.iload 15, 2) := by decide +kernel
theorem dL_law_1528 : decode cL_law 1528 = .ok (.invokevirtual 18, 3) := by decide +kernel
theorem dL_law_1531 : decode cL_law 1531 = .ok (.iload 18, 2) := by decide +kernel
theorem dL_law_1533 : decode cL_law 1533 = .ok (.if_icmp .eq 5, 3) := by decide +kernel
theorem dL_law_1536 : decode cL_law 1536 = .ok (.iconst 0, 1) := by decide +kernel
theorem dL_law_1537 : decode cL_law 1537 = .ok (.ireturn, 1) := by decide +kernel
theorem dL_law_1538 : decode cL_law 1538 = .ok (.goto 70, 3) := by decide +kernel
theorem dL_law_1541 : decode cL_law 1541 = .ok (.iconst 1, 1) := by decide +kernel
theorem dL_law_1542 : decode cL_law 1542 = .ok (.iload 11, 2) := by decide +kernel
theorem dL_law_1544 : decode cL_law 1544 = .ok (.iload 10, 2) := by decide +kernel
theorem dL_law_1546 : decode cL_law 1546 = .ok (.bipush 9, 2) := by decide +kernel
theorem dL_law_1548 : decode cL_law 1548 = .ok (.ishr, 1) := by decide +kernel
theorem dL_law_1549 : decode cL_law 1549 = .ok (.iconst 2, 1) := by decide +kernel
theorem dL_law_1550 : decode cL_law 1550 = .ok (.invokestatic 86, 3) := by decide +kernel
theorem dL_law_1553 : decode cL_law 1553 = .ok (.ifCond .ne 7, 3) := by decide +kernel
theorem dL_law_1556 : decode cL_law 1556 = .ok (.iconst 4, 1) := by decide +kernel
theorem dL_law_1557 : decode cL_law 1557 = .ok (.goto 5, 3) := by decide +kernel
theorem dL_law_1560 : decode cL_law 1560 = .ok (.bipush 20, 2) := by decide +kernel
theorem dL_law_1562 : decode cL_law 1562 = .ok (.invokestatic 86, 3) := by decide +kernel
theorem dL_law_1565 : decode cL_law 1565 = .ok (.iadd, 1) := by decide +kernel
theorem dL_law_1566 : decode cL_law 1566 = .ok (.istore 16, 2) := by decide +kernel
theorem dL_law_1568 : decode cL_law 1568 = .ok (.aload 8, 2) := by decide +kernel
theorem dL_law_1570 : decode cL_law 1570 = .ok (.iconst 3, 1) := by decide +kernel
theorem dL_law_1571 : decode cL_law 1571 = .ok (.iaload, 1) := by decide +kernel
theorem dL_law_1572 : decode cL_law 1572 = .ok (.iload 16, 2) := by decide +kernel
theorem dL_law_1574 : decode cL_law 1574 = .ok (.iadd, 1) := by decide +kernel
theorem dL_law_1575 : decode cL_law 1575 = .ok (.sipush 1900, 3) := by decide +kernel
theorem dL_law_1578 : decode cL_law 1578 = .ok (.if_icmp .le 6, 3) := by decide +kernel
theorem dL_law_1581 : decode cL_law 1581 = .ok (.goto 62, 3) := by decide +kernel
theorem dL_law_1584 : decode cL_law 1584 = .ok (.aload 8, 2) := by decide +kernel
theorem dL_law_1586 : decode cL_law 1586 = .ok (.iconst 3, 1) := by decide +kernel
theorem dL_law_1587 : decode cL_law 1587 = .ok (.dup2, 1) := by decide +kernel
theorem dL_law_1588 : decode cL_law 1588 = .ok (.iaload, 1) := by decide +kernel
theorem dL_law_1589 : decode cL_law 1589 = .ok (.iload 16, 2) := by decide +kernel
theorem dL_law_1591 : decode cL_law 1591 = .ok (.iadd, 1) := by decide +kernel
theorem dL_law_1592 : decode cL_law 1592 = .ok (.iastore, 1) := by decide +kernel
theorem dL_law_1593 : decode cL_law 1593 = .ok (.aload_n 1, 1) := by decide +kernel
theorem dL_law_1594 : decode cL_law 1594 = .ok (.iload 16, 2) := by decide +kernel
theorem dL_law_1596 : decode cL_law 1596 = .ok (.invokevirtual 110, 3) := by decide +kernel
theorem dL_law_1599 : decode cL_law 1599 = .ok (.aload 8, 2) := by decide +kernel
theorem dL_law_1601 : decode cL_law 1601 = .ok (.iconst 3, 1) := by decide +kernel
theorem dL_law_1602 : decode cL_law 1602 = .ok (.iaload, 1) := by decide +kernel
theorem dL_law_1603 : decode cL_law 1603 = .ok (.if_icmp .eq 5, 3) := by decide +kernel
theorem dL_law_1606 : decode cL_law 1606 = .ok (.iconst 0, 1) := by decide +kernel
theorem dL_law_1607 : decode cL_law 1607 = .ok (.ireturn, 1) := by decide +kernel
theorem dL_law_1608 : decode cL_law 1608 = .ok (.aload_n 1, 1) := by decide +kernel
theorem dL_law_1609 : decode cL_law 1609 = .ok (.aload_n 2, 1) := by decide +kernel
theorem dL_law_1610 : decode cL_law 1610 = .ok (.aload_n 3, 1) := by decide +kernel
theorem dL_law_1611 : decode cL_law 1611 = .ok (.aload 4, 2) := by decide +kernel
theorem dL_law_1613 : decode cL_law 1613 = .ok (.aload 5, 2) := by decide +kernel
theorem dL_law_1615 : decode cL_law 1615 = .ok (.aload 6, 2) := by decide +kernel
theorem dL_law_1617 : decode cL_law 1617 = .ok (.aload 7, 2) := by decide +kernel
theorem dL_law_1619 : decode cL_law 1619 = .ok (.aload 8, 2) := by decide +kernel
theorem dL_law_1621 : decode cL_law 1621 = .ok (.iload 11, 2) := by decide +kernel
theorem dL_law_1623 : decode cL_law 1623 = .ok (.bipush 9, 2) := by decide +kernel
theorem dL_law_1625 : decode cL_law 1625 = .ok (.ishr, 1) := by decide +kernel
theorem dL_law_1626 : decode cL_law 1626 = .ok (.aload 8, 2) := by decide +kernel
theorem dL_law_1628 : decode cL_law 1628 = .ok (.iconst 3, 1) := by decide +kernel
theorem dL_law_1629 : decode cL_law 1629 = .ok (.iaload, 1) := by decide +kernel
theorem dL_law_1630 : decode cL_law 1630 = .ok (.iconst 1, 1) := by decide +kernel
theorem dL_law_1631 : decode cL_law 1631 = .ok (.iadd, 1) := by decide +kernel
theorem dL_law_1632 : decode cL_law 1632 = .ok (.invokestatic 86, 3) := by decide +kernel
theorem dL_law_1635 : decode cL_law 1635 = .ok (.invokestatic 113, 3) := by decide +kernel
theorem dL_law_1638 : decode cL_law 1638 = .ok (.ifCond .ne 5, 3) := by decide +kernel
theorem dL_law_1641 : decode cL_law 1641 = .ok (.iconst 0, 1) := by decide +kernel
theorem dL_law_1642 : decode cL_law 1642 = .ok (.ireturn, 1) := by decide +kernel
theorem dL_law_1643 : decode cL_law 1643 = .ok (.iinc 9 1, 3) := by decide +kernel
theorem dL_law_1646 : decode cL_law 1646 = .ok (.goto (-1590), 3) := by decide +kernel
theorem dL_law_1649 : decode cL_law 1649 = .ok (.iconst 1, 1) := by decide +kernel
theorem dL_law_1650 : decode cL_law 1650 = .ok (.ireturn, 1) := by decide +kernel
