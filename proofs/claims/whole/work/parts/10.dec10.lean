theorem dX14_statement_148 : decode prog_13_method_68_code 148 = .ok (.goto 257, 3) := by decide +kernel
theorem dX14_statement_151 : decode prog_13_method_68_code 151 = .ok (.aload_n 0, 1) := by decide +kernel
theorem dX14_statement_152 : decode prog_13_method_68_code 152 = .ok (.ldc_w 514, 3) := by decide +kernel
theorem dX14_statement_155 : decode prog_13_method_68_code 155 = .ok (.invokevirtual 446, 3) := by decide +kernel
theorem dX14_statement_158 : decode prog_13_method_68_code 158 = .ok (.ifCond .eq 10, 3) := by decide +kernel
theorem dX14_statement_161 : decode prog_13_method_68_code 161 = .ok (.aload_n 0, 1) := by decide +kernel
theorem dX14_statement_162 : decode prog_13_method_68_code 162 = .ok (.invokevirtual 516, 3) := by decide +kernel
theorem dX14_statement_165 : decode prog_13_method_68_code 165 = .ok (.goto 240, 3) := by decide +kernel
theorem dX14_statement_168 : decode prog_13_method_68_code 168 = .ok (.aload_n 0, 1) := by decide +kernel
theorem dX14_statement_169 : decode prog_13_method_68_code 169 = .ok (.ldc_w 519, 3) := by decide +kernel
theorem dX14_statement_172 : decode prog_13_method_68_code 172 = .ok (.invokevirtual 446, 3) := by decide +kernel
theorem dX14_statement_175 : decode prog_13_method_68_code 175 = .ok (.ifCond .eq 37, 3) := by decide +kernel
theorem dX14_statement_178 : decode prog_13_method_68_code 178 = .ok (.aload_n 0, 1) := by decide +kernel
theorem dX14_statement_179 : decode prog_13_method_68_code 179 = .ok (.invokevirtual 423, 3) := by decide +kernel
theorem dX14_statement_182 : decode prog_13_method_68_code 182 = .ok (.aload_n 0, 1) := by decide +kernel
theorem dX14_statement_183 : decode prog_13_method_68_code 183 = .ok (.invokevirtual 521, 3) := by decide +kernel
theorem dX14_statement_186 : decode prog_13_method_68_code 186 = .ok (.istore_n 1, 1) := by decide +kernel
theorem dX14_statement_187 : decode prog_13_method_68_code 187 = .ok (.aload_n 0, 1) := by decide +kernel
theorem dX14_statement_188 : decode prog_13_method_68_code 188 = .ok (.invokevirtual 499, 3) := by decide +kernel
theorem dX14_statement_191 : decode prog_13_method_68_code 191 = .ok (.aload_n 0, 1) := by decide +kernel
theorem dX14_statement_192 : decode prog_13_method_68_code 192 = .ok (.bipush 59, 2) := by decide +kernel
theorem dX14_statement_194 : decode prog_13_method_68_code 194 = .ok (.invokevirtual 435, 3) := by decide +kernel
theorem dX14_statement_197 : decode prog_13_method_68_code 197 = .ok (.aload_n 0, 1) := by decide +kernel
theorem dX14_statement_198 : decode prog_13_method_68_code 198 = .ok (.getfield 365, 3) := by decide +kernel
theorem dX14_statement_201 : decode prog_13_method_68_code 201 = .ok (.ifCond .ne 8, 3) := by decide +kernel
theorem dX14_statement_204 : decode prog_13_method_68_code 204 = .ok (.aload_n 0, 1) := by decide +kernel
theorem dX14_statement_205 : decode prog_13_method_68_code 205 = .ok (.iload_n 1, 1) := by decide +kernel
theorem dX14_statement_206 : decode prog_13_method_68_code 206 = .ok (.invokevirtual 524, 3) := by decide +kernel
theorem dX14_statement_209 : decode prog_13_method_68_code 209 = .ok (.goto 196, 3) := by decide +kernel
theorem dX14_statement_212 : decode prog_13_method_68_code 212 = .ok (.aload_n 0, 1) := by decide +kernel
theorem dX14_statement_213 : decode prog_13_method_68_code 213 = .ok (.ldc_w 527, 3) := by decide +kernel
theorem dX14_statement_216 : decode prog_13_method_68_code 216 = .ok (.invokevirtual 446, 3) := by decide +kernel
theorem dX14_statement_219 : decode prog_13_method_68_code 219 = .ok (.ifCond .eq 56, 3) := by decide +kernel
theorem dX14_statement_222 : decode prog_13_method_68_code 222 = .ok (.aload_n 0, 1) := by decide +kernel
theorem dX14_statement_223 : decode prog_13_method_68_code 223 = .ok (.invokevirtual 423, 3) := by decide +kernel
theorem dX14_statement_226 : decode prog_13_method_68_code 226 = .ok (.aload_n 0, 1) := by decide +kernel
theorem dX14_statement_227 : decode prog_13_method_68_code 227 = .ok (.iconst 4, 1) := by decide +kernel
theorem dX14_statement_228 : decode prog_13_method_68_code 228 = .ok (.invokevirtual 496, 3) := by decide +kernel
theorem dX14_statement_231 : decode prog_13_method_68_code 231 = .ok (.aload_n 0, 1) := by decide +kernel
theorem dX14_statement_232 : decode prog_13_method_68_code 232 = .ok (.bipush 59, 2) := by decide +kernel
theorem dX14_statement_234 : decode prog_13_method_68_code 234 = .ok (.invokevirtual 435, 3) := by decide +kernel
theorem dX14_statement_237 : decode prog_13_method_68_code 237 = .ok (.aload_n 0, 1) := by decide +kernel
theorem dX14_statement_238 : decode prog_13_method_68_code 238 = .ok (.getfield 365, 3) := by decide +kernel
theorem dX14_statement_241 : decode prog_13_method_68_code 241 = .ok (.ifCond .ne 164, 3) := by decide +kernel
theorem dX14_statement_244 : decode prog_13_method_68_code 244 = .ok (.aload_n 0, 1) := by decide +kernel
theorem dX14_statement_245 : decode prog_13_method_68_code 245 = .ok (.aload_n 0, 1) := by decide +kernel
theorem dX14_statement_246 : decode prog_13_method_68_code 246 = .ok (.getfield 471, 3) := by decide +kernel
theorem dX14_statement_249 : decode prog_13_method_68_code 249 = .ok (.iconst 0, 1) := by decide +kernel
theorem dX14_statement_250 : decode prog_13_method_68_code 250 = .ok (.iaload, 1) := by decide +kernel
theorem dX14_statement_251 : decode prog_13_method_68_code 251 = .ok (.aload_n 0, 1) := by decide +kernel
theorem dX14_statement_252 : decode prog_13_method_68_code 252 = .ok (.getfield 471, 3) := by decide +kernel
theorem dX14_statement_255 : decode prog_13_method_68_code 255 = .ok (.iconst 1, 1) := by decide +kernel
theorem dX14_statement_256 : decode prog_13_method_68_code 256 = .ok (.iaload, 1) := by decide +kernel
theorem dX14_statement_257 : decode prog_13_method_68_code 257 = .ok (.aload_n 0, 1) := by decide +kernel
theorem dX14_statement_258 : decode prog_13_method_68_code 258 = .ok (.getfield 471, 3) := by decide +kernel
theorem dX14_statement_261 : decode prog_13_method_68_code 261 = .ok (.iconst 2, 1) := by decide +kernel
theorem dX14_statement_262 : decode prog_13_method_68_code 262 = .ok (.iaload, 1) := by decide +kernel
theorem dX14_statement_263 : decode prog_13_method_68_code 263 = .ok (.aload_n 0, 1) := by decide +kernel
theorem dX14_statement_264 : decode prog_13_method_68_code 264 = .ok (.getfield 471, 3) := by decide +kernel
theorem dX14_statement_267 : decode prog_13_method_68_code 267 = .ok (.iconst 3, 1) := by decide +kernel
theorem dX14_statement_268 : decode prog_13_method_68_code 268 = .ok (.iaload, 1) := by decide +kernel
theorem dX14_statement_269 : decode prog_13_method_68_code 269 = .ok (.invokevirtual 529, 3) := by decide +kernel
theorem dX14_statement_272 : decode prog_13_method_68_code 272 = .ok (.goto 133, 3) := by decide +kernel
theorem dX14_statement_275 : decode prog_13_method_68_code 275 = .ok (.aload_n 0, 1) := by decide +kernel
theorem dX14_statement_276 : decode prog_13_method_68_code 276 = .ok (.ldc_w 533, 3) := by decide +kernel
theorem dX14_statement_279 : decode prog_13_method_68_code 279 = .ok (.invokevirtual 446, 3) := by decide +kernel
theorem dX14_statement_282 : decode prog_13_method_68_code 282 = .ok (.ifCond .eq 50, 3) := by decide +kernel
theorem dX14_statement_285 : decode prog_13_method_68_code 285 = .ok (.aload_n 0, 1) := by decide +kernel
theorem dX14_statement_286 : decode prog_13_method_68_code 286 = .ok (.invokevirtual 423, 3) := by decide +kernel
theorem dX14_statement_289 : decode prog_13_method_68_code 289 = .ok (.aload_n 0, 1) := by decide +kernel
theorem dX14_statement_290 : decode prog_13_method_68_code 290 = .ok (.iconst 3, 1) := by decide +kernel
theorem dX14_statement_291 : decode prog_13_method_68_code 291 = .ok (.invokevirtual 496, 3) := by decide +kernel
theorem dX14_statement_294 : decode prog_13_method_68_code 294 = .ok (.aload_n 0, 1) := by decide +kernel
theorem dX14_statement_295 : decode prog_13_method_68_code 295 = .ok (.bipush 59, 2) := by decide +kernel
theorem dX14_statement_297 : decode prog_13_method_68_code 297 = .ok (.invokevirtual 435, 3) := by decide +kernel
theorem dX14_statement_300 : decode prog_13_method_68_code 300 = .ok (.aload_n 0, 1) := by decide +kernel
theorem dX14_statement_301 : decode prog_13_method_68_code 301 = .ok (.getfield 365, 3) := by decide +kernel
theorem dX14_statement_304 : decode prog_13_method_68_code 304 = .ok (.ifCond .ne 101, 3) := by decide +kernel
theorem dX14_statement_307 : decode prog_13_method_68_code 307 = .ok (.aload_n 0, 1) := by decide +kernel
theorem dX14_statement_308 : decode prog_13_method_68_code 308 = .ok (.aload_n 0, 1) := by decide +kernel
theorem dX14_statement_309 : decode prog_13_method_68_code 309 = .ok (.getfield 471, 3) := by decide +kernel
theorem dX14_statement_312 : decode prog_13_method_68_code 312 = .ok (.iconst 0, 1) := by decide +kernel
theorem dX14_statement_313 : decode prog_13_method_68_code 313 = .ok (.iaload, 1) := by decide +kernel
theorem dX14_statement_314 : decode prog_13_method_68_code 314 = .ok (.aload_n 0, 1) := by decide +kernel
theorem dX14_statement_315 : decode prog_13_method_68_code 315 = .ok (.getfield 471, 3) := by decide +kernel
theorem dX14_statement_318 : decode prog_13_method_68_code 318 = .ok (.iconst 1, 1) := by decide +kernel
theorem dX14_statement_319 : decode prog_13_method_68_code 319 = .ok (.iaload, 1) := by decide +kernel
theorem dX14_statement_320 : decode prog_13_method_68_code 320 = .ok (.aload_n 0, 1) := by decide +kernel
theorem dX14_statement_321 : decode prog_13_method_68_code 321 = .ok (.getfield 471, 3) := by decide +kernel
theorem dX14_statement_324 : decode prog_13_method_68_code 324 = .ok (.iconst 2, 1) := by decide +kernel
theorem dX14_statement_325 : decode prog_13_method_68_code 325 = .ok (.iaload, 1) := by decide +kernel
theorem dX14_statement_326 : decode prog_13_method_68_code 326 = .ok (.invokevirtual 535, 3) := by decide +kernel
theorem dX14_statement_329 : decode prog_13_method_68_code 329 = .ok (.goto 76, 3) := by decide +kernel
theorem dX14_statement_332 : decode prog_13_method_68_code 332 = .ok (.aload_n 0, 1) := by decide +kernel
theorem dX14_statement_333 : decode prog_13_method_68_code 333 = .ok (.ldc_w 538, 3) := by decide +kernel
theorem dX14_statement_336 : decode prog_13_method_68_code 336 = .ok (.invokevirtual 446, 3) := by decide +kernel
theorem dX14_statement_339 : decode prog_13_method_68_code 339 = .ok (.ifCond .eq 62, 3) := by decide +kernel
theorem dX14_statement_342 : decode prog_13_method_68_code 342 = .ok (.aload_n 0, 1) := by decide +kernel
theorem dX14_statement_343 : decode prog_13_method_68_code 343 = .ok (.invokevirtual 423, 3) := by decide +kernel
theorem dX14_statement_346 : decode prog_13_method_68_code 346 = .ok (.aload_n 0, 1) := by decide +kernel
theorem dX14_statement_347 : decode prog_13_method_68_code 347 = .ok (.invokevirtual 521, 3) := by decide +kernel
theorem dX14_statement_350 : decode prog_13_method_68_code 350 = .ok (.istore_n 1, 1) := by decide +kernel
theorem dX14_statement_351 : decode prog_13_method_68_code 351 = .ok (.aload_n 0, 1) := by decide +kernel
theorem dX14_statement_352 : decode prog_13_method_68_code 352 = .ok (.iconst 4, 1) := by decide +kernel
theorem dX14_statement_353 : decode prog_13_method_68_code 353 = .ok (.invokevirtual 496, 3) := by decide +kernel
theorem dX14_statement_356 : decode prog_13_method_68_code 356 = .ok (.aload_n 0, 1) := by decide +kernel
theorem dX14_statement_357 : decode prog_13_method_68_code 357 = .ok (.bipush 59, 2) := by decide +kernel
theorem dX14_statement_359 : decode prog_13_method_68_code 359 = .ok (.invokevirtual 435, 3) := by decide +kernel
theorem dX14_statement_362 : decode prog_13_method_68_code 362 = .ok (.aload_n 0, 1) := by decide +kernel
theorem dX14_statement_363 : decode prog_13_method_68_code 363 = .ok (.getfield 365, 3) := by decide +kernel
theorem dX14_statement_366 : decode prog_13_method_68_code 366 = .ok (.ifCond .ne 32, 3) := by decide +kernel
theorem dX14_statement_369 : decode prog_13_method_68_code 369 = .ok (.aload_n 0, 1) := by decide +kernel
theorem dX14_statement_370 : decode prog_13_method_68_code 370 = .ok (.iload_n 1, 1) := by decide +kernel
theorem dX14_statement_371 : decode prog_13_method_68_code 371 = .ok (.aload_n 0, 1) := by decide +kernel
theorem dX14_statement_372 : decode prog_13_method_68_code 372 = .ok (.getfield 471, 3) := by decide +kernel
theorem dX14_statement_375 : decode prog_13_method_68_code 375 = .ok (.iconst 0, 1) := by decide +kernel
theorem dX14_statement_376 : decode prog_13_method_68_code 376 = .ok (.iaload, 1) := by decide +kernel
theorem dX14_statement_377 : decode prog_13_method_68_code 377 = .ok (.aload_n 0, 1) := by decide +kernel
theorem dX14_statement_378 : decode prog_13_method_68_code 378 = .ok (.getfield 471, 3) := by decide +kernel
theorem dX14_statement_381 : decode prog_13_method_68_code 381 = .ok (.iconst 1, 1) := by decide +kernel
theorem dX14_statement_382 : decode prog_13_method_68_code 382 = .ok (.iaload, 1) := by decide +kernel
theorem dX14_statement_383 : decode prog_13_method_68_code 383 = .ok (.aload_n 0, 1) := by decide +kernel
theorem dX14_statement_384 : decode prog_13_method_68_code 384 = .ok (.getfield 471, 3) := by decide +kernel
theorem dX14_statement_387 : decode prog_13_method_68_code 387 = .ok (.iconst 2, 1) := by decide +kernel
theorem dX14_statement_388 : decode prog_13_method_68_code 388 = .ok (.iaload, 1) := by decide +kernel
theorem dX14_statement_389 : decode prog_13_method_68_code 389 = .ok (.aload_n 0, 1) := by decide +kernel
theorem dX14_statement_390 : decode prog_13_method_68_code 390 = .ok (.getfield 471, 3) := by decide +kernel
theorem dX14_statement_393 : decode prog_13_method_68_code 393 = .ok (.iconst 3, 1) := by decide +kernel
theorem dX14_statement_394 : decode prog_13_method_68_code 394 = .ok (.iaload, 1) := by decide +kernel
theorem dX14_statement_395 : decode prog_13_method_68_code 395 = .ok (.invokevirtual 540, 3) := by decide +kernel
theorem dX14_statement_398 : decode prog_13_method_68_code 398 = .ok (.goto 7, 3) := by decide +kernel
theorem dX14_statement_401 : decode prog_13_method_68_code 401 = .ok (.aload_n 0, 1) := by decide +kernel
theorem dX14_statement_402 : decode prog_13_method_68_code 402 = .ok (.invokevirtual 544, 3) := by decide +kernel
theorem dX14_statement_405 : decode prog_13_method_68_code 405 = .ok (.return_, 1) := by decide +kernel
theorem dX14_readPlain_0 : decode prog_13_method_69_code 0 = .ok (.aload_n 0, 1) := by decide +kernel
theorem dX14_readPlain_1 : decode prog_13_method_69_code 1 = .ok (.ldc_w 547, 3) := by decide +kernel
theorem dX14_readPlain_4 : decode prog_13_method_69_code 4 = .ok (.invokevirtual 446, 3) := by decide +kernel
theorem dX14_readPlain_7 : decode prog_13_method_69_code 7 = .ok (.ifCond .eq 7, 3) := by decide +kernel
theorem dX14_readPlain_10 : decode prog_13_method_69_code 10 = .ok (.iconst 0, 1) := by decide +kernel
theorem dX14_readPlain_11 : decode prog_13_method_69_code 11 = .ok (.goto 60, 3) := by decide +kernel
theorem dX14_readPlain_14 : decode prog_13_method_69_code 14 = .ok (.aload_n 0, 1) := by decide +kernel
theorem dX14_readPlain_15 : decode prog_13_method_69_code 15 = .ok (.ldc_w 549, 3) := by decide +kernel
theorem dX14_readPlain_18 : decode prog_13_method_69_code 18 = .ok (.invokevirtual 446, 3) := by decide +kernel
theorem dX14_readPlain_21 : decode prog_13_method_69_code 21 = .ok (.ifCond .eq 7, 3) := by decide +kernel
theorem dX14_readPlain_24 : decode prog_13_method_69_code 24 = .ok (.iconst 1, 1) := by decide +kernel
theorem dX14_readPlain_25 : decode prog_13_method_69_code 25 = .ok (.goto 46, 3) := by decide +kernel
theorem dX14_readPlain_28 : decode prog_13_method_69_code 28 = .ok (.aload_n 0, 1) := by decide +kernel
theorem dX14_readPlain_29 : decode prog_13_method_69_code 29 = .ok (.ldc_w 551, 3) := by decide +kernel
theorem dX14_readPlain_32 : decode prog_13_method_69_code 32 = .ok (.invokevirtual 446, 3) := by decide +kernel
theorem dX14_readPlain_35 : decode prog_13_method_69_code 35 = .ok (.ifCond .eq 7, 3) := by decide +kernel
theorem dX14_readPlain_38 : decode prog_13_method_69_code 38 = .ok (.iconst 2, 1) := by decide +kernel
theorem dX14_readPlain_39 : decode prog_13_method_69_code 39 = .ok (.goto 32, 3) := by decide +kernel
theorem dX14_readPlain_42 : decode prog_13_method_69_code 42 = .ok (.aload_n 0, 1) := by decide +kernel
theorem dX14_readPlain_43 : decode prog_13_method_69_code 43 = .ok (.ldc_w 553, 3) := by decide +kernel
theorem dX14_readPlain_46 : decode prog_13_method_69_code 46 = .ok (.invokevirtual 446, 3) := by decide +kernel
theorem dX14_readPlain_49 : decode prog_13_method_69_code 49 = .ok (.ifCond .eq 7, 3) := by decide +kernel
theorem dX14_readPlain_52 : decode prog_13_method_69_code 52 = .ok (.iconst 3, 1) := by decide +kernel
theorem dX14_readPlain_53 : decode prog_13_method_69_code 53 = .ok (.goto 18, 3) := by decide +kernel
theorem dX14_readPlain_56 : decode prog_13_method_69_code 56 = .ok (.aload_n 0, 1) := by decide +kernel
theorem dX14_readPlain_57 : decode prog_13_method_69_code 57 = .ok (.ldc_w 555, 3) := by decide +kernel
theorem dX14_readPlain_60 : decode prog_13_method_69_code 60 = .ok (.invokevirtual 446, 3) := by decide +kernel
theorem dX14_readPlain_63 : decode prog_13_method_69_code 63 = .ok (.ifCond .eq 7, 3) := by decide +kernel
theorem dX14_readPlain_66 : decode prog_13_method_69_code 66 = .ok (.iconst 4, 1) := by decide +kernel
theorem dX14_readPlain_67 : decode prog_13_method_69_code 67 = .ok (.goto 4, 3) := by decide +kernel
theorem dX14_readPlain_70 : decode prog_13_method_69_code 70 = .ok (.iconst (-1), 1) := by decide +kernel
theorem dX14_readPlain_71 : decode prog_13_method_69_code 71 = .ok (.istore_n 1, 1) := by decide +kernel
theorem dX14_readPlain_72 : decode prog_13_method_69_code 72 = .ok (.iload_n 1, 1) := by decide +kernel
theorem dX14_readPlain_73 : decode prog_13_method_69_code 73 = .ok (.ifCond .ge 8, 3) := by decide +kernel
theorem dX14_readPlain_76 : decode prog_13_method_69_code 76 = .ok (.aload_n 0, 1) := by decide +kernel
theorem dX14_readPlain_77 : decode prog_13_method_69_code 77 = .ok (.invokevirtual 420, 3) := by decide +kernel
theorem dX14_readPlain_80 : decode prog_13_method_69_code 80 = .ok (.return_, 1) := by decide +kernel
theorem dX14_readPlain_81 : decode prog_13_method_69_code 81 = .ok (.aload_n 0, 1) := by decide +kernel
theorem dX14_readPlain_82 : decode prog_13_method_69_code 82 = .ok (.invokevirtual 423, 3) := by decide +kernel
theorem dX14_readPlain_85 : decode prog_13_method_69_code 85 = .ok (.aload_n 0, 1) := by decide +kernel
theorem dX14_readPlain_86 : decode prog_13_method_69_code 86 = .ok (.bipush 59, 2) := by decide +kernel
theorem dX14_readPlain_88 : decode prog_13_method_69_code 88 = .ok (.invokevirtual 435, 3) := by decide +kernel
theorem dX14_readPlain_91 : decode prog_13_method_69_code 91 = .ok (.aload_n 0, 1) := by decide +kernel
theorem dX14_readPlain_92 : decode prog_13_method_69_code 92 = .ok (.getfield 365, 3) := by decide +kernel
theorem dX14_readPlain_95 : decode prog_13_method_69_code 95 = .ok (.ifCond .eq 4, 3) := by decide +kernel
theorem dX14_readPlain_98 : decode prog_13_method_69_code 98 = .ok (.return_, 1) := by decide +kernel
theorem dX14_readPlain_99 : decode prog_13_method_69_code 99 = .ok (.iload_n 1, 1) := by decide +kernel
theorem dX14_readPlain_100 : decode prog_13_method_69_code 100 = .ok (.iconst 3, 1) := by decide +kernel
theorem dX14_readPlain_101 : decode prog_13_method_69_code 101 = .ok (.if_icmp .ne 11, 3) := by decide +kernel
theorem dX14_readPlain_104 : decode prog_13_method_69_code 104 = .ok (.aload_n 0, 1) := by decide +kernel
theorem dX14_readPlain_105 : decode prog_13_method_69_code 105 = .ok (.iconst 0, 1) := by decide +kernel
theorem dX14_readPlain_106 : decode prog_13_method_69_code 106 = .ok (.invokevirtual 557, 3) := by decide +kernel
theorem dX14_readPlain_109 : decode prog_13_method_69_code 109 = .ok (.goto 121, 3) := by decide +kernel
theorem dX14_readPlain_112 : decode prog_13_method_69_code 112 = .ok (.iload_n 1, 1) := by decide +kernel
theorem dX14_readPlain_113 : decode prog_13_method_69_code 113 = .ok (.ifCond .eq 8, 3) := by decide +kernel
theorem dX14_readPlain_116 : decode prog_13_method_69_code 116 = .ok (.iload_n 1, 1) := by decide +kernel
theorem dX14_readPlain_117 : decode prog_13_method_69_code 117 = .ok (.iconst 4, 1) := by decide +kernel
theorem dX14_readPlain_118 : decode prog_13_method_69_code 118 = .ok (.if_icmp .ne 13, 3) := by decide +kernel
theorem dX14_readPlain_121 : decode prog_13_method_69_code 121 = .ok (.aload_n 0, 1) := by decide +kernel
theorem dX14_readPlain_122 : decode prog_13_method_69_code 122 = .ok (.getfield 321, 3) := by decide +kernel
theorem dX14_readPlain_125 : decode prog_13_method_69_code 125 = .ok (.ifCond .eq 22, 3) := by decide +kernel
theorem dX14_readPlain_128 : decode prog_13_method_69_code 128 = .ok (.goto 10, 3) := by decide +kernel
theorem dX14_readPlain_131 : decode prog_13_method_69_code 131 = .ok (.aload_n 0, 1) := by decide +kernel
theorem dX14_readPlain_132 : decode prog_13_method_69_code 132 = .ok (.getfield 321, 3) := by decide +kernel
theorem dX14_readPlain_135 : decode prog_13_method_69_code 135 = .ok (.ifCond .ne 12, 3) := by decide +kernel
theorem dX14_readPlain_138 : decode prog_13_method_69_code 138 = .ok (.aload_n 0, 1) := by decide +kernel
theorem dX14_readPlain_139 : decode prog_13_method_69_code 139 = .ok (.bipush 6, 2) := by decide +kernel
theorem dX14_readPlain_141 : decode prog_13_method_69_code 141 = .ok (.invokevirtual 557, 3) := by decide +kernel
theorem dX14_readPlain_144 : decode prog_13_method_69_code 144 = .ok (.goto 86, 3) := by decide +kernel
theorem dX14_readPlain_147 : decode prog_13_method_69_code 147 = .ok (.iload_n 1, 1) := by decide +kernel
theorem dX14_readPlain_148 : decode prog_13_method_69_code 148 = .ok (.ifCond .ne 21, 3) := by decide +kernel
theorem dX14_readPlain_151 : decode prog_13_method_69_code 151 = .ok (.aload_n 0, 1) := by decide +kernel
theorem dX14_readPlain_152 : decode prog_13_method_69_code 152 = .ok (.iconst 1, 1) := by decide +kernel
theorem dX14_readPlain_153 : decode prog_13_method_69_code 153 = .ok (.putfield 321, 3) := by decide +kernel
theorem dX14_readPlain_156 : decode prog_13_method_69_code 156 = .ok (.aload_n 0, 1) := by decide +kernel
theorem dX14_readPlain_157 : decode prog_13_method_69_code 157 = .ok (.iconst 0, 1) := by decide +kernel
theorem dX14_readPlain_158 : decode prog_13_method_69_code 158 = .ok (.putfield 338, 3) := by decide +kernel
theorem dX14_readPlain_161 : decode prog_13_method_69_code 161 = .ok (.aload_n 0, 1) := by decide +kernel
theorem dX14_readPlain_162 : decode prog_13_method_69_code 162 = .ok (.iconst 0, 1) := by decide +kernel
theorem dX14_readPlain_163 : decode prog_13_method_69_code 163 = .ok (.invokevirtual 557, 3) := by decide +kernel
theorem dX14_readPlain_166 : decode prog_13_method_69_code 166 = .ok (.goto 64, 3) := by decide +kernel
theorem dX14_readPlain_169 : decode prog_13_method_69_code 169 = .ok (.iload_n 1, 1) := by decide +kernel
theorem dX14_readPlain_170 : decode prog_13_method_69_code 170 = .ok (.iconst 2, 1) := by decide +kernel
theorem dX14_readPlain_171 : decode prog_13_method_69_code 171 = .ok (.if_icmp .ne 32, 3) := by decide +kernel
theorem dX14_readPlain_174 : decode prog_13_method_69_code 174 = .ok (.aload_n 0, 1) := by decide +kernel
theorem dX14_readPlain_175 : decode prog_13_method_69_code 175 = .ok (.getfield 351, 3) := by decide +kernel
theorem dX14_readPlain_178 : decode prog_13_method_69_code 178 = .ok (.aload_n 0, 1) := by decide +kernel
theorem dX14_readPlain_179 : decode prog_13_method_69_code 179 = .ok (.getfield 347, 3) := by decide +kernel
theorem dX14_readPlain_182 : decode prog_13_method_69_code 182 = .ok (.invokevirtual 354, 3) := by decide +kernel
theorem dX14_readPlain_185 : decode prog_13_method_69_code 185 = .ok (.aload_n 0, 1) := by decide +kernel
theorem dX14_readPlain_186 : decode prog_13_method_69_code 186 = .ok (.iconst 0, 1) := by decide +kernel
theorem dX14_readPlain_187 : decode prog_13_method_69_code 187 = .ok (.putfield 321, 3) := by decide +kernel
theorem dX14_readPlain_190 : decode prog_13_method_69_code 190 = .ok (.aload_n 0, 1) := by decide +kernel
theorem dX14_readPlain_191 : decode prog_13_method_69_code 191 = .ok (.iconst 0, 1) := by decide +kernel
theorem dX14_readPlain_192 : decode prog_13_method_69_code 192 = .ok (.putfield 338, 3) := by decide +kernel
theorem dX14_readPlain_195 : decode prog_13_method_69_code 195 = .ok (.aload_n 0, 1) := by decide +kernel
theorem dX14_readPlain_196 : decode prog_13_method_69_code 196 = .ok (.iconst 0, 1) := by decide +kernel
theorem dX14_readPlain_197 : decode prog_13_method_69_code 197 = .ok (.invokevirtual 557, 3) := by decide +kernel
theorem dX14_readPlain_200 : decode prog_13_method_69_code 200 = .ok (.goto 30, 3) := by decide +kernel
theorem dX14_readPlain_203 : decode prog_13_method_69_code 203 = .ok (.iload_n 1, 1) := by decide +kernel
theorem dX14_readPlain_204 : decode prog_13_method_69_code 204 = .ok (.iconst 1, 1) := by decide +kernel
theorem dX14_readPlain_205 : decode prog_13_method_69_code 205 = .ok (.if_icmp .ne 13, 3) := by decide +kernel
theorem dX14_readPlain_208 : decode prog_13_method_69_code 208 = .ok (.aload_n 0, 1) := by decide +kernel
theorem dX14_readPlain_209 : decode prog_13_method_69_code 209 = .ok (.invokevirtual 560, 3) := by decide +kernel
theorem dX14_readPlain_212 : decode prog_13_method_69_code 212 = .ok (.ifCond .eq 18, 3) := by decide +kernel
theorem dX14_readPlain_215 : decode prog_13_method_69_code 215 = .ok (.goto 10, 3) := by decide +kernel
theorem dX14_readPlain_218 : decode prog_13_method_69_code 218 = .ok (.aload_n 0, 1) := by decide +kernel
theorem dX14_readPlain_219 : decode prog_13_method_69_code 219 = .ok (.invokevirtual 341, 3) := by decide +kernel
theorem dX14_readPlain_222 : decode prog_13_method_69_code 222 = .ok (.ifCond .eq 8, 3) := by decide +kernel
theorem dX14_readPlain_225 : decode prog_13_method_69_code 225 = .ok (.aload_n 0, 1) := by decide +kernel
theorem dX14_readPlain_226 : decode prog_13_method_69_code 226 = .ok (.iconst 0, 1) := by decide +kernel
theorem dX14_readPlain_227 : decode prog_13_method_69_code 227 = .ok (.invokevirtual 557, 3) := by decide +kernel
theorem dX14_readPlain_230 : decode prog_13_method_69_code 230 = .ok (.return_, 1) := by decide +kernel
theorem dX14_readFill_0 : decode prog_13_method_70_code 0 = .ok (.aload_n 0, 1) := by decide +kernel
theorem dX14_readFill_1 : decode prog_13_method_70_code 1 = .ok (.invokevirtual 423, 3) := by decide +kernel
theorem dX14_readFill_4 : decode prog_13_method_70_code 4 = .ok (.aload_n 0, 1) := by decide +kernel
theorem dX14_readFill_5 : decode prog_13_method_70_code 5 = .ok (.iconst 2, 1) := by decide +kernel
theorem dX14_readFill_6 : decode prog_13_method_70_code 6 = .ok (.invokevirtual 496, 3) := by decide +kernel
theorem dX14_readFill_9 : decode prog_13_method_70_code 9 = .ok (.aload_n 0, 1) := by decide +kernel
theorem dX14_readFill_10 : decode prog_13_method_70_code 10 = .ok (.ldc_w 563, 3) := by decide +kernel
theorem dX14_readFill_13 : decode prog_13_method_70_code 13 = .ok (.invokevirtual 446, 3) := by decide +kernel
theorem dX14_readFill_16 : decode prog_13_method_70_code 16 = .ok (.ifCond .eq 7, 3) := by decide +kernel
theorem dX14_readFill_19 : decode prog_13_method_70_code 19 = .ok (.iconst 0, 1) := by decide +kernel
theorem dX14_readFill_20 : decode prog_13_method_70_code 20 = .ok (.goto 32, 3) := by decide +kernel
theorem dX14_readFill_23 : decode prog_13_method_70_code 23 = .ok (.aload_n 0, 1) := by decide +kernel
theorem dX14_readFill_24 : decode prog_13_method_70_code 24 = .ok (.ldc_w 565, 3) := by decide +kernel
theorem dX14_readFill_27 : decode prog_13_method_70_code 27 = .ok (.invokevirtual 446, 3) := by decide +kernel
theorem dX14_readFill_30 : decode prog_13_method_70_code 30 = .ok (.ifCond .eq 7, 3) := by decide +kernel
theorem dX14_readFill_33 : decode prog_13_method_70_code 33 = .ok (.iconst 1, 1) := by decide +kernel
theorem dX14_readFill_34 : decode prog_13_method_70_code 34 = .ok (.goto 18, 3) := by decide +kernel
theorem dX14_readFill_37 : decode prog_13_method_70_code 37 = .ok (.aload_n 0, 1) := by decide +kernel
theorem dX14_readFill_38 : decode prog_13_method_70_code 38 = .ok (.ldc_w 567, 3) := by decide +kernel
theorem dX14_readFill_41 : decode prog_13_method_70_code 41 = .ok (.invokevirtual 446, 3) := by decide +kernel
theorem dX14_readFill_44 : decode prog_13_method_70_code 44 = .ok (.ifCond .eq 7, 3) := by decide +kernel
theorem dX14_readFill_47 : decode prog_13_method_70_code 47 = .ok (.iconst 2, 1) := by decide +kernel
theorem dX14_readFill_48 : decode prog_13_method_70_code 48 = .ok (.goto 4, 3) := by decide +kernel
theorem dX14_readFill_51 : decode prog_13_method_70_code 51 = .ok (.iconst (-1), 1) := by decide +kernel
theorem dX14_readFill_52 : decode prog_13_method_70_code 52 = .ok (.istore_n 1, 1) := by decide +kernel
theorem dX14_readFill_53 : decode prog_13_method_70_code 53 = .ok (.aload_n 0, 1) := by decide +kernel
theorem dX14_readFill_54 : decode prog_13_method_70_code 54 = .ok (.getfield 365, 3) := by decide +kernel
theorem dX14_readFill_57 : decode prog_13_method_70_code 57 = .ok (.ifCond .ne 11, 3) := by decide +kernel
theorem dX14_readFill_60 : decode prog_13_method_70_code 60 = .ok (.iload_n 1, 1) := by decide +kernel
theorem dX14_readFill_61 : decode prog_13_method_70_code 61 = .ok (.ifCond .ge 7, 3) := by decide +kernel
theorem dX14_readFill_64 : decode prog_13_method_70_code 64 = .ok (.aload_n 0, 1) := by decide +kernel
theorem dX14_readFill_65 : decode prog_13_method_70_code 65 = .ok (.invokevirtual 420, 3) := by decide +kernel
theorem dX14_readFill_68 : decode prog_13_method_70_code 68 = .ok (.aload_n 0, 1) := by decide +kernel
theorem dX14_readFill_69 : decode prog_13_method_70_code 69 = .ok (.getfield 365, 3) := by decide +kernel
theorem dX14_readFill_72 : decode prog_13_method_70_code 72 = .ok (.ifCond .eq 4, 3) := by decide +kernel
theorem dX14_readFill_75 : decode prog_13_method_70_code 75 = .ok (.return_, 1) := by decide +kernel
theorem dX14_readFill_76 : decode prog_13_method_70_code 76 = .ok (.aload_n 0, 1) := by decide +kernel
theorem dX14_readFill_77 : decode prog_13_method_70_code 77 = .ok (.invokevirtual 423, 3) := by decide +kernel
theorem dX14_readFill_80 : decode prog_13_method_70_code 80 = .ok (.iconst 2, 1) := by decide +kernel
theorem dX14_readFill_81 : decode prog_13_method_70_code 81 = .ok (.istore_n 2, 1) := by decide +kernel
theorem dX14_readFill_82 : decode prog_13_method_70_code 82 = .ok (.iload_n 2, 1) := by decide +kernel
theorem dX14_readFill_83 : decode prog_13_method_70_code 83 = .ok (.bipush 6, 2) := by decide +kernel
theorem dX14_readFill_85 : decode prog_13_method_70_code 85 = .ok (.if_icmp .ge 19, 3) := by decide +kernel
theorem dX14_readFill_88 : decode prog_13_method_70_code 88 = .ok (.aload_n 0, 1) := by decide +kernel
theorem dX14_readFill_89 : decode prog_13_method_70_code 89 = .ok (.getfield 471, 3) := by decide +kernel
theorem dX14_readFill_92 : decode prog_13_method_70_code 92 = .ok (.iload_n 2, 1) := by decide +kernel
theorem dX14_readFill_93 : decode prog_13_method_70_code 93 = .ok (.aload_n 0, 1) := by decide +kernel
theorem dX14_readFill_94 : decode prog_13_method_70_code 94 = .ok (.invokevirtual 426, 3) := by decide +kernel
theorem dX14_readFill_97 : decode prog_13_method_70_code 97 = .ok (.iastore, 1) := by decide +kernel
theorem dX14_readFill_98 : decode prog_13_method_70_code 98 = .ok (.iinc 2 1, 3) := by decide +kernel
theorem dX14_readFill_101 : decode prog_13_method_70_code 101 = .ok (.goto (-19), 3) := by decide +kernel
theorem dX14_readFill_104 : decode prog_13_method_70_code 104 = .ok (.aload_n 0, 1) := by decide +kernel
theorem dX14_readFill_105 : decode prog_13_method_70_code 105 = .ok (.bipush 59, 2) := by decide +kernel
theorem dX14_readFill_107 : decode prog_13_method_70_code 107 = .ok (.invokevirtual 435, 3) := by decide +kernel
theorem dX14_readFill_110 : decode prog_13_method_70_code 110 = .ok (.aload_n 0, 1) := by decide +kernel
theorem dX14_readFill_111 : decode prog_13_method_70_code 111 = .ok (.getfield 365, 3) := by decide +kernel
theorem dX14_readFill_114 : decode prog_13_method_70_code 114 = .ok (.ifCond .ne 44, 3) := by decide +kernel
theorem dX14_readFill_117 : decode prog_13_method_70_code 117 = .ok (.aload_n 0, 1) := by decide +kernel
theorem dX14_readFill_118 : decode prog_13_method_70_code 118 = .ok (.aload_n 0, 1) := by decide +kernel
theorem dX14_readFill_119 : decode prog_13_method_70_code 119 = .ok (.getfield 471, 3) := by decide +kernel
theorem dX14_readFill_122 : decode prog_13_method_70_code 122 = .ok (.iconst 0, 1) := by decide +kernel
theorem dX14_readFill_123 : decode prog_13_method_70_code 123 = .ok (.iaload, 1) := by decide +kernel
theorem dX14_readFill_124 : decode prog_13_method_70_code 124 = .ok (.aload_n 0, 1) := by decide +kernel
theorem dX14_readFill_125 : decode prog_13_method_70_code 125 = .ok (.getfield 471, 3) := by decide +kernel
theorem dX14_readFill_128 : decode prog_13_method_70_code 128 = .ok (.iconst 1, 1) := by decide +kernel
theorem dX14_readFill_129 : decode prog_13_method_70_code 129 = .ok (.iaload, 1) := by decide +kernel
theorem dX14_readFill_130 : decode prog_13_method_70_code 130 = .ok (.iload_n 1, 1) := by decide +kernel
theorem dX14_readFill_131 : decode prog_13_method_70_code 131 = .ok (.aload_n 0, 1) := by decide +kernel
theorem dX14_readFill_132 : decode prog_13_method_70_code 132 = .ok (.getfield 471, 3) := by decide +kernel
theorem dX14_readFill_135 : decode prog_13_method_70_code 135 = .ok (.iconst 2, 1) := by decide +kernel
theorem dX14_readFill_136 : decode prog_13_method_70_code 136 = .ok (.iaload, 1) := by decide +kernel
theorem dX14_readFill_137 : decode prog_13_method_70_code 137 = .ok (.aload_n 0, 1) := by decide +kernel
theorem dX14_readFill_138 : decode prog_13_method_70_code 138 = .ok (.getfield 471, 3) := by decide +kernel
theorem dX14_readFill_141 : decode prog_13_method_70_code 141 = .ok (.iconst 3, 1) := by decide +kernel
theorem dX14_readFill_142 : decode prog_13_method_70_code 142 = .ok (.iaload, 1) := by decide +kernel
theorem dX14_readFill_143 : decode prog_13_method_70_code 143 = .ok (.aload_n 0, 1) := by decide +kernel
theorem dX14_readFill_144 : decode prog_13_method_70_code 144 = .ok (.getfield 471, 3) := by decide +kernel
theorem dX14_readFill_147 : decode prog_13_method_70_code 147 = .ok (.iconst 4, 1) := by decide +kernel
theorem dX14_readFill_148 : decode prog_13_method_70_code 148 = .ok (.iaload, 1) := by decide +kernel
theorem dX14_readFill_149 : decode prog_13_method_70_code 149 = .ok (.aload_n 0, 1) := by decide +kernel
theorem dX14_readFill_150 : decode prog_13_method_70_code 150 = .ok (.getfield 471, 3) := by decide +kernel
theorem dX14_readFill_153 : decode prog_13_method_70_code 153 = .ok (.iconst 5, 1) := by decide +kernel
theorem dX14_readFill_154 : decode prog_13_method_70_code 154 = .ok (.iaload, 1) := by decide +kernel
theorem dX14_readFill_155 : decode prog_13_method_70_code 155 = .ok (.invokevirtual 569, 3) := by decide +kernel
theorem dX14_readFill_158 : decode prog_13_method_70_code 158 = .ok (.return_, 1) := by decide +kernel
theorem dX14_changed_0 : decode prog_13_method_71_code 0 = .ok (.aload_n 0, 1) := by decide +kernel
theorem dX14_changed_1 : decode prog_13_method_71_code 1 = .ok (.dup, 1) := by decide +kernel
theorem dX14_changed_2 : decode prog_13_method_71_code 2 = .ok (.getfield 338, 3) := by decide +kernel
theorem dX14_changed_5 : decode prog_13_method_71_code 5 = .ok (.iload_n 1, 1) := by decide +kernel
theorem dX14_changed_6 : decode prog_13_method_71_code 6 = .ok (.iadd, 1) := by decide +kernel
theorem dX14_changed_7 : decode prog_13_method_71_code 7 = .ok (.putfield 338, 3) := by decide +kernel
theorem dX14_changed_10 : decode prog_13_method_71_code 10 = .ok (.aload_n 0, 1) := by decide +kernel
theorem dX14_changed_11 : decode prog_13_method_71_code 11 = .ok (.getfield 321, 3) := by decide +kernel
theorem dX14_changed_14 : decode prog_13_method_71_code 14 = .ok (.ifCond .ne 10, 3) := by decide +kernel
theorem dX14_changed_17 : decode prog_13_method_71_code 17 = .ok (.aload_n 0, 1) := by decide +kernel
theorem dX14_changed_18 : decode prog_13_method_71_code 18 = .ok (.invokevirtual 560, 3) := by decide +kernel
theorem dX14_changed_21 : decode prog_13_method_71_code 21 = .ok (.ifCond .eq 8, 3) := by decide +kernel
theorem dX14_changed_24 : decode prog_13_method_71_code 24 = .ok (.aload_n 0, 1) := by decide +kernel
theorem dX14_changed_25 : decode prog_13_method_71_code 25 = .ok (.iconst 0, 1) := by decide +kernel
theorem dX14_changed_26 : decode prog_13_method_71_code 26 = .ok (.invokevirtual 557, 3) := by decide +kernel
theorem dX14_changed_29 : decode prog_13_method_71_code 29 = .ok (.return_, 1) := by decide +kernel
theorem dX14_add_0 : decode prog_13_method_72_code 0 = .ok (.iload_n 1, 1) := by decide +kernel
theorem dX14_add_1 : decode prog_13_method_72_code 1 = .ok (.iconst 1, 1) := by decide +kernel
theorem dX14_add_2 : decode prog_13_method_72_code 2 = .ok (.if_icmp .lt 10, 3) := by decide +kernel
theorem dX14_add_5 : decode prog_13_method_72_code 5 = .ok (.iload_n 1, 1) := by decide +kernel
theorem dX14_add_6 : decode prog_13_method_72_code 6 = .ok (.sipush 9999, 3) := by decide +kernel
theorem dX14_add_9 : decode prog_13_method_72_code 9 = .ok (.if_icmp .le 11, 3) := by decide +kernel
theorem dX14_add_12 : decode prog_13_method_72_code 12 = .ok (.aload_n 0, 1) := by decide +kernel
theorem dX14_add_13 : decode prog_13_method_72_code 13 = .ok (.iconst 5, 1) := by decide +kernel
theorem dX14_add_14 : decode prog_13_method_72_code 14 = .ok (.invokevirtual 557, 3) := by decide +kernel
theorem dX14_add_17 : decode prog_13_method_72_code 17 = .ok (.goto 126, 3) := by decide +kernel
theorem dX14_add_20 : decode prog_13_method_72_code 20 = .ok (.aload_n 0, 1) := by decide +kernel
theorem dX14_add_21 : decode prog_13_method_72_code 21 = .ok (.getfield 351, 3) := by decide +kernel
theorem dX14_add_24 : decode prog_13_method_72_code 24 = .ok (.iload_n 1, 1) := by decide +kernel
theorem dX14_add_25 : decode prog_13_method_72_code 25 = .ok (.invokevirtual 573, 3) := by decide +kernel
theorem dX14_add_28 : decode prog_13_method_72_code 28 = .ok (.ifCond .lt 11, 3) := by decide +kernel
theorem dX14_add_31 : decode prog_13_method_72_code 31 = .ok (.aload_n 0, 1) := by decide +kernel
theorem dX14_add_32 : decode prog_13_method_72_code 32 = .ok (.iconst 1, 1) := by decide +kernel
theorem dX14_add_33 : decode prog_13_method_72_code 33 = .ok (.invokevirtual 557, 3) := by decide +kernel
theorem dX14_add_36 : decode prog_13_method_72_code 36 = .ok (.goto 107, 3) := by decide +kernel
theorem dX14_add_39 : decode prog_13_method_72_code 39 = .ok (.aload_n 0, 1) := by decide +kernel
theorem dX14_add_40 : decode prog_13_method_72_code 40 = .ok (.invokevirtual 575, 3) := by decide +kernel
theorem dX14_add_43 : decode prog_13_method_72_code 43 = .ok (.ifCond .eq 11, 3) := by decide +kernel
theorem dX14_add_46 : decode prog_13_method_72_code 46 = .ok (.aload_n 0, 1) := by decide +kernel
theorem dX14_add_47 : decode prog_13_method_72_code 47 = .ok (.iconst 4, 1) := by decide +kernel
theorem dX14_add_48 : decode prog_13_method_72_code 48 = .ok (.invokevirtual 557, 3) := by decide +kernel
theorem dX14_add_51 : decode prog_13_method_72_code 51 = .ok (.goto 92, 3) := by decide +kernel
theorem dX14_add_54 : decode prog_13_method_72_code 54 = .ok (.aload_n 0, 1) := by decide +kernel
theorem dX14_add_55 : decode prog_13_method_72_code 55 = .ok (.aload_n 0, 1) := by decide +kernel
theorem dX14_add_56 : decode prog_13_method_72_code 56 = .ok (.getfield 432, 3) := by decide +kernel
theorem dX14_add_59 : decode prog_13_method_72_code 59 = .ok (.invokevirtual 578, 3) := by decide +kernel
theorem dX14_add_62 : decode prog_13_method_72_code 62 = .ok (.ifCond .ne 11, 3) := by decide +kernel
theorem dX14_add_65 : decode prog_13_method_72_code 65 = .ok (.aload_n 0, 1) := by decide +kernel
theorem dX14_add_66 : decode prog_13_method_72_code 66 = .ok (.iconst 3, 1) := by decide +kernel
theorem dX14_add_67 : decode prog_13_method_72_code 67 = .ok (.invokevirtual 557, 3) := by decide +kernel
theorem dX14_add_70 : decode prog_13_method_72_code 70 = .ok (.goto 73, 3) := by decide +kernel
theorem dX14_add_73 : decode prog_13_method_72_code 73 = .ok (.bipush 16, 2) := by decide +kernel
theorem dX14_add_75 : decode prog_13_method_72_code 75 = .ok (.iconst 4, 1) := by decide +kernel
theorem dX14_add_76 : decode prog_13_method_72_code 76 = .ok (.aload_n 0, 1) := by decide +kernel
theorem dX14_add_77 : decode prog_13_method_72_code 77 = .ok (.getfield 432, 3) := by decide +kernel
theorem dX14_add_80 : decode prog_13_method_72_code 80 = .ok (.getfield 180, 3) := by decide +kernel
theorem dX14_add_83 : decode prog_13_method_72_code 83 = .ok (.imul, 1) := by decide +kernel
theorem dX14_add_84 : decode prog_13_method_72_code 84 = .ok (.iadd, 1) := by decide +kernel
theorem dX14_add_85 : decode prog_13_method_72_code 85 = .ok (.bipush 8, 2) := by decide +kernel
theorem dX14_add_87 : decode prog_13_method_72_code 87 = .ok (.aload_n 0, 1) := by decide +kernel
theorem dX14_add_88 : decode prog_13_method_72_code 88 = .ok (.getfield 432, 3) := by decide +kernel
theorem dX14_add_91 : decode prog_13_method_72_code 91 = .ok (.getfield 79, 3) := by decide +kernel
theorem dX14_add_94 : decode prog_13_method_72_code 94 = .ok (.imul, 1) := by decide +kernel
theorem dX14_add_95 : decode prog_13_method_72_code 95 = .ok (.iadd, 1) := by decide +kernel
theorem dX14_add_96 : decode prog_13_method_72_code 96 = .ok (.istore_n 2, 1) := by decide +kernel
theorem dX14_add_97 : decode prog_13_method_72_code 97 = .ok (.aload_n 0, 1) := by decide +kernel
theorem dX14_add_98 : decode prog_13_method_72_code 98 = .ok (.getfield 351, 3) := by decide +kernel
theorem dX14_add_101 : decode prog_13_method_72_code 101 = .ok (.getfield 581, 3) := by decide +kernel
theorem dX14_add_104 : decode prog_13_method_72_code 104 = .ok (.sipush 200, 3) := by decide +kernel
theorem dX14_add_107 : decode prog_13_method_72_code 107 = .ok (.if_icmp .eq 11, 3) := by decide +kernel
theorem dX14_add_110 : decode prog_13_method_72_code 110 = .ok (.aload_n 0, 1) := by decide +kernel
theorem dX14_add_111 : decode prog_13_method_72_code 111 = .ok (.iload_n 2, 1) := by decide +kernel
theorem dX14_add_112 : decode prog_13_method_72_code 112 = .ok (.invokevirtual 584, 3) := by decide +kernel
theorem dX14_add_115 : decode prog_13_method_72_code 115 = .ok (.ifCond .ne 11, 3) := by decide +kernel
theorem dX14_add_118 : decode prog_13_method_72_code 118 = .ok (.aload_n 0, 1) := by decide +kernel
theorem dX14_add_119 : decode prog_13_method_72_code 119 = .ok (.iconst 4, 1) := by decide +kernel
theorem dX14_add_120 : decode prog_13_method_72_code 120 = .ok (.invokevirtual 557, 3) := by decide +kernel
theorem dX14_add_123 : decode prog_13_method_72_code 123 = .ok (.goto 20, 3) := by decide +kernel
theorem dX14_add_126 : decode prog_13_method_72_code 126 = .ok (.aload_n 0, 1) := by decide +kernel
theorem dX14_add_127 : decode prog_13_method_72_code 127 = .ok (.getfield 351, 3) := by decide +kernel
theorem dX14_add_130 : decode prog_13_method_72_code 130 = .ok (.iload_n 1, 1) := by decide +kernel
theorem dX14_add_131 : decode prog_13_method_72_code 131 = .ok (.aload_n 0, 1) := by decide +kernel
theorem dX14_add_132 : decode prog_13_method_72_code 132 = .ok (.getfield 432, 3) := by decide +kernel
theorem dX14_add_135 : decode prog_13_method_72_code 135 = .ok (.invokevirtual 587, 3) := by decide +kernel
theorem dX14_add_138 : decode prog_13_method_72_code 138 = .ok (.aload_n 0, 1) := by decide +kernel
theorem dX14_add_139 : decode prog_13_method_72_code 139 = .ok (.iload_n 2, 1) := by decide +kernel
theorem dX14_add_140 : decode prog_13_method_72_code 140 = .ok (.invokevirtual 590, 3) := by decide +kernel
theorem dX14_add_143 : decode prog_13_method_72_code 143 = .ok (.return_, 1) := by decide +kernel
theorem dX14_drop_0 : decode prog_13_method_73_code 0 = .ok (.aload_n 0, 1) := by decide +kernel
theorem dX14_drop_1 : decode prog_13_method_73_code 1 = .ok (.getfield 351, 3) := by decide +kernel
theorem dX14_drop_4 : decode prog_13_method_73_code 4 = .ok (.iload_n 1, 1) := by decide +kernel
theorem dX14_drop_5 : decode prog_13_method_73_code 5 = .ok (.invokevirtual 573, 3) := by decide +kernel
theorem dX14_drop_8 : decode prog_13_method_73_code 8 = .ok (.istore_n 2, 1) := by decide +kernel
theorem dX14_drop_9 : decode prog_13_method_73_code 9 = .ok (.iload_n 2, 1) := by decide +kernel
theorem dX14_drop_10 : decode prog_13_method_73_code 10 = .ok (.ifCond .ge 11, 3) := by decide +kernel
theorem dX14_drop_13 : decode prog_13_method_73_code 13 = .ok (.aload_n 0, 1) := by decide +kernel
theorem dX14_drop_14 : decode prog_13_method_73_code 14 = .ok (.iconst 2, 1) := by decide +kernel
theorem dX14_drop_15 : decode prog_13_method_73_code 15 = .ok (.invokevirtual 557, 3) := by decide +kernel
theorem dX14_drop_18 : decode prog_13_method_73_code 18 = .ok (.goto 34, 3) := by decide +kernel
theorem dX14_drop_21 : decode prog_13_method_73_code 21 = .ok (.aload_n 0, 1) := by decide +kernel
theorem dX14_drop_22 : decode prog_13_method_73_code 22 = .ok (.bipush 8, 2) := by decide +kernel
theorem dX14_drop_24 : decode prog_13_method_73_code 24 = .ok (.invokevirtual 584, 3) := by decide +kernel
theorem dX14_drop_27 : decode prog_13_method_73_code 27 = .ok (.ifCond .ne 11, 3) := by decide +kernel
theorem dX14_drop_30 : decode prog_13_method_73_code 30 = .ok (.aload_n 0, 1) := by decide +kernel
theorem dX14_drop_31 : decode prog_13_method_73_code 31 = .ok (.iconst 4, 1) := by decide +kernel
theorem dX14_drop_32 : decode prog_13_method_73_code 32 = .ok (.invokevirtual 557, 3) := by decide +kernel
theorem dX14_drop_35 : decode prog_13_method_73_code 35 = .ok (.goto 17, 3) := by decide +kernel
theorem dX14_drop_38 : decode prog_13_method_73_code 38 = .ok (.aload_n 0, 1) := by decide +kernel
theorem dX14_drop_39 : decode prog_13_method_73_code 39 = .ok (.getfield 351, 3) := by decide +kernel
theorem dX14_drop_42 : decode prog_13_method_73_code 42 = .ok (.iload_n 2, 1) := by decide +kernel
theorem dX14_drop_43 : decode prog_13_method_73_code 43 = .ok (.invokevirtual 593, 3) := by decide +kernel
theorem dX14_drop_46 : decode prog_13_method_73_code 46 = .ok (.aload_n 0, 1) := by decide +kernel
theorem dX14_drop_47 : decode prog_13_method_73_code 47 = .ok (.bipush 8, 2) := by decide +kernel
theorem dX14_drop_49 : decode prog_13_method_73_code 49 = .ok (.invokevirtual 590, 3) := by decide +kernel
theorem dX14_drop_52 : decode prog_13_method_73_code 52 = .ok (.return_, 1) := by decide +kernel
theorem dX14_isNumber_0 : decode prog_13_method_74_code 0 = .ok (.lload_n 0, 1) := by decide +kernel
theorem dX14_isNumber_1 : decode prog_13_method_74_code 1 = .ok (.ldc2_w 594, 3) := by decide +kernel
theorem dX14_isNumber_4 : decode prog_13_method_74_code 4 = .ok (.lcmp, 1) := by decide +kernel
theorem dX14_isNumber_5 : decode prog_13_method_74_code 5 = .ok (.ifCond .lt 15, 3) := by decide +kernel
theorem dX14_isNumber_8 : decode prog_13_method_74_code 8 = .ok (.lload_n 0, 1) := by decide +kernel
theorem dX14_isNumber_9 : decode prog_13_method_74_code 9 = .ok (.ldc2_w 398, 3) := by decide +kernel
theorem dX14_isNumber_12 : decode prog_13_method_74_code 12 = .ok (.lcmp, 1) := by decide +kernel
theorem dX14_isNumber_13 : decode prog_13_method_74_code 13 = .ok (.ifCond .gt 7, 3) := by decide +kernel
theorem dX14_isNumber_16 : decode prog_13_method_74_code 16 = .ok (.iconst 1, 1) := by decide +kernel
theorem dX14_isNumber_17 : decode prog_13_method_74_code 17 = .ok (.goto 4, 3) := by decide +kernel
theorem dX14_isNumber_20 : decode prog_13_method_74_code 20 = .ok (.iconst 0, 1) := by decide +kernel
theorem dX14_isNumber_21 : decode prog_13_method_74_code 21 = .ok (.ireturn, 1) := by decide +kernel
theorem dX14_move_0 : decode prog_13_method_75_code 0 = .ok (.aload_n 0, 1) := by decide +kernel
theorem dX14_move_1 : decode prog_13_method_75_code 1 = .ok (.getfield 351, 3) := by decide +kernel
theorem dX14_move_4 : decode prog_13_method_75_code 4 = .ok (.iload_n 1, 1) := by decide +kernel
theorem dX14_move_5 : decode prog_13_method_75_code 5 = .ok (.invokevirtual 573, 3) := by decide +kernel
theorem dX14_move_8 : decode prog_13_method_75_code 8 = .ok (.istore 4, 2) := by decide +kernel
theorem dX14_move_10 : decode prog_13_method_75_code 10 = .ok (.iload 4, 2) := by decide +kernel
theorem dX14_move_12 : decode prog_13_method_75_code 12 = .ok (.ifCond .ge 9, 3) := by decide +kernel
theorem dX14_move_15 : decode prog_13_method_75_code 15 = .ok (.aload_n 0, 1) := by decide +kernel
theorem dX14_move_16 : decode prog_13_method_75_code 16 = .ok (.iconst 2, 1) := by decide +kernel
theorem dX14_move_17 : decode prog_13_method_75_code 17 = .ok (.invokevirtual 557, 3) := by decide +kernel
theorem dX14_move_20 : decode prog_13_method_75_code 20 = .ok (.return_, 1) := by decide +kernel
theorem dX14_move_21 : decode prog_13_method_75_code 21 = .ok (.aload_n 0, 1) := by decide +kernel
theorem dX14_move_22 : decode prog_13_method_75_code 22 = .ok (.getfield 351, 3) := by decide +kernel
theorem dX14_move_25 : decode prog_13_method_75_code 25 = .ok (.getfield 596, 3) := by decide +kernel
theorem dX14_move_28 : decode prog_13_method_75_code 28 = .ok (.iload 4, 2) := by decide +kernel
theorem dX14_move_30 : decode prog_13_method_75_code 30 = .ok (.aaload, 1) := by decide +kernel
theorem dX14_move_31 : decode prog_13_method_75_code 31 = .ok (.astore 5, 2) := by decide +kernel
theorem dX14_move_33 : decode prog_13_method_75_code 33 = .ok (.iconst 1, 1) := by decide +kernel
theorem dX14_move_34 : decode prog_13_method_75_code 34 = .ok (.istore 6, 2) := by decide +kernel
theorem dX14_move_36 : decode prog_13_method_75_code 36 = .ok (.iconst 0, 1) := by decide +kernel
theorem dX14_move_37 : decode prog_13_method_75_code 37 = .ok (.istore 7, 2) := by decide +kernel
theorem dX14_move_39 : decode prog_13_method_75_code 39 = .ok (.iload 7, 2) := by decide +kernel
theorem dX14_move_41 : decode prog_13_method_75_code 41 = .ok (.aload 5, 2) := by decide +kernel
theorem dX14_move_43 : decode prog_13_method_75_code 43 = .ok (.getfield 79, 3) := by decide +kernel
theorem dX14_move_46 : decode prog_13_method_75_code 46 = .ok (.if_icmp .ge 57, 3) := by decide +kernel
theorem dX14_move_49 : decode prog_13_method_75_code 49 = .ok (.iload 6, 2) := by decide +kernel
theorem dX14_move_51 : decode prog_13_method_75_code 51 = .ok (.ifCond .eq 43, 3) := by decide +kernel
theorem dX14_move_54 : decode prog_13_method_75_code 54 = .ok (.aload 5, 2) := by decide +kernel
theorem dX14_move_56 : decode prog_13_method_75_code 56 = .ok (.getfield 30, 3) := by decide +kernel
theorem dX14_move_59 : decode prog_13_method_75_code 59 = .ok (.iload 7, 2) := by decide +kernel
theorem dX14_move_61 : decode prog_13_method_75_code 61 = .ok (.iaload, 1) := by decide +kernel
theorem dX14_move_62 : decode prog_13_method_75_code 62 = .ok (.i2l, 1) := by decide +kernel
theorem dX14_move_63 : decode prog_13_method_75_code 63 = .ok (.iload_n 2, 1) := by decide +kernel
theorem dX14_move_64 : decode prog_13_method_75_code 64 = .ok (.i2l, 1) := by decide +kernel
theorem dX14_move_65 : decode prog_13_method_75_code 65 = .ok (.ladd, 1) := by decide +kernel
theorem dX14_move_66 : decode prog_13_method_75_code 66 = .ok (.invokestatic 600, 3) := by decide +kernel
theorem dX14_move_69 : decode prog_13_method_75_code 69 = .ok (.ifCond .eq 25, 3) := by decide +kernel
theorem dX14_move_72 : decode prog_13_method_75_code 72 = .ok (.aload 5, 2) := by decide +kernel
theorem dX14_move_74 : decode prog_13_method_75_code 74 = .ok (.getfield 36, 3) := by decide +kernel
theorem dX14_move_77 : decode prog_13_method_75_code 77 = .ok (.iload 7, 2) := by decide +kernel
theorem dX14_move_79 : decode prog_13_method_75_code 79 = .ok (.iaload, 1) := by decide +kernel
theorem dX14_move_80 : decode prog_13_method_75_code 80 = .ok (.i2l, 1) := by decide +kernel
theorem dX14_move_81 : decode prog_13_method_75_code 81 = .ok (.iload_n 3, 1) := by decide +kernel
theorem dX14_move_82 : decode prog_13_method_75_code 82 = .ok (.i2l, 1) := by decide +kernel
theorem dX14_move_83 : decode prog_13_method_75_code 83 = .ok (.ladd, 1) := by decide +kernel
theorem dX14_move_84 : decode prog_13_method_75_code 84 = .ok (.invokestatic 600, 3) := by decide +kernel
theorem dX14_move_87 : decode prog_13_method_75_code 87 = .ok (.ifCond .eq 7, 3) := by decide +kernel
theorem dX14_move_90 : decode prog_13_method_75_code 90 = .ok (.iconst 1, 1) := by decide +kernel
theorem dX14_move_91 : decode prog_13_method_75_code 91 = .ok (.goto 4, 3) := by decide +kernel
theorem dX14_move_94 : decode prog_13_method_75_code 94 = .ok (.iconst 0, 1) := by decide +kernel
theorem dX14_move_95 : decode prog_13_method_75_code 95 = .ok (.istore 6, 2) := by decide +kernel
theorem dX14_move_97 : decode prog_13_method_75_code 97 = .ok (.iinc 7 1, 3) := by decide +kernel
theorem dX14_move_100 : decode prog_13_method_75_code 100 = .ok (.goto (-61), 3) := by decide +kernel
theorem dX14_move_103 : decode prog_13_method_75_code 103 = .ok (.iload 6, 2) := by decide +kernel
theorem dX14_move_105 : decode prog_13_method_75_code 105 = .ok (.ifCond .ne 11, 3) := by decide +kernel
theorem dX14_move_108 : decode prog_13_method_75_code 108 = .ok (.aload_n 0, 1) := by decide +kernel
theorem dX14_move_109 : decode prog_13_method_75_code 109 = .ok (.iconst 5, 1) := by decide +kernel
theorem dX14_move_110 : decode prog_13_method_75_code 110 = .ok (.invokevirtual 557, 3) := by decide +kernel
theorem dX14_move_113 : decode prog_13_method_75_code 113 = .ok (.goto 69, 3) := by decide +kernel
theorem dX14_move_116 : decode prog_13_method_75_code 116 = .ok (.aload_n 0, 1) := by decide +kernel
theorem dX14_move_117 : decode prog_13_method_75_code 117 = .ok (.bipush 16, 2) := by decide +kernel
theorem dX14_move_119 : decode prog_13_method_75_code 119 = .ok (.invokevirtual 584, 3) := by decide +kernel
theorem dX14_move_122 : decode prog_13_method_75_code 122 = .ok (.ifCond .ne 11, 3) := by decide +kernel
theorem dX14_move_125 : decode prog_13_method_75_code 125 = .ok (.aload_n 0, 1) := by decide +kernel
theorem dX14_move_126 : decode prog_13_method_75_code 126 = .ok (.iconst 4, 1) := by decide +kernel
theorem dX14_move_127 : decode prog_13_method_75_code 127 = .ok (.invokevirtual 557, 3) := by decide +kernel
theorem dX14_move_130 : decode prog_13_method_75_code 130 = .ok (.goto 52, 3) := by decide +kernel
theorem dX14_move_133 : decode prog_13_method_75_code 133 = .ok (.iconst 0, 1) := by decide +kernel
theorem dX14_move_134 : decode prog_13_method_75_code 134 = .ok (.istore 7, 2) := by decide +kernel
theorem dX14_move_136 : decode prog_13_method_75_code 136 = .ok (.iload 7, 2) := by decide +kernel
theorem dX14_move_138 : decode prog_13_method_75_code 138 = .ok (.aload 5, 2) := by decide +kernel
theorem dX14_move_140 : decode prog_13_method_75_code 140 = .ok (.getfield 79, 3) := by decide +kernel
theorem dX14_move_143 : decode prog_13_method_75_code 143 = .ok (.if_icmp .ge 33, 3) := by decide +kernel
theorem dX14_move_146 : decode prog_13_method_75_code 146 = .ok (.aload 5, 2) := by decide +kernel
theorem dX14_move_148 : decode prog_13_method_75_code 148 = .ok (.getfield 30, 3) := by decide +kernel
theorem dX14_move_151 : decode prog_13_method_75_code 151 = .ok (.iload 7, 2) := by decide +kernel
theorem dX14_move_153 : decode prog_13_method_75_code 153 = .ok (.dup2, 1) := by decide +kernel
theorem dX14_move_154 : decode prog_13_method_75_code 154 = .ok (.iaload, 1) := by decide +kernel
theorem dX14_move_155 : decode prog_13_method_75_code 155 = .ok (.iload_n 2, 1) := by decide +kernel
theorem dX14_move_156 : decode prog_13_method_75_code 156 = .ok (.iadd, 1) := by decide +kernel
theorem dX14_move_157 : decode prog_13_method_75_code 157 = .ok (.iastore, 1) := by decide +kernel
theorem dX14_move_158 : decode prog_13_method_75_code 158 = .ok (.aload 5, 2) := by decide +kernel
theorem dX14_move_160 : decode prog_13_method_75_code 160 = .ok (.getfield 36, 3) := by decide +kernel
theorem dX14_move_163 : decode prog_13_method_75_code 163 = .ok (.iload 7, 2) := by decide +kernel
theorem dX14_move_165 : decode prog_13_method_75_code 165 = .ok (.dup2, 1) := by decide +kernel
theorem dX14_move_166 : decode prog_13_method_75_code 166 = .ok (.iaload, 1) := by decide +kernel
theorem dX14_move_167 : decode prog_13_method_75_code 167 = .ok (.iload_n 3, 1) := by decide +kernel
theorem dX14_move_168 : decode prog_13_method_75_code 168 = .ok (.iadd, 1) := by decide +kernel
theorem dX14_move_169 : decode prog_13_method_75_code 169 = .ok (.iastore, 1) := by decide +kernel
theorem dX14_move_170 : decode prog_13_method_75_code 170 = .ok (.iinc 7 1, 3) := by decide +kernel
theorem dX14_move_173 : decode prog_13_method_75_code 173 = .ok (.goto (-37), 3) := by decide +kernel
theorem dX14_move_176 : decode prog_13_method_75_code 176 = .ok (.aload_n 0, 1) := by decide +kernel
theorem dX14_move_177 : decode prog_13_method_75_code 177 = .ok (.bipush 16, 2) := by decide +kernel
theorem dX14_move_179 : decode prog_13_method_75_code 179 = .ok (.invokevirtual 590, 3) := by decide +kernel
theorem dX14_move_182 : decode prog_13_method_75_code 182 = .ok (.return_, 1) := by decide +kernel
theorem dX14_draw_0 : decode prog_13_method_76_code 0 = .ok (.aload_n 0, 1) := by decide +kernel
theorem dX14_draw_1 : decode prog_13_method_76_code 1 = .ok (.aload_n 0, 1) := by decide +kernel
theorem dX14_draw_2 : decode prog_13_method_76_code 2 = .ok (.getfield 604, 3) := by decide +kernel
theorem dX14_draw_5 : decode prog_13_method_76_code 5 = .ok (.ldc_w 607, 3) := by decide +kernel
theorem dX14_draw_8 : decode prog_13_method_76_code 8 = .ok (.imul, 1) := by decide +kernel
theorem dX14_draw_9 : decode prog_13_method_76_code 9 = .ok (.sipush 12345, 3) := by decide +kernel
theorem dX14_draw_12 : decode prog_13_method_76_code 12 = .ok (.iadd, 1) := by decide +kernel
theorem dX14_draw_13 : decode prog_13_method_76_code 13 = .ok (.putfield 604, 3) := by decide +kernel
theorem dX14_draw_16 : decode prog_13_method_76_code 16 = .ok (.aload_n 0, 1) := by decide +kernel
theorem dX14_draw_17 : decode prog_13_method_76_code 17 = .ok (.getfield 604, 3) := by decide +kernel
theorem dX14_draw_20 : decode prog_13_method_76_code 20 = .ok (.bipush 8, 2) := by decide +kernel
theorem dX14_draw_22 : decode prog_13_method_76_code 22 = .ok (.iushr, 1) := by decide +kernel
theorem dX14_draw_23 : decode prog_13_method_76_code 23 = .ok (.iload_n 1, 1) := by decide +kernel
theorem dX14_draw_24 : decode prog_13_method_76_code 24 = .ok (.irem, 1) := by decide +kernel
theorem dX14_draw_25 : decode prog_13_method_76_code 25 = .ok (.ireturn, 1) := by decide +kernel
theorem dX14_fill_0 : decode prog_13_method_77_code 0 = .ok (.iload_n 1, 1) := by decide +kernel
theorem dX14_fill_1 : decode prog_13_method_77_code 1 = .ok (.iconst 1, 1) := by decide +kernel
theorem dX14_fill_2 : decode prog_13_method_77_code 2 = .ok (.if_icmp .lt 46, 3) := by decide +kernel
theorem dX14_fill_5 : decode prog_13_method_77_code 5 = .ok (.iload_n 2, 1) := by decide +kernel
theorem dX14_fill_6 : decode prog_13_method_77_code 6 = .ok (.iconst 1, 1) := by decide +kernel
theorem dX14_fill_7 : decode prog_13_method_77_code 7 = .ok (.if_icmp .lt 41, 3) := by decide +kernel
theorem dX14_fill_10 : decode prog_13_method_77_code 10 = .ok (.iload_n 2, 1) := by decide +kernel
theorem dX14_fill_11 : decode prog_13_method_77_code 11 = .ok (.bipush 100, 2) := by decide +kernel
theorem dX14_fill_13 : decode prog_13_method_77_code 13 = .ok (.if_icmp .gt 35, 3) := by decide +kernel
theorem dX14_fill_16 : decode prog_13_method_77_code 16 = .ok (.iload_n 1, 1) := by decide +kernel
theorem dX14_fill_17 : decode prog_13_method_77_code 17 = .ok (.i2l, 1) := by decide +kernel
theorem dX14_fill_18 : decode prog_13_method_77_code 18 = .ok (.iload_n 2, 1) := by decide +kernel
theorem dX14_fill_19 : decode prog_13_method_77_code 19 = .ok (.i2l, 1) := by decide +kernel
theorem dX14_fill_20 : decode prog_13_method_77_code 20 = .ok (.ladd, 1) := by decide +kernel
theorem dX14_fill_21 : decode prog_13_method_77_code 21 = .ok (.lconst 1, 1) := by decide +kernel
theorem dX14_fill_22 : decode prog_13_method_77_code 22 = .ok (.lsub, 1) := by decide +kernel
theorem dX14_fill_23 : decode prog_13_method_77_code 23 = .ok (.ldc2_w 608, 3) := by decide +kernel
theorem dX14_fill_26 : decode prog_13_method_77_code 26 = .ok (.lcmp, 1) := by decide +kernel
theorem dX14_fill_27 : decode prog_13_method_77_code 27 = .ok (.ifCond .gt 21, 3) := by decide +kernel
theorem dX14_fill_30 : decode prog_13_method_77_code 30 = .ok (.iload 6, 2) := by decide +kernel
theorem dX14_fill_32 : decode prog_13_method_77_code 32 = .ok (.iconst 1, 1) := by decide +kernel
theorem dX14_fill_33 : decode prog_13_method_77_code 33 = .ok (.if_icmp .lt 15, 3) := by decide +kernel
theorem dX14_fill_36 : decode prog_13_method_77_code 36 = .ok (.iload 6, 2) := by decide +kernel
theorem dX14_fill_38 : decode prog_13_method_77_code 38 = .ok (.ldc_w 610, 3) := by decide +kernel
theorem dX14_fill_41 : decode prog_13_method_77_code 41 = .ok (.if_icmp .gt 7, 3) := by decide +kernel
theorem dX14_fill_44 : decode prog_13_method_77_code 44 = .ok (.iconst 1, 1) := by decide +kernel
theorem dX14_fill_45 : decode prog_13_method_77_code 45 = .ok (.goto 4, 3) := by decide +kernel
theorem dX14_fill_48 : decode prog_13_method_77_code 48 = .ok (.iconst 0, 1) := by decide +kernel
theorem dX14_fill_49 : decode prog_13_method_77_code 49 = .ok (.istore 8, 2) := by decide +kernel
theorem dX14_fill_51 : decode prog_13_method_77_code 51 = .ok (.iload 8, 2) := by decide +kernel
theorem dX14_fill_53 : decode prog_13_method_77_code 53 = .ok (.ifCond .eq 47, 3) := by decide +kernel
theorem dX14_fill_56 : decode prog_13_method_77_code 56 = .ok (.iload 4, 2) := by decide +kernel
theorem dX14_fill_58 : decode prog_13_method_77_code 58 = .ok (.i2l, 1) := by decide +kernel
theorem dX14_fill_59 : decode prog_13_method_77_code 59 = .ok (.iload 6, 2) := by decide +kernel
theorem dX14_fill_61 : decode prog_13_method_77_code 61 = .ok (.i2l, 1) := by decide +kernel
theorem dX14_fill_62 : decode prog_13_method_77_code 62 = .ok (.ladd, 1) := by decide +kernel
theorem dX14_fill_63 : decode prog_13_method_77_code 63 = .ok (.iload 6, 2) := by decide +kernel
theorem dX14_fill_65 : decode prog_13_method_77_code 65 = .ok (.bipush 16, 2) := by decide +kernel
theorem dX14_fill_67 : decode prog_13_method_77_code 67 = .ok (.idiv, 1) := by decide +kernel
theorem dX14_fill_68 : decode prog_13_method_77_code 68 = .ok (.i2l, 1) := by decide +kernel
theorem dX14_fill_69 : decode prog_13_method_77_code 69 = .ok (.ladd, 1) := by decide +kernel
theorem dX14_fill_70 : decode prog_13_method_77_code 70 = .ok (.lconst 1, 1) := by decide +kernel
theorem dX14_fill_71 : decode prog_13_method_77_code 71 = .ok (.ladd, 1) := by decide +kernel
theorem dX14_fill_72 : decode prog_13_method_77_code 72 = .ok (.invokestatic 600, 3) := by decide +kernel
theorem dX14_fill_75 : decode prog_13_method_77_code 75 = .ok (.ifCond .eq 25, 3) := by decide +kernel
theorem dX14_fill_78 : decode prog_13_method_77_code 78 = .ok (.iload 5, 2) := by decide +kernel
theorem dX14_fill_80 : decode prog_13_method_77_code 80 = .ok (.i2l, 1) := by decide +kernel
theorem dX14_fill_81 : decode prog_13_method_77_code 81 = .ok (.iload 6, 2) := by decide +kernel
theorem dX14_fill_83 : decode prog_13_method_77_code 83 = .ok (.i2l, 1) := by decide +kernel
theorem dX14_fill_84 : decode prog_13_method_77_code 84 = .ok (.ladd, 1) := by decide +kernel
theorem dX14_fill_85 : decode prog_13_method_77_code 85 = .ok (.iload 6, 2) := by decide +kernel
theorem dX14_fill_87 : decode prog_13_method_77_code 87 = .ok (.bipush 16, 2) := by decide +kernel
theorem dX14_fill_89 : decode prog_13_method_77_code 89 = .ok (.idiv, 1) := by decide +kernel
theorem dX14_fill_90 : decode prog_13_method_77_code 90 = .ok (.i2l, 1) := by decide +kernel
theorem dX14_fill_91 : decode prog_13_method_77_code 91 = .ok (.ladd, 1) := by decide +kernel
theorem dX14_fill_92 : decode prog_13_method_77_code 92 = .ok (.lconst 1, 1) := by decide +kernel
theorem dX14_fill_93 : decode prog_13_method_77_code 93 = .ok (.ladd, 1) := by decide +kernel
theorem dX14_fill_94 : decode prog_13_method_77_code 94 = .ok (.invokestatic 600, 3) := by decide +kernel
theorem dX14_fill_97 : decode prog_13_method_77_code 97 = .ok (.ifCond .ne 9, 3) := by decide +kernel
theorem dX14_fill_100 : decode prog_13_method_77_code 100 = .ok (.aload_n 0, 1) := by decide +kernel
theorem dX14_fill_101 : decode prog_13_method_77_code 101 = .ok (.iconst 5, 1) := by decide +kernel
theorem dX14_fill_102 : decode prog_13_method_77_code 102 = .ok (.invokevirtual 557, 3) := by decide +kernel
theorem dX14_fill_105 : decode prog_13_method_77_code 105 = .ok (.return_, 1) := by decide +kernel
theorem dX14_fill_106 : decode prog_13_method_77_code 106 = .ok (.iconst 0, 1) := by decide +kernel
theorem dX14_fill_107 : decode prog_13_method_77_code 107 = .ok (.istore 9, 2) := by decide +kernel
theorem dX14_fill_109 : decode prog_13_method_77_code 109 = .ok (.iload 9, 2) := by decide +kernel
theorem dX14_fill_111 : decode prog_13_method_77_code 111 = .ok (.iload_n 2, 1) := by decide +kernel
theorem dX14_fill_112 : decode prog_13_method_77_code 112 = .ok (.if_icmp .ge 29, 3) := by decide +kernel
theorem dX14_fill_115 : decode prog_13_method_77_code 115 = .ok (.aload_n 0, 1) := by decide +kernel
theorem dX14_fill_116 : decode prog_13_method_77_code 116 = .ok (.getfield 351, 3) := by decide +kernel
theorem dX14_fill_119 : decode prog_13_method_77_code 119 = .ok (.iload_n 1, 1) := by decide +kernel
theorem dX14_fill_120 : decode prog_13_method_77_code 120 = .ok (.iload 9, 2) := by decide +kernel
theorem dX14_fill_122 : decode prog_13_method_77_code 122 = .ok (.iadd, 1) := by decide +kernel
theorem dX14_fill_123 : decode prog_13_method_77_code 123 = .ok (.invokevirtual 573, 3) := by decide +kernel
theorem dX14_fill_126 : decode prog_13_method_77_code 126 = .ok (.ifCond .lt 9, 3) := by decide +kernel
theorem dX14_fill_129 : decode prog_13_method_77_code 129 = .ok (.aload_n 0, 1) := by decide +kernel
theorem dX14_fill_130 : decode prog_13_method_77_code 130 = .ok (.iconst 1, 1) := by decide +kernel
theorem dX14_fill_131 : decode prog_13_method_77_code 131 = .ok (.invokevirtual 557, 3) := by decide +kernel
theorem dX14_fill_134 : decode prog_13_method_77_code 134 = .ok (.return_, 1) := by decide +kernel
theorem dX14_fill_135 : decode prog_13_method_77_code 135 = .ok (.iinc 9 1, 3) := by decide +kernel
theorem dX14_fill_138 : decode prog_13_method_77_code 138 = .ok (.goto (-29), 3) := by decide +kernel
theorem dX14_fill_141 : decode prog_13_method_77_code 141 = .ok (.aload_n 0, 1) := by decide +kernel
theorem dX14_fill_142 : decode prog_13_method_77_code 142 = .ok (.getfield 351, 3) := by decide +kernel
theorem dX14_fill_145 : decode prog_13_method_77_code 145 = .ok (.getfield 581, 3) := by decide +kernel
theorem dX14_fill_148 : decode prog_13_method_77_code 148 = .ok (.iload_n 2, 1) := by decide +kernel
theorem dX14_fill_149 : decode prog_13_method_77_code 149 = .ok (.iadd, 1) := by decide +kernel
theorem dX14_fill_150 : decode prog_13_method_77_code 150 = .ok (.sipush 200, 3) := by decide +kernel
theorem dX14_fill_153 : decode prog_13_method_77_code 153 = .ok (.if_icmp .gt 12, 3) := by decide +kernel
theorem dX14_fill_156 : decode prog_13_method_77_code 156 = .ok (.aload_n 0, 1) := by decide +kernel
theorem dX14_fill_157 : decode prog_13_method_77_code 157 = .ok (.bipush 32, 2) := by decide +kernel
theorem dX14_fill_159 : decode prog_13_method_77_code 159 = .ok (.invokevirtual 584, 3) := by decide +kernel
theorem dX14_fill_162 : decode prog_13_method_77_code 162 = .ok (.ifCond .ne 9, 3) := by decide +kernel
theorem dX14_fill_165 : decode prog_13_method_77_code 165 = .ok (.aload_n 0, 1) := by decide +kernel
theorem dX14_fill_166 : decode prog_13_method_77_code 166 = .ok (.iconst 4, 1) := by decide +kernel
theorem dX14_fill_167 : decode prog_13_method_77_code 167 = .ok (.invokevirtual 557, 3) := by decide +kernel
theorem dX14_fill_170 : decode prog_13_method_77_code 170 = .ok (.return_, 1) := by decide +kernel
theorem dX14_fill_171 : decode prog_13_method_77_code 171 = .ok (.aload_n 0, 1) := by decide +kernel
theorem dX14_fill_172 : decode prog_13_method_77_code 172 = .ok (.iload 7, 2) := by decide +kernel
theorem dX14_fill_174 : decode prog_13_method_77_code 174 = .ok (.putfield 604, 3) := by decide +kernel
theorem dX14_fill_177 : decode prog_13_method_77_code 177 = .ok (.iconst 0, 1) := by decide +kernel
theorem dX14_fill_178 : decode prog_13_method_77_code 178 = .ok (.istore 9, 2) := by decide +kernel
theorem dX14_fill_180 : decode prog_13_method_77_code 180 = .ok (.iload 9, 2) := by decide +kernel
theorem dX14_fill_182 : decode prog_13_method_77_code 182 = .ok (.iload_n 2, 1) := by decide +kernel
theorem dX14_fill_183 : decode prog_13_method_77_code 183 = .ok (.if_icmp .ge 35, 3) := by decide +kernel
theorem dX14_fill_186 : decode prog_13_method_77_code 186 = .ok (.aload_n 0, 1) := by decide +kernel
theorem dX14_fill_187 : decode prog_13_method_77_code 187 = .ok (.iload_n 3, 1) := by decide +kernel
theorem dX14_fill_188 : decode prog_13_method_77_code 188 = .ok (.iload 4, 2) := by decide +kernel
theorem dX14_fill_190 : decode prog_13_method_77_code 190 = .ok (.iload 5, 2) := by decide +kernel
theorem dX14_fill_192 : decode prog_13_method_77_code 192 = .ok (.iload 6, 2) := by decide +kernel
theorem dX14_fill_194 : decode prog_13_method_77_code 194 = .ok (.invokevirtual 611, 3) := by decide +kernel
theorem dX14_fill_197 : decode prog_13_method_77_code 197 = .ok (.aload_n 0, 1) := by decide +kernel
theorem dX14_fill_198 : decode prog_13_method_77_code 198 = .ok (.getfield 351, 3) := by decide +kernel
theorem dX14_fill_201 : decode prog_13_method_77_code 201 = .ok (.iload_n 1, 1) := by decide +kernel
theorem dX14_fill_202 : decode prog_13_method_77_code 202 = .ok (.iload 9, 2) := by decide +kernel
theorem dX14_fill_204 : decode prog_13_method_77_code 204 = .ok (.iadd, 1) := by decide +kernel
theorem dX14_fill_205 : decode prog_13_method_77_code 205 = .ok (.aload_n 0, 1) := by decide +kernel
theorem dX14_fill_206 : decode prog_13_method_77_code 206 = .ok (.getfield 432, 3) := by decide +kernel
theorem dX14_fill_209 : decode prog_13_method_77_code 209 = .ok (.invokevirtual 587, 3) := by decide +kernel
theorem dX14_fill_212 : decode prog_13_method_77_code 212 = .ok (.iinc 9 1, 3) := by decide +kernel
theorem dX14_fill_215 : decode prog_13_method_77_code 215 = .ok (.goto (-35), 3) := by decide +kernel
theorem dX14_fill_218 : decode prog_13_method_77_code 218 = .ok (.aload_n 0, 1) := by decide +kernel
theorem dX14_fill_219 : decode prog_13_method_77_code 219 = .ok (.bipush 32, 2) := by decide +kernel
theorem dX14_fill_221 : decode prog_13_method_77_code 221 = .ok (.invokevirtual 590, 3) := by decide +kernel
theorem dX14_fill_224 : decode prog_13_method_77_code 224 = .ok (.return_, 1) := by decide +kernel
theorem dX14_made_0 : decode prog_13_method_78_code 0 = .ok (.iload_n 2, 1) := by decide +kernel
theorem dX14_made_1 : decode prog_13_method_78_code 1 = .ok (.aload_n 0, 1) := by decide +kernel
theorem dX14_made_2 : decode prog_13_method_78_code 2 = .ok (.iload 4, 2) := by decide +kernel
theorem dX14_made_4 : decode prog_13_method_78_code 4 = .ok (.invokevirtual 614, 3) := by decide +kernel
theorem dX14_made_7 : decode prog_13_method_78_code 7 = .ok (.iadd, 1) := by decide +kernel
theorem dX14_made_8 : decode prog_13_method_78_code 8 = .ok (.istore 5, 2) := by decide +kernel
theorem dX14_made_10 : decode prog_13_method_78_code 10 = .ok (.iload_n 3, 1) := by decide +kernel
theorem dX14_made_11 : decode prog_13_method_78_code 11 = .ok (.aload_n 0, 1) := by decide +kernel
theorem dX14_made_12 : decode prog_13_method_78_code 12 = .ok (.iload 4, 2) := by decide +kernel
theorem dX14_made_14 : decode prog_13_method_78_code 14 = .ok (.invokevirtual 614, 3) := by decide +kernel
theorem dX14_made_17 : decode prog_13_method_78_code 17 = .ok (.iadd, 1) := by decide +kernel
theorem dX14_made_18 : decode prog_13_method_78_code 18 = .ok (.istore 6, 2) := by decide +kernel
theorem dX14_made_20 : decode prog_13_method_78_code 20 = .ok (.aload_n 0, 1) := by decide +kernel
theorem dX14_made_21 : decode prog_13_method_78_code 21 = .ok (.getfield 432, 3) := by decide +kernel
theorem dX14_made_24 : decode prog_13_method_78_code 24 = .ok (.iload_n 1, 1) := by decide +kernel
theorem dX14_made_25 : decode prog_13_method_78_code 25 = .ok (.invokevirtual 238, 3) := by decide +kernel
theorem dX14_made_28 : decode prog_13_method_78_code 28 = .ok (.aload_n 0, 1) := by decide +kernel
theorem dX14_made_29 : decode prog_13_method_78_code 29 = .ok (.getfield 432, 3) := by decide +kernel
theorem dX14_made_32 : decode prog_13_method_78_code 32 = .ok (.iload 5, 2) := by decide +kernel
theorem dX14_made_34 : decode prog_13_method_78_code 34 = .ok (.iload 6, 2) := by decide +kernel
theorem dX14_made_36 : decode prog_13_method_78_code 36 = .ok (.invokevirtual 242, 3) := by decide +kernel
theorem dX14_made_39 : decode prog_13_method_78_code 39 = .ok (.iload_n 1, 1) := by decide +kernel
theorem dX14_made_40 : decode prog_13_method_78_code 40 = .ok (.iconst 1, 1) := by decide +kernel
theorem dX14_made_41 : decode prog_13_method_78_code 41 = .ok (.if_icmp .ne 48, 3) := by decide +kernel
theorem dX14_made_44 : decode prog_13_method_78_code 44 = .ok (.aload_n 0, 1) := by decide +kernel
theorem dX14_made_45 : decode prog_13_method_78_code 45 = .ok (.iload 4, 2) := by decide +kernel
theorem dX14_made_47 : decode prog_13_method_78_code 47 = .ok (.bipush 16, 2) := by decide +kernel
theorem dX14_made_49 : decode prog_13_method_78_code 49 = .ok (.idiv, 1) := by decide +kernel
theorem dX14_made_50 : decode prog_13_method_78_code 50 = .ok (.iconst 1, 1) := by decide +kernel
theorem dX14_made_51 : decode prog_13_method_78_code 51 = .ok (.iadd, 1) := by decide +kernel
theorem dX14_made_52 : decode prog_13_method_78_code 52 = .ok (.invokevirtual 614, 3) := by decide +kernel
theorem dX14_made_55 : decode prog_13_method_78_code 55 = .ok (.istore 7, 2) := by decide +kernel
theorem dX14_made_57 : decode prog_13_method_78_code 57 = .ok (.aload_n 0, 1) := by decide +kernel
theorem dX14_made_58 : decode prog_13_method_78_code 58 = .ok (.iload 4, 2) := by decide +kernel
theorem dX14_made_60 : decode prog_13_method_78_code 60 = .ok (.bipush 16, 2) := by decide +kernel
theorem dX14_made_62 : decode prog_13_method_78_code 62 = .ok (.idiv, 1) := by decide +kernel
theorem dX14_made_63 : decode prog_13_method_78_code 63 = .ok (.iconst 1, 1) := by decide +kernel
theorem dX14_made_64 : decode prog_13_method_78_code 64 = .ok (.iadd, 1) := by decide +kernel
theorem dX14_made_65 : decode prog_13_method_78_code 65 = .ok (.invokevirtual 614, 3) := by decide +kernel
theorem dX14_made_68 : decode prog_13_method_78_code 68 = .ok (.istore 8, 2) := by decide +kernel
theorem dX14_made_70 : decode prog_13_method_78_code 70 = .ok (.aload_n 0, 1) := by decide +kernel
theorem dX14_made_71 : decode prog_13_method_78_code 71 = .ok (.getfield 432, 3) := by decide +kernel
theorem dX14_made_74 : decode prog_13_method_78_code 74 = .ok (.iload 5, 2) := by decide +kernel
theorem dX14_made_76 : decode prog_13_method_78_code 76 = .ok (.iload 7, 2) := by decide +kernel
theorem dX14_made_78 : decode prog_13_method_78_code 78 = .ok (.iadd, 1) := by decide +kernel
theorem dX14_made_79 : decode prog_13_method_78_code 79 = .ok (.iconst 1, 1) := by decide +kernel
theorem dX14_made_80 : decode prog_13_method_78_code 80 = .ok (.iadd, 1) := by decide +kernel
theorem dX14_made_81 : decode prog_13_method_78_code 81 = .ok (.iload 6, 2) := by decide +kernel
theorem dX14_made_83 : decode prog_13_method_78_code 83 = .ok (.iload 8, 2) := by decide +kernel
theorem dX14_made_85 : decode prog_13_method_78_code 85 = .ok (.iadd, 1) := by decide +kernel
theorem dX14_made_86 : decode prog_13_method_78_code 86 = .ok (.invokevirtual 242, 3) := by decide +kernel
theorem dX14_made_89 : decode prog_13_method_78_code 89 = .ok (.iload_n 1, 1) := by decide +kernel
theorem dX14_made_90 : decode prog_13_method_78_code 90 = .ok (.iconst 2, 1) := by decide +kernel
theorem dX14_made_91 : decode prog_13_method_78_code 91 = .ok (.if_icmp .ne 74, 3) := by decide +kernel
theorem dX14_made_94 : decode prog_13_method_78_code 94 = .ok (.aload_n 0, 1) := by decide +kernel
theorem dX14_made_95 : decode prog_13_method_78_code 95 = .ok (.iload 4, 2) := by decide +kernel
theorem dX14_made_97 : decode prog_13_method_78_code 97 = .ok (.bipush 16, 2) := by decide +kernel
theorem dX14_made_99 : decode prog_13_method_78_code 99 = .ok (.idiv, 1) := by decide +kernel
theorem dX14_made_100 : decode prog_13_method_78_code 100 = .ok (.iconst 1, 1) := by decide +kernel
theorem dX14_made_101 : decode prog_13_method_78_code 101 = .ok (.iadd, 1) := by decide +kernel
theorem dX14_made_102 : decode prog_13_method_78_code 102 = .ok (.invokevirtual 614, 3) := by decide +kernel
theorem dX14_made_105 : decode prog_13_method_78_code 105 = .ok (.iconst 1, 1) := by decide +kernel
theorem dX14_made_106 : decode prog_13_method_78_code 106 = .ok (.iadd, 1) := by decide +kernel
theorem dX14_made_107 : decode prog_13_method_78_code 107 = .ok (.istore 7, 2) := by decide +kernel
theorem dX14_made_109 : decode prog_13_method_78_code 109 = .ok (.aload_n 0, 1) := by decide +kernel
theorem dX14_made_110 : decode prog_13_method_78_code 110 = .ok (.getfield 432, 3) := by decide +kernel
theorem dX14_made_113 : decode prog_13_method_78_code 113 = .ok (.iload 5, 2) := by decide +kernel
theorem dX14_made_115 : decode prog_13_method_78_code 115 = .ok (.iload 7, 2) := by decide +kernel
theorem dX14_made_117 : decode prog_13_method_78_code 117 = .ok (.iadd, 1) := by decide +kernel
theorem dX14_made_118 : decode prog_13_method_78_code 118 = .ok (.iload 6, 2) := by decide +kernel
theorem dX14_made_120 : decode prog_13_method_78_code 120 = .ok (.invokevirtual 242, 3) := by decide +kernel
theorem dX14_made_123 : decode prog_13_method_78_code 123 = .ok (.aload_n 0, 1) := by decide +kernel
theorem dX14_made_124 : decode prog_13_method_78_code 124 = .ok (.getfield 432, 3) := by decide +kernel
theorem dX14_made_127 : decode prog_13_method_78_code 127 = .ok (.iload 5, 2) := by decide +kernel
theorem dX14_made_129 : decode prog_13_method_78_code 129 = .ok (.iload 7, 2) := by decide +kernel
theorem dX14_made_131 : decode prog_13_method_78_code 131 = .ok (.iadd, 1) := by decide +kernel
theorem dX14_made_132 : decode prog_13_method_78_code 132 = .ok (.iload 6, 2) := by decide +kernel
theorem dX14_made_134 : decode prog_13_method_78_code 134 = .ok (.iload 7, 2) := by decide +kernel
theorem dX14_made_136 : decode prog_13_method_78_code 136 = .ok (.iadd, 1) := by decide +kernel
theorem dX14_made_137 : decode prog_13_method_78_code 137 = .ok (.invokevirtual 242, 3) := by decide +kernel
theorem dX14_made_140 : decode prog_13_method_78_code 140 = .ok (.aload_n 0, 1) := by decide +kernel
theorem dX14_made_141 : decode prog_13_method_78_code 141 = .ok (.getfield 432, 3) := by decide +kernel
theorem dX14_made_144 : decode prog_13_method_78_code 144 = .ok (.iload 5, 2) := by decide +kernel
theorem dX14_made_146 : decode prog_13_method_78_code 146 = .ok (.iload 6, 2) := by decide +kernel
theorem dX14_made_148 : decode prog_13_method_78_code 148 = .ok (.iload 7, 2) := by decide +kernel
theorem dX14_made_150 : decode prog_13_method_78_code 150 = .ok (.iadd, 1) := by decide +kernel
theorem dX14_made_151 : decode prog_13_method_78_code 151 = .ok (.invokevirtual 242, 3) := by decide +kernel
theorem dX14_made_154 : decode prog_13_method_78_code 154 = .ok (.aload_n 0, 1) := by decide +kernel
theorem dX14_made_155 : decode prog_13_method_78_code 155 = .ok (.getfield 432, 3) := by decide +kernel
theorem dX14_made_158 : decode prog_13_method_78_code 158 = .ok (.iload 5, 2) := by decide +kernel
theorem dX14_made_160 : decode prog_13_method_78_code 160 = .ok (.iload 6, 2) := by decide +kernel
theorem dX14_made_162 : decode prog_13_method_78_code 162 = .ok (.invokevirtual 242, 3) := by decide +kernel
theorem dX14_made_165 : decode prog_13_method_78_code 165 = .ok (.aload_n 0, 1) := by decide +kernel
theorem dX14_made_166 : decode prog_13_method_78_code 166 = .ok (.getfield 432, 3) := by decide +kernel
theorem dX14_made_169 : decode prog_13_method_78_code 169 = .ok (.invokevirtual 246, 3) := by decide +kernel
theorem dX14_made_172 : decode prog_13_method_78_code 172 = .ok (.return_, 1) := by decide +kernel
theorem dX14_beginAnswers_0 : decode prog_13_method_79_code 0 = .ok (.aload_n 0, 1) := by decide +kernel
theorem dX14_beginAnswers_1 : decode prog_13_method_79_code 1 = .ok (.iconst 0, 1) := by decide +kernel
theorem dX14_beginAnswers_2 : decode prog_13_method_79_code 2 = .ok (.putfield 617, 3) := by decide +kernel
theorem dX14_beginAnswers_5 : decode prog_13_method_79_code 5 = .ok (.return_, 1) := by decide +kernel
theorem dX14_answer_0 : decode prog_13_method_80_code 0 = .ok (.aload_n 0, 1) := by decide +kernel
theorem dX14_answer_1 : decode prog_13_method_80_code 1 = .ok (.getfield 359, 3) := by decide +kernel
theorem dX14_answer_4 : decode prog_13_method_80_code 4 = .ok (.aload_n 0, 1) := by decide +kernel
theorem dX14_answer_5 : decode prog_13_method_80_code 5 = .ok (.getfield 362, 3) := by decide +kernel
theorem dX14_answer_8 : decode prog_13_method_80_code 8 = .ok (.iconst 2, 1) := by decide +kernel
theorem dX14_answer_9 : decode prog_13_method_80_code 9 = .ok (.iadd, 1) := by decide +kernel
theorem dX14_answer_10 : decode prog_13_method_80_code 10 = .ok (.aload_n 0, 1) := by decide +kernel
theorem dX14_answer_11 : decode prog_13_method_80_code 11 = .ok (.getfield 617, 3) := by decide +kernel
theorem dX14_answer_14 : decode prog_13_method_80_code 14 = .ok (.iadd, 1) := by decide +kernel
theorem dX14_answer_15 : decode prog_13_method_80_code 15 = .ok (.iload_n 1, 1) := by decide +kernel
theorem dX14_answer_16 : decode prog_13_method_80_code 16 = .ok (.iastore, 1) := by decide +kernel
theorem dX14_answer_17 : decode prog_13_method_80_code 17 = .ok (.aload_n 0, 1) := by decide +kernel
theorem dX14_answer_18 : decode prog_13_method_80_code 18 = .ok (.dup, 1) := by decide +kernel
theorem dX14_answer_19 : decode prog_13_method_80_code 19 = .ok (.getfield 617, 3) := by decide +kernel
theorem dX14_answer_22 : decode prog_13_method_80_code 22 = .ok (.iconst 1, 1) := by decide +kernel
theorem dX14_answer_23 : decode prog_13_method_80_code 23 = .ok (.iadd, 1) := by decide +kernel
theorem dX14_answer_24 : decode prog_13_method_80_code 24 = .ok (.putfield 617, 3) := by decide +kernel
theorem dX14_answer_27 : decode prog_13_method_80_code 27 = .ok (.return_, 1) := by decide +kernel
theorem dX14_endAnswers_0 : decode prog_13_method_81_code 0 = .ok (.aload_n 0, 1) := by decide +kernel
theorem dX14_endAnswers_1 : decode prog_13_method_81_code 1 = .ok (.getfield 362, 3) := by decide +kernel
theorem dX14_endAnswers_4 : decode prog_13_method_81_code 4 = .ok (.iconst 2, 1) := by decide +kernel
theorem dX14_endAnswers_5 : decode prog_13_method_81_code 5 = .ok (.iadd, 1) := by decide +kernel
theorem dX14_endAnswers_6 : decode prog_13_method_81_code 6 = .ok (.aload_n 0, 1) := by decide +kernel
theorem dX14_endAnswers_7 : decode prog_13_method_81_code 7 = .ok (.getfield 617, 3) := by decide +kernel
theorem dX14_endAnswers_10 : decode prog_13_method_81_code 10 = .ok (.iadd, 1) := by decide +kernel
theorem dX14_endAnswers_11 : decode prog_13_method_81_code 11 = .ok (.sipush 19000, 3) := by decide +kernel
theorem dX14_endAnswers_14 : decode prog_13_method_81_code 14 = .ok (.if_icmp .le 10, 3) := by decide +kernel
theorem dX14_endAnswers_17 : decode prog_13_method_81_code 17 = .ok (.aload_n 0, 1) := by decide +kernel
theorem dX14_endAnswers_18 : decode prog_13_method_81_code 18 = .ok (.bipush 7, 2) := by decide +kernel
theorem dX14_endAnswers_20 : decode prog_13_method_81_code 20 = .ok (.invokevirtual 557, 3) := by decide +kernel
theorem dX14_endAnswers_23 : decode prog_13_method_81_code 23 = .ok (.return_, 1) := by decide +kernel
theorem dX14_endAnswers_24 : decode prog_13_method_81_code 24 = .ok (.aload_n 0, 1) := by decide +kernel
theorem dX14_endAnswers_25 : decode prog_13_method_81_code 25 = .ok (.getfield 359, 3) := by decide +kernel
theorem dX14_endAnswers_28 : decode prog_13_method_81_code 28 = .ok (.aload_n 0, 1) := by decide +kernel
theorem dX14_endAnswers_29 : decode prog_13_method_81_code 29 = .ok (.getfield 362, 3) := by decide +kernel
theorem dX14_endAnswers_32 : decode prog_13_method_81_code 32 = .ok (.iconst 0, 1) := by decide +kernel
theorem dX14_endAnswers_33 : decode prog_13_method_81_code 33 = .ok (.iastore, 1) := by decide +kernel
theorem dX14_endAnswers_34 : decode prog_13_method_81_code 34 = .ok (.aload_n 0, 1) := by decide +kernel
theorem dX14_endAnswers_35 : decode prog_13_method_81_code 35 = .ok (.getfield 359, 3) := by decide +kernel
theorem dX14_endAnswers_38 : decode prog_13_method_81_code 38 = .ok (.aload_n 0, 1) := by decide +kernel
theorem dX14_endAnswers_39 : decode prog_13_method_81_code 39 = .ok (.getfield 362, 3) := by decide +kernel
theorem dX14_endAnswers_42 : decode prog_13_method_81_code 42 = .ok (.iconst 1, 1) := by decide +kernel
theorem dX14_endAnswers_43 : decode prog_13_method_81_code 43 = .ok (.iadd, 1) := by decide +kernel
theorem dX14_endAnswers_44 : decode prog_13_method_81_code 44 = .ok (.aload_n 0, 1) := by decide +kernel
theorem dX14_endAnswers_45 : decode prog_13_method_81_code 45 = .ok (.getfield 617, 3) := by decide +kernel
theorem dX14_endAnswers_48 : decode prog_13_method_81_code 48 = .ok (.iload_n 1, 1) := by decide +kernel
theorem dX14_endAnswers_49 : decode prog_13_method_81_code 49 = .ok (.idiv, 1) := by decide +kernel
theorem dX14_endAnswers_50 : decode prog_13_method_81_code 50 = .ok (.iastore, 1) := by decide +kernel
theorem dX14_endAnswers_51 : decode prog_13_method_81_code 51 = .ok (.aload_n 0, 1) := by decide +kernel
theorem dX14_endAnswers_52 : decode prog_13_method_81_code 52 = .ok (.dup, 1) := by decide +kernel
theorem dX14_endAnswers_53 : decode prog_13_method_81_code 53 = .ok (.getfield 362, 3) := by decide +kernel
theorem dX14_endAnswers_56 : decode prog_13_method_81_code 56 = .ok (.iconst 2, 1) := by decide +kernel
theorem dX14_endAnswers_57 : decode prog_13_method_81_code 57 = .ok (.aload_n 0, 1) := by decide +kernel
theorem dX14_endAnswers_58 : decode prog_13_method_81_code 58 = .ok (.getfield 617, 3) := by decide +kernel
theorem dX14_endAnswers_61 : decode prog_13_method_81_code 61 = .ok (.iadd, 1) := by decide +kernel
theorem dX14_endAnswers_62 : decode prog_13_method_81_code 62 = .ok (.iadd, 1) := by decide +kernel
theorem dX14_endAnswers_63 : decode prog_13_method_81_code 63 = .ok (.putfield 362, 3) := by decide +kernel
theorem dX14_endAnswers_66 : decode prog_13_method_81_code 66 = .ok (.return_, 1) := by decide +kernel
theorem dX14_find_0 : decode prog_13_method_82_code 0 = .ok (.aload_n 0, 1) := by decide +kernel
theorem dX14_find_1 : decode prog_13_method_82_code 1 = .ok (.invokevirtual 575, 3) := by decide +kernel
theorem dX14_find_4 : decode prog_13_method_82_code 4 = .ok (.ifCond .eq 11, 3) := by decide +kernel
theorem dX14_find_7 : decode prog_13_method_82_code 7 = .ok (.aload_n 0, 1) := by decide +kernel
theorem dX14_find_8 : decode prog_13_method_82_code 8 = .ok (.iconst 4, 1) := by decide +kernel
theorem dX14_find_9 : decode prog_13_method_82_code 9 = .ok (.invokevirtual 557, 3) := by decide +kernel
theorem dX14_find_12 : decode prog_13_method_82_code 12 = .ok (.goto 87, 3) := by decide +kernel
theorem dX14_find_15 : decode prog_13_method_82_code 15 = .ok (.aload_n 0, 1) := by decide +kernel
theorem dX14_find_16 : decode prog_13_method_82_code 16 = .ok (.aload_n 0, 1) := by decide +kernel
theorem dX14_find_17 : decode prog_13_method_82_code 17 = .ok (.getfield 432, 3) := by decide +kernel
theorem dX14_find_20 : decode prog_13_method_82_code 20 = .ok (.invokevirtual 578, 3) := by decide +kernel
theorem dX14_find_23 : decode prog_13_method_82_code 23 = .ok (.ifCond .ne 11, 3) := by decide +kernel
theorem dX14_find_26 : decode prog_13_method_82_code 26 = .ok (.aload_n 0, 1) := by decide +kernel
theorem dX14_find_27 : decode prog_13_method_82_code 27 = .ok (.iconst 3, 1) := by decide +kernel
theorem dX14_find_28 : decode prog_13_method_82_code 28 = .ok (.invokevirtual 557, 3) := by decide +kernel
theorem dX14_find_31 : decode prog_13_method_82_code 31 = .ok (.goto 68, 3) := by decide +kernel
theorem dX14_find_34 : decode prog_13_method_82_code 34 = .ok (.aload_n 0, 1) := by decide +kernel
theorem dX14_find_35 : decode prog_13_method_82_code 35 = .ok (.invokevirtual 620, 3) := by decide +kernel
theorem dX14_find_38 : decode prog_13_method_82_code 38 = .ok (.iconst 0, 1) := by decide +kernel
theorem dX14_find_39 : decode prog_13_method_82_code 39 = .ok (.istore_n 2, 1) := by decide +kernel
theorem dX14_find_40 : decode prog_13_method_82_code 40 = .ok (.iload_n 2, 1) := by decide +kernel
theorem dX14_find_41 : decode prog_13_method_82_code 41 = .ok (.aload_n 0, 1) := by decide +kernel
theorem dX14_find_42 : decode prog_13_method_82_code 42 = .ok (.getfield 351, 3) := by decide +kernel
theorem dX14_find_45 : decode prog_13_method_82_code 45 = .ok (.getfield 581, 3) := by decide +kernel
theorem dX14_find_48 : decode prog_13_method_82_code 48 = .ok (.if_icmp .ge 46, 3) := by decide +kernel
theorem dX14_find_51 : decode prog_13_method_82_code 51 = .ok (.aload_n 0, 1) := by decide +kernel
theorem dX14_find_52 : decode prog_13_method_82_code 52 = .ok (.iload_n 1, 1) := by decide +kernel
theorem dX14_find_53 : decode prog_13_method_82_code 53 = .ok (.aload_n 0, 1) := by decide +kernel
theorem dX14_find_54 : decode prog_13_method_82_code 54 = .ok (.getfield 351, 3) := by decide +kernel
theorem dX14_find_57 : decode prog_13_method_82_code 57 = .ok (.getfield 596, 3) := by decide +kernel
theorem dX14_find_60 : decode prog_13_method_82_code 60 = .ok (.iload_n 2, 1) := by decide +kernel
theorem dX14_find_61 : decode prog_13_method_82_code 61 = .ok (.aaload, 1) := by decide +kernel
theorem dX14_find_62 : decode prog_13_method_82_code 62 = .ok (.aload_n 0, 1) := by decide +kernel
theorem dX14_find_63 : decode prog_13_method_82_code 63 = .ok (.getfield 432, 3) := by decide +kernel
theorem dX14_find_66 : decode prog_13_method_82_code 66 = .ok (.invokevirtual 623, 3) := by decide +kernel
theorem dX14_find_69 : decode prog_13_method_82_code 69 = .ok (.ifCond .eq 19, 3) := by decide +kernel
theorem dX14_find_72 : decode prog_13_method_82_code 72 = .ok (.aload_n 0, 1) := by decide +kernel
theorem dX14_find_73 : decode prog_13_method_82_code 73 = .ok (.aload_n 0, 1) := by decide +kernel
theorem dX14_find_74 : decode prog_13_method_82_code 74 = .ok (.getfield 351, 3) := by decide +kernel
theorem dX14_find_77 : decode prog_13_method_82_code 77 = .ok (.getfield 596, 3) := by decide +kernel
theorem dX14_find_80 : decode prog_13_method_82_code 80 = .ok (.iload_n 2, 1) := by decide +kernel
theorem dX14_find_81 : decode prog_13_method_82_code 81 = .ok (.aaload, 1) := by decide +kernel
theorem dX14_find_82 : decode prog_13_method_82_code 82 = .ok (.getfield 627, 3) := by decide +kernel
theorem dX14_find_85 : decode prog_13_method_82_code 85 = .ok (.invokevirtual 630, 3) := by decide +kernel
theorem dX14_find_88 : decode prog_13_method_82_code 88 = .ok (.iinc 2 1, 3) := by decide +kernel
theorem dX14_find_91 : decode prog_13_method_82_code 91 = .ok (.goto (-51), 3) := by decide +kernel
theorem dX14_find_94 : decode prog_13_method_82_code 94 = .ok (.aload_n 0, 1) := by decide +kernel
theorem dX14_find_95 : decode prog_13_method_82_code 95 = .ok (.iconst 1, 1) := by decide +kernel
theorem dX14_find_96 : decode prog_13_method_82_code 96 = .ok (.invokevirtual 633, 3) := by decide +kernel
theorem dX14_find_99 : decode prog_13_method_82_code 99 = .ok (.return_, 1) := by decide +kernel
theorem dX14_windowOf_0 : decode prog_13_method_83_code 0 = .ok (.iload_n 3, 1) := by decide +kernel
theorem dX14_windowOf_1 : decode prog_13_method_83_code 1 = .ok (.iload_n 1, 1) := by decide +kernel
theorem dX14_windowOf_2 : decode prog_13_method_83_code 2 = .ok (.if_icmp .lt 9, 3) := by decide +kernel
theorem dX14_windowOf_5 : decode prog_13_method_83_code 5 = .ok (.iload 4, 2) := by decide +kernel
theorem dX14_windowOf_7 : decode prog_13_method_83_code 7 = .ok (.iload_n 2, 1) := by decide +kernel
theorem dX14_windowOf_8 : decode prog_13_method_83_code 8 = .ok (.if_icmp .ge 9, 3) := by decide +kernel
theorem dX14_windowOf_11 : decode prog_13_method_83_code 11 = .ok (.aload_n 0, 1) := by decide +kernel
theorem dX14_windowOf_12 : decode prog_13_method_83_code 12 = .ok (.iconst 5, 1) := by decide +kernel
theorem dX14_windowOf_13 : decode prog_13_method_83_code 13 = .ok (.invokevirtual 557, 3) := by decide +kernel
theorem dX14_windowOf_16 : decode prog_13_method_83_code 16 = .ok (.return_, 1) := by decide +kernel
theorem dX14_windowOf_17 : decode prog_13_method_83_code 17 = .ok (.iload_n 1, 1) := by decide +kernel
theorem dX14_windowOf_18 : decode prog_13_method_83_code 18 = .ok (.iload_n 3, 1) := by decide +kernel
theorem dX14_windowOf_19 : decode prog_13_method_83_code 19 = .ok (.if_icmp .eq 9, 3) := by decide +kernel
theorem dX14_windowOf_22 : decode prog_13_method_83_code 22 = .ok (.iload_n 2, 1) := by decide +kernel
theorem dX14_windowOf_23 : decode prog_13_method_83_code 23 = .ok (.iload 4, 2) := by decide +kernel
theorem dX14_windowOf_25 : decode prog_13_method_83_code 25 = .ok (.if_icmp .ne 7, 3) := by decide +kernel
theorem dX14_windowOf_28 : decode prog_13_method_83_code 28 = .ok (.iconst 1, 1) := by decide +kernel
theorem dX14_windowOf_29 : decode prog_13_method_83_code 29 = .ok (.goto 4, 3) := by decide +kernel
theorem dX14_windowOf_32 : decode prog_13_method_83_code 32 = .ok (.iconst 0, 1) := by decide +kernel
theorem dX14_windowOf_33 : decode prog_13_method_83_code 33 = .ok (.istore 5, 2) := by decide +kernel
theorem dX14_windowOf_35 : decode prog_13_method_83_code 35 = .ok (.aload_n 0, 1) := by decide +kernel
theorem dX14_windowOf_36 : decode prog_13_method_83_code 36 = .ok (.getfield 474, 3) := by decide +kernel
theorem dX14_windowOf_39 : decode prog_13_method_83_code 39 = .ok (.iload_n 1, 1) := by decide +kernel
theorem dX14_windowOf_40 : decode prog_13_method_83_code 40 = .ok (.iload_n 3, 1) := by decide +kernel
theorem dX14_windowOf_41 : decode prog_13_method_83_code 41 = .ok (.if_icmp .ne 13, 3) := by decide +kernel
theorem dX14_windowOf_44 : decode prog_13_method_83_code 44 = .ok (.iload_n 2, 1) := by decide +kernel
theorem dX14_windowOf_45 : decode prog_13_method_83_code 45 = .ok (.iload 4, 2) := by decide +kernel
theorem dX14_windowOf_47 : decode prog_13_method_83_code 47 = .ok (.if_icmp .ne 7, 3) := by decide +kernel
theorem dX14_windowOf_50 : decode prog_13_method_83_code 50 = .ok (.iconst 0, 1) := by decide +kernel
theorem dX14_windowOf_51 : decode prog_13_method_83_code 51 = .ok (.goto 13, 3) := by decide +kernel
theorem dX14_windowOf_54 : decode prog_13_method_83_code 54 = .ok (.iload 5, 2) := by decide +kernel
theorem dX14_windowOf_56 : decode prog_13_method_83_code 56 = .ok (.ifCond .eq 7, 3) := by decide +kernel
theorem dX14_windowOf_59 : decode prog_13_method_83_code 59 = .ok (.iconst 1, 1) := by decide +kernel
theorem dX14_windowOf_60 : decode prog_13_method_83_code 60 = .ok (.goto 4, 3) := by decide +kernel
theorem dX14_windowOf_63 : decode prog_13_method_83_code 63 = .ok (.iconst 2, 1) := by decide +kernel
theorem dX14_windowOf_64 : decode prog_13_method_83_code 64 = .ok (.invokevirtual 238, 3) := by decide +kernel
theorem dX14_windowOf_67 : decode prog_13_method_83_code 67 = .ok (.aload_n 0, 1) := by decide +kernel
theorem dX14_windowOf_68 : decode prog_13_method_83_code 68 = .ok (.getfield 474, 3) := by decide +kernel
theorem dX14_windowOf_71 : decode prog_13_method_83_code 71 = .ok (.iload_n 1, 1) := by decide +kernel
theorem dX14_windowOf_72 : decode prog_13_method_83_code 72 = .ok (.iload_n 2, 1) := by decide +kernel
theorem dX14_windowOf_73 : decode prog_13_method_83_code 73 = .ok (.invokevirtual 242, 3) := by decide +kernel
theorem dX14_windowOf_76 : decode prog_13_method_83_code 76 = .ok (.aload_n 0, 1) := by decide +kernel
theorem dX14_windowOf_77 : decode prog_13_method_83_code 77 = .ok (.getfield 474, 3) := by decide +kernel
theorem dX14_windowOf_80 : decode prog_13_method_83_code 80 = .ok (.getfield 75, 3) := by decide +kernel
theorem dX14_windowOf_83 : decode prog_13_method_83_code 83 = .ok (.iconst 1, 1) := by decide +kernel
theorem dX14_windowOf_84 : decode prog_13_method_83_code 84 = .ok (.if_icmp .ne 13, 3) := by decide +kernel
theorem dX14_windowOf_87 : decode prog_13_method_83_code 87 = .ok (.aload_n 0, 1) := by decide +kernel
theorem dX14_windowOf_88 : decode prog_13_method_83_code 88 = .ok (.getfield 474, 3) := by decide +kernel
theorem dX14_windowOf_91 : decode prog_13_method_83_code 91 = .ok (.iload_n 3, 1) := by decide +kernel
theorem dX14_windowOf_92 : decode prog_13_method_83_code 92 = .ok (.iload 4, 2) := by decide +kernel
theorem dX14_windowOf_94 : decode prog_13_method_83_code 94 = .ok (.invokevirtual 242, 3) := by decide +kernel
theorem dX14_windowOf_97 : decode prog_13_method_83_code 97 = .ok (.aload_n 0, 1) := by decide +kernel
theorem dX14_windowOf_98 : decode prog_13_method_83_code 98 = .ok (.getfield 474, 3) := by decide +kernel
theorem dX14_windowOf_101 : decode prog_13_method_83_code 101 = .ok (.getfield 75, 3) := by decide +kernel
theorem dX14_windowOf_104 : decode prog_13_method_83_code 104 = .ok (.iconst 2, 1) := by decide +kernel
theorem dX14_windowOf_105 : decode prog_13_method_83_code 105 = .ok (.if_icmp .ne 41, 3) := by decide +kernel
theorem dX14_windowOf_108 : decode prog_13_method_83_code 108 = .ok (.aload_n 0, 1) := by decide +kernel
theorem dX14_windowOf_109 : decode prog_13_method_83_code 109 = .ok (.getfield 474, 3) := by decide +kernel
theorem dX14_windowOf_112 : decode prog_13_method_83_code 112 = .ok (.iload_n 3, 1) := by decide +kernel
theorem dX14_windowOf_113 : decode prog_13_method_83_code 113 = .ok (.iload_n 2, 1) := by decide +kernel
theorem dX14_windowOf_114 : decode prog_13_method_83_code 114 = .ok (.invokevirtual 242, 3) := by decide +kernel
theorem dX14_windowOf_117 : decode prog_13_method_83_code 117 = .ok (.aload_n 0, 1) := by decide +kernel
theorem dX14_windowOf_118 : decode prog_13_method_83_code 118 = .ok (.getfield 474, 3) := by decide +kernel
theorem dX14_windowOf_121 : decode prog_13_method_83_code 121 = .ok (.iload_n 3, 1) := by decide +kernel
theorem dX14_windowOf_122 : decode prog_13_method_83_code 122 = .ok (.iload 4, 2) := by decide +kernel
theorem dX14_windowOf_124 : decode prog_13_method_83_code 124 = .ok (.invokevirtual 242, 3) := by decide +kernel
theorem dX14_windowOf_127 : decode prog_13_method_83_code 127 = .ok (.aload_n 0, 1) := by decide +kernel
theorem dX14_windowOf_128 : decode prog_13_method_83_code 128 = .ok (.getfield 474, 3) := by decide +kernel
theorem dX14_windowOf_131 : decode prog_13_method_83_code 131 = .ok (.iload_n 1, 1) := by decide +kernel
theorem dX14_windowOf_132 : decode prog_13_method_83_code 132 = .ok (.iload 4, 2) := by decide +kernel
theorem dX14_windowOf_134 : decode prog_13_method_83_code 134 = .ok (.invokevirtual 242, 3) := by decide +kernel
theorem dX14_windowOf_137 : decode prog_13_method_83_code 137 = .ok (.aload_n 0, 1) := by decide +kernel
theorem dX14_windowOf_138 : decode prog_13_method_83_code 138 = .ok (.getfield 474, 3) := by decide +kernel
theorem dX14_windowOf_141 : decode prog_13_method_83_code 141 = .ok (.iload_n 1, 1) := by decide +kernel
theorem dX14_windowOf_142 : decode prog_13_method_83_code 142 = .ok (.iload_n 2, 1) := by decide +kernel
theorem dX14_windowOf_143 : decode prog_13_method_83_code 143 = .ok (.invokevirtual 242, 3) := by decide +kernel
theorem dX14_windowOf_146 : decode prog_13_method_83_code 146 = .ok (.aload_n 0, 1) := by decide +kernel
theorem dX14_windowOf_147 : decode prog_13_method_83_code 147 = .ok (.getfield 474, 3) := by decide +kernel
theorem dX14_windowOf_150 : decode prog_13_method_83_code 150 = .ok (.invokevirtual 246, 3) := by decide +kernel
theorem dX14_windowOf_153 : decode prog_13_method_83_code 153 = .ok (.aload_n 0, 1) := by decide +kernel
theorem dX14_windowOf_154 : decode prog_13_method_83_code 154 = .ok (.invokevirtual 620, 3) := by decide +kernel
theorem dX14_windowOf_157 : decode prog_13_method_83_code 157 = .ok (.iconst 0, 1) := by decide +kernel
theorem dX14_windowOf_158 : decode prog_13_method_83_code 158 = .ok (.istore 6, 2) := by decide +kernel
theorem dX14_windowOf_160 : decode prog_13_method_83_code 160 = .ok (.iload 6, 2) := by decide +kernel
theorem dX14_windowOf_162 : decode prog_13_method_83_code 162 = .ok (.aload_n 0, 1) := by decide +kernel
theorem dX14_windowOf_163 : decode prog_13_method_83_code 163 = .ok (.getfield 351, 3) := by decide +kernel
theorem dX14_windowOf_166 : decode prog_13_method_83_code 166 = .ok (.getfield 581, 3) := by decide +kernel
theorem dX14_windowOf_169 : decode prog_13_method_83_code 169 = .ok (.if_icmp .ge 46, 3) := by decide +kernel
theorem dX14_windowOf_172 : decode prog_13_method_83_code 172 = .ok (.aload_n 0, 1) := by decide +kernel
theorem dX14_windowOf_173 : decode prog_13_method_83_code 173 = .ok (.getfield 351, 3) := by decide +kernel
theorem dX14_windowOf_176 : decode prog_13_method_83_code 176 = .ok (.getfield 596, 3) := by decide +kernel
theorem dX14_windowOf_179 : decode prog_13_method_83_code 179 = .ok (.iload 6, 2) := by decide +kernel
theorem dX14_windowOf_181 : decode prog_13_method_83_code 181 = .ok (.aaload, 1) := by decide +kernel
theorem dX14_windowOf_182 : decode prog_13_method_83_code 182 = .ok (.aload_n 0, 1) := by decide +kernel
theorem dX14_windowOf_183 : decode prog_13_method_83_code 183 = .ok (.getfield 474, 3) := by decide +kernel
theorem dX14_windowOf_186 : decode prog_13_method_83_code 186 = .ok (.invokestatic 213, 3) := by decide +kernel
theorem dX14_windowOf_189 : decode prog_13_method_83_code 189 = .ok (.ifCond .eq 20, 3) := by decide +kernel
theorem dX14_windowOf_192 : decode prog_13_method_83_code 192 = .ok (.aload_n 0, 1) := by decide +kernel
theorem dX14_windowOf_193 : decode prog_13_method_83_code 193 = .ok (.aload_n 0, 1) := by decide +kernel
