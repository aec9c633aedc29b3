abbrev b_lawm : ByteArray := code
theorem d_lawm_0 : decode b_lawm 0 = .ok (.new 8, 3) := by decide +kernel
theorem d_lawm_3 : decode b_lawm 3 = .ok (.dup, 1) := by decide +kernel
theorem d_lawm_4 : decode b_lawm 4 = .ok (.invokespecial 55, 3) := by decide +kernel
theorem d_lawm_7 : decode b_lawm 7 = .ok (.astore_n 1, 1) := by decide +kernel
theorem d_lawm_8 : decode b_lawm 8 = .ok (.new 56, 3) := by decide +kernel
theorem d_lawm_11 : decode b_lawm 11 = .ok (.dup, 1) := by decide +kernel
theorem d_lawm_12 : decode b_lawm 12 = .ok (.invokespecial 58, 3) := by decide +kernel
theorem d_lawm_15 : decode b_lawm 15 = .ok (.astore_n 2, 1) := by decide +kernel
theorem d_lawm_16 : decode b_lawm 16 = .ok (.iconst 1, 1) := by decide +kernel
theorem d_lawm_17 : decode b_lawm 17 = .ok (.newarray .long, 2) := by decide +kernel
theorem d_lawm_19 : decode b_lawm 19 = .ok (.astore_n 3, 1) := by decide +kernel
theorem d_lawm_20 : decode b_lawm 20 = .ok (.iconst 0, 1) := by decide +kernel
theorem d_lawm_21 : decode b_lawm 21 = .ok (.istore 4, 2) := by decide +kernel
theorem d_lawm_23 : decode b_lawm 23 = .ok (.iload 4, 2) := by decide +kernel
theorem d_lawm_25 : decode b_lawm 25 = .ok (.aload_n 0, 1) := by decide +kernel
theorem d_lawm_26 : decode b_lawm 26 = .ok (.arraylength, 1) := by decide +kernel
theorem d_lawm_27 : decode b_lawm 27 = .ok (.iconst 4, 1) := by decide +kernel
theorem d_lawm_28 : decode b_lawm 28 = .ok (.isub, 1) := by decide +kernel
theorem d_lawm_29 : decode b_lawm 29 = .ok (.if_icmp .gt 818, 3) := by decide +kernel
theorem d_lawm_32 : decode b_lawm 32 = .ok (.aload_n 0, 1) := by decide +kernel
theorem d_lawm_33 : decode b_lawm 33 = .ok (.iload 4, 2) := by decide +kernel
theorem d_lawm_35 : decode b_lawm 35 = .ok (.iaload, 1) := by decide +kernel
theorem d_lawm_36 : decode b_lawm 36 = .ok (.bipush 15, 2) := by decide +kernel
theorem d_lawm_38 : decode b_lawm 38 = .ok (.iand, 1) := by decide +kernel
theorem d_lawm_39 : decode b_lawm 39 = .ok (.tableswitch 802 0 14 #[73, 142, 155, 168, 181, 225, 293, 349, 400, 468, 524, 580, 628, 684, 739], 73) := by decide +kernel
theorem d_lawm_112 : decode b_lawm 112 = .ok (.aload_n 1, 1) := by decide +kernel
theorem d_lawm_113 : decode b_lawm 113 = .ok (.aload_n 0, 1) := by decide +kernel
theorem d_lawm_114 : decode b_lawm 114 = .ok (.iload 4, 2) := by decide +kernel
theorem d_lawm_116 : decode b_lawm 116 = .ok (.iconst 1, 1) := by decide +kernel
theorem d_lawm_117 : decode b_lawm 117 = .ok (.iadd, 1) := by decide +kernel
theorem d_lawm_118 : decode b_lawm 118 = .ok (.iaload, 1) := by decide +kernel
theorem d_lawm_119 : decode b_lawm 119 = .ok (.i2l, 1) := by decide +kernel
theorem d_lawm_120 : decode b_lawm 120 = .ok (.bipush 32, 2) := by decide +kernel
theorem d_lawm_122 : decode b_lawm 122 = .ok (.lshl, 1) := by decide +kernel
theorem d_lawm_123 : decode b_lawm 123 = .ok (.aload_n 0, 1) := by decide +kernel
theorem d_lawm_124 : decode b_lawm 124 = .ok (.iload 4, 2) := by decide +kernel
theorem d_lawm_126 : decode b_lawm 126 = .ok (.iconst 2, 1) := by decide +kernel
theorem d_lawm_127 : decode b_lawm 127 = .ok (.iadd, 1) := by decide +kernel
theorem d_lawm_128 : decode b_lawm 128 = .ok (.iaload, 1) := by decide +kernel
theorem d_lawm_129 : decode b_lawm 129 = .ok (.i2l, 1) := by decide +kernel
theorem d_lawm_130 : decode b_lawm 130 = .ok (.ldc2_w 59, 3) := by decide +kernel
theorem d_lawm_133 : decode b_lawm 133 = .ok (.land, 1) := by decide +kernel
theorem d_lawm_134 : decode b_lawm 134 = .ok (.lor, 1) := by decide +kernel
theorem d_lawm_135 : decode b_lawm 135 = .ok (.aload_n 0, 1) := by decide +kernel
theorem d_lawm_136 : decode b_lawm 136 = .ok (.iload 4, 2) := by decide +kernel
theorem d_lawm_138 : decode b_lawm 138 = .ok (.iconst 3, 1) := by decide +kernel
theorem d_lawm_139 : decode b_lawm 139 = .ok (.iadd, 1) := by decide +kernel
theorem d_lawm_140 : decode b_lawm 140 = .ok (.iaload, 1) := by decide +kernel
theorem d_lawm_141 : decode b_lawm 141 = .ok (.invokevirtual 61, 3) := by decide +kernel
theorem d_lawm_144 : decode b_lawm 144 = .ok (.aload_n 2, 1) := by decide +kernel
theorem d_lawm_145 : decode b_lawm 145 = .ok (.aload_n 0, 1) := by decide +kernel
theorem d_lawm_146 : decode b_lawm 146 = .ok (.iload 4, 2) := by decide +kernel
theorem d_lawm_148 : decode b_lawm 148 = .ok (.iconst 1, 1) := by decide +kernel
theorem d_lawm_149 : decode b_lawm 149 = .ok (.iadd, 1) := by decide +kernel
theorem d_lawm_150 : decode b_lawm 150 = .ok (.iaload, 1) := by decide +kernel
theorem d_lawm_151 : decode b_lawm 151 = .ok (.i2l, 1) := by decide +kernel
theorem d_lawm_152 : decode b_lawm 152 = .ok (.bipush 32, 2) := by decide +kernel
theorem d_lawm_154 : decode b_lawm 154 = .ok (.lshl, 1) := by decide +kernel
theorem d_lawm_155 : decode b_lawm 155 = .ok (.aload_n 0, 1) := by decide +kernel
theorem d_lawm_156 : decode b_lawm 156 = .ok (.iload 4, 2) := by decide +kernel
theorem d_lawm_158 : decode b_lawm 158 = .ok (.iconst 2, 1) := by decide +kernel
theorem d_lawm_159 : decode b_lawm 159 = .ok (.iadd, 1) := by decide +kernel
theorem d_lawm_160 : decode b_lawm 160 = .ok (.iaload, 1) := by decide +kernel
theorem d_lawm_161 : decode b_lawm 161 = .ok (.i2l, 1) := by decide +kernel
theorem d_lawm_162 : decode b_lawm 162 = .ok (.ldc2_w 59, 3) := by decide +kernel
theorem d_lawm_165 : decode b_lawm 165 = .ok (.land, 1) := by decide +kernel
theorem d_lawm_166 : decode b_lawm 166 = .ok (.lor, 1) := by decide +kernel
theorem d_lawm_167 : decode b_lawm 167 = .ok (.aload_n 0, 1) := by decide +kernel
theorem d_lawm_168 : decode b_lawm 168 = .ok (.iload 4, 2) := by decide +kernel
theorem d_lawm_170 : decode b_lawm 170 = .ok (.iconst 3, 1) := by decide +kernel
theorem d_lawm_171 : decode b_lawm 171 = .ok (.iadd, 1) := by decide +kernel
theorem d_lawm_172 : decode b_lawm 172 = .ok (.iaload, 1) := by decide +kernel
theorem d_lawm_173 : decode b_lawm 173 = .ok (.invokevirtual 65, 3) := by decide +kernel
theorem d_lawm_176 : decode b_lawm 176 = .ok (.if_icmp .eq 665, 3) := by decide +kernel
theorem d_lawm_181 : decode b_lawm 181 = .ok (.aload_n 1, 1) := by decide +kernel
theorem d_lawm_182 : decode b_lawm 182 = .ok (.invokevirtual 66, 3) := by decide +kernel
theorem d_lawm_185 : decode b_lawm 185 = .ok (.aload_n 2, 1) := by decide +kernel
theorem d_lawm_186 : decode b_lawm 186 = .ok (.invokevirtual 69, 3) := by decide +kernel
theorem d_lawm_189 : decode b_lawm 189 = .ok (.if_icmp .eq 652, 3) := by decide +kernel
theorem d_lawm_194 : decode b_lawm 194 = .ok (.aload_n 1, 1) := by decide +kernel
theorem d_lawm_195 : decode b_lawm 195 = .ok (.invokevirtual 70, 3) := by decide +kernel
theorem d_lawm_198 : decode b_lawm 198 = .ok (.aload_n 2, 1) := by decide +kernel
theorem d_lawm_199 : decode b_lawm 199 = .ok (.invokevirtual 73, 3) := by decide +kernel
theorem d_lawm_202 : decode b_lawm 202 = .ok (.if_icmp .eq 639, 3) := by decide +kernel
theorem d_lawm_207 : decode b_lawm 207 = .ok (.aload_n 1, 1) := by decide +kernel
theorem d_lawm_208 : decode b_lawm 208 = .ok (.invokevirtual 74, 3) := by decide +kernel
theorem d_lawm_211 : decode b_lawm 211 = .ok (.aload_n 2, 1) := by decide +kernel
theorem d_lawm_212 : decode b_lawm 212 = .ok (.invokevirtual 77, 3) := by decide +kernel
theorem d_lawm_215 : decode b_lawm 215 = .ok (.if_icmp .eq 626, 3) := by decide +kernel
theorem d_lawm_220 : decode b_lawm 220 = .ok (.aload_n 1, 1) := by decide +kernel
theorem d_lawm_221 : decode b_lawm 221 = .ok (.aload_n 3, 1) := by decide +kernel
theorem d_lawm_222 : decode b_lawm 222 = .ok (.invokestatic 78, 3) := by decide +kernel
theorem d_lawm_225 : decode b_lawm 225 = .ok (.istore 5, 2) := by decide +kernel
theorem d_lawm_227 : decode b_lawm 227 = .ok (.aload_n 2, 1) := by decide +kernel
theorem d_lawm_228 : decode b_lawm 228 = .ok (.invokevirtual 83, 3) := by decide +kernel
theorem d_lawm_231 : decode b_lawm 231 = .ok (.istore 6, 2) := by decide +kernel
theorem d_lawm_233 : decode b_lawm 233 = .ok (.aload_n 2, 1) := by decide +kernel
theorem d_lawm_234 : decode b_lawm 234 = .ok (.invokevirtual 84, 3) := by decide +kernel
theorem d_lawm_237 : decode b_lawm 237 = .ok (.iload 5, 2) := by decide +kernel
theorem d_lawm_239 : decode b_lawm 239 = .ok (.if_icmp .eq 5, 3) := by decide +kernel
theorem d_lawm_244 : decode b_lawm 244 = .ok (.iload 5, 2) := by decide +kernel
theorem d_lawm_246 : decode b_lawm 246 = .ok (.ifCond .ne 15, 3) := by decide +kernel
theorem d_lawm_261 : decode b_lawm 261 = .ok (.goto 580, 3) := by decide +kernel
theorem d_lawm_264 : decode b_lawm 264 = .ok (.aload_n 1, 1) := by decide +kernel
theorem d_lawm_265 : decode b_lawm 265 = .ok (.aload_n 0, 1) := by decide +kernel
theorem d_lawm_266 : decode b_lawm 266 = .ok (.iload 4, 2) := by decide +kernel
theorem d_lawm_268 : decode b_lawm 268 = .ok (.iconst 1, 1) := by decide +kernel
theorem d_lawm_269 : decode b_lawm 269 = .ok (.iadd, 1) := by decide +kernel
theorem d_lawm_270 : decode b_lawm 270 = .ok (.iaload, 1) := by decide +kernel
theorem d_lawm_271 : decode b_lawm 271 = .ok (.aload_n 0, 1) := by decide +kernel
theorem d_lawm_272 : decode b_lawm 272 = .ok (.iload 4, 2) := by decide +kernel
theorem d_lawm_274 : decode b_lawm 274 = .ok (.iconst 2, 1) := by decide +kernel
theorem d_lawm_275 : decode b_lawm 275 = .ok (.iadd, 1) := by decide +kernel
theorem d_lawm_276 : decode b_lawm 276 = .ok (.iaload, 1) := by decide +kernel
theorem d_lawm_277 : decode b_lawm 277 = .ok (.aload_n 3, 1) := by decide +kernel
theorem d_lawm_278 : decode b_lawm 278 = .ok (.invokestatic 87, 3) := by decide +kernel
theorem d_lawm_281 : decode b_lawm 281 = .ok (.istore 5, 2) := by decide +kernel
theorem d_lawm_283 : decode b_lawm 283 = .ok (.aload_n 2, 1) := by decide +kernel
theorem d_lawm_284 : decode b_lawm 284 = .ok (.aload_n 0, 1) := by decide +kernel
theorem d_lawm_285 : decode b_lawm 285 = .ok (.iload 4, 2) := by decide +kernel
theorem d_lawm_287 : decode b_lawm 287 = .ok (.iconst 1, 1) := by decide +kernel
theorem d_lawm_288 : decode b_lawm 288 = .ok (.iadd, 1) := by decide +kernel
theorem d_lawm_289 : decode b_lawm 289 = .ok (.iaload, 1) := by decide +kernel
theorem d_lawm_290 : decode b_lawm 290 = .ok (.aload_n 0, 1) := by decide +kernel
theorem d_lawm_291 : decode b_lawm 291 = .ok (.iload 4, 2) := by decide +kernel
theorem d_lawm_293 : decode b_lawm 293 = .ok (.iconst 2, 1) := by decide +kernel
theorem d_lawm_294 : decode b_lawm 294 = .ok (.iadd, 1) := by decide +kernel
theorem d_lawm_295 : decode b_lawm 295 = .ok (.iaload, 1) := by decide +kernel
theorem d_lawm_296 : decode b_lawm 296 = .ok (.invokevirtual 90, 3) := by decide +kernel
theorem d_lawm_299 : decode b_lawm 299 = .ok (.istore 6, 2) := by decide +kernel
theorem d_lawm_301 : decode b_lawm 301 = .ok (.aload_n 2, 1) := by decide +kernel
theorem d_lawm_302 : decode b_lawm 302 = .ok (.invokevirtual 84, 3) := by decide +kernel
theorem d_lawm_305 : decode b_lawm 305 = .ok (.iload 5, 2) := by decide +kernel
theorem d_lawm_307 : decode b_lawm 307 = .ok (.if_icmp .eq 5, 3) := by decide +kernel
theorem d_lawm_312 : decode b_lawm 312 = .ok (.iload 5, 2) := by decide +kernel
theorem d_lawm_314 : decode b_lawm 314 = .ok (.ifCond .ne 15, 3) := by decide +kernel
theorem d_lawm_329 : decode b_lawm 329 = .ok (.goto 512, 3) := by decide +kernel
theorem d_lawm_332 : decode b_lawm 332 = .ok (.aload_n 1, 1) := by decide +kernel
theorem d_lawm_333 : decode b_lawm 333 = .ok (.aload_n 0, 1) := by decide +kernel
theorem d_lawm_334 : decode b_lawm 334 = .ok (.iload 4, 2) := by decide +kernel
theorem d_lawm_336 : decode b_lawm 336 = .ok (.iconst 1, 1) := by decide +kernel
theorem d_lawm_337 : decode b_lawm 337 = .ok (.iadd, 1) := by decide +kernel
theorem d_lawm_338 : decode b_lawm 338 = .ok (.iaload, 1) := by decide +kernel
theorem d_lawm_339 : decode b_lawm 339 = .ok (.aload_n 3, 1) := by decide +kernel
theorem d_lawm_340 : decode b_lawm 340 = .ok (.invokestatic 91, 3) := by decide +kernel
theorem d_lawm_343 : decode b_lawm 343 = .ok (.istore 5, 2) := by decide +kernel
theorem d_lawm_345 : decode b_lawm 345 = .ok (.aload_n 2, 1) := by decide +kernel
theorem d_lawm_346 : decode b_lawm 346 = .ok (.aload_n 0, 1) := by decide +kernel
theorem d_lawm_347 : decode b_lawm 347 = .ok (.iload 4, 2) := by decide +kernel
theorem d_lawm_349 : decode b_lawm 349 = .ok (.iconst 1, 1) := by decide +kernel
theorem d_lawm_350 : decode b_lawm 350 = .ok (.iadd, 1) := by decide +kernel
theorem d_lawm_351 : decode b_lawm 351 = .ok (.iaload, 1) := by decide +kernel
theorem d_lawm_352 : decode b_lawm 352 = .ok (.invokevirtual 94, 3) := by decide +kernel
theorem d_lawm_355 : decode b_lawm 355 = .ok (.istore 6, 2) := by decide +kernel
theorem d_lawm_357 : decode b_lawm 357 = .ok (.aload_n 2, 1) := by decide +kernel
theorem d_lawm_358 : decode b_lawm 358 = .ok (.invokevirtual 84, 3) := by decide +kernel
theorem d_lawm_361 : decode b_lawm 361 = .ok (.iload 5, 2) := by decide +kernel
theorem d_lawm_363 : decode b_lawm 363 = .ok (.if_icmp .eq 5, 3) := by decide +kernel
theorem d_lawm_368 : decode b_lawm 368 = .ok (.iload 5, 2) := by decide +kernel
theorem d_lawm_370 : decode b_lawm 370 = .ok (.ifCond .ne 15, 3) := by decide +kernel
theorem d_lawm_385 : decode b_lawm 385 = .ok (.goto 456, 3) := by decide +kernel
theorem d_lawm_388 : decode b_lawm 388 = .ok (.aload_n 1, 1) := by decide +kernel
theorem d_lawm_389 : decode b_lawm 389 = .ok (.aload_n 3, 1) := by decide +kernel
theorem d_lawm_390 : decode b_lawm 390 = .ok (.invokestatic 95, 3) := by decide +kernel
theorem d_lawm_393 : decode b_lawm 393 = .ok (.istore 5, 2) := by decide +kernel
theorem d_lawm_395 : decode b_lawm 395 = .ok (.aload_n 2, 1) := by decide +kernel
theorem d_lawm_396 : decode b_lawm 396 = .ok (.invokevirtual 97, 3) := by decide +kernel
theorem d_lawm_399 : decode b_lawm 399 = .ok (.istore 6, 2) := by decide +kernel
theorem d_lawm_401 : decode b_lawm 401 = .ok (.aload_n 2, 1) := by decide +kernel
theorem d_lawm_402 : decode b_lawm 402 = .ok (.invokevirtual 84, 3) := by decide +kernel
theorem d_lawm_405 : decode b_lawm 405 = .ok (.iload 5, 2) := by decide +kernel
theorem d_lawm_407 : decode b_lawm 407 = .ok (.if_icmp .eq 5, 3) := by decide +kernel
theorem d_lawm_412 : decode b_lawm 412 = .ok (.iload 5, 2) := by decide +kernel
theorem d_lawm_414 : decode b_lawm 414 = .ok (.ifCond .ne 22, 3) := by decide +kernel
theorem d_lawm_436 : decode b_lawm 436 = .ok (.goto 405, 3) := by decide +kernel
theorem d_lawm_439 : decode b_lawm 439 = .ok (.aload_n 1, 1) := by decide +kernel
theorem d_lawm_440 : decode b_lawm 440 = .ok (.aload_n 0, 1) := by decide +kernel
theorem d_lawm_441 : decode b_lawm 441 = .ok (.iload 4, 2) := by decide +kernel
theorem d_lawm_443 : decode b_lawm 443 = .ok (.iconst 1, 1) := by decide +kernel
theorem d_lawm_444 : decode b_lawm 444 = .ok (.iadd, 1) := by decide +kernel
theorem d_lawm_445 : decode b_lawm 445 = .ok (.iaload, 1) := by decide +kernel
theorem d_lawm_446 : decode b_lawm 446 = .ok (.aload_n 0, 1) := by decide +kernel
theorem d_lawm_447 : decode b_lawm 447 = .ok (.iload 4, 2) := by decide +kernel
theorem d_lawm_449 : decode b_lawm 449 = .ok (.iconst 2, 1) := by decide +kernel
theorem d_lawm_450 : decode b_lawm 450 = .ok (.iadd, 1) := by decide +kernel
theorem d_lawm_451 : decode b_lawm 451 = .ok (.iaload, 1) := by decide +kernel
theorem d_lawm_452 : decode b_lawm 452 = .ok (.aload_n 3, 1) := by decide +kernel
theorem d_lawm_453 : decode b_lawm 453 = .ok (.invokestatic 98, 3) := by decide +kernel
theorem d_lawm_456 : decode b_lawm 456 = .ok (.istore 5, 2) := by decide +kernel
theorem d_lawm_458 : decode b_lawm 458 = .ok (.aload_n 2, 1) := by decide +kernel
theorem d_lawm_459 : decode b_lawm 459 = .ok (.aload_n 0, 1) := by decide +kernel
theorem d_lawm_460 : decode b_lawm 460 = .ok (.iload 4, 2) := by decide +kernel
theorem d_lawm_462 : decode b_lawm 462 = .ok (.iconst 1, 1) := by decide +kernel
theorem d_lawm_463 : decode b_lawm 463 = .ok (.iadd, 1) := by decide +kernel
theorem d_lawm_464 : decode b_lawm 464 = .ok (.iaload, 1) := by decide +kernel
theorem d_lawm_465 : decode b_lawm 465 = .ok (.aload_n 0, 1) := by decide +kernel
theorem d_lawm_466 : decode b_lawm 466 = .ok (.iload 4, 2) := by decide +kernel
theorem d_lawm_468 : decode b_lawm 468 = .ok (.iconst 2, 1) := by decide +kernel
theorem d_lawm_469 : decode b_lawm 469 = .ok (.iadd, 1) := by decide +kernel
theorem d_lawm_470 : decode b_lawm 470 = .ok (.iaload, 1) := by decide +kernel
theorem d_lawm_471 : decode b_lawm 471 = .ok (.invokevirtual 100, 3) := by decide +kernel
theorem d_lawm_474 : decode b_lawm 474 = .ok (.istore 6, 2) := by decide +kernel
theorem d_lawm_476 : decode b_lawm 476 = .ok (.aload_n 2, 1) := by decide +kernel
theorem d_lawm_477 : decode b_lawm 477 = .ok (.invokevirtual 84, 3) := by decide +kernel
theorem d_lawm_480 : decode b_lawm 480 = .ok (.iload 5, 2) := by decide +kernel
theorem d_lawm_482 : decode b_lawm 482 = .ok (.if_icmp .eq 5, 3) := by decide +kernel
theorem d_lawm_487 : decode b_lawm 487 = .ok (.iload 5, 2) := by decide +kernel
theorem d_lawm_489 : decode b_lawm 489 = .ok (.ifCond .ne 15, 3) := by decide +kernel
theorem d_lawm_504 : decode b_lawm 504 = .ok (.goto 337, 3) := by decide +kernel
theorem d_lawm_507 : decode b_lawm 507 = .ok (.aload_n 1, 1) := by decide +kernel
theorem d_lawm_508 : decode b_lawm 508 = .ok (.aload_n 0, 1) := by decide +kernel
theorem d_lawm_509 : decode b_lawm 509 = .ok (.iload 4, 2) := by decide +kernel
theorem d_lawm_511 : decode b_lawm 511 = .ok (.iconst 1, 1) := by decide +kernel
theorem d_lawm_512 : decode b_lawm 512 = .ok (.iadd, 1) := by decide +kernel
theorem d_lawm_513 : decode b_lawm 513 = .ok (.iaload, 1) := by decide +kernel
theorem d_lawm_514 : decode b_lawm 514 = .ok (.aload_n 3, 1) := by decide +kernel
theorem d_lawm_515 : decode b_lawm 515 = .ok (.invokestatic 101, 3) := by decide +kernel
theorem d_lawm_518 : decode b_lawm 518 = .ok (.istore 5, 2) := by decide +kernel
theorem d_lawm_520 : decode b_lawm 520 = .ok (.aload_n 2, 1) := by decide +kernel
theorem d_lawm_521 : decode b_lawm 521 = .ok (.aload_n 0, 1) := by decide +kernel
theorem d_lawm_522 : decode b_lawm 522 = .ok (.iload 4, 2) := by decide +kernel
theorem d_lawm_524 : decode b_lawm 524 = .ok (.iconst 1, 1) := by decide +kernel
theorem d_lawm_525 : decode b_lawm 525 = .ok (.iadd, 1) := by decide +kernel
theorem d_lawm_526 : decode b_lawm 526 = .ok (.iaload, 1) := by decide +kernel
theorem d_lawm_527 : decode b_lawm 527 = .ok (.invokevirtual 103, 3) := by decide +kernel
theorem d_lawm_530 : decode b_lawm 530 = .ok (.istore 6, 2) := by decide +kernel
theorem d_lawm_532 : decode b_lawm 532 = .ok (.aload_n 2, 1) := by decide +kernel
theorem d_lawm_533 : decode b_lawm 533 = .ok (.invokevirtual 84, 3) := by decide +kernel
theorem d_lawm_536 : decode b_lawm 536 = .ok (.iload 5, 2) := by decide +kernel
theorem d_lawm_538 : decode b_lawm 538 = .ok (.if_icmp .eq 5, 3) := by decide +kernel
theorem d_lawm_543 : decode b_lawm 543 = .ok (.iload 5, 2) := by decide +kernel
theorem d_lawm_545 : decode b_lawm 545 = .ok (.ifCond .ne 15, 3) := by decide +kernel
theorem d_lawm_560 : decode b_lawm 560 = .ok (.goto 281, 3) := by decide +kernel
theorem d_lawm_563 : decode b_lawm 563 = .ok (.aload_n 1, 1) := by decide +kernel
theorem d_lawm_564 : decode b_lawm 564 = .ok (.aload_n 0, 1) := by decide +kernel
theorem d_lawm_565 : decode b_lawm 565 = .ok (.iload 4, 2) := by decide +kernel
theorem d_lawm_567 : decode b_lawm 567 = .ok (.iconst 1, 1) := by decide +kernel
theorem d_lawm_568 : decode b_lawm 568 = .ok (.iadd, 1) := by decide +kernel
theorem d_lawm_569 : decode b_lawm 569 = .ok (.iaload, 1) := by decide +kernel
theorem d_lawm_570 : decode b_lawm 570 = .ok (.aload_n 3, 1) := by decide +kernel
theorem d_lawm_571 : decode b_lawm 571 = .ok (.invokestatic 104, 3) := by decide +kernel
theorem d_lawm_574 : decode b_lawm 574 = .ok (.istore 5, 2) := by decide +kernel
theorem d_lawm_576 : decode b_lawm 576 = .ok (.aload_n 2, 1) := by decide +kernel
theorem d_lawm_577 : decode b_lawm 577 = .ok (.aload_n 0, 1) := by decide +kernel
theorem d_lawm_578 : decode b_lawm 578 = .ok (.iload 4, 2) := by decide +kernel
theorem d_lawm_580 : decode b_lawm 580 = .ok (.iconst 1, 1) := by decide +kernel
theorem d_lawm_581 : decode b_lawm 581 = .ok (.iadd, 1) := by decide +kernel
theorem d_lawm_582 : decode b_lawm 582 = .ok (.iaload, 1) := by decide +kernel
theorem d_lawm_583 : decode b_lawm 583 = .ok (.invokevirtual 106, 3) := by decide +kernel
theorem d_lawm_586 : decode b_lawm 586 = .ok (.istore 6, 2) := by decide +kernel
theorem d_lawm_588 : decode b_lawm 588 = .ok (.aload_n 2, 1) := by decide +kernel
theorem d_lawm_589 : decode b_lawm 589 = .ok (.invokevirtual 84, 3) := by decide +kernel
theorem d_lawm_592 : decode b_lawm 592 = .ok (.iload 5, 2) := by decide +kernel
theorem d_lawm_594 : decode b_lawm 594 = .ok (.if_icmp .eq 5, 3) := by decide +kernel
theorem d_lawm_599 : decode b_lawm 599 = .ok (.iload 5, 2) := by decide +kernel
theorem d_lawm_601 : decode b_lawm 601 = .ok (.ifCond .ne 15, 3) := by decide +kernel
theorem d_lawm_616 : decode b_lawm 616 = .ok (.goto 225, 3) := by decide +kernel
theorem d_lawm_619 : decode b_lawm 619 = .ok (.aload_n 1, 1) := by decide +kernel
theorem d_lawm_620 : decode b_lawm 620 = .ok (.aload_n 0, 1) := by decide +kernel
theorem d_lawm_621 : decode b_lawm 621 = .ok (.iload 4, 2) := by decide +kernel
theorem d_lawm_623 : decode b_lawm 623 = .ok (.iconst 1, 1) := by decide +kernel
theorem d_lawm_624 : decode b_lawm 624 = .ok (.iadd, 1) := by decide +kernel
theorem d_lawm_625 : decode b_lawm 625 = .ok (.iaload, 1) := by decide +kernel
theorem d_lawm_626 : decode b_lawm 626 = .ok (.aload_n 0, 1) := by decide +kernel
theorem d_lawm_627 : decode b_lawm 627 = .ok (.iload 4, 2) := by decide +kernel
theorem d_lawm_629 : decode b_lawm 629 = .ok (.iconst 2, 1) := by decide +kernel
theorem d_lawm_630 : decode b_lawm 630 = .ok (.iadd, 1) := by decide +kernel
theorem d_lawm_631 : decode b_lawm 631 = .ok (.iaload, 1) := by decide +kernel
theorem d_lawm_632 : decode b_lawm 632 = .ok (.invokestatic 107, 3) := by decide +kernel
theorem d_lawm_635 : decode b_lawm 635 = .ok (.istore 5, 2) := by decide +kernel
theorem d_lawm_637 : decode b_lawm 637 = .ok (.aload_n 2, 1) := by decide +kernel
theorem d_lawm_638 : decode b_lawm 638 = .ok (.aload_n 0, 1) := by decide +kernel
theorem d_lawm_639 : decode b_lawm 639 = .ok (.iload 4, 2) := by decide +kernel
theorem d_lawm_641 : decode b_lawm 641 = .ok (.iconst 1, 1) := by decide +kernel
theorem d_lawm_642 : decode b_lawm 642 = .ok (.iadd, 1) := by decide +kernel
theorem d_lawm_643 : decode b_lawm 643 = .ok (.iaload, 1) := by decide +kernel
theorem d_lawm_644 : decode b_lawm 644 = .ok (.aload_n 0, 1) := by decide +kernel
theorem d_lawm_645 : decode b_lawm 645 = .ok (.iload 4, 2) := by decide +kernel
theorem d_lawm_647 : decode b_lawm 647 = .ok (.iconst 2, 1) := by decide +kernel
theorem d_lawm_648 : decode b_lawm 648 = .ok (.iadd, 1) := by decide +kernel
theorem d_lawm_649 : decode b_lawm 649 = .ok (.iaload, 1) := by decide +kernel
theorem d_lawm_650 : decode b_lawm 650 = .ok (.invokevirtual 110, 3) := by decide +kernel
theorem d_lawm_653 : decode b_lawm 653 = .ok (.aload_n 2, 1) := by decide +kernel
theorem d_lawm_654 : decode b_lawm 654 = .ok (.invokevirtual 84, 3) := by decide +kernel
theorem d_lawm_657 : decode b_lawm 657 = .ok (.iload 5, 2) := by decide +kernel
theorem d_lawm_659 : decode b_lawm 659 = .ok (.if_icmp .eq 5, 3) := by decide +kernel
theorem d_lawm_664 : decode b_lawm 664 = .ok (.goto 177, 3) := by decide +kernel
theorem d_lawm_667 : decode b_lawm 667 = .ok (.aload_n 1, 1) := by decide +kernel
theorem d_lawm_668 : decode b_lawm 668 = .ok (.aload_n 0, 1) := by decide +kernel
theorem d_lawm_669 : decode b_lawm 669 = .ok (.iload 4, 2) := by decide +kernel
theorem d_lawm_671 : decode b_lawm 671 = .ok (.iconst 1, 1) := by decide +kernel
theorem d_lawm_672 : decode b_lawm 672 = .ok (.iadd, 1) := by decide +kernel
theorem d_lawm_673 : decode b_lawm 673 = .ok (.iaload, 1) := by decide +kernel
theorem d_lawm_674 : decode b_lawm 674 = .ok (.aload_n 3, 1) := by decide +kernel
theorem d_lawm_675 : decode b_lawm 675 = .ok (.invokestatic 111, 3) := by decide +kernel
theorem d_lawm_678 : decode b_lawm 678 = .ok (.istore 5, 2) := by decide +kernel
theorem d_lawm_680 : decode b_lawm 680 = .ok (.aload_n 2, 1) := by decide +kernel
theorem d_lawm_681 : decode b_lawm 681 = .ok (.aload_n 0, 1) := by decide +kernel
theorem d_lawm_682 : decode b_lawm 682 = .ok (.iload 4, 2) := by decide +kernel
theorem d_lawm_684 : decode b_lawm 684 = .ok (.iconst 1, 1) := by decide +kernel
theorem d_lawm_685 : decode b_lawm 685 = .ok (.iadd, 1) := by decide +kernel
theorem d_lawm_686 : decode b_lawm 686 = .ok (.iaload, 1) := by decide +kernel
theorem d_lawm_687 : decode b_lawm 687 = .ok (.invokevirtual 113, 3) := by decide +kernel
theorem d_lawm_690 : decode b_lawm 690 = .ok (.istore 6, 2) := by decide +kernel
theorem d_lawm_692 : decode b_lawm 692 = .ok (.aload_n 2, 1) := by decide +kernel
theorem d_lawm_693 : decode b_lawm 693 = .ok (.invokevirtual 84, 3) := by decide +kernel
theorem d_lawm_696 : decode b_lawm 696 = .ok (.iload 5, 2) := by decide +kernel
theorem d_lawm_698 : decode b_lawm 698 = .ok (.if_icmp .eq 5, 3) := by decide +kernel
theorem d_lawm_703 : decode b_lawm 703 = .ok (.iload 5, 2) := by decide +kernel
theorem d_lawm_705 : decode b_lawm 705 = .ok (.ifCond .ne 15, 3) := by decide +kernel
theorem d_lawm_720 : decode b_lawm 720 = .ok (.goto 121, 3) := by decide +kernel
theorem d_lawm_723 : decode b_lawm 723 = .ok (.aload_n 1, 1) := by decide +kernel
theorem d_lawm_724 : decode b_lawm 724 = .ok (.aload_n 0, 1) := by decide +kernel
theorem d_lawm_725 : decode b_lawm 725 = .ok (.iload 4, 2) := by decide +kernel
theorem d_lawm_727 : decode b_lawm 727 = .ok (.iconst 1, 1) := by decide +kernel
theorem d_lawm_728 : decode b_lawm 728 = .ok (.iadd, 1) := by decide +kernel
theorem d_lawm_729 : decode b_lawm 729 = .ok (.iaload, 1) := by decide +kernel
theorem d_lawm_730 : decode b_lawm 730 = .ok (.aload_n 3, 1) := by decide +kernel
theorem d_lawm_731 : decode b_lawm 731 = .ok (.invokestatic 114, 3) := by decide +kernel
theorem d_lawm_734 : decode b_lawm 734 = .ok (.istore 5, 2) := by decide +kernel
theorem d_lawm_736 : decode b_lawm 736 = .ok (.aload_n 2, 1) := by decide +kernel
theorem d_lawm_737 : decode b_lawm 737 = .ok (.aload_n 0, 1) := by decide +kernel
theorem d_lawm_738 : decode b_lawm 738 = .ok (.iload 4, 2) := by decide +kernel
theorem d_lawm_740 : decode b_lawm 740 = .ok (.iconst 1, 1) := by decide +kernel
theorem d_lawm_741 : decode b_lawm 741 = .ok (.iadd, 1) := by decide +kernel
theorem d_lawm_742 : decode b_lawm 742 = .ok (.iaload, 1) := by decide +kernel
theorem d_lawm_743 : decode b_lawm 743 = .ok (.invokevirtual 116, 3) := by decide +kernel
theorem d_lawm_746 : decode b_lawm 746 = .ok (.lstore 6, 2) := by decide +kernel
theorem d_lawm_748 : decode b_lawm 748 = .ok (.aload_n 2, 1) := by decide +kernel
theorem d_lawm_749 : decode b_lawm 749 = .ok (.invokevirtual 84, 3) := by decide +kernel
theorem d_lawm_752 : decode b_lawm 752 = .ok (.iload 5, 2) := by decide +kernel
theorem d_lawm_754 : decode b_lawm 754 = .ok (.if_icmp .eq 5, 3) := by decide +kernel
theorem d_lawm_759 : decode b_lawm 759 = .ok (.iload 5, 2) := by decide +kernel
theorem d_lawm_761 : decode b_lawm 761 = .ok (.ifCond .ne 14, 3) := by decide +kernel
theorem d_lawm_764 : decode b_lawm 764 = .ok (.aload_n 3, 1) := by decide +kernel
theorem d_lawm_765 : decode b_lawm 765 = .ok (.iconst 0, 1) := by decide +kernel
theorem d_lawm_766 : decode b_lawm 766 = .ok (.laload, 1) := by decide +kernel
theorem d_lawm_767 : decode b_lawm 767 = .ok (.lload 6, 2) := by decide +kernel
theorem d_lawm_769 : decode b_lawm 769 = .ok (.lcmp, 1) := by decide +kernel
theorem d_lawm_770 : decode b_lawm 770 = .ok (.ifCond .eq 5, 3) := by decide +kernel
theorem d_lawm_775 : decode b_lawm 775 = .ok (.goto 66, 3) := by decide +kernel
theorem d_lawm_778 : decode b_lawm 778 = .ok (.aload_n 1, 1) := by decide +kernel
theorem d_lawm_779 : decode b_lawm 779 = .ok (.aload_n 0, 1) := by decide +kernel
theorem d_lawm_780 : decode b_lawm 780 = .ok (.iload 4, 2) := by decide +kernel
theorem d_lawm_782 : decode b_lawm 782 = .ok (.iconst 1, 1) := by decide +kernel
theorem d_lawm_783 : decode b_lawm 783 = .ok (.iadd, 1) := by decide +kernel
theorem d_lawm_784 : decode b_lawm 784 = .ok (.iaload, 1) := by decide +kernel
theorem d_lawm_785 : decode b_lawm 785 = .ok (.aload_n 3, 1) := by decide +kernel
theorem d_lawm_786 : decode b_lawm 786 = .ok (.invokestatic 117, 3) := by decide +kernel
theorem d_lawm_789 : decode b_lawm 789 = .ok (.istore 5, 2) := by decide +kernel
theorem d_lawm_791 : decode b_lawm 791 = .ok (.aload_n 2, 1) := by decide +kernel
theorem d_lawm_792 : decode b_lawm 792 = .ok (.aload_n 0, 1) := by decide +kernel
theorem d_lawm_793 : decode b_lawm 793 = .ok (.iload 4, 2) := by decide +kernel
theorem d_lawm_795 : decode b_lawm 795 = .ok (.iconst 1, 1) := by decide +kernel
theorem d_lawm_796 : decode b_lawm 796 = .ok (.iadd, 1) := by decide +kernel
theorem d_lawm_797 : decode b_lawm 797 = .ok (.iaload, 1) := by decide +kernel
theorem d_lawm_798 : decode b_lawm 798 = .ok (.invokevirtual 119, 3) := by decide +kernel
theorem d_lawm_801 : decode b_lawm 801 = .ok (.istore 6, 2) := by decide +kernel
theorem d_lawm_803 : decode b_lawm 803 = .ok (.aload_n 2, 1) := by decide +kernel
theorem d_lawm_804 : decode b_lawm 804 = .ok (.invokevirtual 84, 3) := by decide +kernel
theorem d_lawm_807 : decode b_lawm 807 = .ok (.iload 5, 2) := by decide +kernel
theorem d_lawm_809 : decode b_lawm 809 = .ok (.if_icmp .eq 5, 3) := by decide +kernel
theorem d_lawm_814 : decode b_lawm 814 = .ok (.iload 5, 2) := by decide +kernel
theorem d_lawm_816 : decode b_lawm 816 = .ok (.ifCond .ne 22, 3) := by decide +kernel
theorem d_lawm_819 : decode b_lawm 819 = .ok (.aload_n 3, 1) := by decide +kernel
theorem d_lawm_820 : decode b_lawm 820 = .ok (.iconst 0, 1) := by decide +kernel
theorem d_lawm_821 : decode b_lawm 821 = .ok (.laload, 1) := by decide +kernel
theorem d_lawm_822 : decode b_lawm 822 = .ok (.iload 6, 2) := by decide +kernel
theorem d_lawm_824 : decode b_lawm 824 = .ok (.ifCond .eq 7, 3) := by decide +kernel
theorem d_lawm_827 : decode b_lawm 827 = .ok (.lconst 1, 1) := by decide +kernel
theorem d_lawm_828 : decode b_lawm 828 = .ok (.goto 4, 3) := by decide +kernel
theorem d_lawm_832 : decode b_lawm 832 = .ok (.lcmp, 1) := by decide +kernel
theorem d_lawm_833 : decode b_lawm 833 = .ok (.ifCond .eq 5, 3) := by decide +kernel
theorem d_lawm_838 : decode b_lawm 838 = .ok (.goto 3, 3) := by decide +kernel
theorem d_lawm_841 : decode b_lawm 841 = .ok (.iinc 4 4, 3) := by decide +kernel
theorem d_lawm_844 : decode b_lawm 844 = .ok (.goto (-821), 3) := by decide +kernel
theorem d_lawm_847 : decode b_lawm 847 = .ok (.iconst 1, 1) := by decide +kernel
theorem d_lawm_848 : decode b_lawm 848 = .ok (.ireturn, 1) := by decide +kernel
set_option maxHeartbeats 4000000 in
set_option maxRecDepth 100000 in
theorem lc_type_1 {p : Program} {l : Launch} {e : Env} {s : State} {m : MethodId} {below : List Frame} {meth : Method} {c : Code} {D : va_G} {ax : Nat → ClassId} {b : Nat} {xs : Nat → Int32} (hl : l.stackTraces = false) (C0 : lw_At p s m meth c b 4 xs) (hK : xk D ax s) {a0 a1 a4 a5 a11 a19 a24 a26 a28 a32 a36 a40 a56 a2 a3 m0 m1 m2 m42 m3 m4 m5 m6 m7 m8 m9 m10 m11 m12 m13 m14 m15 m16 m17 m18 m19 m20 m21 m22 m23 m24 m25 m26 m27 m28 m29 m30 m31 m32 m33 m34 m35 m36 m37 m38 m39 m40 m41 o0 : Nat} {x1 x2 : Int32} (hx1 : xs (Int32.toNatClampNeg 1) = x1) (hx2 : xs (Int32.toNatClampNeg 2) = x2) (hx3 : xs (Int32.toNatClampNeg 3) = 1) {H : Heap} {locs : List Loc} {ls : Array Slot} (hP : va_P D classes [(a0, .inr (10, [.ref a1, .ref a4, .ref a5, .ref a11, .ref a19, .ref a24, .ref a26, .ref a28, .ref a32, .ref a36, .ref a40, .ref a56, .int 0])), (a1, .inr (9, [.ref a2, .ref a3, .int 0, .int 0, .int 0, .int (-1), .int 0, .int 0])), (a2, .inl (ax 1, 400, .inl (fun _ => 0))), (a3, .inl (ax 0, 401, .inl (fun _ => 0))), (m0, .inr (11, [.int 0, .int 0, .ref m1, .int 0, .int 0, .ref m2, .int 0, .int 0, .int 0, .int 0, .int 0, .ref m42, .ref m3, .ref m4, .int 0, .int 0, .ref m5, .ref m6, .ref m7, .ref m8, .ref m9, .ref m10, .ref m11, .ref m12, .ref m13, .ref m14, .ref m15, .ref m16, .ref m17, .ref m18, .ref m19, .int 0, .ref m20, .int 0, .ref m21, .int 0, .int 0, .int 0, .int 0, .int 0, .int 0, .int 0, .ref m22, .int 0, .int 0, .ref m23, .ref m24, .ref m25, .ref m26, .int 0, .ref m27, .int 0, .ref m28, .int 0, .ref m29, .ref m30, .int (-1), .int 0, .int 0, .ref m31, .ref m32, .ref m33, .ref m34, .ref m35, .ref m36, .ref m37, .ref m38, .ref m39, .int 0, .ref m40, .int 0, .ref m41])), (m1, .inl (ax 0, 400, .inl (fun _ => 0)))] H) (hD : va_D (fun q : Nat => s.heap.size ≤ q) [(a0, .inr (10, [.ref a1, .ref a4, .ref a5, .ref a11, .ref a19, .ref a24, .ref a26, .ref a28, .ref a32, .ref a36, .ref a40, .ref a56, .int 0])), (a1, .inr (9, [.ref a2, .ref a3, .int 0, .int 0, .int 0, .int (-1), .int 0, .int 0])), (a2, .inl (ax 1, 400, .inl (fun _ => 0))), (a3, .inl (ax 0, 401, .inl (fun _ => 0))), (m0, .inr (11, [.int 0, .int 0, .ref m1, .int 0, .int 0, .ref m2, .int 0, .int 0, .int 0, .int 0, .int 0, .ref m42, .ref m3, .ref m4, .int 0, .int 0, .ref m5, .ref m6, .ref m7, .ref m8, .ref m9, .ref m10, .ref m11, .ref m12, .ref m13, .ref m14, .ref m15, .ref m16, .ref m17, .ref m18, .ref m19, .int 0, .ref m20, .int 0, .ref m21, .int 0, .int 0, .int 0, .int 0, .int 0, .int 0, .int 0, .ref m22, .int 0, .int 0, .ref m23, .ref m24, .ref m25, .ref m26, .int 0, .ref m27, .int 0, .ref m28, .int 0, .ref m29, .ref m30, .int (-1), .int 0, .int 0, .ref m31, .ref m32, .ref m33, .ref m34, .ref m35, .ref m36, .ref m37, .ref m38, .ref m39, .int 0, .ref m40, .int 0, .ref m41])), (m1, .inl (ax 0, 400, .inl (fun _ => 0)))]) (hS : va_S (fun q : Nat => s.heap.size ≤ q) s.heap H locs) (hl1 : lv_has ls 8 [(4, .int 0), (3, .ref o0), (2, .ref m0), (1, .ref a0), (0, .ref b)]) : W p l e room_1 s m #[Value.ref b] below meth c H locs 116 904940 (lw_Z below #[Value.ref b] s) (F0 m 112 ls []) := by
  obtain ⟨hx, hb, hr, hml, hown, hts0, hX, hbl, hlocks, hgv⟩ := id C0
  have hts : ∀ w ∈ lw_gd, w.before #[Value.ref b] s = true := fun w hw => hts0 w (List.mem_filter.mp hw).1
  have hA : ∀ q : Nat, s.heap.size ≤ q → (fun q : Nat => s.heap.size ≤ q) q := fun _ h => h
  have hbA : ¬ (fun q : Nat => s.heap.size ≤ q) b := Nat.not_le.mpr hbl
  have hN : ∀ (q : Nat) (cell : Cell), s.heap[q]? = some cell → cell.vm.isStatics = true → ¬ (fun q : Nat => s.heap.size ≤ q) q := fun q cell h _ => Nat.not_le.mpr (Array.getElem?_eq_some_iff.mp h).1
  refine lv_aload_n hx hb d_lawm_112 rfl (lv_at hl1 3 rfl) ?_
  refine lv_aload_n hx hb d_lawm_113 rfl (lv_at hl1 4 rfl) ?_
  refine lv_iload hx hb d_lawm_114 (lv_at hl1 0 rfl) ?_
  refine lv_iconst (v := 1) hx hb d_lawm_116 (by decide) ?_
  refine lv_iadd hx hb d_lawm_117 ?_
  refine lv_topi (fun z_1 ez_1 => ?_)
  have ez_1 : z_1 = 1 := ez_1.trans (by first | rfl | decide)
  subst ez_1
  refine va_sld hx hb hX hbl hbA hS (by unfold vp_in; decide) d_lawm_118 ?_
  refine W.eq (g2 := F0 m 119 ls [.int x1, .ref a0]) (by rw [hx1]) ?_
  refine lv_i2l hx hb d_lawm_119 rfl ?_
  refine lv_topl (fun z_2 ez_2 => ?_)
  refine lv_bipush (v := 32) hx hb d_lawm_120 (by decide) ?_
  refine lv_lshl hx hb d_lawm_122 rfl ?_
  refine lv_topl (fun z_3 ez_3 => ?_)
  refine lv_aload_n hx hb d_lawm_123 rfl (lv_at hl1 4 rfl) ?_
  refine lv_iload hx hb d_lawm_124 (lv_at hl1 0 rfl) ?_
  refine lv_iconst (v := 2) hx hb d_lawm_126 (by decide) ?_
  refine lv_iadd hx hb d_lawm_127 ?_
  refine lv_topi (fun z_4 ez_4 => ?_)
  have ez_4 : z_4 = 2 := ez_4.trans (by first | rfl | decide)
  subst ez_4
  refine va_sld hx hb hX hbl hbA hS (by unfold vp_in; decide) d_lawm_128 ?_
  refine W.eq (g2 := F0 m 129 ls [.int x2, .long z_3, .ref a0]) (by rw [hx2]) ?_
  refine lv_i2l hx hb d_lawm_129 rfl ?_
  refine lv_topl (fun z_5 ez_5 => ?_)
  refine lv_ldc2 (v := 4294967295) hx hb hown (hts _ wd_1608) d_lawm_130 ?_
  refine lv_land hx hb d_lawm_133 ?_
  refine lv_topl (fun z_6 ez_6 => ?_)
  refine lv_lor hx hb d_lawm_134 ?_
  refine lv_topl (fun z_7 ez_7 => ?_)
  refine lv_aload_n hx hb d_lawm_135 rfl (lv_at hl1 4 rfl) ?_
  refine lv_iload hx hb d_lawm_136 (lv_at hl1 0 rfl) ?_
  refine lv_iconst (v := 3) hx hb d_lawm_138 (by decide) ?_
  refine lv_iadd hx hb d_lawm_139 ?_
  refine lv_topi (fun z_8 ez_8 => ?_)
  have ez_8 : z_8 = 3 := ez_8.trans (by first | rfl | decide)
  subst ez_8
  refine va_sld hx hb hX hbl hbA hS (by unfold vp_in; decide) d_lawm_140 ?_
  refine W.eq (g2 := F0 m 141 ls [.int 1, .long z_7, .ref a0]) (by rw [hx3]) ?_
  have hPc := hP.sub (ws' := [(a0, .inr (10, [.ref a1, .ref a4, .ref a5, .ref a11, .ref a19, .ref a24, .ref a26, .ref a28, .ref a32, .ref a36, .ref a40, .ref a56, .int 0])), (a1, .inr (9, [.ref a2, .ref a3, .int 0, .int 0, .int 0, .int (-1), .int 0, .int 0])), (a2, .inl (ax 1, 400, .inl (fun _ => 0))), (a3, .inl (ax 0, 401, .inl (fun _ => 0)))]) [0, 1, 2, 3] rfl
  have hDc := hD.sub (ws' := [(a0, .inr (10, [.ref a1, .ref a4, .ref a5, .ref a11, .ref a19, .ref a24, .ref a26, .ref a28, .ref a32, .ref a36, .ref a40, .ref a56, .int 0])), (a1, .inr (9, [.ref a2, .ref a3, .int 0, .int 0, .int 0, .int (-1), .int 0, .int 0])), (a2, .inl (ax 1, 400, .inl (fun _ => 0))), (a3, .inl (ax 0, 401, .inl (fun _ => 0)))]) [0, 1, 2, 3] (by decide) rfl
  have hFc := va_free (wc := [(a0, .inr (10, [.ref a1, .ref a4, .ref a5, .ref a11, .ref a19, .ref a24, .ref a26, .ref a28, .ref a32, .ref a36, .ref a40, .ref a56, .int 0])), (a1, .inr (9, [.ref a2, .ref a3, .int 0, .int 0, .int 0, .int (-1), .int 0, .int 0])), (a2, .inl (ax 1, 400, .inl (fun _ => 0))), (a3, .inl (ax 0, 401, .inl (fun _ => 0)))]) hD hS hA [0, 1, 2, 3] rfl
  have hz := xz_of hN hS
  refine va_calli (va_runV (As := [.long z_7, .int 1]) (rest := []) ⟨hx, hb, hml, hown, hts⟩ (c_Desk_type_1 l D ax a0 a1 a4 a5 a11 a19 a24 a26 a28 a32 a36 a40 a56 a2 a3 z_7 H.size) (xcV (n := 2) hts wd_418 wd_1 wd_415 wd_416 wd_417 rfl rfl (by decide +kernel) ⟨Nat.le_of_ble_eq_true rfl, Nat.le_of_ble_eq_true rfl⟩) (xpV (ci := 10) (q0 := 0) (As := [.long z_7, .int 1]) hPc hK hz hDc rfl rfl) rfl rfl hl1.1 rfl (lv_room (Nat.le_of_ble_eq_true rfl)) d_lawm_141 ⟨Nat.le_of_ble_eq_true rfl, Nat.le_of_ble_eq_true rfl⟩) hS (fun q _ h => hFc q h) hFc (fun r_11 u_9 t H_10 locs ht hvm hw hB hz1 hk1 hS => ?_)
  try dsimp only at hw
  subst hw
  obtain ⟨hP, hD⟩ := va_join (wr := [(m0, .inr (11, [.int 0, .int 0, .ref m1, .int 0, .int 0, .ref m2, .int 0, .int 0, .int 0, .int 0, .int 0, .ref m42, .ref m3, .ref m4, .int 0, .int 0, .ref m5, .ref m6, .ref m7, .ref m8, .ref m9, .ref m10, .ref m11, .ref m12, .ref m13, .ref m14, .ref m15, .ref m16, .ref m17, .ref m18, .ref m19, .int 0, .ref m20, .int 0, .ref m21, .int 0, .int 0, .int 0, .int 0, .int 0, .int 0, .int 0, .ref m22, .int 0, .int 0, .ref m23, .ref m24, .ref m25, .ref m26, .int 0, .ref m27, .int 0, .ref m28, .int 0, .ref m29, .ref m30, .int (-1), .int 0, .int 0, .ref m31, .ref m32, .ref m33, .ref m34, .ref m35, .ref m36, .ref m37, .ref m38, .ref m39, .int 0, .ref m40, .int 0, .ref m41])), (m1, .inl (ax 0, 400, .inl (fun _ => 0)))]) (w1 := []) hP hD [0, 1, 2, 3] [4, 5] rfl rfl (by decide) (by decide) hk1 hFc x_nilP x_nilD
  have hP : va_P D classes [(m0, .inr (11, [.int 0, .int 0, .ref m1, .int 0, .int 0, .ref m2, .int 0, .int 0, .int 0, .int 0, .int 0, .ref m42, .ref m3, .ref m4, .int 0, .int 0, .ref m5, .ref m6, .ref m7, .ref m8, .ref m9, .ref m10, .ref m11, .ref m12, .ref m13, .ref m14, .ref m15, .ref m16, .ref m17, .ref m18, .ref m19, .int 0, .ref m20, .int 0, .ref m21, .int 0, .int 0, .int 0, .int 0, .int 0, .int 0, .int 0, .ref m22, .int 0, .int 0, .ref m23, .ref m24, .ref m25, .ref m26, .int 0, .ref m27, .int 0, .ref m28, .int 0, .ref m29, .ref m30, .int (-1), .int 0, .int 0, .ref m31, .ref m32, .ref m33, .ref m34, .ref m35, .ref m36, .ref m37, .ref m38, .ref m39, .int 0, .ref m40, .int 0, .ref m41])), (m1, .inl (ax 0, 400, .inl (fun _ => 0)))] H_10 := hP
  have hD : va_D (fun q : Nat => s.heap.size ≤ q) [(m0, .inr (11, [.int 0, .int 0, .ref m1, .int 0, .int 0, .ref m2, .int 0, .int 0, .int 0, .int 0, .int 0, .ref m42, .ref m3, .ref m4, .int 0, .int 0, .ref m5, .ref m6, .ref m7, .ref m8, .ref m9, .ref m10, .ref m11, .ref m12, .ref m13, .ref m14, .ref m15, .ref m16, .ref m17, .ref m18, .ref m19, .int 0, .ref m20, .int 0, .ref m21, .int 0, .int 0, .int 0, .int 0, .int 0, .int 0, .int 0, .ref m22, .int 0, .int 0, .ref m23, .ref m24, .ref m25, .ref m26, .int 0, .ref m27, .int 0, .ref m28, .int 0, .ref m29, .ref m30, .int (-1), .int 0, .int 0, .ref m31, .ref m32, .ref m33, .ref m34, .ref m35, .ref m36, .ref m37, .ref m38, .ref m39, .int 0, .ref m40, .int 0, .ref m41])), (m1, .inl (ax 0, 400, .inl (fun _ => 0)))] := hD
  refine lv_aload_n hx hb d_lawm_144 rfl (lv_at hl1 2 rfl) ?_
  refine lv_aload_n hx hb d_lawm_145 rfl (lv_at hl1 4 rfl) ?_
  refine lv_iload hx hb d_lawm_146 (lv_at hl1 0 rfl) ?_
  refine lv_iconst (v := 1) hx hb d_lawm_148 (by decide) ?_
  refine lv_iadd hx hb d_lawm_149 ?_
  refine lv_topi (fun z_12 ez_12 => ?_)
  have ez_12 : z_12 = 1 := ez_12.trans (by first | rfl | decide)
  subst ez_12
  refine va_sld hx hb hX hbl hbA hS (by unfold vp_in; decide) d_lawm_150 ?_
  refine W.eq (g2 := F0 m 151 ls [.int x1, .ref m0, .int 1]) (by rw [hx1]) ?_
  refine lv_i2l hx hb d_lawm_151 rfl ?_
  refine lv_topl (fun z_13 ez_13 => ?_)
  refine lv_bipush (v := 32) hx hb d_lawm_152 (by decide) ?_
  refine lv_lshl hx hb d_lawm_154 rfl ?_
  refine lv_topl (fun z_14 ez_14 => ?_)
  refine lv_aload_n hx hb d_lawm_155 rfl (lv_at hl1 4 rfl) ?_
  refine lv_iload hx hb d_lawm_156 (lv_at hl1 0 rfl) ?_
  refine lv_iconst (v := 2) hx hb d_lawm_158 (by decide) ?_
  refine lv_iadd hx hb d_lawm_159 ?_
  refine lv_topi (fun z_15 ez_15 => ?_)
  have ez_15 : z_15 = 2 := ez_15.trans (by first | rfl | decide)
  subst ez_15
  refine va_sld hx hb hX hbl hbA hS (by unfold vp_in; decide) d_lawm_160 ?_
  refine W.eq (g2 := F0 m 161 ls [.int x2, .long z_14, .ref m0, .int 1]) (by rw [hx2]) ?_
  refine lv_i2l hx hb d_lawm_161 rfl ?_
  refine lv_topl (fun z_16 ez_16 => ?_)
  refine lv_ldc2 (v := 4294967295) hx hb hown (hts _ wd_1608) d_lawm_162 ?_
  refine lv_land hx hb d_lawm_165 ?_
  refine lv_topl (fun z_17 ez_17 => ?_)
  refine lv_lor hx hb d_lawm_166 ?_
  refine lv_topl (fun z_18 ez_18 => ?_)
  refine lv_aload_n hx hb d_lawm_167 rfl (lv_at hl1 4 rfl) ?_
  refine lv_iload hx hb d_lawm_168 (lv_at hl1 0 rfl) ?_
  refine lv_iconst (v := 3) hx hb d_lawm_170 (by decide) ?_
  refine lv_iadd hx hb d_lawm_171 ?_
  refine lv_topi (fun z_19 ez_19 => ?_)
  have ez_19 : z_19 = 3 := ez_19.trans (by first | rfl | decide)
  subst ez_19
  refine va_sld hx hb hX hbl hbA hS (by unfold vp_in; decide) d_lawm_172 ?_
  refine W.eq (g2 := F0 m 173 ls [.int 1, .long z_18, .ref m0, .int 1]) (by rw [hx3]) ?_
  have hPc := hP.sub (ws' := [(m0, .inr (11, [.int 0, .int 0, .ref m1, .int 0, .int 0, .ref m2, .int 0, .int 0, .int 0, .int 0, .int 0, .ref m42, .ref m3, .ref m4, .int 0, .int 0, .ref m5, .ref m6, .ref m7, .ref m8, .ref m9, .ref m10, .ref m11, .ref m12, .ref m13, .ref m14, .ref m15, .ref m16, .ref m17, .ref m18, .ref m19, .int 0, .ref m20, .int 0, .ref m21, .int 0, .int 0, .int 0, .int 0, .int 0, .int 0, .int 0, .ref m22, .int 0, .int 0, .ref m23, .ref m24, .ref m25, .ref m26, .int 0, .ref m27, .int 0, .ref m28, .int 0, .ref m29, .ref m30, .int (-1), .int 0, .int 0, .ref m31, .ref m32, .ref m33, .ref m34, .ref m35, .ref m36, .ref m37, .ref m38, .ref m39, .int 0, .ref m40, .int 0, .ref m41])), (m1, .inl (ax 0, 400, .inl (fun _ => 0)))]) [0, 1] rfl
  have hDc := hD.sub (ws' := [(m0, .inr (11, [.int 0, .int 0, .ref m1, .int 0, .int 0, .ref m2, .int 0, .int 0, .int 0, .int 0, .int 0, .ref m42, .ref m3, .ref m4, .int 0, .int 0, .ref m5, .ref m6, .ref m7, .ref m8, .ref m9, .ref m10, .ref m11, .ref m12, .ref m13, .ref m14, .ref m15, .ref m16, .ref m17, .ref m18, .ref m19, .int 0, .ref m20, .int 0, .ref m21, .int 0, .int 0, .int 0, .int 0, .int 0, .int 0, .int 0, .ref m22, .int 0, .int 0, .ref m23, .ref m24, .ref m25, .ref m26, .int 0, .ref m27, .int 0, .ref m28, .int 0, .ref m29, .ref m30, .int (-1), .int 0, .int 0, .ref m31, .ref m32, .ref m33, .ref m34, .ref m35, .ref m36, .ref m37, .ref m38, .ref m39, .int 0, .ref m40, .int 0, .ref m41])), (m1, .inl (ax 0, 400, .inl (fun _ => 0)))]) [0, 1] (by decide) rfl
  have hFc := va_free (wc := [(m0, .inr (11, [.int 0, .int 0, .ref m1, .int 0, .int 0, .ref m2, .int 0, .int 0, .int 0, .int 0, .int 0, .ref m42, .ref m3, .ref m4, .int 0, .int 0, .ref m5, .ref m6, .ref m7, .ref m8, .ref m9, .ref m10, .ref m11, .ref m12, .ref m13, .ref m14, .ref m15, .ref m16, .ref m17, .ref m18, .ref m19, .int 0, .ref m20, .int 0, .ref m21, .int 0, .int 0, .int 0, .int 0, .int 0, .int 0, .int 0, .ref m22, .int 0, .int 0, .ref m23, .ref m24, .ref m25, .ref m26, .int 0, .ref m27, .int 0, .ref m28, .int 0, .ref m29, .ref m30, .int (-1), .int 0, .int 0, .ref m31, .ref m32, .ref m33, .ref m34, .ref m35, .ref m36, .ref m37, .ref m38, .ref m39, .int 0, .ref m40, .int 0, .ref m41])), (m1, .inl (ax 0, 400, .inl (fun _ => 0)))]) hD hS hA [0, 1] rfl
  have hz := xz_of hN hS
  refine va_calli (va_runV (As := [.long z_18, .int 1]) (rest := [.int 1]) ⟨hx, hb, hml, hown, hts⟩ (c_Model_type_1 l D ax m0 m1 m2 m3 m4 m5 m6 m7 m8 m9 m10 m11 m12 m13 m14 m15 m16 m17 m18 m19 m20 m21 m22 m23 m24 m25 m26 m27 m28 m29 m30 m31 m32 m33 m34 m35 m36 m37 m38 m39 m40 m41 m42 z_18 H_10.size) (xcV (n := 2) hts wd_1261 wd_15 wd_1258 wd_1259 wd_1260 rfl rfl (by decide +kernel) ⟨Nat.le_of_ble_eq_true rfl, Nat.le_of_ble_eq_true rfl⟩) (xpV (ci := 11) (q0 := 0) (As := [.long z_18, .int 1]) hPc hK hz hDc rfl rfl) rfl rfl hl1.1 rfl (lv_room (Nat.le_of_ble_eq_true rfl)) d_lawm_173 ⟨Nat.le_of_ble_eq_true rfl, Nat.le_of_ble_eq_true rfl⟩) hS (fun q _ h => hFc q h) hFc (fun r_22 u_20 t H_21 locs ht hvm hw hB hz1 hk1 hS => ?_)
  try dsimp only at hw
  subst hw
  obtain ⟨hP, hD⟩ := va_join (wr := []) (w1 := []) hP hD [0, 1] [] rfl rfl (by decide) (by decide) hk1 hFc x_nilP x_nilD
  have hP : va_P D classes [] H_21 := hP
  have hD : va_D (fun q : Nat => s.heap.size ≤ q) [] := hD
  refine lv_icmp_eq (tgt := 841) hx hb d_lawm_176 (by decide) (fun c_23 => ?_) (fun c_23 => ?_)
  rotate_left
  · first | exact absurd c_23 (by decide) | exact absurd (by decide) c_23
  refine lv_iinc (v := 4) (lv' := [(4, .int 4), (3, .ref o0), (2, .ref m0), (1, .ref a0), (0, .ref b)]) hx hb d_lawm_841 hl1 (k := 0) rfl (by decide) (by decide) rfl (fun ls hl1 => ?_)
  refine lv_goto (tgt := 23) hx hb d_lawm_844 (by decide) ?_
  refine lv_iload hx hb d_lawm_23 (lv_at hl1 0 rfl) ?_
  refine lv_aload_n hx hb d_lawm_25 rfl (lv_at hl1 4 rfl) ?_
  refine va_slen hx hb hX hbl hbA hS d_lawm_26 ?_
  refine lv_topi (fun z_24 ez_24 => ?_)
  have ez_24 : z_24 = 4 := ez_24.trans (by first | rfl | decide)
  subst ez_24
  refine lv_iconst (v := 4) hx hb d_lawm_27 (by decide) ?_
  refine lv_isub hx hb d_lawm_28 ?_
  refine lv_topi (fun z_25 ez_25 => ?_)
  have ez_25 : z_25 = 0 := ez_25.trans (by first | rfl | decide)
  subst ez_25
  refine lv_icmp_gt (tgt := 847) hx hb d_lawm_29 (by decide) (fun c_26 => ?_) (fun c_26 => ?_)
  rotate_left
  · first | exact absurd c_26 (by decide) | exact absurd (by decide) c_26
  refine lv_iconst (v := 1) hx hb d_lawm_847 (by decide) ?_
  refine va_forget (fun q hq => hS.2.2 q hq) ?_
  refine W.widen (k := 600002) (n := 7302232) (Nat.le_of_ble_eq_true rfl) (Nat.le_of_ble_eq_true rfl) ?_
  exact lw_ret hx hb hr hlocks d_lawm_848
set_option maxHeartbeats 4000000 in
set_option maxRecDepth 100000 in
theorem lc_type_2 {p : Program} {l : Launch} {e : Env} {s : State} {m : MethodId} {below : List Frame} {meth : Method} {c : Code} {D : va_G} {ax : Nat → ClassId} {b : Nat} {xs : Nat → Int32} (hl : l.stackTraces = false) (C0 : lw_At p s m meth c b 4 xs) (hK : xk D ax s) {a0 a1 a4 a5 a11 a19 a24 a26 a28 a32 a36 a40 a56 a2 a3 m0 m1 m2 m42 m3 m4 m5 m6 m7 m8 m9 m10 m11 m12 m13 m14 m15 m16 m17 m18 m19 m20 m21 m22 m23 m24 m25 m26 m27 m28 m29 m30 m31 m32 m33 m34 m35 m36 m37 m38 m39 m40 m41 o0 : Nat} {x1 x2 : Int32} (hx1 : xs (Int32.toNatClampNeg 1) = x1) (hx2 : xs (Int32.toNatClampNeg 2) = x2) (hx3 : xs (Int32.toNatClampNeg 3) = 2) {H : Heap} {locs : List Loc} {ls : Array Slot} (hP : va_P D classes [(a0, .inr (10, [.ref a1, .ref a4, .ref a5, .ref a11, .ref a19, .ref a24, .ref a26, .ref a28, .ref a32, .ref a36, .ref a40, .ref a56, .int 0])), (a1, .inr (9, [.ref a2, .ref a3, .int 0, .int 0, .int 0, .int (-1), .int 0, .int 0])), (a2, .inl (ax 1, 400, .inl (fun _ => 0))), (a3, .inl (ax 0, 401, .inl (fun _ => 0))), (m0, .inr (11, [.int 0, .int 0, .ref m1, .int 0, .int 0, .ref m2, .int 0, .int 0, .int 0, .int 0, .int 0, .ref m42, .ref m3, .ref m4, .int 0, .int 0, .ref m5, .ref m6, .ref m7, .ref m8, .ref m9, .ref m10, .ref m11, .ref m12, .ref m13, .ref m14, .ref m15, .ref m16, .ref m17, .ref m18, .ref m19, .int 0, .ref m20, .int 0, .ref m21, .int 0, .int 0, .int 0, .int 0, .int 0, .int 0, .int 0, .ref m22, .int 0, .int 0, .ref m23, .ref m24, .ref m25, .ref m26, .int 0, .ref m27, .int 0, .ref m28, .int 0, .ref m29, .ref m30, .int (-1), .int 0, .int 0, .ref m31, .ref m32, .ref m33, .ref m34, .ref m35, .ref m36, .ref m37, .ref m38, .ref m39, .int 0, .ref m40, .int 0, .ref m41])), (m1, .inl (ax 0, 400, .inl (fun _ => 0)))] H) (hD : va_D (fun q : Nat => s.heap.size ≤ q) [(a0, .inr (10, [.ref a1, .ref a4, .ref a5, .ref a11, .ref a19, .ref a24, .ref a26, .ref a28, .ref a32, .ref a36, .ref a40, .ref a56, .int 0])), (a1, .inr (9, [.ref a2, .ref a3, .int 0, .int 0, .int 0, .int (-1), .int 0, .int 0])), (a2, .inl (ax 1, 400, .inl (fun _ => 0))), (a3, .inl (ax 0, 401, .inl (fun _ => 0))), (m0, .inr (11, [.int 0, .int 0, .ref m1, .int 0, .int 0, .ref m2, .int 0, .int 0, .int 0, .int 0, .int 0, .ref m42, .ref m3, .ref m4, .int 0, .int 0, .ref m5, .ref m6, .ref m7, .ref m8, .ref m9, .ref m10, .ref m11, .ref m12, .ref m13, .ref m14, .ref m15, .ref m16, .ref m17, .ref m18, .ref m19, .int 0, .ref m20, .int 0, .ref m21, .int 0, .int 0, .int 0, .int 0, .int 0, .int 0, .int 0, .ref m22, .int 0, .int 0, .ref m23, .ref m24, .ref m25, .ref m26, .int 0, .ref m27, .int 0, .ref m28, .int 0, .ref m29, .ref m30, .int (-1), .int 0, .int 0, .ref m31, .ref m32, .ref m33, .ref m34, .ref m35, .ref m36, .ref m37, .ref m38, .ref m39, .int 0, .ref m40, .int 0, .ref m41])), (m1, .inl (ax 0, 400, .inl (fun _ => 0)))]) (hS : va_S (fun q : Nat => s.heap.size ≤ q) s.heap H locs) (hl1 : lv_has ls 8 [(4, .int 0), (3, .ref o0), (2, .ref m0), (1, .ref a0), (0, .ref b)]) : W p l e room_1 s m #[Value.ref b] below meth c H locs 116 904940 (lw_Z below #[Value.ref b] s) (F0 m 112 ls []) := by
  obtain ⟨hx, hb, hr, hml, hown, hts0, hX, hbl, hlocks, hgv⟩ := id C0
  have hts : ∀ w ∈ lw_gd, w.before #[Value.ref b] s = true := fun w hw => hts0 w (List.mem_filter.mp hw).1
  have hA : ∀ q : Nat, s.heap.size ≤ q → (fun q : Nat => s.heap.size ≤ q) q := fun _ h => h
  have hbA : ¬ (fun q : Nat => s.heap.size ≤ q) b := Nat.not_le.mpr hbl
  have hN : ∀ (q : Nat) (cell : Cell), s.heap[q]? = some cell → cell.vm.isStatics = true → ¬ (fun q : Nat => s.heap.size ≤ q) q := fun q cell h _ => Nat.not_le.mpr (Array.getElem?_eq_some_iff.mp h).1
  refine lv_aload_n hx hb d_lawm_112 rfl (lv_at hl1 3 rfl) ?_
  refine lv_aload_n hx hb d_lawm_113 rfl (lv_at hl1 4 rfl) ?_
  refine lv_iload hx hb d_lawm_114 (lv_at hl1 0 rfl) ?_
  refine lv_iconst (v := 1) hx hb d_lawm_116 (by decide) ?_
  refine lv_iadd hx hb d_lawm_117 ?_
  refine lv_topi (fun z_1 ez_1 => ?_)
  have ez_1 : z_1 = 1 := ez_1.trans (by first | rfl | decide)
  subst ez_1
  refine va_sld hx hb hX hbl hbA hS (by unfold vp_in; decide) d_lawm_118 ?_
  refine W.eq (g2 := F0 m 119 ls [.int x1, .ref a0]) (by rw [hx1]) ?_
  refine lv_i2l hx hb d_lawm_119 rfl ?_
  refine lv_topl (fun z_2 ez_2 => ?_)
  refine lv_bipush (v := 32) hx hb d_lawm_120 (by decide) ?_
  refine lv_lshl hx hb d_lawm_122 rfl ?_
  refine lv_topl (fun z_3 ez_3 => ?_)
  refine lv_aload_n hx hb d_lawm_123 rfl (lv_at hl1 4 rfl) ?_
  refine lv_iload hx hb d_lawm_124 (lv_at hl1 0 rfl) ?_
  refine lv_iconst (v := 2) hx hb d_lawm_126 (by decide) ?_
  refine lv_iadd hx hb d_lawm_127 ?_
  refine lv_topi (fun z_4 ez_4 => ?_)
  have ez_4 : z_4 = 2 := ez_4.trans (by first | rfl | decide)
  subst ez_4
  refine va_sld hx hb hX hbl hbA hS (by unfold vp_in; decide) d_lawm_128 ?_
  refine W.eq (g2 := F0 m 129 ls [.int x2, .long z_3, .ref a0]) (by rw [hx2]) ?_
  refine lv_i2l hx hb d_lawm_129 rfl ?_
  refine lv_topl (fun z_5 ez_5 => ?_)
  refine lv_ldc2 (v := 4294967295) hx hb hown (hts _ wd_1608) d_lawm_130 ?_
  refine lv_land hx hb d_lawm_133 ?_
  refine lv_topl (fun z_6 ez_6 => ?_)
  refine lv_lor hx hb d_lawm_134 ?_
  refine lv_topl (fun z_7 ez_7 => ?_)
  refine lv_aload_n hx hb d_lawm_135 rfl (lv_at hl1 4 rfl) ?_
  refine lv_iload hx hb d_lawm_136 (lv_at hl1 0 rfl) ?_
  refine lv_iconst (v := 3) hx hb d_lawm_138 (by decide) ?_
  refine lv_iadd hx hb d_lawm_139 ?_
  refine lv_topi (fun z_8 ez_8 => ?_)
  have ez_8 : z_8 = 3 := ez_8.trans (by first | rfl | decide)
  subst ez_8
  refine va_sld hx hb hX hbl hbA hS (by unfold vp_in; decide) d_lawm_140 ?_
  refine W.eq (g2 := F0 m 141 ls [.int 2, .long z_7, .ref a0]) (by rw [hx3]) ?_
  have hPc := hP.sub (ws' := [(a0, .inr (10, [.ref a1, .ref a4, .ref a5, .ref a11, .ref a19, .ref a24, .ref a26, .ref a28, .ref a32, .ref a36, .ref a40, .ref a56, .int 0])), (a1, .inr (9, [.ref a2, .ref a3, .int 0, .int 0, .int 0, .int (-1), .int 0, .int 0])), (a2, .inl (ax 1, 400, .inl (fun _ => 0))), (a3, .inl (ax 0, 401, .inl (fun _ => 0)))]) [0, 1, 2, 3] rfl
  have hDc := hD.sub (ws' := [(a0, .inr (10, [.ref a1, .ref a4, .ref a5, .ref a11, .ref a19, .ref a24, .ref a26, .ref a28, .ref a32, .ref a36, .ref a40, .ref a56, .int 0])), (a1, .inr (9, [.ref a2, .ref a3, .int 0, .int 0, .int 0, .int (-1), .int 0, .int 0])), (a2, .inl (ax 1, 400, .inl (fun _ => 0))), (a3, .inl (ax 0, 401, .inl (fun _ => 0)))]) [0, 1, 2, 3] (by decide) rfl
  have hFc := va_free (wc := [(a0, .inr (10, [.ref a1, .ref a4, .ref a5, .ref a11, .ref a19, .ref a24, .ref a26, .ref a28, .ref a32, .ref a36, .ref a40, .ref a56, .int 0])), (a1, .inr (9, [.ref a2, .ref a3, .int 0, .int 0, .int 0, .int (-1), .int 0, .int 0])), (a2, .inl (ax 1, 400, .inl (fun _ => 0))), (a3, .inl (ax 0, 401, .inl (fun _ => 0)))]) hD hS hA [0, 1, 2, 3] rfl
  have hz := xz_of hN hS
  refine va_calli (va_runV (As := [.long z_7, .int 2]) (rest := []) ⟨hx, hb, hml, hown, hts⟩ (c_Desk_type_2 l D ax a0 a1 a4 a5 a11 a19 a24 a26 a28 a32 a36 a40 a56 a2 a3 z_7 H.size) (xcV (n := 2) hts wd_418 wd_1 wd_415 wd_416 wd_417 rfl rfl (by decide +kernel) ⟨Nat.le_of_ble_eq_true rfl, Nat.le_of_ble_eq_true rfl⟩) (xpV (ci := 10) (q0 := 0) (As := [.long z_7, .int 2]) hPc hK hz hDc rfl rfl) rfl rfl hl1.1 rfl (lv_room (Nat.le_of_ble_eq_true rfl)) d_lawm_141 ⟨Nat.le_of_ble_eq_true rfl, Nat.le_of_ble_eq_true rfl⟩) hS (fun q _ h => hFc q h) hFc (fun r_11 u_9 t H_10 locs ht hvm hw hB hz1 hk1 hS => ?_)
  try dsimp only at hw
  subst hw
  obtain ⟨hP, hD⟩ := va_join (wr := [(m0, .inr (11, [.int 0, .int 0, .ref m1, .int 0, .int 0, .ref m2, .int 0, .int 0, .int 0, .int 0, .int 0, .ref m42, .ref m3, .ref m4, .int 0, .int 0, .ref m5, .ref m6, .ref m7, .ref m8, .ref m9, .ref m10, .ref m11, .ref m12, .ref m13, .ref m14, .ref m15, .ref m16, .ref m17, .ref m18, .ref m19, .int 0, .ref m20, .int 0, .ref m21, .int 0, .int 0, .int 0, .int 0, .int 0, .int 0, .int 0, .ref m22, .int 0, .int 0, .ref m23, .ref m24, .ref m25, .ref m26, .int 0, .ref m27, .int 0, .ref m28, .int 0, .ref m29, .ref m30, .int (-1), .int 0, .int 0, .ref m31, .ref m32, .ref m33, .ref m34, .ref m35, .ref m36, .ref m37, .ref m38, .ref m39, .int 0, .ref m40, .int 0, .ref m41])), (m1, .inl (ax 0, 400, .inl (fun _ => 0)))]) (w1 := []) hP hD [0, 1, 2, 3] [4, 5] rfl rfl (by decide) (by decide) hk1 hFc x_nilP x_nilD
  have hP : va_P D classes [(m0, .inr (11, [.int 0, .int 0, .ref m1, .int 0, .int 0, .ref m2, .int 0, .int 0, .int 0, .int 0, .int 0, .ref m42, .ref m3, .ref m4, .int 0, .int 0, .ref m5, .ref m6, .ref m7, .ref m8, .ref m9, .ref m10, .ref m11, .ref m12, .ref m13, .ref m14, .ref m15, .ref m16, .ref m17, .ref m18, .ref m19, .int 0, .ref m20, .int 0, .ref m21, .int 0, .int 0, .int 0, .int 0, .int 0, .int 0, .int 0, .ref m22, .int 0, .int 0, .ref m23, .ref m24, .ref m25, .ref m26, .int 0, .ref m27, .int 0, .ref m28, .int 0, .ref m29, .ref m30, .int (-1), .int 0, .int 0, .ref m31, .ref m32, .ref m33, .ref m34, .ref m35, .ref m36, .ref m37, .ref m38, .ref m39, .int 0, .ref m40, .int 0, .ref m41])), (m1, .inl (ax 0, 400, .inl (fun _ => 0)))] H_10 := hP
  have hD : va_D (fun q : Nat => s.heap.size ≤ q) [(m0, .inr (11, [.int 0, .int 0, .ref m1, .int 0, .int 0, .ref m2, .int 0, .int 0, .int 0, .int 0, .int 0, .ref m42, .ref m3, .ref m4, .int 0, .int 0, .ref m5, .ref m6, .ref m7, .ref m8, .ref m9, .ref m10, .ref m11, .ref m12, .ref m13, .ref m14, .ref m15, .ref m16, .ref m17, .ref m18, .ref m19, .int 0, .ref m20, .int 0, .ref m21, .int 0, .int 0, .int 0, .int 0, .int 0, .int 0, .int 0, .ref m22, .int 0, .int 0, .ref m23, .ref m24, .ref m25, .ref m26, .int 0, .ref m27, .int 0, .ref m28, .int 0, .ref m29, .ref m30, .int (-1), .int 0, .int 0, .ref m31, .ref m32, .ref m33, .ref m34, .ref m35, .ref m36, .ref m37, .ref m38, .ref m39, .int 0, .ref m40, .int 0, .ref m41])), (m1, .inl (ax 0, 400, .inl (fun _ => 0)))] := hD
  refine lv_aload_n hx hb d_lawm_144 rfl (lv_at hl1 2 rfl) ?_
  refine lv_aload_n hx hb d_lawm_145 rfl (lv_at hl1 4 rfl) ?_
  refine lv_iload hx hb d_lawm_146 (lv_at hl1 0 rfl) ?_
  refine lv_iconst (v := 1) hx hb d_lawm_148 (by decide) ?_
  refine lv_iadd hx hb d_lawm_149 ?_
  refine lv_topi (fun z_12 ez_12 => ?_)
  have ez_12 : z_12 = 1 := ez_12.trans (by first | rfl | decide)
  subst ez_12
  refine va_sld hx hb hX hbl hbA hS (by unfold vp_in; decide) d_lawm_150 ?_
  refine W.eq (g2 := F0 m 151 ls [.int x1, .ref m0, .int 1]) (by rw [hx1]) ?_
  refine lv_i2l hx hb d_lawm_151 rfl ?_
  refine lv_topl (fun z_13 ez_13 => ?_)
  refine lv_bipush (v := 32) hx hb d_lawm_152 (by decide) ?_
  refine lv_lshl hx hb d_lawm_154 rfl ?_
  refine lv_topl (fun z_14 ez_14 => ?_)
  refine lv_aload_n hx hb d_lawm_155 rfl (lv_at hl1 4 rfl) ?_
  refine lv_iload hx hb d_lawm_156 (lv_at hl1 0 rfl) ?_
  refine lv_iconst (v := 2) hx hb d_lawm_158 (by decide) ?_
  refine lv_iadd hx hb d_lawm_159 ?_
  refine lv_topi (fun z_15 ez_15 => ?_)
  have ez_15 : z_15 = 2 := ez_15.trans (by first | rfl | decide)
  subst ez_15
  refine va_sld hx hb hX hbl hbA hS (by unfold vp_in; decide) d_lawm_160 ?_
  refine W.eq (g2 := F0 m 161 ls [.int x2, .long z_14, .ref m0, .int 1]) (by rw [hx2]) ?_
  refine lv_i2l hx hb d_lawm_161 rfl ?_
  refine lv_topl (fun z_16 ez_16 => ?_)
  refine lv_ldc2 (v := 4294967295) hx hb hown (hts _ wd_1608) d_lawm_162 ?_
  refine lv_land hx hb d_lawm_165 ?_
  refine lv_topl (fun z_17 ez_17 => ?_)
  refine lv_lor hx hb d_lawm_166 ?_
  refine lv_topl (fun z_18 ez_18 => ?_)
  refine lv_aload_n hx hb d_lawm_167 rfl (lv_at hl1 4 rfl) ?_
  refine lv_iload hx hb d_lawm_168 (lv_at hl1 0 rfl) ?_
  refine lv_iconst (v := 3) hx hb d_lawm_170 (by decide) ?_
  refine lv_iadd hx hb d_lawm_171 ?_
  refine lv_topi (fun z_19 ez_19 => ?_)
  have ez_19 : z_19 = 3 := ez_19.trans (by first | rfl | decide)
  subst ez_19
  refine va_sld hx hb hX hbl hbA hS (by unfold vp_in; decide) d_lawm_172 ?_
  refine W.eq (g2 := F0 m 173 ls [.int 2, .long z_18, .ref m0, .int 1]) (by rw [hx3]) ?_
  have hPc := hP.sub (ws' := [(m0, .inr (11, [.int 0, .int 0, .ref m1, .int 0, .int 0, .ref m2, .int 0, .int 0, .int 0, .int 0, .int 0, .ref m42, .ref m3, .ref m4, .int 0, .int 0, .ref m5, .ref m6, .ref m7, .ref m8, .ref m9, .ref m10, .ref m11, .ref m12, .ref m13, .ref m14, .ref m15, .ref m16, .ref m17, .ref m18, .ref m19, .int 0, .ref m20, .int 0, .ref m21, .int 0, .int 0, .int 0, .int 0, .int 0, .int 0, .int 0, .ref m22, .int 0, .int 0, .ref m23, .ref m24, .ref m25, .ref m26, .int 0, .ref m27, .int 0, .ref m28, .int 0, .ref m29, .ref m30, .int (-1), .int 0, .int 0, .ref m31, .ref m32, .ref m33, .ref m34, .ref m35, .ref m36, .ref m37, .ref m38, .ref m39, .int 0, .ref m40, .int 0, .ref m41])), (m1, .inl (ax 0, 400, .inl (fun _ => 0)))]) [0, 1] rfl
  have hDc := hD.sub (ws' := [(m0, .inr (11, [.int 0, .int 0, .ref m1, .int 0, .int 0, .ref m2, .int 0, .int 0, .int 0, .int 0, .int 0, .ref m42, .ref m3, .ref m4, .int 0, .int 0, .ref m5, .ref m6, .ref m7, .ref m8, .ref m9, .ref m10, .ref m11, .ref m12, .ref m13, .ref m14, .ref m15, .ref m16, .ref m17, .ref m18, .ref m19, .int 0, .ref m20, .int 0, .ref m21, .int 0, .int 0, .int 0, .int 0, .int 0, .int 0, .int 0, .ref m22, .int 0, .int 0, .ref m23, .ref m24, .ref m25, .ref m26, .int 0, .ref m27, .int 0, .ref m28, .int 0, .ref m29, .ref m30, .int (-1), .int 0, .int 0, .ref m31, .ref m32, .ref m33, .ref m34, .ref m35, .ref m36, .ref m37, .ref m38, .ref m39, .int 0, .ref m40, .int 0, .ref m41])), (m1, .inl (ax 0, 400, .inl (fun _ => 0)))]) [0, 1] (by decide) rfl
  have hFc := va_free (wc := [(m0, .inr (11, [.int 0, .int 0, .ref m1, .int 0, .int 0, .ref m2, .int 0, .int 0, .int 0, .int 0, .int 0, .ref m42, .ref m3, .ref m4, .int 0, .int 0, .ref m5, .ref m6, .ref m7, .ref m8, .ref m9, .ref m10, .ref m11, .ref m12, .ref m13, .ref m14, .ref m15, .ref m16, .ref m17, .ref m18, .ref m19, .int 0, .ref m20, .int 0, .ref m21, .int 0, .int 0, .int 0, .int 0, .int 0, .int 0, .int 0, .ref m22, .int 0, .int 0, .ref m23, .ref m24, .ref m25, .ref m26, .int 0, .ref m27, .int 0, .ref m28, .int 0, .ref m29, .ref m30, .int (-1), .int 0, .int 0, .ref m31, .ref m32, .ref m33, .ref m34, .ref m35, .ref m36, .ref m37, .ref m38, .ref m39, .int 0, .ref m40, .int 0, .ref m41])), (m1, .inl (ax 0, 400, .inl (fun _ => 0)))]) hD hS hA [0, 1] rfl
  have hz := xz_of hN hS
  refine va_calli (va_runV (As := [.long z_18, .int 2]) (rest := [.int 1]) ⟨hx, hb, hml, hown, hts⟩ (c_Model_type_2 l D ax m0 m1 m2 m3 m4 m5 m6 m7 m8 m9 m10 m11 m12 m13 m14 m15 m16 m17 m18 m19 m20 m21 m22 m23 m24 m25 m26 m27 m28 m29 m30 m31 m32 m33 m34 m35 m36 m37 m38 m39 m40 m41 m42 z_18 H_10.size) (xcV (n := 2) hts wd_1261 wd_15 wd_1258 wd_1259 wd_1260 rfl rfl (by decide +kernel) ⟨Nat.le_of_ble_eq_true rfl, Nat.le_of_ble_eq_true rfl⟩) (xpV (ci := 11) (q0 := 0) (As := [.long z_18, .int 2]) hPc hK hz hDc rfl rfl) rfl rfl hl1.1 rfl (lv_room (Nat.le_of_ble_eq_true rfl)) d_lawm_173 ⟨Nat.le_of_ble_eq_true rfl, Nat.le_of_ble_eq_true rfl⟩) hS (fun q _ h => hFc q h) hFc (fun r_22 u_20 t H_21 locs ht hvm hw hB hz1 hk1 hS => ?_)
  try dsimp only at hw
  subst hw
  obtain ⟨hP, hD⟩ := va_join (wr := []) (w1 := []) hP hD [0, 1] [] rfl rfl (by decide) (by decide) hk1 hFc x_nilP x_nilD
  have hP : va_P D classes [] H_21 := hP
  have hD : va_D (fun q : Nat => s.heap.size ≤ q) [] := hD
  refine lv_icmp_eq (tgt := 841) hx hb d_lawm_176 (by decide) (fun c_23 => ?_) (fun c_23 => ?_)
  rotate_left
  · first | exact absurd c_23 (by decide) | exact absurd (by decide) c_23
  refine lv_iinc (v := 4) (lv' := [(4, .int 4), (3, .ref o0), (2, .ref m0), (1, .ref a0), (0, .ref b)]) hx hb d_lawm_841 hl1 (k := 0) rfl (by decide) (by decide) rfl (fun ls hl1 => ?_)
  refine lv_goto (tgt := 23) hx hb d_lawm_844 (by decide) ?_
  refine lv_iload hx hb d_lawm_23 (lv_at hl1 0 rfl) ?_
  refine lv_aload_n hx hb d_lawm_25 rfl (lv_at hl1 4 rfl) ?_
  refine va_slen hx hb hX hbl hbA hS d_lawm_26 ?_
  refine lv_topi (fun z_24 ez_24 => ?_)
  have ez_24 : z_24 = 4 := ez_24.trans (by first | rfl | decide)
  subst ez_24
  refine lv_iconst (v := 4) hx hb d_lawm_27 (by decide) ?_
  refine lv_isub hx hb d_lawm_28 ?_
  refine lv_topi (fun z_25 ez_25 => ?_)
  have ez_25 : z_25 = 0 := ez_25.trans (by first | rfl | decide)
  subst ez_25
  refine lv_icmp_gt (tgt := 847) hx hb d_lawm_29 (by decide) (fun c_26 => ?_) (fun c_26 => ?_)
  rotate_left
  · first | exact absurd c_26 (by decide) | exact absurd (by decide) c_26
  refine lv_iconst (v := 1) hx hb d_lawm_847 (by decide) ?_
  refine va_forget (fun q hq => hS.2.2 q hq) ?_
  refine W.widen (k := 600002) (n := 7302232) (Nat.le_of_ble_eq_true rfl) (Nat.le_of_ble_eq_true rfl) ?_
  exact lw_ret hx hb hr hlocks d_lawm_848
set_option maxHeartbeats 4000000 in
set_option maxRecDepth 100000 in
theorem lc_type_3 {p : Program} {l : Launch} {e : Env} {s : State} {m : MethodId} {below : List Frame} {meth : Method} {c : Code} {D : va_G} {ax : Nat → ClassId} {b : Nat} {xs : Nat → Int32} (hl : l.stackTraces = false) (C0 : lw_At p s m meth c b 4 xs) (hK : xk D ax s) {a0 a1 a4 a5 a11 a19 a24 a26 a28 a32 a36 a40 a56 a2 a3 m0 m1 m2 m42 m3 m4 m5 m6 m7 m8 m9 m10 m11 m12 m13 m14 m15 m16 m17 m18 m19 m20 m21 m22 m23 m24 m25 m26 m27 m28 m29 m30 m31 m32 m33 m34 m35 m36 m37 m38 m39 m40 m41 o0 : Nat} {x1 x2 : Int32} (hx1 : xs (Int32.toNatClampNeg 1) = x1) (hx2 : xs (Int32.toNatClampNeg 2) = x2) (hx3 : xs (Int32.toNatClampNeg 3) = 3) {H : Heap} {locs : List Loc} {ls : Array Slot} (hP : va_P D classes [(a0, .inr (10, [.ref a1, .ref a4, .ref a5, .ref a11, .ref a19, .ref a24, .ref a26, .ref a28, .ref a32, .ref a36, .ref a40, .ref a56, .int 0])), (a1, .inr (9, [.ref a2, .ref a3, .int 0, .int 0, .int 0, .int (-1), .int 0, .int 0])), (a2, .inl (ax 1, 400, .inl (fun _ => 0))), (a3, .inl (ax 0, 401, .inl (fun _ => 0))), (m0, .inr (11, [.int 0, .int 0, .ref m1, .int 0, .int 0, .ref m2, .int 0, .int 0, .int 0, .int 0, .int 0, .ref m42, .ref m3, .ref m4, .int 0, .int 0, .ref m5, .ref m6, .ref m7, .ref m8, .ref m9, .ref m10, .ref m11, .ref m12, .ref m13, .ref m14, .ref m15, .ref m16, .ref m17, .ref m18, .ref m19, .int 0, .ref m20, .int 0, .ref m21, .int 0, .int 0, .int 0, .int 0, .int 0, .int 0, .int 0, .ref m22, .int 0, .int 0, .ref m23, .ref m24, .ref m25, .ref m26, .int 0, .ref m27, .int 0, .ref m28, .int 0, .ref m29, .ref m30, .int (-1), .int 0, .int 0, .ref m31, .ref m32, .ref m33, .ref m34, .ref m35, .ref m36, .ref m37, .ref m38, .ref m39, .int 0, .ref m40, .int 0, .ref m41])), (m1, .inl (ax 0, 400, .inl (fun _ => 0)))] H) (hD : va_D (fun q : Nat => s.heap.size ≤ q) [(a0, .inr (10, [.ref a1, .ref a4, .ref a5, .ref a11, .ref a19, .ref a24, .ref a26, .ref a28, .ref a32, .ref a36, .ref a40, .ref a56, .int 0])), (a1, .inr (9, [.ref a2, .ref a3, .int 0, .int 0, .int 0, .int (-1), .int 0, .int 0])), (a2, .inl (ax 1, 400, .inl (fun _ => 0))), (a3, .inl (ax 0, 401, .inl (fun _ => 0))), (m0, .inr (11, [.int 0, .int 0, .ref m1, .int 0, .int 0, .ref m2, .int 0, .int 0, .int 0, .int 0, .int 0, .ref m42, .ref m3, .ref m4, .int 0, .int 0, .ref m5, .ref m6, .ref m7, .ref m8, .ref m9, .ref m10, .ref m11, .ref m12, .ref m13, .ref m14, .ref m15, .ref m16, .ref m17, .ref m18, .ref m19, .int 0, .ref m20, .int 0, .ref m21, .int 0, .int 0, .int 0, .int 0, .int 0, .int 0, .int 0, .ref m22, .int 0, .int 0, .ref m23, .ref m24, .ref m25, .ref m26, .int 0, .ref m27, .int 0, .ref m28, .int 0, .ref m29, .ref m30, .int (-1), .int 0, .int 0, .ref m31, .ref m32, .ref m33, .ref m34, .ref m35, .ref m36, .ref m37, .ref m38, .ref m39, .int 0, .ref m40, .int 0, .ref m41])), (m1, .inl (ax 0, 400, .inl (fun _ => 0)))]) (hS : va_S (fun q : Nat => s.heap.size ≤ q) s.heap H locs) (hl1 : lv_has ls 8 [(4, .int 0), (3, .ref o0), (2, .ref m0), (1, .ref a0), (0, .ref b)]) : W p l e room_1 s m #[Value.ref b] below meth c H locs 116 904940 (lw_Z below #[Value.ref b] s) (F0 m 112 ls []) := by
  obtain ⟨hx, hb, hr, hml, hown, hts0, hX, hbl, hlocks, hgv⟩ := id C0
  have hts : ∀ w ∈ lw_gd, w.before #[Value.ref b] s = true := fun w hw => hts0 w (List.mem_filter.mp hw).1
  have hA : ∀ q : Nat, s.heap.size ≤ q → (fun q : Nat => s.heap.size ≤ q) q := fun _ h => h
  have hbA : ¬ (fun q : Nat => s.heap.size ≤ q) b := Nat.not_le.mpr hbl
  have hN : ∀ (q : Nat) (cell : Cell), s.heap[q]? = some cell → cell.vm.isStatics = true → ¬ (fun q : Nat => s.heap.size ≤ q) q := fun q cell h _ => Nat.not_le.mpr (Array.getElem?_eq_some_iff.mp h).1
  refine lv_aload_n hx hb d_lawm_112 rfl (lv_at hl1 3 rfl) ?_
  refine lv_aload_n hx hb d_lawm_113 rfl (lv_at hl1 4 rfl) ?_
  refine lv_iload hx hb d_lawm_114 (lv_at hl1 0 rfl) ?_
  refine lv_iconst (v := 1) hx hb d_lawm_116 (by decide) ?_
  refine lv_iadd hx hb d_lawm_117 ?_
  refine lv_topi (fun z_1 ez_1 => ?_)
  have ez_1 : z_1 = 1 := ez_1.trans (by first | rfl | decide)
  subst ez_1
  refine va_sld hx hb hX hbl hbA hS (by unfold vp_in; decide) d_lawm_118 ?_
  refine W.eq (g2 := F0 m 119 ls [.int x1, .ref a0]) (by rw [hx1]) ?_
  refine lv_i2l hx hb d_lawm_119 rfl ?_
  refine lv_topl (fun z_2 ez_2 => ?_)
  refine lv_bipush (v := 32) hx hb d_lawm_120 (by decide) ?_
  refine lv_lshl hx hb d_lawm_122 rfl ?_
  refine lv_topl (fun z_3 ez_3 => ?_)
  refine lv_aload_n hx hb d_lawm_123 rfl (lv_at hl1 4 rfl) ?_
  refine lv_iload hx hb d_lawm_124 (lv_at hl1 0 rfl) ?_
  refine lv_iconst (v := 2) hx hb d_lawm_126 (by decide) ?_
  refine lv_iadd hx hb d_lawm_127 ?_
  refine lv_topi (fun z_4 ez_4 => ?_)
  have ez_4 : z_4 = 2 := ez_4.trans (by first | rfl | decide)
  subst ez_4
  refine va_sld hx hb hX hbl hbA hS (by unfold vp_in; decide) d_lawm_128 ?_
  refine W.eq (g2 := F0 m 129 ls [.int x2, .long z_3, .ref a0]) (by rw [hx2]) ?_
  refine lv_i2l hx hb d_lawm_129 rfl ?_
  refine lv_topl (fun z_5 ez_5 => ?_)
  refine lv_ldc2 (v := 4294967295) hx hb hown (hts _ wd_1608) d_lawm_130 ?_
  refine lv_land hx hb d_lawm_133 ?_
  refine lv_topl (fun z_6 ez_6 => ?_)
  refine lv_lor hx hb d_lawm_134 ?_
  refine lv_topl (fun z_7 ez_7 => ?_)
  refine lv_aload_n hx hb d_lawm_135 rfl (lv_at hl1 4 rfl) ?_
  refine lv_iload hx hb d_lawm_136 (lv_at hl1 0 rfl) ?_
  refine lv_iconst (v := 3) hx hb d_lawm_138 (by decide) ?_
  refine lv_iadd hx hb d_lawm_139 ?_
  refine lv_topi (fun z_8 ez_8 => ?_)
  have ez_8 : z_8 = 3 := ez_8.trans (by first | rfl | decide)
  subst ez_8
  refine va_sld hx hb hX hbl hbA hS (by unfold vp_in; decide) d_lawm_140 ?_
  refine W.eq (g2 := F0 m 141 ls [.int 3, .long z_7, .ref a0]) (by rw [hx3]) ?_
  have hPc := hP.sub (ws' := [(a0, .inr (10, [.ref a1, .ref a4, .ref a5, .ref a11, .ref a19, .ref a24, .ref a26, .ref a28, .ref a32, .ref a36, .ref a40, .ref a56, .int 0])), (a1, .inr (9, [.ref a2, .ref a3, .int 0, .int 0, .int 0, .int (-1), .int 0, .int 0])), (a2, .inl (ax 1, 400, .inl (fun _ => 0))), (a3, .inl (ax 0, 401, .inl (fun _ => 0)))]) [0, 1, 2, 3] rfl
  have hDc := hD.sub (ws' := [(a0, .inr (10, [.ref a1, .ref a4, .ref a5, .ref a11, .ref a19, .ref a24, .ref a26, .ref a28, .ref a32, .ref a36, .ref a40, .ref a56, .int 0])), (a1, .inr (9, [.ref a2, .ref a3, .int 0, .int 0, .int 0, .int (-1), .int 0, .int 0])), (a2, .inl (ax 1, 400, .inl (fun _ => 0))), (a3, .inl (ax 0, 401, .inl (fun _ => 0)))]) [0, 1, 2, 3] (by decide) rfl
  have hFc := va_free (wc := [(a0, .inr (10, [.ref a1, .ref a4, .ref a5, .ref a11, .ref a19, .ref a24, .ref a26, .ref a28, .ref a32, .ref a36, .ref a40, .ref a56, .int 0])), (a1, .inr (9, [.ref a2, .ref a3, .int 0, .int 0, .int 0, .int (-1), .int 0, .int 0])), (a2, .inl (ax 1, 400, .inl (fun _ => 0))), (a3, .inl (ax 0, 401, .inl (fun _ => 0)))]) hD hS hA [0, 1, 2, 3] rfl
  have hz := xz_of hN hS
  refine va_calli (va_runV (As := [.long z_7, .int 3]) (rest := []) ⟨hx, hb, hml, hown, hts⟩ (c_Desk_type_3 l D ax a0 a1 a4 a5 a11 a19 a24 a26 a28 a32 a36 a40 a56 a2 a3 z_7 H.size) (xcV (n := 2) hts wd_418 wd_1 wd_415 wd_416 wd_417 rfl rfl (by decide +kernel) ⟨Nat.le_of_ble_eq_true rfl, Nat.le_of_ble_eq_true rfl⟩) (xpV (ci := 10) (q0 := 0) (As := [.long z_7, .int 3]) hPc hK hz hDc rfl rfl) rfl rfl hl1.1 rfl (lv_room (Nat.le_of_ble_eq_true rfl)) d_lawm_141 ⟨Nat.le_of_ble_eq_true rfl, Nat.le_of_ble_eq_true rfl⟩) hS (fun q _ h => hFc q h) hFc (fun r_11 u_9 t H_10 locs ht hvm hw hB hz1 hk1 hS => ?_)
  try dsimp only at hw
  subst hw
  obtain ⟨hP, hD⟩ := va_join (wr := [(m0, .inr (11, [.int 0, .int 0, .ref m1, .int 0, .int 0, .ref m2, .int 0, .int 0, .int 0, .int 0, .int 0, .ref m42, .ref m3, .ref m4, .int 0, .int 0, .ref m5, .ref m6, .ref m7, .ref m8, .ref m9, .ref m10, .ref m11, .ref m12, .ref m13, .ref m14, .ref m15, .ref m16, .ref m17, .ref m18, .ref m19, .int 0, .ref m20, .int 0, .ref m21, .int 0, .int 0, .int 0, .int 0, .int 0, .int 0, .int 0, .ref m22, .int 0, .int 0, .ref m23, .ref m24, .ref m25, .ref m26, .int 0, .ref m27, .int 0, .ref m28, .int 0, .ref m29, .ref m30, .int (-1), .int 0, .int 0, .ref m31, .ref m32, .ref m33, .ref m34, .ref m35, .ref m36, .ref m37, .ref m38, .ref m39, .int 0, .ref m40, .int 0, .ref m41])), (m1, .inl (ax 0, 400, .inl (fun _ => 0)))]) (w1 := []) hP hD [0, 1, 2, 3] [4, 5] rfl rfl (by decide) (by decide) hk1 hFc x_nilP x_nilD
  have hP : va_P D classes [(m0, .inr (11, [.int 0, .int 0, .ref m1, .int 0, .int 0, .ref m2, .int 0, .int 0, .int 0, .int 0, .int 0, .ref m42, .ref m3, .ref m4, .int 0, .int 0, .ref m5, .ref m6, .ref m7, .ref m8, .ref m9, .ref m10, .ref m11, .ref m12, .ref m13, .ref m14, .ref m15, .ref m16, .ref m17, .ref m18, .ref m19, .int 0, .ref m20, .int 0, .ref m21, .int 0, .int 0, .int 0, .int 0, .int 0, .int 0, .int 0, .ref m22, .int 0, .int 0, .ref m23, .ref m24, .ref m25, .ref m26, .int 0, .ref m27, .int 0, .ref m28, .int 0, .ref m29, .ref m30, .int (-1), .int 0, .int 0, .ref m31, .ref m32, .ref m33, .ref m34, .ref m35, .ref m36, .ref m37, .ref m38, .ref m39, .int 0, .ref m40, .int 0, .ref m41])), (m1, .inl (ax 0, 400, .inl (fun _ => 0)))] H_10 := hP
  have hD : va_D (fun q : Nat => s.heap.size ≤ q) [(m0, .inr (11, [.int 0, .int 0, .ref m1, .int 0, .int 0, .ref m2, .int 0, .int 0, .int 0, .int 0, .int 0, .ref m42, .ref m3, .ref m4, .int 0, .int 0, .ref m5, .ref m6, .ref m7, .ref m8, .ref m9, .ref m10, .ref m11, .ref m12, .ref m13, .ref m14, .ref m15, .ref m16, .ref m17, .ref m18, .ref m19, .int 0, .ref m20, .int 0, .ref m21, .int 0, .int 0, .int 0, .int 0, .int 0, .int 0, .int 0, .ref m22, .int 0, .int 0, .ref m23, .ref m24, .ref m25, .ref m26, .int 0, .ref m27, .int 0, .ref m28, .int 0, .ref m29, .ref m30, .int (-1), .int 0, .int 0, .ref m31, .ref m32, .ref m33, .ref m34, .ref m35, .ref m36, .ref m37, .ref m38, .ref m39, .int 0, .ref m40, .int 0, .ref m41])), (m1, .inl (ax 0, 400, .inl (fun _ => 0)))] := hD
  refine lv_aload_n hx hb d_lawm_144 rfl (lv_at hl1 2 rfl) ?_
  refine lv_aload_n hx hb d_lawm_145 rfl (lv_at hl1 4 rfl) ?_
  refine lv_iload hx hb d_lawm_146 (lv_at hl1 0 rfl) ?_
  refine lv_iconst (v := 1) hx hb d_lawm_148 (by decide) ?_
  refine lv_iadd hx hb d_lawm_149 ?_
  refine lv_topi (fun z_12 ez_12 => ?_)
  have ez_12 : z_12 = 1 := ez_12.trans (by first | rfl | decide)
  subst ez_12
  refine va_sld hx hb hX hbl hbA hS (by unfold vp_in; decide) d_lawm_150 ?_
  refine W.eq (g2 := F0 m 151 ls [.int x1, .ref m0, .int 1]) (by rw [hx1]) ?_
  refine lv_i2l hx hb d_lawm_151 rfl ?_
  refine lv_topl (fun z_13 ez_13 => ?_)
  refine lv_bipush (v := 32) hx hb d_lawm_152 (by decide) ?_
  refine lv_lshl hx hb d_lawm_154 rfl ?_
  refine lv_topl (fun z_14 ez_14 => ?_)
  refine lv_aload_n hx hb d_lawm_155 rfl (lv_at hl1 4 rfl) ?_
  refine lv_iload hx hb d_lawm_156 (lv_at hl1 0 rfl) ?_
  refine lv_iconst (v := 2) hx hb d_lawm_158 (by decide) ?_
  refine lv_iadd hx hb d_lawm_159 ?_
  refine lv_topi (fun z_15 ez_15 => ?_)
  have ez_15 : z_15 = 2 := ez_15.trans (by first | rfl | decide)
  subst ez_15
  refine va_sld hx hb hX hbl hbA hS (by unfold vp_in; decide) d_lawm_160 ?_
  refine W.eq (g2 := F0 m 161 ls [.int x2, .long z_14, .ref m0, .int 1]) (by rw [hx2]) ?_
  refine lv_i2l hx hb d_lawm_161 rfl ?_
  refine lv_topl (fun z_16 ez_16 => ?_)
  refine lv_ldc2 (v := 4294967295) hx hb hown (hts _ wd_1608) d_lawm_162 ?_
  refine lv_land hx hb d_lawm_165 ?_
  refine lv_topl (fun z_17 ez_17 => ?_)
  refine lv_lor hx hb d_lawm_166 ?_
  refine lv_topl (fun z_18 ez_18 => ?_)
  refine lv_aload_n hx hb d_lawm_167 rfl (lv_at hl1 4 rfl) ?_
  refine lv_iload hx hb d_lawm_168 (lv_at hl1 0 rfl) ?_
  refine lv_iconst (v := 3) hx hb d_lawm_170 (by decide) ?_
  refine lv_iadd hx hb d_lawm_171 ?_
  refine lv_topi (fun z_19 ez_19 => ?_)
  have ez_19 : z_19 = 3 := ez_19.trans (by first | rfl | decide)
  subst ez_19
  refine va_sld hx hb hX hbl hbA hS (by unfold vp_in; decide) d_lawm_172 ?_
  refine W.eq (g2 := F0 m 173 ls [.int 3, .long z_18, .ref m0, .int 1]) (by rw [hx3]) ?_
  have hPc := hP.sub (ws' := [(m0, .inr (11, [.int 0, .int 0, .ref m1, .int 0, .int 0, .ref m2, .int 0, .int 0, .int 0, .int 0, .int 0, .ref m42, .ref m3, .ref m4, .int 0, .int 0, .ref m5, .ref m6, .ref m7, .ref m8, .ref m9, .ref m10, .ref m11, .ref m12, .ref m13, .ref m14, .ref m15, .ref m16, .ref m17, .ref m18, .ref m19, .int 0, .ref m20, .int 0, .ref m21, .int 0, .int 0, .int 0, .int 0, .int 0, .int 0, .int 0, .ref m22, .int 0, .int 0, .ref m23, .ref m24, .ref m25, .ref m26, .int 0, .ref m27, .int 0, .ref m28, .int 0, .ref m29, .ref m30, .int (-1), .int 0, .int 0, .ref m31, .ref m32, .ref m33, .ref m34, .ref m35, .ref m36, .ref m37, .ref m38, .ref m39, .int 0, .ref m40, .int 0, .ref m41])), (m1, .inl (ax 0, 400, .inl (fun _ => 0)))]) [0, 1] rfl
  have hDc := hD.sub (ws' := [(m0, .inr (11, [.int 0, .int 0, .ref m1, .int 0, .int 0, .ref m2, .int 0, .int 0, .int 0, .int 0, .int 0, .ref m42, .ref m3, .ref m4, .int 0, .int 0, .ref m5, .ref m6, .ref m7, .ref m8, .ref m9, .ref m10, .ref m11, .ref m12, .ref m13, .ref m14, .ref m15, .ref m16, .ref m17, .ref m18, .ref m19, .int 0, .ref m20, .int 0, .ref m21, .int 0, .int 0, .int 0, .int 0, .int 0, .int 0, .int 0, .ref m22, .int 0, .int 0, .ref m23, .ref m24, .ref m25, .ref m26, .int 0, .ref m27, .int 0, .ref m28, .int 0, .ref m29, .ref m30, .int (-1), .int 0, .int 0, .ref m31, .ref m32, .ref m33, .ref m34, .ref m35, .ref m36, .ref m37, .ref m38, .ref m39, .int 0, .ref m40, .int 0, .ref m41])), (m1, .inl (ax 0, 400, .inl (fun _ => 0)))]) [0, 1] (by decide) rfl
  have hFc := va_free (wc := [(m0, .inr (11, [.int 0, .int 0, .ref m1, .int 0, .int 0, .ref m2, .int 0, .int 0, .int 0, .int 0, .int 0, .ref m42, .ref m3, .ref m4, .int 0, .int 0, .ref m5, .ref m6, .ref m7, .ref m8, .ref m9, .ref m10, .ref m11, .ref m12, .ref m13, .ref m14, .ref m15, .ref m16, .ref m17, .ref m18, .ref m19, .int 0, .ref m20, .int 0, .ref m21, .int 0, .int 0, .int 0, .int 0, .int 0, .int 0, .int 0, .ref m22, .int 0, .int 0, .ref m23, .ref m24, .ref m25, .ref m26, .int 0, .ref m27, .int 0, .ref m28, .int 0, .ref m29, .ref m30, .int (-1), .int 0, .int 0, .ref m31, .ref m32, .ref m33, .ref m34, .ref m35, .ref m36, .ref m37, .ref m38, .ref m39, .int 0, .ref m40, .int 0, .ref m41])), (m1, .inl (ax 0, 400, .inl (fun _ => 0)))]) hD hS hA [0, 1] rfl
  have hz := xz_of hN hS
  refine va_calli (va_runV (As := [.long z_18, .int 3]) (rest := [.int 1]) ⟨hx, hb, hml, hown, hts⟩ (c_Model_type_3 l D ax m0 m1 m2 m3 m4 m5 m6 m7 m8 m9 m10 m11 m12 m13 m14 m15 m16 m17 m18 m19 m20 m21 m22 m23 m24 m25 m26 m27 m28 m29 m30 m31 m32 m33 m34 m35 m36 m37 m38 m39 m40 m41 m42 z_18 H_10.size) (xcV (n := 2) hts wd_1261 wd_15 wd_1258 wd_1259 wd_1260 rfl rfl (by decide +kernel) ⟨Nat.le_of_ble_eq_true rfl, Nat.le_of_ble_eq_true rfl⟩) (xpV (ci := 11) (q0 := 0) (As := [.long z_18, .int 3]) hPc hK hz hDc rfl rfl) rfl rfl hl1.1 rfl (lv_room (Nat.le_of_ble_eq_true rfl)) d_lawm_173 ⟨Nat.le_of_ble_eq_true rfl, Nat.le_of_ble_eq_true rfl⟩) hS (fun q _ h => hFc q h) hFc (fun r_22 u_20 t H_21 locs ht hvm hw hB hz1 hk1 hS => ?_)
  try dsimp only at hw
  subst hw
  obtain ⟨hP, hD⟩ := va_join (wr := []) (w1 := []) hP hD [0, 1] [] rfl rfl (by decide) (by decide) hk1 hFc x_nilP x_nilD
  have hP : va_P D classes [] H_21 := hP
  have hD : va_D (fun q : Nat => s.heap.size ≤ q) [] := hD
  refine lv_icmp_eq (tgt := 841) hx hb d_lawm_176 (by decide) (fun c_23 => ?_) (fun c_23 => ?_)
  rotate_left
  · first | exact absurd c_23 (by decide) | exact absurd (by decide) c_23
  refine lv_iinc (v := 4) (lv' := [(4, .int 4), (3, .ref o0), (2, .ref m0), (1, .ref a0), (0, .ref b)]) hx hb d_lawm_841 hl1 (k := 0) rfl (by decide) (by decide) rfl (fun ls hl1 => ?_)
  refine lv_goto (tgt := 23) hx hb d_lawm_844 (by decide) ?_
  refine lv_iload hx hb d_lawm_23 (lv_at hl1 0 rfl) ?_
  refine lv_aload_n hx hb d_lawm_25 rfl (lv_at hl1 4 rfl) ?_
  refine va_slen hx hb hX hbl hbA hS d_lawm_26 ?_
  refine lv_topi (fun z_24 ez_24 => ?_)
  have ez_24 : z_24 = 4 := ez_24.trans (by first | rfl | decide)
  subst ez_24
  refine lv_iconst (v := 4) hx hb d_lawm_27 (by decide) ?_
  refine lv_isub hx hb d_lawm_28 ?_
  refine lv_topi (fun z_25 ez_25 => ?_)
  have ez_25 : z_25 = 0 := ez_25.trans (by first | rfl | decide)
  subst ez_25
  refine lv_icmp_gt (tgt := 847) hx hb d_lawm_29 (by decide) (fun c_26 => ?_) (fun c_26 => ?_)
  rotate_left
  · first | exact absurd c_26 (by decide) | exact absurd (by decide) c_26
  refine lv_iconst (v := 1) hx hb d_lawm_847 (by decide) ?_
  refine va_forget (fun q hq => hS.2.2 q hq) ?_
  refine W.widen (k := 600002) (n := 7302232) (Nat.le_of_ble_eq_true rfl) (Nat.le_of_ble_eq_true rfl) ?_
  exact lw_ret hx hb hr hlocks d_lawm_848
set_option maxHeartbeats 4000000 in
set_option maxRecDepth 100000 in
theorem lc_type_4 {p : Program} {l : Launch} {e : Env} {s : State} {m : MethodId} {below : List Frame} {meth : Method} {c : Code} {D : va_G} {ax : Nat → ClassId} {b : Nat} {xs : Nat → Int32} (hl : l.stackTraces = false) (C0 : lw_At p s m meth c b 4 xs) (hK : xk D ax s) {a0 a1 a4 a5 a11 a19 a24 a26 a28 a32 a36 a40 a56 a2 a3 m0 m1 m2 m42 m3 m4 m5 m6 m7 m8 m9 m10 m11 m12 m13 m14 m15 m16 m17 m18 m19 m20 m21 m22 m23 m24 m25 m26 m27 m28 m29 m30 m31 m32 m33 m34 m35 m36 m37 m38 m39 m40 m41 o0 : Nat} {x1 x2 : Int32} (hx1 : xs (Int32.toNatClampNeg 1) = x1) (hx2 : xs (Int32.toNatClampNeg 2) = x2) (hx3 : xs (Int32.toNatClampNeg 3) = 4) {H : Heap} {locs : List Loc} {ls : Array Slot} (hP : va_P D classes [(a0, .inr (10, [.ref a1, .ref a4, .ref a5, .ref a11, .ref a19, .ref a24, .ref a26, .ref a28, .ref a32, .ref a36, .ref a40, .ref a56, .int 0])), (a1, .inr (9, [.ref a2, .ref a3, .int 0, .int 0, .int 0, .int (-1), .int 0, .int 0])), (a2, .inl (ax 1, 400, .inl (fun _ => 0))), (a3, .inl (ax 0, 401, .inl (fun _ => 0))), (m0, .inr (11, [.int 0, .int 0, .ref m1, .int 0, .int 0, .ref m2, .int 0, .int 0, .int 0, .int 0, .int 0, .ref m42, .ref m3, .ref m4, .int 0, .int 0, .ref m5, .ref m6, .ref m7, .ref m8, .ref m9, .ref m10, .ref m11, .ref m12, .ref m13, .ref m14, .ref m15, .ref m16, .ref m17, .ref m18, .ref m19, .int 0, .ref m20, .int 0, .ref m21, .int 0, .int 0, .int 0, .int 0, .int 0, .int 0, .int 0, .ref m22, .int 0, .int 0, .ref m23, .ref m24, .ref m25, .ref m26, .int 0, .ref m27, .int 0, .ref m28, .int 0, .ref m29, .ref m30, .int (-1), .int 0, .int 0, .ref m31, .ref m32, .ref m33, .ref m34, .ref m35, .ref m36, .ref m37, .ref m38, .ref m39, .int 0, .ref m40, .int 0, .ref m41])), (m1, .inl (ax 0, 400, .inl (fun _ => 0)))] H) (hD : va_D (fun q : Nat => s.heap.size ≤ q) [(a0, .inr (10, [.ref a1, .ref a4, .ref a5, .ref a11, .ref a19, .ref a24, .ref a26, .ref a28, .ref a32, .ref a36, .ref a40, .ref a56, .int 0])), (a1, .inr (9, [.ref a2, .ref a3, .int 0, .int 0, .int 0, .int (-1), .int 0, .int 0])), (a2, .inl (ax 1, 400, .inl (fun _ => 0))), (a3, .inl (ax 0, 401, .inl (fun _ => 0))), (m0, .inr (11, [.int 0, .int 0, .ref m1, .int 0, .int 0, .ref m2, .int 0, .int 0, .int 0, .int 0, .int 0, .ref m42, .ref m3, .ref m4, .int 0, .int 0, .ref m5, .ref m6, .ref m7, .ref m8, .ref m9, .ref m10, .ref m11, .ref m12, .ref m13, .ref m14, .ref m15, .ref m16, .ref m17, .ref m18, .ref m19, .int 0, .ref m20, .int 0, .ref m21, .int 0, .int 0, .int 0, .int 0, .int 0, .int 0, .int 0, .ref m22, .int 0, .int 0, .ref m23, .ref m24, .ref m25, .ref m26, .int 0, .ref m27, .int 0, .ref m28, .int 0, .ref m29, .ref m30, .int (-1), .int 0, .int 0, .ref m31, .ref m32, .ref m33, .ref m34, .ref m35, .ref m36, .ref m37, .ref m38, .ref m39, .int 0, .ref m40, .int 0, .ref m41])), (m1, .inl (ax 0, 400, .inl (fun _ => 0)))]) (hS : va_S (fun q : Nat => s.heap.size ≤ q) s.heap H locs) (hl1 : lv_has ls 8 [(4, .int 0), (3, .ref o0), (2, .ref m0), (1, .ref a0), (0, .ref b)]) : W p l e room_1 s m #[Value.ref b] below meth c H locs 116 904940 (lw_Z below #[Value.ref b] s) (F0 m 112 ls []) := by
  obtain ⟨hx, hb, hr, hml, hown, hts0, hX, hbl, hlocks, hgv⟩ := id C0
  have hts : ∀ w ∈ lw_gd, w.before #[Value.ref b] s = true := fun w hw => hts0 w (List.mem_filter.mp hw).1
  have hA : ∀ q : Nat, s.heap.size ≤ q → (fun q : Nat => s.heap.size ≤ q) q := fun _ h => h
  have hbA : ¬ (fun q : Nat => s.heap.size ≤ q) b := Nat.not_le.mpr hbl
  have hN : ∀ (q : Nat) (cell : Cell), s.heap[q]? = some cell → cell.vm.isStatics = true → ¬ (fun q : Nat => s.heap.size ≤ q) q := fun q cell h _ => Nat.not_le.mpr (Array.getElem?_eq_some_iff.mp h).1
  refine lv_aload_n hx hb d_lawm_112 rfl (lv_at hl1 3 rfl) ?_
  refine lv_aload_n hx hb d_lawm_113 rfl (lv_at hl1 4 rfl) ?_
  refine lv_iload hx hb d_lawm_114 (lv_at hl1 0 rfl) ?_
  refine lv_iconst (v := 1) hx hb d_lawm_116 (by decide) ?_
  refine lv_iadd hx hb d_lawm_117 ?_
  refine lv_topi (fun z_1 ez_1 => ?_)
  have ez_1 : z_1 = 1 := ez_1.trans (by first | rfl | decide)
  subst ez_1
  refine va_sld hx hb hX hbl hbA hS (by unfold vp_in; decide) d_lawm_118 ?_
  refine W.eq (g2 := F0 m 119 ls [.int x1, .ref a0]) (by rw [hx1]) ?_
  refine lv_i2l hx hb d_lawm_119 rfl ?_
  refine lv_topl (fun z_2 ez_2 => ?_)
  refine lv_bipush (v := 32) hx hb d_lawm_120 (by decide) ?_
  refine lv_lshl hx hb d_lawm_122 rfl ?_
  refine lv_topl (fun z_3 ez_3 => ?_)
  refine lv_aload_n hx hb d_lawm_123 rfl (lv_at hl1 4 rfl) ?_
  refine lv_iload hx hb d_lawm_124 (lv_at hl1 0 rfl) ?_
  refine lv_iconst (v := 2) hx hb d_lawm_126 (by decide) ?_
  refine lv_iadd hx hb d_lawm_127 ?_
  refine lv_topi (fun z_4 ez_4 => ?_)
  have ez_4 : z_4 = 2 := ez_4.trans (by first | rfl | decide)
  subst ez_4
  refine va_sld hx hb hX hbl hbA hS (by unfold vp_in; decide) d_lawm_128 ?_
  refine W.eq (g2 := F0 m 129 ls [.int x2, .long z_3, .ref a0]) (by rw [hx2]) ?_
  refine lv_i2l hx hb d_lawm_129 rfl ?_
  refine lv_topl (fun z_5 ez_5 => ?_)
  refine lv_ldc2 (v := 4294967295) hx hb hown (hts _ wd_1608) d_lawm_130 ?_
  refine lv_land hx hb d_lawm_133 ?_
  refine lv_topl (fun z_6 ez_6 => ?_)
  refine lv_lor hx hb d_lawm_134 ?_
  refine lv_topl (fun z_7 ez_7 => ?_)
  refine lv_aload_n hx hb d_lawm_135 rfl (lv_at hl1 4 rfl) ?_
  refine lv_iload hx hb d_lawm_136 (lv_at hl1 0 rfl) ?_
  refine lv_iconst (v := 3) hx hb d_lawm_138 (by decide) ?_
  refine lv_iadd hx hb d_lawm_139 ?_
  refine lv_topi (fun z_8 ez_8 => ?_)
  have ez_8 : z_8 = 3 := ez_8.trans (by first | rfl | decide)
  subst ez_8
  refine va_sld hx hb hX hbl hbA hS (by unfold vp_in; decide) d_lawm_140 ?_
  refine W.eq (g2 := F0 m 141 ls [.int 4, .long z_7, .ref a0]) (by rw [hx3]) ?_
  have hPc := hP.sub (ws' := [(a0, .inr (10, [.ref a1, .ref a4, .ref a5, .ref a11, .ref a19, .ref a24, .ref a26, .ref a28, .ref a32, .ref a36, .ref a40, .ref a56, .int 0])), (a1, .inr (9, [.ref a2, .ref a3, .int 0, .int 0, .int 0, .int (-1), .int 0, .int 0])), (a2, .inl (ax 1, 400, .inl (fun _ => 0))), (a3, .inl (ax 0, 401, .inl (fun _ => 0)))]) [0, 1, 2, 3] rfl
  have hDc := hD.sub (ws' := [(a0, .inr (10, [.ref a1, .ref a4, .ref a5, .ref a11, .ref a19, .ref a24, .ref a26, .ref a28, .ref a32, .ref a36, .ref a40, .ref a56, .int 0])), (a1, .inr (9, [.ref a2, .ref a3, .int 0, .int 0, .int 0, .int (-1), .int 0, .int 0])), (a2, .inl (ax 1, 400, .inl (fun _ => 0))), (a3, .inl (ax 0, 401, .inl (fun _ => 0)))]) [0, 1, 2, 3] (by decide) rfl
  have hFc := va_free (wc := [(a0, .inr (10, [.ref a1, .ref a4, .ref a5, .ref a11, .ref a19, .ref a24, .ref a26, .ref a28, .ref a32, .ref a36, .ref a40, .ref a56, .int 0])), (a1, .inr (9, [.ref a2, .ref a3, .int 0, .int 0, .int 0, .int (-1), .int 0, .int 0])), (a2, .inl (ax 1, 400, .inl (fun _ => 0))), (a3, .inl (ax 0, 401, .inl (fun _ => 0)))]) hD hS hA [0, 1, 2, 3] rfl
  have hz := xz_of hN hS
  refine va_calli (va_runV (As := [.long z_7, .int 4]) (rest := []) ⟨hx, hb, hml, hown, hts⟩ (c_Desk_type_4 l D ax a0 a1 a4 a5 a11 a19 a24 a26 a28 a32 a36 a40 a56 a2 a3 z_7 H.size) (xcV (n := 2) hts wd_418 wd_1 wd_415 wd_416 wd_417 rfl rfl (by decide +kernel) ⟨Nat.le_of_ble_eq_true rfl, Nat.le_of_ble_eq_true rfl⟩) (xpV (ci := 10) (q0 := 0) (As := [.long z_7, .int 4]) hPc hK hz hDc rfl rfl) rfl rfl hl1.1 rfl (lv_room (Nat.le_of_ble_eq_true rfl)) d_lawm_141 ⟨Nat.le_of_ble_eq_true rfl, Nat.le_of_ble_eq_true rfl⟩) hS (fun q _ h => hFc q h) hFc (fun r_11 u_9 t H_10 locs ht hvm hw hB hz1 hk1 hS => ?_)
  try dsimp only at hw
  subst hw
  obtain ⟨hP, hD⟩ := va_join (wr := [(m0, .inr (11, [.int 0, .int 0, .ref m1, .int 0, .int 0, .ref m2, .int 0, .int 0, .int 0, .int 0, .int 0, .ref m42, .ref m3, .ref m4, .int 0, .int 0, .ref m5, .ref m6, .ref m7, .ref m8, .ref m9, .ref m10, .ref m11, .ref m12, .ref m13, .ref m14, .ref m15, .ref m16, .ref m17, .ref m18, .ref m19, .int 0, .ref m20, .int 0, .ref m21, .int 0, .int 0, .int 0, .int 0, .int 0, .int 0, .int 0, .ref m22, .int 0, .int 0, .ref m23, .ref m24, .ref m25, .ref m26, .int 0, .ref m27, .int 0, .ref m28, .int 0, .ref m29, .ref m30, .int (-1), .int 0, .int 0, .ref m31, .ref m32, .ref m33, .ref m34, .ref m35, .ref m36, .ref m37, .ref m38, .ref m39, .int 0, .ref m40, .int 0, .ref m41])), (m1, .inl (ax 0, 400, .inl (fun _ => 0)))]) (w1 := []) hP hD [0, 1, 2, 3] [4, 5] rfl rfl (by decide) (by decide) hk1 hFc x_nilP x_nilD
  have hP : va_P D classes [(m0, .inr (11, [.int 0, .int 0, .ref m1, .int 0, .int 0, .ref m2, .int 0, .int 0, .int 0, .int 0, .int 0, .ref m42, .ref m3, .ref m4, .int 0, .int 0, .ref m5, .ref m6, .ref m7, .ref m8, .ref m9, .ref m10, .ref m11, .ref m12, .ref m13, .ref m14, .ref m15, .ref m16, .ref m17, .ref m18, .ref m19, .int 0, .ref m20, .int 0, .ref m21, .int 0, .int 0, .int 0, .int 0, .int 0, .int 0, .int 0, .ref m22, .int 0, .int 0, .ref m23, .ref m24, .ref m25, .ref m26, .int 0, .ref m27, .int 0, .ref m28, .int 0, .ref m29, .ref m30, .int (-1), .int 0, .int 0, .ref m31, .ref m32, .ref m33, .ref m34, .ref m35, .ref m36, .ref m37, .ref m38, .ref m39, .int 0, .ref m40, .int 0, .ref m41])), (m1, .inl (ax 0, 400, .inl (fun _ => 0)))] H_10 := hP
  have hD : va_D (fun q : Nat => s.heap.size ≤ q) [(m0, .inr (11, [.int 0, .int 0, .ref m1, .int 0, .int 0, .ref m2, .int 0, .int 0, .int 0, .int 0, .int 0, .ref m42, .ref m3, .ref m4, .int 0, .int 0, .ref m5, .ref m6, .ref m7, .ref m8, .ref m9, .ref m10, .ref m11, .ref m12, .ref m13, .ref m14, .ref m15, .ref m16, .ref m17, .ref m18, .ref m19, .int 0, .ref m20, .int 0, .ref m21, .int 0, .int 0, .int 0, .int 0, .int 0, .int 0, .int 0, .ref m22, .int 0, .int 0, .ref m23, .ref m24, .ref m25, .ref m26, .int 0, .ref m27, .int 0, .ref m28, .int 0, .ref m29, .ref m30, .int (-1), .int 0, .int 0, .ref m31, .ref m32, .ref m33, .ref m34, .ref m35, .ref m36, .ref m37, .ref m38, .ref m39, .int 0, .ref m40, .int 0, .ref m41])), (m1, .inl (ax 0, 400, .inl (fun _ => 0)))] := hD
  refine lv_aload_n hx hb d_lawm_144 rfl (lv_at hl1 2 rfl) ?_
  refine lv_aload_n hx hb d_lawm_145 rfl (lv_at hl1 4 rfl) ?_
  refine lv_iload hx hb d_lawm_146 (lv_at hl1 0 rfl) ?_
  refine lv_iconst (v := 1) hx hb d_lawm_148 (by decide) ?_
  refine lv_iadd hx hb d_lawm_149 ?_
  refine lv_topi (fun z_12 ez_12 => ?_)
  have ez_12 : z_12 = 1 := ez_12.trans (by first | rfl | decide)
  subst ez_12
  refine va_sld hx hb hX hbl hbA hS (by unfold vp_in; decide) d_lawm_150 ?_
  refine W.eq (g2 := F0 m 151 ls [.int x1, .ref m0, .int 1]) (by rw [hx1]) ?_
  refine lv_i2l hx hb d_lawm_151 rfl ?_
  refine lv_topl (fun z_13 ez_13 => ?_)
  refine lv_bipush (v := 32) hx hb d_lawm_152 (by decide) ?_
  refine lv_lshl hx hb d_lawm_154 rfl ?_
  refine lv_topl (fun z_14 ez_14 => ?_)
  refine lv_aload_n hx hb d_lawm_155 rfl (lv_at hl1 4 rfl) ?_
  refine lv_iload hx hb d_lawm_156 (lv_at hl1 0 rfl) ?_
  refine lv_iconst (v := 2) hx hb d_lawm_158 (by decide) ?_
  refine lv_iadd hx hb d_lawm_159 ?_
  refine lv_topi (fun z_15 ez_15 => ?_)
  have ez_15 : z_15 = 2 := ez_15.trans (by first | rfl | decide)
  subst ez_15
  refine va_sld hx hb hX hbl hbA hS (by unfold vp_in; decide) d_lawm_160 ?_
  refine W.eq (g2 := F0 m 161 ls [.int x2, .long z_14, .ref m0, .int 1]) (by rw [hx2]) ?_
  refine lv_i2l hx hb d_lawm_161 rfl ?_
  refine lv_topl (fun z_16 ez_16 => ?_)
  refine lv_ldc2 (v := 4294967295) hx hb hown (hts _ wd_1608) d_lawm_162 ?_
  refine lv_land hx hb d_lawm_165 ?_
  refine lv_topl (fun z_17 ez_17 => ?_)
  refine lv_lor hx hb d_lawm_166 ?_
  refine lv_topl (fun z_18 ez_18 => ?_)
  refine lv_aload_n hx hb d_lawm_167 rfl (lv_at hl1 4 rfl) ?_
  refine lv_iload hx hb d_lawm_168 (lv_at hl1 0 rfl) ?_
  refine lv_iconst (v := 3) hx hb d_lawm_170 (by decide) ?_
  refine lv_iadd hx hb d_lawm_171 ?_
  refine lv_topi (fun z_19 ez_19 => ?_)
  have ez_19 : z_19 = 3 := ez_19.trans (by first | rfl | decide)
  subst ez_19
  refine va_sld hx hb hX hbl hbA hS (by unfold vp_in; decide) d_lawm_172 ?_
  refine W.eq (g2 := F0 m 173 ls [.int 4, .long z_18, .ref m0, .int 1]) (by rw [hx3]) ?_
  have hPc := hP.sub (ws' := [(m0, .inr (11, [.int 0, .int 0, .ref m1, .int 0, .int 0, .ref m2, .int 0, .int 0, .int 0, .int 0, .int 0, .ref m42, .ref m3, .ref m4, .int 0, .int 0, .ref m5, .ref m6, .ref m7, .ref m8, .ref m9, .ref m10, .ref m11, .ref m12, .ref m13, .ref m14, .ref m15, .ref m16, .ref m17, .ref m18, .ref m19, .int 0, .ref m20, .int 0, .ref m21, .int 0, .int 0, .int 0, .int 0, .int 0, .int 0, .int 0, .ref m22, .int 0, .int 0, .ref m23, .ref m24, .ref m25, .ref m26, .int 0, .ref m27, .int 0, .ref m28, .int 0, .ref m29, .ref m30, .int (-1), .int 0, .int 0, .ref m31, .ref m32, .ref m33, .ref m34, .ref m35, .ref m36, .ref m37, .ref m38, .ref m39, .int 0, .ref m40, .int 0, .ref m41])), (m1, .inl (ax 0, 400, .inl (fun _ => 0)))]) [0, 1] rfl
  have hDc := hD.sub (ws' := [(m0, .inr (11, [.int 0, .int 0, .ref m1, .int 0, .int 0, .ref m2, .int 0, .int 0, .int 0, .int 0, .int 0, .ref m42, .ref m3, .ref m4, .int 0, .int 0, .ref m5, .ref m6, .ref m7, .ref m8, .ref m9, .ref m10, .ref m11, .ref m12, .ref m13, .ref m14, .ref m15, .ref m16, .ref m17, .ref m18, .ref m19, .int 0, .ref m20, .int 0, .ref m21, .int 0, .int 0, .int 0, .int 0, .int 0, .int 0, .int 0, .ref m22, .int 0, .int 0, .ref m23, .ref m24, .ref m25, .ref m26, .int 0, .ref m27, .int 0, .ref m28, .int 0, .ref m29, .ref m30, .int (-1), .int 0, .int 0, .ref m31, .ref m32, .ref m33, .ref m34, .ref m35, .ref m36, .ref m37, .ref m38, .ref m39, .int 0, .ref m40, .int 0, .ref m41])), (m1, .inl (ax 0, 400, .inl (fun _ => 0)))]) [0, 1] (by decide) rfl
  have hFc := va_free (wc := [(m0, .inr (11, [.int 0, .int 0, .ref m1, .int 0, .int 0, .ref m2, .int 0, .int 0, .int 0, .int 0, .int 0, .ref m42, .ref m3, .ref m4, .int 0, .int 0, .ref m5, .ref m6, .ref m7, .ref m8, .ref m9, .ref m10, .ref m11, .ref m12, .ref m13, .ref m14, .ref m15, .ref m16, .ref m17, .ref m18, .ref m19, .int 0, .ref m20, .int 0, .ref m21, .int 0, .int 0, .int 0, .int 0, .int 0, .int 0, .int 0, .ref m22, .int 0, .int 0, .ref m23, .ref m24, .ref m25, .ref m26, .int 0, .ref m27, .int 0, .ref m28, .int 0, .ref m29, .ref m30, .int (-1), .int 0, .int 0, .ref m31, .ref m32, .ref m33, .ref m34, .ref m35, .ref m36, .ref m37, .ref m38, .ref m39, .int 0, .ref m40, .int 0, .ref m41])), (m1, .inl (ax 0, 400, .inl (fun _ => 0)))]) hD hS hA [0, 1] rfl
  have hz := xz_of hN hS
  refine va_calli (va_runV (As := [.long z_18, .int 4]) (rest := [.int 1]) ⟨hx, hb, hml, hown, hts⟩ (c_Model_type_4 l D ax m0 m1 m2 m3 m4 m5 m6 m7 m8 m9 m10 m11 m12 m13 m14 m15 m16 m17 m18 m19 m20 m21 m22 m23 m24 m25 m26 m27 m28 m29 m30 m31 m32 m33 m34 m35 m36 m37 m38 m39 m40 m41 m42 z_18 H_10.size) (xcV (n := 2) hts wd_1261 wd_15 wd_1258 wd_1259 wd_1260 rfl rfl (by decide +kernel) ⟨Nat.le_of_ble_eq_true rfl, Nat.le_of_ble_eq_true rfl⟩) (xpV (ci := 11) (q0 := 0) (As := [.long z_18, .int 4]) hPc hK hz hDc rfl rfl) rfl rfl hl1.1 rfl (lv_room (Nat.le_of_ble_eq_true rfl)) d_lawm_173 ⟨Nat.le_of_ble_eq_true rfl, Nat.le_of_ble_eq_true rfl⟩) hS (fun q _ h => hFc q h) hFc (fun r_22 u_20 t H_21 locs ht hvm hw hB hz1 hk1 hS => ?_)
  try dsimp only at hw
  subst hw
  obtain ⟨hP, hD⟩ := va_join (wr := []) (w1 := []) hP hD [0, 1] [] rfl rfl (by decide) (by decide) hk1 hFc x_nilP x_nilD
  have hP : va_P D classes [] H_21 := hP
  have hD : va_D (fun q : Nat => s.heap.size ≤ q) [] := hD
  refine lv_icmp_eq (tgt := 841) hx hb d_lawm_176 (by decide) (fun c_23 => ?_) (fun c_23 => ?_)
  rotate_left
  · first | exact absurd c_23 (by decide) | exact absurd (by decide) c_23
  refine lv_iinc (v := 4) (lv' := [(4, .int 4), (3, .ref o0), (2, .ref m0), (1, .ref a0), (0, .ref b)]) hx hb d_lawm_841 hl1 (k := 0) rfl (by decide) (by decide) rfl (fun ls hl1 => ?_)
  refine lv_goto (tgt := 23) hx hb d_lawm_844 (by decide) ?_
  refine lv_iload hx hb d_lawm_23 (lv_at hl1 0 rfl) ?_
  refine lv_aload_n hx hb d_lawm_25 rfl (lv_at hl1 4 rfl) ?_
  refine va_slen hx hb hX hbl hbA hS d_lawm_26 ?_
  refine lv_topi (fun z_24 ez_24 => ?_)
  have ez_24 : z_24 = 4 := ez_24.trans (by first | rfl | decide)
  subst ez_24
  refine lv_iconst (v := 4) hx hb d_lawm_27 (by decide) ?_
  refine lv_isub hx hb d_lawm_28 ?_
  refine lv_topi (fun z_25 ez_25 => ?_)
  have ez_25 : z_25 = 0 := ez_25.trans (by first | rfl | decide)
  subst ez_25
  refine lv_icmp_gt (tgt := 847) hx hb d_lawm_29 (by decide) (fun c_26 => ?_) (fun c_26 => ?_)
  rotate_left
  · first | exact absurd c_26 (by decide) | exact absurd (by decide) c_26
  refine lv_iconst (v := 1) hx hb d_lawm_847 (by decide) ?_
  refine va_forget (fun q hq => hS.2.2 q hq) ?_
  refine W.widen (k := 600002) (n := 7302232) (Nat.le_of_ble_eq_true rfl) (Nat.le_of_ble_eq_true rfl) ?_
  exact lw_ret hx hb hr hlocks d_lawm_848
set_option maxHeartbeats 4000000 in
set_option maxRecDepth 100000 in
theorem lc_type_5 {p : Program} {l : Launch} {e : Env} {s : State} {m : MethodId} {below : List Frame} {meth : Method} {c : Code} {D : va_G} {ax : Nat → ClassId} {b : Nat} {xs : Nat → Int32} (hl : l.stackTraces = false) (C0 : lw_At p s m meth c b 4 xs) (hK : xk D ax s) {a0 a1 a4 a5 a11 a19 a24 a26 a28 a32 a36 a40 a56 a2 a3 m0 m1 m2 m42 m3 m4 m5 m6 m7 m8 m9 m10 m11 m12 m13 m14 m15 m16 m17 m18 m19 m20 m21 m22 m23 m24 m25 m26 m27 m28 m29 m30 m31 m32 m33 m34 m35 m36 m37 m38 m39 m40 m41 o0 : Nat} {x1 x2 : Int32} (hx1 : xs (Int32.toNatClampNeg 1) = x1) (hx2 : xs (Int32.toNatClampNeg 2) = x2) (hx3 : xs (Int32.toNatClampNeg 3) = 5) {H : Heap} {locs : List Loc} {ls : Array Slot} (hP : va_P D classes [(a0, .inr (10, [.ref a1, .ref a4, .ref a5, .ref a11, .ref a19, .ref a24, .ref a26, .ref a28, .ref a32, .ref a36, .ref a40, .ref a56, .int 0])), (a1, .inr (9, [.ref a2, .ref a3, .int 0, .int 0, .int 0, .int (-1), .int 0, .int 0])), (a2, .inl (ax 1, 400, .inl (fun _ => 0))), (a3, .inl (ax 0, 401, .inl (fun _ => 0))), (m0, .inr (11, [.int 0, .int 0, .ref m1, .int 0, .int 0, .ref m2, .int 0, .int 0, .int 0, .int 0, .int 0, .ref m42, .ref m3, .ref m4, .int 0, .int 0, .ref m5, .ref m6, .ref m7, .ref m8, .ref m9, .ref m10, .ref m11, .ref m12, .ref m13, .ref m14, .ref m15, .ref m16, .ref m17, .ref m18, .ref m19, .int 0, .ref m20, .int 0, .ref m21, .int 0, .int 0, .int 0, .int 0, .int 0, .int 0, .int 0, .ref m22, .int 0, .int 0, .ref m23, .ref m24, .ref m25, .ref m26, .int 0, .ref m27, .int 0, .ref m28, .int 0, .ref m29, .ref m30, .int (-1), .int 0, .int 0, .ref m31, .ref m32, .ref m33, .ref m34, .ref m35, .ref m36, .ref m37, .ref m38, .ref m39, .int 0, .ref m40, .int 0, .ref m41])), (m1, .inl (ax 0, 400, .inl (fun _ => 0)))] H) (hD : va_D (fun q : Nat => s.heap.size ≤ q) [(a0, .inr (10, [.ref a1, .ref a4, .ref a5, .ref a11, .ref a19, .ref a24, .ref a26, .ref a28, .ref a32, .ref a36, .ref a40, .ref a56, .int 0])), (a1, .inr (9, [.ref a2, .ref a3, .int 0, .int 0, .int 0, .int (-1), .int 0, .int 0])), (a2, .inl (ax 1, 400, .inl (fun _ => 0))), (a3, .inl (ax 0, 401, .inl (fun _ => 0))), (m0, .inr (11, [.int 0, .int 0, .ref m1, .int 0, .int 0, .ref m2, .int 0, .int 0, .int 0, .int 0, .int 0, .ref m42, .ref m3, .ref m4, .int 0, .int 0, .ref m5, .ref m6, .ref m7, .ref m8, .ref m9, .ref m10, .ref m11, .ref m12, .ref m13, .ref m14, .ref m15, .ref m16, .ref m17, .ref m18, .ref m19, .int 0, .ref m20, .int 0, .ref m21, .int 0, .int 0, .int 0, .int 0, .int 0, .int 0, .int 0, .ref m22, .int 0, .int 0, .ref m23, .ref m24, .ref m25, .ref m26, .int 0, .ref m27, .int 0, .ref m28, .int 0, .ref m29, .ref m30, .int (-1), .int 0, .int 0, .ref m31, .ref m32, .ref m33, .ref m34, .ref m35, .ref m36, .ref m37, .ref m38, .ref m39, .int 0, .ref m40, .int 0, .ref m41])), (m1, .inl (ax 0, 400, .inl (fun _ => 0)))]) (hS : va_S (fun q : Nat => s.heap.size ≤ q) s.heap H locs) (hl1 : lv_has ls 8 [(4, .int 0), (3, .ref o0), (2, .ref m0), (1, .ref a0), (0, .ref b)]) : W p l e room_1 s m #[Value.ref b] below meth c H locs 116 904940 (lw_Z below #[Value.ref b] s) (F0 m 112 ls []) := by
  obtain ⟨hx, hb, hr, hml, hown, hts0, hX, hbl, hlocks, hgv⟩ := id C0
  have hts : ∀ w ∈ lw_gd, w.before #[Value.ref b] s = true := fun w hw => hts0 w (List.mem_filter.mp hw).1
  have hA : ∀ q : Nat, s.heap.size ≤ q → (fun q : Nat => s.heap.size ≤ q) q := fun _ h => h
  have hbA : ¬ (fun q : Nat => s.heap.size ≤ q) b := Nat.not_le.mpr hbl
  have hN : ∀ (q : Nat) (cell : Cell), s.heap[q]? = some cell → cell.vm.isStatics = true → ¬ (fun q : Nat => s.heap.size ≤ q) q := fun q cell h _ => Nat.not_le.mpr (Array.getElem?_eq_some_iff.mp h).1
  refine lv_aload_n hx hb d_lawm_112 rfl (lv_at hl1 3 rfl) ?_
  refine lv_aload_n hx hb d_lawm_113 rfl (lv_at hl1 4 rfl) ?_
  refine lv_iload hx hb d_lawm_114 (lv_at hl1 0 rfl) ?_
  refine lv_iconst (v := 1) hx hb d_lawm_116 (by decide) ?_
  refine lv_iadd hx hb d_lawm_117 ?_
  refine lv_topi (fun z_1 ez_1 => ?_)
  have ez_1 : z_1 = 1 := ez_1.trans (by first | rfl | decide)
  subst ez_1
  refine va_sld hx hb hX hbl hbA hS (by unfold vp_in; decide) d_lawm_118 ?_
  refine W.eq (g2 := F0 m 119 ls [.int x1, .ref a0]) (by rw [hx1]) ?_
  refine lv_i2l hx hb d_lawm_119 rfl ?_
  refine lv_topl (fun z_2 ez_2 => ?_)
  refine lv_bipush (v := 32) hx hb d_lawm_120 (by decide) ?_
  refine lv_lshl hx hb d_lawm_122 rfl ?_
  refine lv_topl (fun z_3 ez_3 => ?_)
  refine lv_aload_n hx hb d_lawm_123 rfl (lv_at hl1 4 rfl) ?_
  refine lv_iload hx hb d_lawm_124 (lv_at hl1 0 rfl) ?_
  refine lv_iconst (v := 2) hx hb d_lawm_126 (by decide) ?_
  refine lv_iadd hx hb d_lawm_127 ?_
  refine lv_topi (fun z_4 ez_4 => ?_)
  have ez_4 : z_4 = 2 := ez_4.trans (by first | rfl | decide)
  subst ez_4
  refine va_sld hx hb hX hbl hbA hS (by unfold vp_in; decide) d_lawm_128 ?_
  refine W.eq (g2 := F0 m 129 ls [.int x2, .long z_3, .ref a0]) (by rw [hx2]) ?_
  refine lv_i2l hx hb d_lawm_129 rfl ?_
  refine lv_topl (fun z_5 ez_5 => ?_)
  refine lv_ldc2 (v := 4294967295) hx hb hown (hts _ wd_1608) d_lawm_130 ?_
  refine lv_land hx hb d_lawm_133 ?_
  refine lv_topl (fun z_6 ez_6 => ?_)
  refine lv_lor hx hb d_lawm_134 ?_
  refine lv_topl (fun z_7 ez_7 => ?_)
  refine lv_aload_n hx hb d_lawm_135 rfl (lv_at hl1 4 rfl) ?_
  refine lv_iload hx hb d_lawm_136 (lv_at hl1 0 rfl) ?_
  refine lv_iconst (v := 3) hx hb d_lawm_138 (by decide) ?_
  refine lv_iadd hx hb d_lawm_139 ?_
  refine lv_topi (fun z_8 ez_8 => ?_)
  have ez_8 : z_8 = 3 := ez_8.trans (by first | rfl | decide)
  subst ez_8
  refine va_sld hx hb hX hbl hbA hS (by unfold vp_in; decide) d_lawm_140 ?_
  refine W.eq (g2 := F0 m 141 ls [.int 5, .long z_7, .ref a0]) (by rw [hx3]) ?_
  have hPc := hP.sub (ws' := [(a0, .inr (10, [.ref a1, .ref a4, .ref a5, .ref a11, .ref a19, .ref a24, .ref a26, .ref a28, .ref a32, .ref a36, .ref a40, .ref a56, .int 0])), (a1, .inr (9, [.ref a2, .ref a3, .int 0, .int 0, .int 0, .int (-1), .int 0, .int 0])), (a2, .inl (ax 1, 400, .inl (fun _ => 0))), (a3, .inl (ax 0, 401, .inl (fun _ => 0)))]) [0, 1, 2, 3] rfl
  have hDc := hD.sub (ws' := [(a0, .inr (10, [.ref a1, .ref a4, .ref a5, .ref a11, .ref a19, .ref a24, .ref a26, .ref a28, .ref a32, .ref a36, .ref a40, .ref a56, .int 0])), (a1, .inr (9, [.ref a2, .ref a3, .int 0, .int 0, .int 0, .int (-1), .int 0, .int 0])), (a2, .inl (ax 1, 400, .inl (fun _ => 0))), (a3, .inl (ax 0, 401, .inl (fun _ => 0)))]) [0, 1, 2, 3] (by decide) rfl
  have hFc := va_free (wc := [(a0, .inr (10, [.ref a1, .ref a4, .ref a5, .ref a11, .ref a19, .ref a24, .ref a26, .ref a28, .ref a32, .ref a36, .ref a40, .ref a56, .int 0])), (a1, .inr (9, [.ref a2, .ref a3, .int 0, .int 0, .int 0, .int (-1), .int 0, .int 0])), (a2, .inl (ax 1, 400, .inl (fun _ => 0))), (a3, .inl (ax 0, 401, .inl (fun _ => 0)))]) hD hS hA [0, 1, 2, 3] rfl
  have hz := xz_of hN hS
  refine va_calli (va_runV (As := [.long z_7, .int 5]) (rest := []) ⟨hx, hb, hml, hown, hts⟩ (c_Desk_type_5 l D ax a0 a1 a4 a5 a11 a19 a24 a26 a28 a32 a36 a40 a56 a2 a3 z_7 H.size) (xcV (n := 2) hts wd_418 wd_1 wd_415 wd_416 wd_417 rfl rfl (by decide +kernel) ⟨Nat.le_of_ble_eq_true rfl, Nat.le_of_ble_eq_true rfl⟩) (xpV (ci := 10) (q0 := 0) (As := [.long z_7, .int 5]) hPc hK hz hDc rfl rfl) rfl rfl hl1.1 rfl (lv_room (Nat.le_of_ble_eq_true rfl)) d_lawm_141 ⟨Nat.le_of_ble_eq_true rfl, Nat.le_of_ble_eq_true rfl⟩) hS (fun q _ h => hFc q h) hFc (fun r_11 u_9 t H_10 locs ht hvm hw hB hz1 hk1 hS => ?_)
  try dsimp only at hw
  subst hw
  obtain ⟨hP, hD⟩ := va_join (wr := [(m0, .inr (11, [.int 0, .int 0, .ref m1, .int 0, .int 0, .ref m2, .int 0, .int 0, .int 0, .int 0, .int 0, .ref m42, .ref m3, .ref m4, .int 0, .int 0, .ref m5, .ref m6, .ref m7, .ref m8, .ref m9, .ref m10, .ref m11, .ref m12, .ref m13, .ref m14, .ref m15, .ref m16, .ref m17, .ref m18, .ref m19, .int 0, .ref m20, .int 0, .ref m21, .int 0, .int 0, .int 0, .int 0, .int 0, .int 0, .int 0, .ref m22, .int 0, .int 0, .ref m23, .ref m24, .ref m25, .ref m26, .int 0, .ref m27, .int 0, .ref m28, .int 0, .ref m29, .ref m30, .int (-1), .int 0, .int 0, .ref m31, .ref m32, .ref m33, .ref m34, .ref m35, .ref m36, .ref m37, .ref m38, .ref m39, .int 0, .ref m40, .int 0, .ref m41])), (m1, .inl (ax 0, 400, .inl (fun _ => 0)))]) (w1 := []) hP hD [0, 1, 2, 3] [4, 5] rfl rfl (by decide) (by decide) hk1 hFc x_nilP x_nilD
  have hP : va_P D classes [(m0, .inr (11, [.int 0, .int 0, .ref m1, .int 0, .int 0, .ref m2, .int 0, .int 0, .int 0, .int 0, .int 0, .ref m42, .ref m3, .ref m4, .int 0, .int 0, .ref m5, .ref m6, .ref m7, .ref m8, .ref m9, .ref m10, .ref m11, .ref m12, .ref m13, .ref m14, .ref m15, .ref m16, .ref m17, .ref m18, .ref m19, .int 0, .ref m20, .int 0, .ref m21, .int 0, .int 0, .int 0, .int 0, .int 0, .int 0, .int 0, .ref m22, .int 0, .int 0, .ref m23, .ref m24, .ref m25, .ref m26, .int 0, .ref m27, .int 0, .ref m28, .int 0, .ref m29, .ref m30, .int (-1), .int 0, .int 0, .ref m31, .ref m32, .ref m33, .ref m34, .ref m35, .ref m36, .ref m37, .ref m38, .ref m39, .int 0, .ref m40, .int 0, .ref m41])), (m1, .inl (ax 0, 400, .inl (fun _ => 0)))] H_10 := hP
  have hD : va_D (fun q : Nat => s.heap.size ≤ q) [(m0, .inr (11, [.int 0, .int 0, .ref m1, .int 0, .int 0, .ref m2, .int 0, .int 0, .int 0, .int 0, .int 0, .ref m42, .ref m3, .ref m4, .int 0, .int 0, .ref m5, .ref m6, .ref m7, .ref m8, .ref m9, .ref m10, .ref m11, .ref m12, .ref m13, .ref m14, .ref m15, .ref m16, .ref m17, .ref m18, .ref m19, .int 0, .ref m20, .int 0, .ref m21, .int 0, .int 0, .int 0, .int 0, .int 0, .int 0, .int 0, .ref m22, .int 0, .int 0, .ref m23, .ref m24, .ref m25, .ref m26, .int 0, .ref m27, .int 0, .ref m28, .int 0, .ref m29, .ref m30, .int (-1), .int 0, .int 0, .ref m31, .ref m32, .ref m33, .ref m34, .ref m35, .ref m36, .ref m37, .ref m38, .ref m39, .int 0, .ref m40, .int 0, .ref m41])), (m1, .inl (ax 0, 400, .inl (fun _ => 0)))] := hD
  refine lv_aload_n hx hb d_lawm_144 rfl (lv_at hl1 2 rfl) ?_
  refine lv_aload_n hx hb d_lawm_145 rfl (lv_at hl1 4 rfl) ?_
  refine lv_iload hx hb d_lawm_146 (lv_at hl1 0 rfl) ?_
  refine lv_iconst (v := 1) hx hb d_lawm_148 (by decide) ?_
  refine lv_iadd hx hb d_lawm_149 ?_
  refine lv_topi (fun z_12 ez_12 => ?_)
  have ez_12 : z_12 = 1 := ez_12.trans (by first | rfl | decide)
  subst ez_12
  refine va_sld hx hb hX hbl hbA hS (by unfold vp_in; decide) d_lawm_150 ?_
  refine W.eq (g2 := F0 m 151 ls [.int x1, .ref m0, .int 1]) (by rw [hx1]) ?_
  refine lv_i2l hx hb d_lawm_151 rfl ?_
  refine lv_topl (fun z_13 ez_13 => ?_)
  refine lv_bipush (v := 32) hx hb d_lawm_152 (by decide) ?_
  refine lv_lshl hx hb d_lawm_154 rfl ?_
  refine lv_topl (fun z_14 ez_14 => ?_)
  refine lv_aload_n hx hb d_lawm_155 rfl (lv_at hl1 4 rfl) ?_
  refine lv_iload hx hb d_lawm_156 (lv_at hl1 0 rfl) ?_
  refine lv_iconst (v := 2) hx hb d_lawm_158 (by decide) ?_
  refine lv_iadd hx hb d_lawm_159 ?_
  refine lv_topi (fun z_15 ez_15 => ?_)
  have ez_15 : z_15 = 2 := ez_15.trans (by first | rfl | decide)
  subst ez_15
  refine va_sld hx hb hX hbl hbA hS (by unfold vp_in; decide) d_lawm_160 ?_
  refine W.eq (g2 := F0 m 161 ls [.int x2, .long z_14, .ref m0, .int 1]) (by rw [hx2]) ?_
  refine lv_i2l hx hb d_lawm_161 rfl ?_
  refine lv_topl (fun z_16 ez_16 => ?_)
  refine lv_ldc2 (v := 4294967295) hx hb hown (hts _ wd_1608) d_lawm_162 ?_
  refine lv_land hx hb d_lawm_165 ?_
  refine lv_topl (fun z_17 ez_17 => ?_)
  refine lv_lor hx hb d_lawm_166 ?_
  refine lv_topl (fun z_18 ez_18 => ?_)
  refine lv_aload_n hx hb d_lawm_167 rfl (lv_at hl1 4 rfl) ?_
  refine lv_iload hx hb d_lawm_168 (lv_at hl1 0 rfl) ?_
  refine lv_iconst (v := 3) hx hb d_lawm_170 (by decide) ?_
  refine lv_iadd hx hb d_lawm_171 ?_
  refine lv_topi (fun z_19 ez_19 => ?_)
  have ez_19 : z_19 = 3 := ez_19.trans (by first | rfl | decide)
  subst ez_19
  refine va_sld hx hb hX hbl hbA hS (by unfold vp_in; decide) d_lawm_172 ?_
  refine W.eq (g2 := F0 m 173 ls [.int 5, .long z_18, .ref m0, .int 1]) (by rw [hx3]) ?_
  have hPc := hP.sub (ws' := [(m0, .inr (11, [.int 0, .int 0, .ref m1, .int 0, .int 0, .ref m2, .int 0, .int 0, .int 0, .int 0, .int 0, .ref m42, .ref m3, .ref m4, .int 0, .int 0, .ref m5, .ref m6, .ref m7, .ref m8, .ref m9, .ref m10, .ref m11, .ref m12, .ref m13, .ref m14, .ref m15, .ref m16, .ref m17, .ref m18, .ref m19, .int 0, .ref m20, .int 0, .ref m21, .int 0, .int 0, .int 0, .int 0, .int 0, .int 0, .int 0, .ref m22, .int 0, .int 0, .ref m23, .ref m24, .ref m25, .ref m26, .int 0, .ref m27, .int 0, .ref m28, .int 0, .ref m29, .ref m30, .int (-1), .int 0, .int 0, .ref m31, .ref m32, .ref m33, .ref m34, .ref m35, .ref m36, .ref m37, .ref m38, .ref m39, .int 0, .ref m40, .int 0, .ref m41])), (m1, .inl (ax 0, 400, .inl (fun _ => 0)))]) [0, 1] rfl
  have hDc := hD.sub (ws' := [(m0, .inr (11, [.int 0, .int 0, .ref m1, .int 0, .int 0, .ref m2, .int 0, .int 0, .int 0, .int 0, .int 0, .ref m42, .ref m3, .ref m4, .int 0, .int 0, .ref m5, .ref m6, .ref m7, .ref m8, .ref m9, .ref m10, .ref m11, .ref m12, .ref m13, .ref m14, .ref m15, .ref m16, .ref m17, .ref m18, .ref m19, .int 0, .ref m20, .int 0, .ref m21, .int 0, .int 0, .int 0, .int 0, .int 0, .int 0, .int 0, .ref m22, .int 0, .int 0, .ref m23, .ref m24, .ref m25, .ref m26, .int 0, .ref m27, .int 0, .ref m28, .int 0, .ref m29, .ref m30, .int (-1), .int 0, .int 0, .ref m31, .ref m32, .ref m33, .ref m34, .ref m35, .ref m36, .ref m37, .ref m38, .ref m39, .int 0, .ref m40, .int 0, .ref m41])), (m1, .inl (ax 0, 400, .inl (fun _ => 0)))]) [0, 1] (by decide) rfl
  have hFc := va_free (wc := [(m0, .inr (11, [.int 0, .int 0, .ref m1, .int 0, .int 0, .ref m2, .int 0, .int 0, .int 0, .int 0, .int 0, .ref m42, .ref m3, .ref m4, .int 0, .int 0, .ref m5, .ref m6, .ref m7, .ref m8, .ref m9, .ref m10, .ref m11, .ref m12, .ref m13, .ref m14, .ref m15, .ref m16, .ref m17, .ref m18, .ref m19, .int 0, .ref m20, .int 0, .ref m21, .int 0, .int 0, .int 0, .int 0, .int 0, .int 0, .int 0, .ref m22, .int 0, .int 0, .ref m23, .ref m24, .ref m25, .ref m26, .int 0, .ref m27, .int 0, .ref m28, .int 0, .ref m29, .ref m30, .int (-1), .int 0, .int 0, .ref m31, .ref m32, .ref m33, .ref m34, .ref m35, .ref m36, .ref m37, .ref m38, .ref m39, .int 0, .ref m40, .int 0, .ref m41])), (m1, .inl (ax 0, 400, .inl (fun _ => 0)))]) hD hS hA [0, 1] rfl
  have hz := xz_of hN hS
  refine va_calli (va_runV (As := [.long z_18, .int 5]) (rest := [.int 1]) ⟨hx, hb, hml, hown, hts⟩ (c_Model_type_5 l D ax m0 m1 m2 m3 m4 m5 m6 m7 m8 m9 m10 m11 m12 m13 m14 m15 m16 m17 m18 m19 m20 m21 m22 m23 m24 m25 m26 m27 m28 m29 m30 m31 m32 m33 m34 m35 m36 m37 m38 m39 m40 m41 m42 z_18 H_10.size) (xcV (n := 2) hts wd_1261 wd_15 wd_1258 wd_1259 wd_1260 rfl rfl (by decide +kernel) ⟨Nat.le_of_ble_eq_true rfl, Nat.le_of_ble_eq_true rfl⟩) (xpV (ci := 11) (q0 := 0) (As := [.long z_18, .int 5]) hPc hK hz hDc rfl rfl) rfl rfl hl1.1 rfl (lv_room (Nat.le_of_ble_eq_true rfl)) d_lawm_173 ⟨Nat.le_of_ble_eq_true rfl, Nat.le_of_ble_eq_true rfl⟩) hS (fun q _ h => hFc q h) hFc (fun r_22 u_20 t H_21 locs ht hvm hw hB hz1 hk1 hS => ?_)
  try dsimp only at hw
  subst hw
  obtain ⟨hP, hD⟩ := va_join (wr := []) (w1 := []) hP hD [0, 1] [] rfl rfl (by decide) (by decide) hk1 hFc x_nilP x_nilD
  have hP : va_P D classes [] H_21 := hP
  have hD : va_D (fun q : Nat => s.heap.size ≤ q) [] := hD
  refine lv_icmp_eq (tgt := 841) hx hb d_lawm_176 (by decide) (fun c_23 => ?_) (fun c_23 => ?_)
  rotate_left
  · first | exact absurd c_23 (by decide) | exact absurd (by decide) c_23
  refine lv_iinc (v := 4) (lv' := [(4, .int 4), (3, .ref o0), (2, .ref m0), (1, .ref a0), (0, .ref b)]) hx hb d_lawm_841 hl1 (k := 0) rfl (by decide) (by decide) rfl (fun ls hl1 => ?_)
  refine lv_goto (tgt := 23) hx hb d_lawm_844 (by decide) ?_
  refine lv_iload hx hb d_lawm_23 (lv_at hl1 0 rfl) ?_
  refine lv_aload_n hx hb d_lawm_25 rfl (lv_at hl1 4 rfl) ?_
  refine va_slen hx hb hX hbl hbA hS d_lawm_26 ?_
  refine lv_topi (fun z_24 ez_24 => ?_)
  have ez_24 : z_24 = 4 := ez_24.trans (by first | rfl | decide)
  subst ez_24
  refine lv_iconst (v := 4) hx hb d_lawm_27 (by decide) ?_
  refine lv_isub hx hb d_lawm_28 ?_
  refine lv_topi (fun z_25 ez_25 => ?_)
  have ez_25 : z_25 = 0 := ez_25.trans (by first | rfl | decide)
  subst ez_25
  refine lv_icmp_gt (tgt := 847) hx hb d_lawm_29 (by decide) (fun c_26 => ?_) (fun c_26 => ?_)
  rotate_left
  · first | exact absurd c_26 (by decide) | exact absurd (by decide) c_26
  refine lv_iconst (v := 1) hx hb d_lawm_847 (by decide) ?_
  refine va_forget (fun q hq => hS.2.2 q hq) ?_
  refine W.widen (k := 600002) (n := 7302232) (Nat.le_of_ble_eq_true rfl) (Nat.le_of_ble_eq_true rfl) ?_
  exact lw_ret hx hb hr hlocks d_lawm_848
set_option maxHeartbeats 4000000 in
set_option maxRecDepth 100000 in
theorem lc_type_6 {p : Program} {l : Launch} {e : Env} {s : State} {m : MethodId} {below : List Frame} {meth : Method} {c : Code} {D : va_G} {ax : Nat → ClassId} {b : Nat} {xs : Nat → Int32} (hl : l.stackTraces = false) (C0 : lw_At p s m meth c b 4 xs) (hK : xk D ax s) {a0 a1 a4 a5 a11 a19 a24 a26 a28 a32 a36 a40 a56 a2 a3 m0 m1 m2 m42 m3 m4 m5 m6 m7 m8 m9 m10 m11 m12 m13 m14 m15 m16 m17 m18 m19 m20 m21 m22 m23 m24 m25 m26 m27 m28 m29 m30 m31 m32 m33 m34 m35 m36 m37 m38 m39 m40 m41 o0 : Nat} {x1 x2 : Int32} (hx1 : xs (Int32.toNatClampNeg 1) = x1) (hx2 : xs (Int32.toNatClampNeg 2) = x2) (hx3 : xs (Int32.toNatClampNeg 3) = 6) {H : Heap} {locs : List Loc} {ls : Array Slot} (hP : va_P D classes [(a0, .inr (10, [.ref a1, .ref a4, .ref a5, .ref a11, .ref a19, .ref a24, .ref a26, .ref a28, .ref a32, .ref a36, .ref a40, .ref a56, .int 0])), (a1, .inr (9, [.ref a2, .ref a3, .int 0, .int 0, .int 0, .int (-1), .int 0, .int 0])), (a2, .inl (ax 1, 400, .inl (fun _ => 0))), (a3, .inl (ax 0, 401, .inl (fun _ => 0))), (m0, .inr (11, [.int 0, .int 0, .ref m1, .int 0, .int 0, .ref m2, .int 0, .int 0, .int 0, .int 0, .int 0, .ref m42, .ref m3, .ref m4, .int 0, .int 0, .ref m5, .ref m6, .ref m7, .ref m8, .ref m9, .ref m10, .ref m11, .ref m12, .ref m13, .ref m14, .ref m15, .ref m16, .ref m17, .ref m18, .ref m19, .int 0, .ref m20, .int 0, .ref m21, .int 0, .int 0, .int 0, .int 0, .int 0, .int 0, .int 0, .ref m22, .int 0, .int 0, .ref m23, .ref m24, .ref m25, .ref m26, .int 0, .ref m27, .int 0, .ref m28, .int 0, .ref m29, .ref m30, .int (-1), .int 0, .int 0, .ref m31, .ref m32, .ref m33, .ref m34, .ref m35, .ref m36, .ref m37, .ref m38, .ref m39, .int 0, .ref m40, .int 0, .ref m41])), (m1, .inl (ax 0, 400, .inl (fun _ => 0)))] H) (hD : va_D (fun q : Nat => s.heap.size ≤ q) [(a0, .inr (10, [.ref a1, .ref a4, .ref a5, .ref a11, .ref a19, .ref a24, .ref a26, .ref a28, .ref a32, .ref a36, .ref a40, .ref a56, .int 0])), (a1, .inr (9, [.ref a2, .ref a3, .int 0, .int 0, .int 0, .int (-1), .int 0, .int 0])), (a2, .inl (ax 1, 400, .inl (fun _ => 0))), (a3, .inl (ax 0, 401, .inl (fun _ => 0))), (m0, .inr (11, [.int 0, .int 0, .ref m1, .int 0, .int 0, .ref m2, .int 0, .int 0, .int 0, .int 0, .int 0, .ref m42, .ref m3, .ref m4, .int 0, .int 0, .ref m5, .ref m6, .ref m7, .ref m8, .ref m9, .ref m10, .ref m11, .ref m12, .ref m13, .ref m14, .ref m15, .ref m16, .ref m17, .ref m18, .ref m19, .int 0, .ref m20, .int 0, .ref m21, .int 0, .int 0, .int 0, .int 0, .int 0, .int 0, .int 0, .ref m22, .int 0, .int 0, .ref m23, .ref m24, .ref m25, .ref m26, .int 0, .ref m27, .int 0, .ref m28, .int 0, .ref m29, .ref m30, .int (-1), .int 0, .int 0, .ref m31, .ref m32, .ref m33, .ref m34, .ref m35, .ref m36, .ref m37, .ref m38, .ref m39, .int 0, .ref m40, .int 0, .ref m41])), (m1, .inl (ax 0, 400, .inl (fun _ => 0)))]) (hS : va_S (fun q : Nat => s.heap.size ≤ q) s.heap H locs) (hl1 : lv_has ls 8 [(4, .int 0), (3, .ref o0), (2, .ref m0), (1, .ref a0), (0, .ref b)]) : W p l e room_1 s m #[Value.ref b] below meth c H locs 116 904940 (lw_Z below #[Value.ref b] s) (F0 m 112 ls []) := by
  obtain ⟨hx, hb, hr, hml, hown, hts0, hX, hbl, hlocks, hgv⟩ := id C0
  have hts : ∀ w ∈ lw_gd, w.before #[Value.ref b] s = true := fun w hw => hts0 w (List.mem_filter.mp hw).1
  have hA : ∀ q : Nat, s.heap.size ≤ q → (fun q : Nat => s.heap.size ≤ q) q := fun _ h => h
  have hbA : ¬ (fun q : Nat => s.heap.size ≤ q) b := Nat.not_le.mpr hbl
  have hN : ∀ (q : Nat) (cell : Cell), s.heap[q]? = some cell → cell.vm.isStatics = true → ¬ (fun q : Nat => s.heap.size ≤ q) q := fun q cell h _ => Nat.not_le.mpr (Array.getElem?_eq_some_iff.mp h).1
  refine lv_aload_n hx hb d_lawm_112 rfl (lv_at hl1 3 rfl) ?_
  refine lv_aload_n hx hb d_lawm_113 rfl (lv_at hl1 4 rfl) ?_
  refine lv_iload hx hb d_lawm_114 (lv_at hl1 0 rfl) ?_
  refine lv_iconst (v := 1) hx hb d_lawm_116 (by decide) ?_
  refine lv_iadd hx hb d_lawm_117 ?_
  refine lv_topi (fun z_1 ez_1 => ?_)
  have ez_1 : z_1 = 1 := ez_1.trans (by first | rfl | decide)
  subst ez_1
  refine va_sld hx hb hX hbl hbA hS (by unfold vp_in; decide) d_lawm_118 ?_
  refine W.eq (g2 := F0 m 119 ls [.int x1, .ref a0]) (by rw [hx1]) ?_
  refine lv_i2l hx hb d_lawm_119 rfl ?_
  refine lv_topl (fun z_2 ez_2 => ?_)
  refine lv_bipush (v := 32) hx hb d_lawm_120 (by decide) ?_
  refine lv_lshl hx hb d_lawm_122 rfl ?_
  refine lv_topl (fun z_3 ez_3 => ?_)
  refine lv_aload_n hx hb d_lawm_123 rfl (lv_at hl1 4 rfl) ?_
  refine lv_iload hx hb d_lawm_124 (lv_at hl1 0 rfl) ?_
  refine lv_iconst (v := 2) hx hb d_lawm_126 (by decide) ?_
  refine lv_iadd hx hb d_lawm_127 ?_
  refine lv_topi (fun z_4 ez_4 => ?_)
  have ez_4 : z_4 = 2 := ez_4.trans (by first | rfl | decide)
  subst ez_4
  refine va_sld hx hb hX hbl hbA hS (by unfold vp_in; decide) d_lawm_128 ?_
  refine W.eq (g2 := F0 m 129 ls [.int x2, .long z_3, .ref a0]) (by rw [hx2]) ?_
  refine lv_i2l hx hb d_lawm_129 rfl ?_
  refine lv_topl (fun z_5 ez_5 => ?_)
  refine lv_ldc2 (v := 4294967295) hx hb hown (hts _ wd_1608) d_lawm_130 ?_
  refine lv_land hx hb d_lawm_133 ?_
  refine lv_topl (fun z_6 ez_6 => ?_)
  refine lv_lor hx hb d_lawm_134 ?_
  refine lv_topl (fun z_7 ez_7 => ?_)
  refine lv_aload_n hx hb d_lawm_135 rfl (lv_at hl1 4 rfl) ?_
  refine lv_iload hx hb d_lawm_136 (lv_at hl1 0 rfl) ?_
  refine lv_iconst (v := 3) hx hb d_lawm_138 (by decide) ?_
  refine lv_iadd hx hb d_lawm_139 ?_
  refine lv_topi (fun z_8 ez_8 => ?_)
  have ez_8 : z_8 = 3 := ez_8.trans (by first | rfl | decide)
  subst ez_8
  refine va_sld hx hb hX hbl hbA hS (by unfold vp_in; decide) d_lawm_140 ?_
  refine W.eq (g2 := F0 m 141 ls [.int 6, .long z_7, .ref a0]) (by rw [hx3]) ?_
  have hPc := hP.sub (ws' := [(a0, .inr (10, [.ref a1, .ref a4, .ref a5, .ref a11, .ref a19, .ref a24, .ref a26, .ref a28, .ref a32, .ref a36, .ref a40, .ref a56, .int 0])), (a1, .inr (9, [.ref a2, .ref a3, .int 0, .int 0, .int 0, .int (-1), .int 0, .int 0])), (a2, .inl (ax 1, 400, .inl (fun _ => 0))), (a3, .inl (ax 0, 401, .inl (fun _ => 0)))]) [0, 1, 2, 3] rfl
  have hDc := hD.sub (ws' := [(a0, .inr (10, [.ref a1, .ref a4, .ref a5, .ref a11, .ref a19, .ref a24, .ref a26, .ref a28, .ref a32, .ref a36, .ref a40, .ref a56, .int 0])), (a1, .inr (9, [.ref a2, .ref a3, .int 0, .int 0, .int 0, .int (-1), .int 0, .int 0])), (a2, .inl (ax 1, 400, .inl (fun _ => 0))), (a3, .inl (ax 0, 401, .inl (fun _ => 0)))]) [0, 1, 2, 3] (by decide) rfl
  have hFc := va_free (wc := [(a0, .inr (10, [.ref a1, .ref a4, .ref a5, .ref a11, .ref a19, .ref a24, .ref a26, .ref a28, .ref a32, .ref a36, .ref a40, .ref a56, .int 0])), (a1, .inr (9, [.ref a2, .ref a3, .int 0, .int 0, .int 0, .int (-1), .int 0, .int 0])), (a2, .inl (ax 1, 400, .inl (fun _ => 0))), (a3, .inl (ax 0, 401, .inl (fun _ => 0)))]) hD hS hA [0, 1, 2, 3] rfl
  have hz := xz_of hN hS
  refine va_calli (va_runV (As := [.long z_7, .int 6]) (rest := []) ⟨hx, hb, hml, hown, hts⟩ (c_Desk_type_6 l D ax a0 a1 a4 a5 a11 a19 a24 a26 a28 a32 a36 a40 a56 a2 a3 z_7 H.size) (xcV (n := 2) hts wd_418 wd_1 wd_415 wd_416 wd_417 rfl rfl (by decide +kernel) ⟨Nat.le_of_ble_eq_true rfl, Nat.le_of_ble_eq_true rfl⟩) (xpV (ci := 10) (q0 := 0) (As := [.long z_7, .int 6]) hPc hK hz hDc rfl rfl) rfl rfl hl1.1 rfl (lv_room (Nat.le_of_ble_eq_true rfl)) d_lawm_141 ⟨Nat.le_of_ble_eq_true rfl, Nat.le_of_ble_eq_true rfl⟩) hS (fun q _ h => hFc q h) hFc (fun r_11 u_9 t H_10 locs ht hvm hw hB hz1 hk1 hS => ?_)
  try dsimp only at hw
  subst hw
  obtain ⟨hP, hD⟩ := va_join (wr := [(m0, .inr (11, [.int 0, .int 0, .ref m1, .int 0, .int 0, .ref m2, .int 0, .int 0, .int 0, .int 0, .int 0, .ref m42, .ref m3, .ref m4, .int 0, .int 0, .ref m5, .ref m6, .ref m7, .ref m8, .ref m9, .ref m10, .ref m11, .ref m12, .ref m13, .ref m14, .ref m15, .ref m16, .ref m17, .ref m18, .ref m19, .int 0, .ref m20, .int 0, .ref m21, .int 0, .int 0, .int 0, .int 0, .int 0, .int 0, .int 0, .ref m22, .int 0, .int 0, .ref m23, .ref m24, .ref m25, .ref m26, .int 0, .ref m27, .int 0, .ref m28, .int 0, .ref m29, .ref m30, .int (-1), .int 0, .int 0, .ref m31, .ref m32, .ref m33, .ref m34, .ref m35, .ref m36, .ref m37, .ref m38, .ref m39, .int 0, .ref m40, .int 0, .ref m41])), (m1, .inl (ax 0, 400, .inl (fun _ => 0)))]) (w1 := []) hP hD [0, 1, 2, 3] [4, 5] rfl rfl (by decide) (by decide) hk1 hFc x_nilP x_nilD
  have hP : va_P D classes [(m0, .inr (11, [.int 0, .int 0, .ref m1, .int 0, .int 0, .ref m2, .int 0, .int 0, .int 0, .int 0, .int 0, .ref m42, .ref m3, .ref m4, .int 0, .int 0, .ref m5, .ref m6, .ref m7, .ref m8, .ref m9, .ref m10, .ref m11, .ref m12, .ref m13, .ref m14, .ref m15, .ref m16, .ref m17, .ref m18, .ref m19, .int 0, .ref m20, .int 0, .ref m21, .int 0, .int 0, .int 0, .int 0, .int 0, .int 0, .int 0, .ref m22, .int 0, .int 0, .ref m23, .ref m24, .ref m25, .ref m26, .int 0, .ref m27, .int 0, .ref m28, .int 0, .ref m29, .ref m30, .int (-1), .int 0, .int 0, .ref m31, .ref m32, .ref m33, .ref m34, .ref m35, .ref m36, .ref m37, .ref m38, .ref m39, .int 0, .ref m40, .int 0, .ref m41])), (m1, .inl (ax 0, 400, .inl (fun _ => 0)))] H_10 := hP
  have hD : va_D (fun q : Nat => s.heap.size ≤ q) [(m0, .inr (11, [.int 0, .int 0, .ref m1, .int 0, .int 0, .ref m2, .int 0, .int 0, .int 0, .int 0, .int 0, .ref m42, .ref m3, .ref m4, .int 0, .int 0, .ref m5, .ref m6, .ref m7, .ref m8, .ref m9, .ref m10, .ref m11, .ref m12, .ref m13, .ref m14, .ref m15, .ref m16, .ref m17, .ref m18, .ref m19, .int 0, .ref m20, .int 0, .ref m21, .int 0, .int 0, .int 0, .int 0, .int 0, .int 0, .int 0, .ref m22, .int 0, .int 0, .ref m23, .ref m24, .ref m25, .ref m26, .int 0, .ref m27, .int 0, .ref m28, .int 0, .ref m29, .ref m30, .int (-1), .int 0, .int 0, .ref m31, .ref m32, .ref m33, .ref m34, .ref m35, .ref m36, .ref m37, .ref m38, .ref m39, .int 0, .ref m40, .int 0, .ref m41])), (m1, .inl (ax 0, 400, .inl (fun _ => 0)))] := hD
  refine lv_aload_n hx hb d_lawm_144 rfl (lv_at hl1 2 rfl) ?_
  refine lv_aload_n hx hb d_lawm_145 rfl (lv_at hl1 4 rfl) ?_
  refine lv_iload hx hb d_lawm_146 (lv_at hl1 0 rfl) ?_
  refine lv_iconst (v := 1) hx hb d_lawm_148 (by decide) ?_
  refine lv_iadd hx hb d_lawm_149 ?_
  refine lv_topi (fun z_12 ez_12 => ?_)
  have ez_12 : z_12 = 1 := ez_12.trans (by first | rfl | decide)
  subst ez_12
  refine va_sld hx hb hX hbl hbA hS (by unfold vp_in; decide) d_lawm_150 ?_
  refine W.eq (g2 := F0 m 151 ls [.int x1, .ref m0, .int 1]) (by rw [hx1]) ?_
  refine lv_i2l hx hb d_lawm_151 rfl ?_
  refine lv_topl (fun z_13 ez_13 => ?_)
  refine lv_bipush (v := 32) hx hb d_lawm_152 (by decide) ?_
  refine lv_lshl hx hb d_lawm_154 rfl ?_
  refine lv_topl (fun z_14 ez_14 => ?_)
  refine lv_aload_n hx hb d_lawm_155 rfl (lv_at hl1 4 rfl) ?_
  refine lv_iload hx hb d_lawm_156 (lv_at hl1 0 rfl) ?_
  refine lv_iconst (v := 2) hx hb d_lawm_158 (by decide) ?_
  refine lv_iadd hx hb d_lawm_159 ?_
  refine lv_topi (fun z_15 ez_15 => ?_)
  have ez_15 : z_15 = 2 := ez_15.trans (by first | rfl | decide)
  subst ez_15
  refine va_sld hx hb hX hbl hbA hS (by unfold vp_in; decide) d_lawm_160 ?_
  refine W.eq (g2 := F0 m 161 ls [.int x2, .long z_14, .ref m0, .int 1]) (by rw [hx2]) ?_
  refine lv_i2l hx hb d_lawm_161 rfl ?_
  refine lv_topl (fun z_16 ez_16 => ?_)
  refine lv_ldc2 (v := 4294967295) hx hb hown (hts _ wd_1608) d_lawm_162 ?_
  refine lv_land hx hb d_lawm_165 ?_
  refine lv_topl (fun z_17 ez_17 => ?_)
  refine lv_lor hx hb d_lawm_166 ?_
  refine lv_topl (fun z_18 ez_18 => ?_)
  refine lv_aload_n hx hb d_lawm_167 rfl (lv_at hl1 4 rfl) ?_
  refine lv_iload hx hb d_lawm_168 (lv_at hl1 0 rfl) ?_
  refine lv_iconst (v := 3) hx hb d_lawm_170 (by decide) ?_
  refine lv_iadd hx hb d_lawm_171 ?_
  refine lv_topi (fun z_19 ez_19 => ?_)
  have ez_19 : z_19 = 3 := ez_19.trans (by first | rfl | decide)
  subst ez_19
  refine va_sld hx hb hX hbl hbA hS (by unfold vp_in; decide) d_lawm_172 ?_
  refine W.eq (g2 := F0 m 173 ls [.int 6, .long z_18, .ref m0, .int 1]) (by rw [hx3]) ?_
  have hPc := hP.sub (ws' := [(m0, .inr (11, [.int 0, .int 0, .ref m1, .int 0, .int 0, .ref m2, .int 0, .int 0, .int 0, .int 0, .int 0, .ref m42, .ref m3, .ref m4, .int 0, .int 0, .ref m5, .ref m6, .ref m7, .ref m8, .ref m9, .ref m10, .ref m11, .ref m12, .ref m13, .ref m14, .ref m15, .ref m16, .ref m17, .ref m18, .ref m19, .int 0, .ref m20, .int 0, .ref m21, .int 0, .int 0, .int 0, .int 0, .int 0, .int 0, .int 0, .ref m22, .int 0, .int 0, .ref m23, .ref m24, .ref m25, .ref m26, .int 0, .ref m27, .int 0, .ref m28, .int 0, .ref m29, .ref m30, .int (-1), .int 0, .int 0, .ref m31, .ref m32, .ref m33, .ref m34, .ref m35, .ref m36, .ref m37, .ref m38, .ref m39, .int 0, .ref m40, .int 0, .ref m41])), (m1, .inl (ax 0, 400, .inl (fun _ => 0)))]) [0, 1] rfl
  have hDc := hD.sub (ws' := [(m0, .inr (11, [.int 0, .int 0, .ref m1, .int 0, .int 0, .ref m2, .int 0, .int 0, .int 0, .int 0, .int 0, .ref m42, .ref m3, .ref m4, .int 0, .int 0, .ref m5, .ref m6, .ref m7, .ref m8, .ref m9, .ref m10, .ref m11, .ref m12, .ref m13, .ref m14, .ref m15, .ref m16, .ref m17, .ref m18, .ref m19, .int 0, .ref m20, .int 0, .ref m21, .int 0, .int 0, .int 0, .int 0, .int 0, .int 0, .int 0, .ref m22, .int 0, .int 0, .ref m23, .ref m24, .ref m25, .ref m26, .int 0, .ref m27, .int 0, .ref m28, .int 0, .ref m29, .ref m30, .int (-1), .int 0, .int 0, .ref m31, .ref m32, .ref m33, .ref m34, .ref m35, .ref m36, .ref m37, .ref m38, .ref m39, .int 0, .ref m40, .int 0, .ref m41])), (m1, .inl (ax 0, 400, .inl (fun _ => 0)))]) [0, 1] (by decide) rfl
  have hFc := va_free (wc := [(m0, .inr (11, [.int 0, .int 0, .ref m1, .int 0, .int 0, .ref m2, .int 0, .int 0, .int 0, .int 0, .int 0, .ref m42, .ref m3, .ref m4, .int 0, .int 0, .ref m5, .ref m6, .ref m7, .ref m8, .ref m9, .ref m10, .ref m11, .ref m12, .ref m13, .ref m14, .ref m15, .ref m16, .ref m17, .ref m18, .ref m19, .int 0, .ref m20, .int 0, .ref m21, .int 0, .int 0, .int 0, .int 0, .int 0, .int 0, .int 0, .ref m22, .int 0, .int 0, .ref m23, .ref m24, .ref m25, .ref m26, .int 0, .ref m27, .int 0, .ref m28, .int 0, .ref m29, .ref m30, .int (-1), .int 0, .int 0, .ref m31, .ref m32, .ref m33, .ref m34, .ref m35, .ref m36, .ref m37, .ref m38, .ref m39, .int 0, .ref m40, .int 0, .ref m41])), (m1, .inl (ax 0, 400, .inl (fun _ => 0)))]) hD hS hA [0, 1] rfl
  have hz := xz_of hN hS
  refine va_calli (va_runV (As := [.long z_18, .int 6]) (rest := [.int 1]) ⟨hx, hb, hml, hown, hts⟩ (c_Model_type_6 l D ax m0 m1 m2 m3 m4 m5 m6 m7 m8 m9 m10 m11 m12 m13 m14 m15 m16 m17 m18 m19 m20 m21 m22 m23 m24 m25 m26 m27 m28 m29 m30 m31 m32 m33 m34 m35 m36 m37 m38 m39 m40 m41 m42 z_18 H_10.size) (xcV (n := 2) hts wd_1261 wd_15 wd_1258 wd_1259 wd_1260 rfl rfl (by decide +kernel) ⟨Nat.le_of_ble_eq_true rfl, Nat.le_of_ble_eq_true rfl⟩) (xpV (ci := 11) (q0 := 0) (As := [.long z_18, .int 6]) hPc hK hz hDc rfl rfl) rfl rfl hl1.1 rfl (lv_room (Nat.le_of_ble_eq_true rfl)) d_lawm_173 ⟨Nat.le_of_ble_eq_true rfl, Nat.le_of_ble_eq_true rfl⟩) hS (fun q _ h => hFc q h) hFc (fun r_22 u_20 t H_21 locs ht hvm hw hB hz1 hk1 hS => ?_)
  try dsimp only at hw
  subst hw
  obtain ⟨hP, hD⟩ := va_join (wr := []) (w1 := []) hP hD [0, 1] [] rfl rfl (by decide) (by decide) hk1 hFc x_nilP x_nilD
  have hP : va_P D classes [] H_21 := hP
  have hD : va_D (fun q : Nat => s.heap.size ≤ q) [] := hD
  refine lv_icmp_eq (tgt := 841) hx hb d_lawm_176 (by decide) (fun c_23 => ?_) (fun c_23 => ?_)
  rotate_left
  · first | exact absurd c_23 (by decide) | exact absurd (by decide) c_23
  refine lv_iinc (v := 4) (lv' := [(4, .int 4), (3, .ref o0), (2, .ref m0), (1, .ref a0), (0, .ref b)]) hx hb d_lawm_841 hl1 (k := 0) rfl (by decide) (by decide) rfl (fun ls hl1 => ?_)
  refine lv_goto (tgt := 23) hx hb d_lawm_844 (by decide) ?_
  refine lv_iload hx hb d_lawm_23 (lv_at hl1 0 rfl) ?_
  refine lv_aload_n hx hb d_lawm_25 rfl (lv_at hl1 4 rfl) ?_
  refine va_slen hx hb hX hbl hbA hS d_lawm_26 ?_
  refine lv_topi (fun z_24 ez_24 => ?_)
  have ez_24 : z_24 = 4 := ez_24.trans (by first | rfl | decide)
  subst ez_24
  refine lv_iconst (v := 4) hx hb d_lawm_27 (by decide) ?_
  refine lv_isub hx hb d_lawm_28 ?_
  refine lv_topi (fun z_25 ez_25 => ?_)
  have ez_25 : z_25 = 0 := ez_25.trans (by first | rfl | decide)
  subst ez_25
  refine lv_icmp_gt (tgt := 847) hx hb d_lawm_29 (by decide) (fun c_26 => ?_) (fun c_26 => ?_)
  rotate_left
  · first | exact absurd c_26 (by decide) | exact absurd (by decide) c_26
  refine lv_iconst (v := 1) hx hb d_lawm_847 (by decide) ?_
  refine va_forget (fun q hq => hS.2.2 q hq) ?_
  refine W.widen (k := 600002) (n := 7302232) (Nat.le_of_ble_eq_true rfl) (Nat.le_of_ble_eq_true rfl) ?_
  exact lw_ret hx hb hr hlocks d_lawm_848
set_option maxHeartbeats 4000000 in
set_option maxRecDepth 100000 in
theorem lc_type_7 {p : Program} {l : Launch} {e : Env} {s : State} {m : MethodId} {below : List Frame} {meth : Method} {c : Code} {D : va_G} {ax : Nat → ClassId} {b : Nat} {xs : Nat → Int32} (hl : l.stackTraces = false) (C0 : lw_At p s m meth c b 4 xs) (hK : xk D ax s) {a0 a1 a4 a5 a11 a19 a24 a26 a28 a32 a36 a40 a56 a2 a3 m0 m1 m2 m42 m3 m4 m5 m6 m7 m8 m9 m10 m11 m12 m13 m14 m15 m16 m17 m18 m19 m20 m21 m22 m23 m24 m25 m26 m27 m28 m29 m30 m31 m32 m33 m34 m35 m36 m37 m38 m39 m40 m41 o0 : Nat} {x1 x2 : Int32} (hx1 : xs (Int32.toNatClampNeg 1) = x1) (hx2 : xs (Int32.toNatClampNeg 2) = x2) (hx3 : xs (Int32.toNatClampNeg 3) = 7) {H : Heap} {locs : List Loc} {ls : Array Slot} (hP : va_P D classes [(a0, .inr (10, [.ref a1, .ref a4, .ref a5, .ref a11, .ref a19, .ref a24, .ref a26, .ref a28, .ref a32, .ref a36, .ref a40, .ref a56, .int 0])), (a1, .inr (9, [.ref a2, .ref a3, .int 0, .int 0, .int 0, .int (-1), .int 0, .int 0])), (a2, .inl (ax 1, 400, .inl (fun _ => 0))), (a3, .inl (ax 0, 401, .inl (fun _ => 0))), (m0, .inr (11, [.int 0, .int 0, .ref m1, .int 0, .int 0, .ref m2, .int 0, .int 0, .int 0, .int 0, .int 0, .ref m42, .ref m3, .ref m4, .int 0, .int 0, .ref m5, .ref m6, .ref m7, .ref m8, .ref m9, .ref m10, .ref m11, .ref m12, .ref m13, .ref m14, .ref m15, .ref m16, .ref m17, .ref m18, .ref m19, .int 0, .ref m20, .int 0, .ref m21, .int 0, .int 0, .int 0, .int 0, .int 0, .int 0, .int 0, .ref m22, .int 0, .int 0, .ref m23, .ref m24, .ref m25, .ref m26, .int 0, .ref m27, .int 0, .ref m28, .int 0, .ref m29, .ref m30, .int (-1), .int 0, .int 0, .ref m31, .ref m32, .ref m33, .ref m34, .ref m35, .ref m36, .ref m37, .ref m38, .ref m39, .int 0, .ref m40, .int 0, .ref m41])), (m1, .inl (ax 0, 400, .inl (fun _ => 0)))] H) (hD : va_D (fun q : Nat => s.heap.size ≤ q) [(a0, .inr (10, [.ref a1, .ref a4, .ref a5, .ref a11, .ref a19, .ref a24, .ref a26, .ref a28, .ref a32, .ref a36, .ref a40, .ref a56, .int 0])), (a1, .inr (9, [.ref a2, .ref a3, .int 0, .int 0, .int 0, .int (-1), .int 0, .int 0])), (a2, .inl (ax 1, 400, .inl (fun _ => 0))), (a3, .inl (ax 0, 401, .inl (fun _ => 0))), (m0, .inr (11, [.int 0, .int 0, .ref m1, .int 0, .int 0, .ref m2, .int 0, .int 0, .int 0, .int 0, .int 0, .ref m42, .ref m3, .ref m4, .int 0, .int 0, .ref m5, .ref m6, .ref m7, .ref m8, .ref m9, .ref m10, .ref m11, .ref m12, .ref m13, .ref m14, .ref m15, .ref m16, .ref m17, .ref m18, .ref m19, .int 0, .ref m20, .int 0, .ref m21, .int 0, .int 0, .int 0, .int 0, .int 0, .int 0, .int 0, .ref m22, .int 0, .int 0, .ref m23, .ref m24, .ref m25, .ref m26, .int 0, .ref m27, .int 0, .ref m28, .int 0, .ref m29, .ref m30, .int (-1), .int 0, .int 0, .ref m31, .ref m32, .ref m33, .ref m34, .ref m35, .ref m36, .ref m37, .ref m38, .ref m39, .int 0, .ref m40, .int 0, .ref m41])), (m1, .inl (ax 0, 400, .inl (fun _ => 0)))]) (hS : va_S (fun q : Nat => s.heap.size ≤ q) s.heap H locs) (hl1 : lv_has ls 8 [(4, .int 0), (3, .ref o0), (2, .ref m0), (1, .ref a0), (0, .ref b)]) : W p l e room_1 s m #[Value.ref b] below meth c H locs 116 904940 (lw_Z below #[Value.ref b] s) (F0 m 112 ls []) := by
  obtain ⟨hx, hb, hr, hml, hown, hts0, hX, hbl, hlocks, hgv⟩ := id C0
  have hts : ∀ w ∈ lw_gd, w.before #[Value.ref b] s = true := fun w hw => hts0 w (List.mem_filter.mp hw).1
  have hA : ∀ q : Nat, s.heap.size ≤ q → (fun q : Nat => s.heap.size ≤ q) q := fun _ h => h
  have hbA : ¬ (fun q : Nat => s.heap.size ≤ q) b := Nat.not_le.mpr hbl
  have hN : ∀ (q : Nat) (cell : Cell), s.heap[q]? = some cell → cell.vm.isStatics = true → ¬ (fun q : Nat => s.heap.size ≤ q) q := fun q cell h _ => Nat.not_le.mpr (Array.getElem?_eq_some_iff.mp h).1
  refine lv_aload_n hx hb d_lawm_112 rfl (lv_at hl1 3 rfl) ?_
  refine lv_aload_n hx hb d_lawm_113 rfl (lv_at hl1 4 rfl) ?_
  refine lv_iload hx hb d_lawm_114 (lv_at hl1 0 rfl) ?_
  refine lv_iconst (v := 1) hx hb d_lawm_116 (by decide) ?_
  refine lv_iadd hx hb d_lawm_117 ?_
  refine lv_topi (fun z_1 ez_1 => ?_)
  have ez_1 : z_1 = 1 := ez_1.trans (by first | rfl | decide)
  subst ez_1
  refine va_sld hx hb hX hbl hbA hS (by unfold vp_in; decide) d_lawm_118 ?_
  refine W.eq (g2 := F0 m 119 ls [.int x1, .ref a0]) (by rw [hx1]) ?_
  refine lv_i2l hx hb d_lawm_119 rfl ?_
  refine lv_topl (fun z_2 ez_2 => ?_)
  refine lv_bipush (v := 32) hx hb d_lawm_120 (by decide) ?_
  refine lv_lshl hx hb d_lawm_122 rfl ?_
  refine lv_topl (fun z_3 ez_3 => ?_)
  refine lv_aload_n hx hb d_lawm_123 rfl (lv_at hl1 4 rfl) ?_
  refine lv_iload hx hb d_lawm_124 (lv_at hl1 0 rfl) ?_
  refine lv_iconst (v := 2) hx hb d_lawm_126 (by decide) ?_
  refine lv_iadd hx hb d_lawm_127 ?_
  refine lv_topi (fun z_4 ez_4 => ?_)
  have ez_4 : z_4 = 2 := ez_4.trans (by first | rfl | decide)
  subst ez_4
  refine va_sld hx hb hX hbl hbA hS (by unfold vp_in; decide) d_lawm_128 ?_
  refine W.eq (g2 := F0 m 129 ls [.int x2, .long z_3, .ref a0]) (by rw [hx2]) ?_
  refine lv_i2l hx hb d_lawm_129 rfl ?_
  refine lv_topl (fun z_5 ez_5 => ?_)
  refine lv_ldc2 (v := 4294967295) hx hb hown (hts _ wd_1608) d_lawm_130 ?_
  refine lv_land hx hb d_lawm_133 ?_
  refine lv_topl (fun z_6 ez_6 => ?_)
  refine lv_lor hx hb d_lawm_134 ?_
  refine lv_topl (fun z_7 ez_7 => ?_)
  refine lv_aload_n hx hb d_lawm_135 rfl (lv_at hl1 4 rfl) ?_
  refine lv_iload hx hb d_lawm_136 (lv_at hl1 0 rfl) ?_
  refine lv_iconst (v := 3) hx hb d_lawm_138 (by decide) ?_
  refine lv_iadd hx hb d_lawm_139 ?_
  refine lv_topi (fun z_8 ez_8 => ?_)
  have ez_8 : z_8 = 3 := ez_8.trans (by first | rfl | decide)
  subst ez_8
  refine va_sld hx hb hX hbl hbA hS (by unfold vp_in; decide) d_lawm_140 ?_
  refine W.eq (g2 := F0 m 141 ls [.int 7, .long z_7, .ref a0]) (by rw [hx3]) ?_
  have hPc := hP.sub (ws' := [(a0, .inr (10, [.ref a1, .ref a4, .ref a5, .ref a11, .ref a19, .ref a24, .ref a26, .ref a28, .ref a32, .ref a36, .ref a40, .ref a56, .int 0])), (a1, .inr (9, [.ref a2, .ref a3, .int 0, .int 0, .int 0, .int (-1), .int 0, .int 0])), (a2, .inl (ax 1, 400, .inl (fun _ => 0))), (a3, .inl (ax 0, 401, .inl (fun _ => 0)))]) [0, 1, 2, 3] rfl
  have hDc := hD.sub (ws' := [(a0, .inr (10, [.ref a1, .ref a4, .ref a5, .ref a11, .ref a19, .ref a24, .ref a26, .ref a28, .ref a32, .ref a36, .ref a40, .ref a56, .int 0])), (a1, .inr (9, [.ref a2, .ref a3, .int 0, .int 0, .int 0, .int (-1), .int 0, .int 0])), (a2, .inl (ax 1, 400, .inl (fun _ => 0))), (a3, .inl (ax 0, 401, .inl (fun _ => 0)))]) [0, 1, 2, 3] (by decide) rfl
  have hFc := va_free (wc := [(a0, .inr (10, [.ref a1, .ref a4, .ref a5, .ref a11, .ref a19, .ref a24, .ref a26, .ref a28, .ref a32, .ref a36, .ref a40, .ref a56, .int 0])), (a1, .inr (9, [.ref a2, .ref a3, .int 0, .int 0, .int 0, .int (-1), .int 0, .int 0])), (a2, .inl (ax 1, 400, .inl (fun _ => 0))), (a3, .inl (ax 0, 401, .inl (fun _ => 0)))]) hD hS hA [0, 1, 2, 3] rfl
  have hz := xz_of hN hS
  refine va_calli (va_runV (As := [.long z_7, .int 7]) (rest := []) ⟨hx, hb, hml, hown, hts⟩ (c_Desk_type_7 l D ax a0 a1 a4 a5 a11 a19 a24 a26 a28 a32 a36 a40 a56 a2 a3 z_7 H.size) (xcV (n := 2) hts wd_418 wd_1 wd_415 wd_416 wd_417 rfl rfl (by decide +kernel) ⟨Nat.le_of_ble_eq_true rfl, Nat.le_of_ble_eq_true rfl⟩) (xpV (ci := 10) (q0 := 0) (As := [.long z_7, .int 7]) hPc hK hz hDc rfl rfl) rfl rfl hl1.1 rfl (lv_room (Nat.le_of_ble_eq_true rfl)) d_lawm_141 ⟨Nat.le_of_ble_eq_true rfl, Nat.le_of_ble_eq_true rfl⟩) hS (fun q _ h => hFc q h) hFc (fun r_11 u_9 t H_10 locs ht hvm hw hB hz1 hk1 hS => ?_)
  try dsimp only at hw
  subst hw
  obtain ⟨hP, hD⟩ := va_join (wr := [(m0, .inr (11, [.int 0, .int 0, .ref m1, .int 0, .int 0, .ref m2, .int 0, .int 0, .int 0, .int 0, .int 0, .ref m42, .ref m3, .ref m4, .int 0, .int 0, .ref m5, .ref m6, .ref m7, .ref m8, .ref m9, .ref m10, .ref m11, .ref m12, .ref m13, .ref m14, .ref m15, .ref m16, .ref m17, .ref m18, .ref m19, .int 0, .ref m20, .int 0, .ref m21, .int 0, .int 0, .int 0, .int 0, .int 0, .int 0, .int 0, .ref m22, .int 0, .int 0, .ref m23, .ref m24, .ref m25, .ref m26, .int 0, .ref m27, .int 0, .ref m28, .int 0, .ref m29, .ref m30, .int (-1), .int 0, .int 0, .ref m31, .ref m32, .ref m33, .ref m34, .ref m35, .ref m36, .ref m37, .ref m38, .ref m39, .int 0, .ref m40, .int 0, .ref m41])), (m1, .inl (ax 0, 400, .inl (fun _ => 0)))]) (w1 := []) hP hD [0, 1, 2, 3] [4, 5] rfl rfl (by decide) (by decide) hk1 hFc x_nilP x_nilD
  have hP : va_P D classes [(m0, .inr (11, [.int 0, .int 0, .ref m1, .int 0, .int 0, .ref m2, .int 0, .int 0, .int 0, .int 0, .int 0, .ref m42, .ref m3, .ref m4, .int 0, .int 0, .ref m5, .ref m6, .ref m7, .ref m8, .ref m9, .ref m10, .ref m11, .ref m12, .ref m13, .ref m14, .ref m15, .ref m16, .ref m17, .ref m18, .ref m19, .int 0, .ref m20, .int 0, .ref m21, .int 0, .int 0, .int 0, .int 0, .int 0, .int 0, .int 0, .ref m22, .int 0, .int 0, .ref m23, .ref m24, .ref m25, .ref m26, .int 0, .ref m27, .int 0, .ref m28, .int 0, .ref m29, .ref m30, .int (-1), .int 0, .int 0, .ref m31, .ref m32, .ref m33, .ref m34, .ref m35, .ref m36, .ref m37, .ref m38, .ref m39, .int 0, .ref m40, .int 0, .ref m41])), (m1, .inl (ax 0, 400, .inl (fun _ => 0)))] H_10 := hP
  have hD : va_D (fun q : Nat => s.heap.size ≤ q) [(m0, .inr (11, [.int 0, .int 0, .ref m1, .int 0, .int 0, .ref m2, .int 0, .int 0, .int 0, .int 0, .int 0, .ref m42, .ref m3, .ref m4, .int 0, .int 0, .ref m5, .ref m6, .ref m7, .ref m8, .ref m9, .ref m10, .ref m11, .ref m12, .ref m13, .ref m14, .ref m15, .ref m16, .ref m17, .ref m18, .ref m19, .int 0, .ref m20, .int 0, .ref m21, .int 0, .int 0, .int 0, .int 0, .int 0, .int 0, .int 0, .ref m22, .int 0, .int 0, .ref m23, .ref m24, .ref m25, .ref m26, .int 0, .ref m27, .int 0, .ref m28, .int 0, .ref m29, .ref m30, .int (-1), .int 0, .int 0, .ref m31, .ref m32, .ref m33, .ref m34, .ref m35, .ref m36, .ref m37, .ref m38, .ref m39, .int 0, .ref m40, .int 0, .ref m41])), (m1, .inl (ax 0, 400, .inl (fun _ => 0)))] := hD
  refine lv_aload_n hx hb d_lawm_144 rfl (lv_at hl1 2 rfl) ?_
  refine lv_aload_n hx hb d_lawm_145 rfl (lv_at hl1 4 rfl) ?_
  refine lv_iload hx hb d_lawm_146 (lv_at hl1 0 rfl) ?_
  refine lv_iconst (v := 1) hx hb d_lawm_148 (by decide) ?_
  refine lv_iadd hx hb d_lawm_149 ?_
  refine lv_topi (fun z_12 ez_12 => ?_)
  have ez_12 : z_12 = 1 := ez_12.trans (by first | rfl | decide)
  subst ez_12
  refine va_sld hx hb hX hbl hbA hS (by unfold vp_in; decide) d_lawm_150 ?_
  refine W.eq (g2 := F0 m 151 ls [.int x1, .ref m0, .int 1]) (by rw [hx1]) ?_
  refine lv_i2l hx hb d_lawm_151 rfl ?_
  refine lv_topl (fun z_13 ez_13 => ?_)
  refine lv_bipush (v := 32) hx hb d_lawm_152 (by decide) ?_
  refine lv_lshl hx hb d_lawm_154 rfl ?_
  refine lv_topl (fun z_14 ez_14 => ?_)
  refine lv_aload_n hx hb d_lawm_155 rfl (lv_at hl1 4 rfl) ?_
  refine lv_iload hx hb d_lawm_156 (lv_at hl1 0 rfl) ?_
  refine lv_iconst (v := 2) hx hb d_lawm_158 (by decide) ?_
  refine lv_iadd hx hb d_lawm_159 ?_
  refine lv_topi (fun z_15 ez_15 => ?_)
  have ez_15 : z_15 = 2 := ez_15.trans (by first | rfl | decide)
  subst ez_15
  refine va_sld hx hb hX hbl hbA hS (by unfold vp_in; decide) d_lawm_160 ?_
  refine W.eq (g2 := F0 m 161 ls [.int x2, .long z_14, .ref m0, .int 1]) (by rw [hx2]) ?_
  refine lv_i2l hx hb d_lawm_161 rfl ?_
  refine lv_topl (fun z_16 ez_16 => ?_)
  refine lv_ldc2 (v := 4294967295) hx hb hown (hts _ wd_1608) d_lawm_162 ?_
  refine lv_land hx hb d_lawm_165 ?_
  refine lv_topl (fun z_17 ez_17 => ?_)
  refine lv_lor hx hb d_lawm_166 ?_
  refine lv_topl (fun z_18 ez_18 => ?_)
  refine lv_aload_n hx hb d_lawm_167 rfl (lv_at hl1 4 rfl) ?_
  refine lv_iload hx hb d_lawm_168 (lv_at hl1 0 rfl) ?_
  refine lv_iconst (v := 3) hx hb d_lawm_170 (by decide) ?_
  refine lv_iadd hx hb d_lawm_171 ?_
  refine lv_topi (fun z_19 ez_19 => ?_)
  have ez_19 : z_19 = 3 := ez_19.trans (by first | rfl | decide)
  subst ez_19
  refine va_sld hx hb hX hbl hbA hS (by unfold vp_in; decide) d_lawm_172 ?_
  refine W.eq (g2 := F0 m 173 ls [.int 7, .long z_18, .ref m0, .int 1]) (by rw [hx3]) ?_
  have hPc := hP.sub (ws' := [(m0, .inr (11, [.int 0, .int 0, .ref m1, .int 0, .int 0, .ref m2, .int 0, .int 0, .int 0, .int 0, .int 0, .ref m42, .ref m3, .ref m4, .int 0, .int 0, .ref m5, .ref m6, .ref m7, .ref m8, .ref m9, .ref m10, .ref m11, .ref m12, .ref m13, .ref m14, .ref m15, .ref m16, .ref m17, .ref m18, .ref m19, .int 0, .ref m20, .int 0, .ref m21, .int 0, .int 0, .int 0, .int 0, .int 0, .int 0, .int 0, .ref m22, .int 0, .int 0, .ref m23, .ref m24, .ref m25, .ref m26, .int 0, .ref m27, .int 0, .ref m28, .int 0, .ref m29, .ref m30, .int (-1), .int 0, .int 0, .ref m31, .ref m32, .ref m33, .ref m34, .ref m35, .ref m36, .ref m37, .ref m38, .ref m39, .int 0, .ref m40, .int 0, .ref m41])), (m1, .inl (ax 0, 400, .inl (fun _ => 0)))]) [0, 1] rfl
  have hDc := hD.sub (ws' := [(m0, .inr (11, [.int 0, .int 0, .ref m1, .int 0, .int 0, .ref m2, .int 0, .int 0, .int 0, .int 0, .int 0, .ref m42, .ref m3, .ref m4, .int 0, .int 0, .ref m5, .ref m6, .ref m7, .ref m8, .ref m9, .ref m10, .ref m11, .ref m12, .ref m13, .ref m14, .ref m15, .ref m16, .ref m17, .ref m18, .ref m19, .int 0, .ref m20, .int 0, .ref m21, .int 0, .int 0, .int 0, .int 0, .int 0, .int 0, .int 0, .ref m22, .int 0, .int 0, .ref m23, .ref m24, .ref m25, .ref m26, .int 0, .ref m27, .int 0, .ref m28, .int 0, .ref m29, .ref m30, .int (-1), .int 0, .int 0, .ref m31, .ref m32, .ref m33, .ref m34, .ref m35, .ref m36, .ref m37, .ref m38, .ref m39, .int 0, .ref m40, .int 0, .ref m41])), (m1, .inl (ax 0, 400, .inl (fun _ => 0)))]) [0, 1] (by decide) rfl
  have hFc := va_free (wc := [(m0, .inr (11, [.int 0, .int 0, .ref m1, .int 0, .int 0, .ref m2, .int 0, .int 0, .int 0, .int 0, .int 0, .ref m42, .ref m3, .ref m4, .int 0, .int 0, .ref m5, .ref m6, .ref m7, .ref m8, .ref m9, .ref m10, .ref m11, .ref m12, .ref m13, .ref m14, .ref m15, .ref m16, .ref m17, .ref m18, .ref m19, .int 0, .ref m20, .int 0, .ref m21, .int 0, .int 0, .int 0, .int 0, .int 0, .int 0, .int 0, .ref m22, .int 0, .int 0, .ref m23, .ref m24, .ref m25, .ref m26, .int 0, .ref m27, .int 0, .ref m28, .int 0, .ref m29, .ref m30, .int (-1), .int 0, .int 0, .ref m31, .ref m32, .ref m33, .ref m34, .ref m35, .ref m36, .ref m37, .ref m38, .ref m39, .int 0, .ref m40, .int 0, .ref m41])), (m1, .inl (ax 0, 400, .inl (fun _ => 0)))]) hD hS hA [0, 1] rfl
  have hz := xz_of hN hS
  refine va_calli (va_runV (As := [.long z_18, .int 7]) (rest := [.int 1]) ⟨hx, hb, hml, hown, hts⟩ (c_Model_type_7 l D ax m0 m1 m2 m3 m4 m5 m6 m7 m8 m9 m10 m11 m12 m13 m14 m15 m16 m17 m18 m19 m20 m21 m22 m23 m24 m25 m26 m27 m28 m29 m30 m31 m32 m33 m34 m35 m36 m37 m38 m39 m40 m41 m42 z_18 H_10.size) (xcV (n := 2) hts wd_1261 wd_15 wd_1258 wd_1259 wd_1260 rfl rfl (by decide +kernel) ⟨Nat.le_of_ble_eq_true rfl, Nat.le_of_ble_eq_true rfl⟩) (xpV (ci := 11) (q0 := 0) (As := [.long z_18, .int 7]) hPc hK hz hDc rfl rfl) rfl rfl hl1.1 rfl (lv_room (Nat.le_of_ble_eq_true rfl)) d_lawm_173 ⟨Nat.le_of_ble_eq_true rfl, Nat.le_of_ble_eq_true rfl⟩) hS (fun q _ h => hFc q h) hFc (fun r_22 u_20 t H_21 locs ht hvm hw hB hz1 hk1 hS => ?_)
  try dsimp only at hw
  subst hw
  obtain ⟨hP, hD⟩ := va_join (wr := []) (w1 := []) hP hD [0, 1] [] rfl rfl (by decide) (by decide) hk1 hFc x_nilP x_nilD
  have hP : va_P D classes [] H_21 := hP
  have hD : va_D (fun q : Nat => s.heap.size ≤ q) [] := hD
  refine lv_icmp_eq (tgt := 841) hx hb d_lawm_176 (by decide) (fun c_23 => ?_) (fun c_23 => ?_)
  rotate_left
  · first | exact absurd c_23 (by decide) | exact absurd (by decide) c_23
  refine lv_iinc (v := 4) (lv' := [(4, .int 4), (3, .ref o0), (2, .ref m0), (1, .ref a0), (0, .ref b)]) hx hb d_lawm_841 hl1 (k := 0) rfl (by decide) (by decide) rfl (fun ls hl1 => ?_)
  refine lv_goto (tgt := 23) hx hb d_lawm_844 (by decide) ?_
  refine lv_iload hx hb d_lawm_23 (lv_at hl1 0 rfl) ?_
  refine lv_aload_n hx hb d_lawm_25 rfl (lv_at hl1 4 rfl) ?_
  refine va_slen hx hb hX hbl hbA hS d_lawm_26 ?_
  refine lv_topi (fun z_24 ez_24 => ?_)
  have ez_24 : z_24 = 4 := ez_24.trans (by first | rfl | decide)
  subst ez_24
  refine lv_iconst (v := 4) hx hb d_lawm_27 (by decide) ?_
  refine lv_isub hx hb d_lawm_28 ?_
  refine lv_topi (fun z_25 ez_25 => ?_)
  have ez_25 : z_25 = 0 := ez_25.trans (by first | rfl | decide)
  subst ez_25
  refine lv_icmp_gt (tgt := 847) hx hb d_lawm_29 (by decide) (fun c_26 => ?_) (fun c_26 => ?_)
  rotate_left
  · first | exact absurd c_26 (by decide) | exact absurd (by decide) c_26
  refine lv_iconst (v := 1) hx hb d_lawm_847 (by decide) ?_
  refine va_forget (fun q hq => hS.2.2 q hq) ?_
  refine W.widen (k := 600002) (n := 7302232) (Nat.le_of_ble_eq_true rfl) (Nat.le_of_ble_eq_true rfl) ?_
  exact lw_ret hx hb hr hlocks d_lawm_848
set_option maxHeartbeats 4000000 in
set_option maxRecDepth 100000 in
theorem lc_type_8 {p : Program} {l : Launch} {e : Env} {s : State} {m : MethodId} {below : List Frame} {meth : Method} {c : Code} {D : va_G} {ax : Nat → ClassId} {b : Nat} {xs : Nat → Int32} (hl : l.stackTraces = false) (C0 : lw_At p s m meth c b 4 xs) (hK : xk D ax s) {a0 a1 a4 a5 a11 a19 a24 a26 a28 a32 a36 a40 a56 a2 a3 m0 m1 m2 m42 m3 m4 m5 m6 m7 m8 m9 m10 m11 m12 m13 m14 m15 m16 m17 m18 m19 m20 m21 m22 m23 m24 m25 m26 m27 m28 m29 m30 m31 m32 m33 m34 m35 m36 m37 m38 m39 m40 m41 o0 : Nat} {x1 x2 : Int32} (hx1 : xs (Int32.toNatClampNeg 1) = x1) (hx2 : xs (Int32.toNatClampNeg 2) = x2) (hx3 : xs (Int32.toNatClampNeg 3) = 8) {H : Heap} {locs : List Loc} {ls : Array Slot} (hP : va_P D classes [(a0, .inr (10, [.ref a1, .ref a4, .ref a5, .ref a11, .ref a19, .ref a24, .ref a26, .ref a28, .ref a32, .ref a36, .ref a40, .ref a56, .int 0])), (a1, .inr (9, [.ref a2, .ref a3, .int 0, .int 0, .int 0, .int (-1), .int 0, .int 0])), (a2, .inl (ax 1, 400, .inl (fun _ => 0))), (a3, .inl (ax 0, 401, .inl (fun _ => 0))), (m0, .inr (11, [.int 0, .int 0, .ref m1, .int 0, .int 0, .ref m2, .int 0, .int 0, .int 0, .int 0, .int 0, .ref m42, .ref m3, .ref m4, .int 0, .int 0, .ref m5, .ref m6, .ref m7, .ref m8, .ref m9, .ref m10, .ref m11, .ref m12, .ref m13, .ref m14, .ref m15, .ref m16, .ref m17, .ref m18, .ref m19, .int 0, .ref m20, .int 0, .ref m21, .int 0, .int 0, .int 0, .int 0, .int 0, .int 0, .int 0, .ref m22, .int 0, .int 0, .ref m23, .ref m24, .ref m25, .ref m26, .int 0, .ref m27, .int 0, .ref m28, .int 0, .ref m29, .ref m30, .int (-1), .int 0, .int 0, .ref m31, .ref m32, .ref m33, .ref m34, .ref m35, .ref m36, .ref m37, .ref m38, .ref m39, .int 0, .ref m40, .int 0, .ref m41])), (m1, .inl (ax 0, 400, .inl (fun _ => 0)))] H) (hD : va_D (fun q : Nat => s.heap.size ≤ q) [(a0, .inr (10, [.ref a1, .ref a4, .ref a5, .ref a11, .ref a19, .ref a24, .ref a26, .ref a28, .ref a32, .ref a36, .ref a40, .ref a56, .int 0])), (a1, .inr (9, [.ref a2, .ref a3, .int 0, .int 0, .int 0, .int (-1), .int 0, .int 0])), (a2, .inl (ax 1, 400, .inl (fun _ => 0))), (a3, .inl (ax 0, 401, .inl (fun _ => 0))), (m0, .inr (11, [.int 0, .int 0, .ref m1, .int 0, .int 0, .ref m2, .int 0, .int 0, .int 0, .int 0, .int 0, .ref m42, .ref m3, .ref m4, .int 0, .int 0, .ref m5, .ref m6, .ref m7, .ref m8, .ref m9, .ref m10, .ref m11, .ref m12, .ref m13, .ref m14, .ref m15, .ref m16, .ref m17, .ref m18, .ref m19, .int 0, .ref m20, .int 0, .ref m21, .int 0, .int 0, .int 0, .int 0, .int 0, .int 0, .int 0, .ref m22, .int 0, .int 0, .ref m23, .ref m24, .ref m25, .ref m26, .int 0, .ref m27, .int 0, .ref m28, .int 0, .ref m29, .ref m30, .int (-1), .int 0, .int 0, .ref m31, .ref m32, .ref m33, .ref m34, .ref m35, .ref m36, .ref m37, .ref m38, .ref m39, .int 0, .ref m40, .int 0, .ref m41])), (m1, .inl (ax 0, 400, .inl (fun _ => 0)))]) (hS : va_S (fun q : Nat => s.heap.size ≤ q) s.heap H locs) (hl1 : lv_has ls 8 [(4, .int 0), (3, .ref o0), (2, .ref m0), (1, .ref a0), (0, .ref b)]) : W p l e room_1 s m #[Value.ref b] below meth c H locs 116 904940 (lw_Z below #[Value.ref b] s) (F0 m 112 ls []) := by
  obtain ⟨hx, hb, hr, hml, hown, hts0, hX, hbl, hlocks, hgv⟩ := id C0
  have hts : ∀ w ∈ lw_gd, w.before #[Value.ref b] s = true := fun w hw => hts0 w (List.mem_filter.mp hw).1
  have hA : ∀ q : Nat, s.heap.size ≤ q → (fun q : Nat => s.heap.size ≤ q) q := fun _ h => h
  have hbA : ¬ (fun q : Nat => s.heap.size ≤ q) b := Nat.not_le.mpr hbl
  have hN : ∀ (q : Nat) (cell : Cell), s.heap[q]? = some cell → cell.vm.isStatics = true → ¬ (fun q : Nat => s.heap.size ≤ q) q := fun q cell h _ => Nat.not_le.mpr (Array.getElem?_eq_some_iff.mp h).1
  refine lv_aload_n hx hb d_lawm_112 rfl (lv_at hl1 3 rfl) ?_
  refine lv_aload_n hx hb d_lawm_113 rfl (lv_at hl1 4 rfl) ?_
  refine lv_iload hx hb d_lawm_114 (lv_at hl1 0 rfl) ?_
  refine lv_iconst (v := 1) hx hb d_lawm_116 (by decide) ?_
  refine lv_iadd hx hb d_lawm_117 ?_
  refine lv_topi (fun z_1 ez_1 => ?_)
  have ez_1 : z_1 = 1 := ez_1.trans (by first | rfl | decide)
  subst ez_1
  refine va_sld hx hb hX hbl hbA hS (by unfold vp_in; decide) d_lawm_118 ?_
  refine W.eq (g2 := F0 m 119 ls [.int x1, .ref a0]) (by rw [hx1]) ?_
  refine lv_i2l hx hb d_lawm_119 rfl ?_
  refine lv_topl (fun z_2 ez_2 => ?_)
  refine lv_bipush (v := 32) hx hb d_lawm_120 (by decide) ?_
  refine lv_lshl hx hb d_lawm_122 rfl ?_
  refine lv_topl (fun z_3 ez_3 => ?_)
  refine lv_aload_n hx hb d_lawm_123 rfl (lv_at hl1 4 rfl) ?_
  refine lv_iload hx hb d_lawm_124 (lv_at hl1 0 rfl) ?_
  refine lv_iconst (v := 2) hx hb d_lawm_126 (by decide) ?_
  refine lv_iadd hx hb d_lawm_127 ?_
  refine lv_topi (fun z_4 ez_4 => ?_)
  have ez_4 : z_4 = 2 := ez_4.trans (by first | rfl | decide)
  subst ez_4
  refine va_sld hx hb hX hbl hbA hS (by unfold vp_in; decide) d_lawm_128 ?_
  refine W.eq (g2 := F0 m 129 ls [.int x2, .long z_3, .ref a0]) (by rw [hx2]) ?_
  refine lv_i2l hx hb d_lawm_129 rfl ?_
  refine lv_topl (fun z_5 ez_5 => ?_)
  refine lv_ldc2 (v := 4294967295) hx hb hown (hts _ wd_1608) d_lawm_130 ?_
  refine lv_land hx hb d_lawm_133 ?_
  refine lv_topl (fun z_6 ez_6 => ?_)
  refine lv_lor hx hb d_lawm_134 ?_
  refine lv_topl (fun z_7 ez_7 => ?_)
  refine lv_aload_n hx hb d_lawm_135 rfl (lv_at hl1 4 rfl) ?_
  refine lv_iload hx hb d_lawm_136 (lv_at hl1 0 rfl) ?_
  refine lv_iconst (v := 3) hx hb d_lawm_138 (by decide) ?_
  refine lv_iadd hx hb d_lawm_139 ?_
  refine lv_topi (fun z_8 ez_8 => ?_)
  have ez_8 : z_8 = 3 := ez_8.trans (by first | rfl | decide)
  subst ez_8
  refine va_sld hx hb hX hbl hbA hS (by unfold vp_in; decide) d_lawm_140 ?_
  refine W.eq (g2 := F0 m 141 ls [.int 8, .long z_7, .ref a0]) (by rw [hx3]) ?_
  have hPc := hP.sub (ws' := [(a0, .inr (10, [.ref a1, .ref a4, .ref a5, .ref a11, .ref a19, .ref a24, .ref a26, .ref a28, .ref a32, .ref a36, .ref a40, .ref a56, .int 0])), (a1, .inr (9, [.ref a2, .ref a3, .int 0, .int 0, .int 0, .int (-1), .int 0, .int 0])), (a2, .inl (ax 1, 400, .inl (fun _ => 0))), (a3, .inl (ax 0, 401, .inl (fun _ => 0)))]) [0, 1, 2, 3] rfl
  have hDc := hD.sub (ws' := [(a0, .inr (10, [.ref a1, .ref a4, .ref a5, .ref a11, .ref a19, .ref a24, .ref a26, .ref a28, .ref a32, .ref a36, .ref a40, .ref a56, .int 0])), (a1, .inr (9, [.ref a2, .ref a3, .int 0, .int 0, .int 0, .int (-1), .int 0, .int 0])), (a2, .inl (ax 1, 400, .inl (fun _ => 0))), (a3, .inl (ax 0, 401, .inl (fun _ => 0)))]) [0, 1, 2, 3] (by decide) rfl
  have hFc := va_free (wc := [(a0, .inr (10, [.ref a1, .ref a4, .ref a5, .ref a11, .ref a19, .ref a24, .ref a26, .ref a28, .ref a32, .ref a36, .ref a40, .ref a56, .int 0])), (a1, .inr (9, [.ref a2, .ref a3, .int 0, .int 0, .int 0, .int (-1), .int 0, .int 0])), (a2, .inl (ax 1, 400, .inl (fun _ => 0))), (a3, .inl (ax 0, 401, .inl (fun _ => 0)))]) hD hS hA [0, 1, 2, 3] rfl
  have hz := xz_of hN hS
  refine va_calli (va_runV (As := [.long z_7, .int 8]) (rest := []) ⟨hx, hb, hml, hown, hts⟩ (c_Desk_type_8 l D ax a0 a1 a4 a5 a11 a19 a24 a26 a28 a32 a36 a40 a56 a2 a3 z_7 H.size) (xcV (n := 2) hts wd_418 wd_1 wd_415 wd_416 wd_417 rfl rfl (by decide +kernel) ⟨Nat.le_of_ble_eq_true rfl, Nat.le_of_ble_eq_true rfl⟩) (xpV (ci := 10) (q0 := 0) (As := [.long z_7, .int 8]) hPc hK hz hDc rfl rfl) rfl rfl hl1.1 rfl (lv_room (Nat.le_of_ble_eq_true rfl)) d_lawm_141 ⟨Nat.le_of_ble_eq_true rfl, Nat.le_of_ble_eq_true rfl⟩) hS (fun q _ h => hFc q h) hFc (fun r_11 u_9 t H_10 locs ht hvm hw hB hz1 hk1 hS => ?_)
  try dsimp only at hw
  subst hw
  obtain ⟨hP, hD⟩ := va_join (wr := [(m0, .inr (11, [.int 0, .int 0, .ref m1, .int 0, .int 0, .ref m2, .int 0, .int 0, .int 0, .int 0, .int 0, .ref m42, .ref m3, .ref m4, .int 0, .int 0, .ref m5, .ref m6, .ref m7, .ref m8, .ref m9, .ref m10, .ref m11, .ref m12, .ref m13, .ref m14, .ref m15, .ref m16, .ref m17, .ref m18, .ref m19, .int 0, .ref m20, .int 0, .ref m21, .int 0, .int 0, .int 0, .int 0, .int 0, .int 0, .int 0, .ref m22, .int 0, .int 0, .ref m23, .ref m24, .ref m25, .ref m26, .int 0, .ref m27, .int 0, .ref m28, .int 0, .ref m29, .ref m30, .int (-1), .int 0, .int 0, .ref m31, .ref m32, .ref m33, .ref m34, .ref m35, .ref m36, .ref m37, .ref m38, .ref m39, .int 0, .ref m40, .int 0, .ref m41])), (m1, .inl (ax 0, 400, .inl (fun _ => 0)))]) (w1 := []) hP hD [0, 1, 2, 3] [4, 5] rfl rfl (by decide) (by decide) hk1 hFc x_nilP x_nilD
  have hP : va_P D classes [(m0, .inr (11, [.int 0, .int 0, .ref m1, .int 0, .int 0, .ref m2, .int 0, .int 0, .int 0, .int 0, .int 0, .ref m42, .ref m3, .ref m4, .int 0, .int 0, .ref m5, .ref m6, .ref m7, .ref m8, .ref m9, .ref m10, .ref m11, .ref m12, .ref m13, .ref m14, .ref m15, .ref m16, .ref m17, .ref m18, .ref m19, .int 0, .ref m20, .int 0, .ref m21, .int 0, .int 0, .int 0, .int 0, .int 0, .int 0, .int 0, .ref m22, .int 0, .int 0, .ref m23, .ref m24, .ref m25, .ref m26, .int 0, .ref m27, .int 0, .ref m28, .int 0, .ref m29, .ref m30, .int (-1), .int 0, .int 0, .ref m31, .ref m32, .ref m33, .ref m34, .ref m35, .ref m36, .ref m37, .ref m38, .ref m39, .int 0, .ref m40, .int 0, .ref m41])), (m1, .inl (ax 0, 400, .inl (fun _ => 0)))] H_10 := hP
  have hD : va_D (fun q : Nat => s.heap.size ≤ q) [(m0, .inr (11, [.int 0, .int 0, .ref m1, .int 0, .int 0, .ref m2, .int 0, .int 0, .int 0, .int 0, .int 0, .ref m42, .ref m3, .ref m4, .int 0, .int 0, .ref m5, .ref m6, .ref m7, .ref m8, .ref m9, .ref m10, .ref m11, .ref m12, .ref m13, .ref m14, .ref m15, .ref m16, .ref m17, .ref m18, .ref m19, .int 0, .ref m20, .int 0, .ref m21, .int 0, .int 0, .int 0, .int 0, .int 0, .int 0, .int 0, .ref m22, .int 0, .int 0, .ref m23, .ref m24, .ref m25, .ref m26, .int 0, .ref m27, .int 0, .ref m28, .int 0, .ref m29, .ref m30, .int (-1), .int 0, .int 0, .ref m31, .ref m32, .ref m33, .ref m34, .ref m35, .ref m36, .ref m37, .ref m38, .ref m39, .int 0, .ref m40, .int 0, .ref m41])), (m1, .inl (ax 0, 400, .inl (fun _ => 0)))] := hD
  refine lv_aload_n hx hb d_lawm_144 rfl (lv_at hl1 2 rfl) ?_
  refine lv_aload_n hx hb d_lawm_145 rfl (lv_at hl1 4 rfl) ?_
  refine lv_iload hx hb d_lawm_146 (lv_at hl1 0 rfl) ?_
  refine lv_iconst (v := 1) hx hb d_lawm_148 (by decide) ?_
  refine lv_iadd hx hb d_lawm_149 ?_
  refine lv_topi (fun z_12 ez_12 => ?_)
  have ez_12 : z_12 = 1 := ez_12.trans (by first | rfl | decide)
  subst ez_12
  refine va_sld hx hb hX hbl hbA hS (by unfold vp_in; decide) d_lawm_150 ?_
  refine W.eq (g2 := F0 m 151 ls [.int x1, .ref m0, .int 1]) (by rw [hx1]) ?_
  refine lv_i2l hx hb d_lawm_151 rfl ?_
  refine lv_topl (fun z_13 ez_13 => ?_)
  refine lv_bipush (v := 32) hx hb d_lawm_152 (by decide) ?_
  refine lv_lshl hx hb d_lawm_154 rfl ?_
  refine lv_topl (fun z_14 ez_14 => ?_)
  refine lv_aload_n hx hb d_lawm_155 rfl (lv_at hl1 4 rfl) ?_
  refine lv_iload hx hb d_lawm_156 (lv_at hl1 0 rfl) ?_
  refine lv_iconst (v := 2) hx hb d_lawm_158 (by decide) ?_
  refine lv_iadd hx hb d_lawm_159 ?_
  refine lv_topi (fun z_15 ez_15 => ?_)
  have ez_15 : z_15 = 2 := ez_15.trans (by first | rfl | decide)
  subst ez_15
  refine va_sld hx hb hX hbl hbA hS (by unfold vp_in; decide) d_lawm_160 ?_
  refine W.eq (g2 := F0 m 161 ls [.int x2, .long z_14, .ref m0, .int 1]) (by rw [hx2]) ?_
  refine lv_i2l hx hb d_lawm_161 rfl ?_
  refine lv_topl (fun z_16 ez_16 => ?_)
  refine lv_ldc2 (v := 4294967295) hx hb hown (hts _ wd_1608) d_lawm_162 ?_
  refine lv_land hx hb d_lawm_165 ?_
  refine lv_topl (fun z_17 ez_17 => ?_)
  refine lv_lor hx hb d_lawm_166 ?_
  refine lv_topl (fun z_18 ez_18 => ?_)
  refine lv_aload_n hx hb d_lawm_167 rfl (lv_at hl1 4 rfl) ?_
  refine lv_iload hx hb d_lawm_168 (lv_at hl1 0 rfl) ?_
  refine lv_iconst (v := 3) hx hb d_lawm_170 (by decide) ?_
  refine lv_iadd hx hb d_lawm_171 ?_
  refine lv_topi (fun z_19 ez_19 => ?_)
  have ez_19 : z_19 = 3 := ez_19.trans (by first | rfl | decide)
  subst ez_19
  refine va_sld hx hb hX hbl hbA hS (by unfold vp_in; decide) d_lawm_172 ?_
  refine W.eq (g2 := F0 m 173 ls [.int 8, .long z_18, .ref m0, .int 1]) (by rw [hx3]) ?_
  have hPc := hP.sub (ws' := [(m0, .inr (11, [.int 0, .int 0, .ref m1, .int 0, .int 0, .ref m2, .int 0, .int 0, .int 0, .int 0, .int 0, .ref m42, .ref m3, .ref m4, .int 0, .int 0, .ref m5, .ref m6, .ref m7, .ref m8, .ref m9, .ref m10, .ref m11, .ref m12, .ref m13, .ref m14, .ref m15, .ref m16, .ref m17, .ref m18, .ref m19, .int 0, .ref m20, .int 0, .ref m21, .int 0, .int 0, .int 0, .int 0, .int 0, .int 0, .int 0, .ref m22, .int 0, .int 0, .ref m23, .ref m24, .ref m25, .ref m26, .int 0, .ref m27, .int 0, .ref m28, .int 0, .ref m29, .ref m30, .int (-1), .int 0, .int 0, .ref m31, .ref m32, .ref m33, .ref m34, .ref m35, .ref m36, .ref m37, .ref m38, .ref m39, .int 0, .ref m40, .int 0, .ref m41])), (m1, .inl (ax 0, 400, .inl (fun _ => 0)))]) [0, 1] rfl
  have hDc := hD.sub (ws' := [(m0, .inr (11, [.int 0, .int 0, .ref m1, .int 0, .int 0, .ref m2, .int 0, .int 0, .int 0, .int 0, .int 0, .ref m42, .ref m3, .ref m4, .int 0, .int 0, .ref m5, .ref m6, .ref m7, .ref m8, .ref m9, .ref m10, .ref m11, .ref m12, .ref m13, .ref m14, .ref m15, .ref m16, .ref m17, .ref m18, .ref m19, .int 0, .ref m20, .int 0, .ref m21, .int 0, .int 0, .int 0, .int 0, .int 0, .int 0, .int 0, .ref m22, .int 0, .int 0, .ref m23, .ref m24, .ref m25, .ref m26, .int 0, .ref m27, .int 0, .ref m28, .int 0, .ref m29, .ref m30, .int (-1), .int 0, .int 0, .ref m31, .ref m32, .ref m33, .ref m34, .ref m35, .ref m36, .ref m37, .ref m38, .ref m39, .int 0, .ref m40, .int 0, .ref m41])), (m1, .inl (ax 0, 400, .inl (fun _ => 0)))]) [0, 1] (by decide) rfl
  have hFc := va_free (wc := [(m0, .inr (11, [.int 0, .int 0, .ref m1, .int 0, .int 0, .ref m2, .int 0, .int 0, .int 0, .int 0, .int 0, .ref m42, .ref m3, .ref m4, .int 0, .int 0, .ref m5, .ref m6, .ref m7, .ref m8, .ref m9, .ref m10, .ref m11, .ref m12, .ref m13, .ref m14, .ref m15, .ref m16, .ref m17, .ref m18, .ref m19, .int 0, .ref m20, .int 0, .ref m21, .int 0, .int 0, .int 0, .int 0, .int 0, .int 0, .int 0, .ref m22, .int 0, .int 0, .ref m23, .ref m24, .ref m25, .ref m26, .int 0, .ref m27, .int 0, .ref m28, .int 0, .ref m29, .ref m30, .int (-1), .int 0, .int 0, .ref m31, .ref m32, .ref m33, .ref m34, .ref m35, .ref m36, .ref m37, .ref m38, .ref m39, .int 0, .ref m40, .int 0, .ref m41])), (m1, .inl (ax 0, 400, .inl (fun _ => 0)))]) hD hS hA [0, 1] rfl
  have hz := xz_of hN hS
  refine va_calli (va_runV (As := [.long z_18, .int 8]) (rest := [.int 1]) ⟨hx, hb, hml, hown, hts⟩ (c_Model_type_8 l D ax m0 m1 m2 m3 m4 m5 m6 m7 m8 m9 m10 m11 m12 m13 m14 m15 m16 m17 m18 m19 m20 m21 m22 m23 m24 m25 m26 m27 m28 m29 m30 m31 m32 m33 m34 m35 m36 m37 m38 m39 m40 m41 m42 z_18 H_10.size) (xcV (n := 2) hts wd_1261 wd_15 wd_1258 wd_1259 wd_1260 rfl rfl (by decide +kernel) ⟨Nat.le_of_ble_eq_true rfl, Nat.le_of_ble_eq_true rfl⟩) (xpV (ci := 11) (q0 := 0) (As := [.long z_18, .int 8]) hPc hK hz hDc rfl rfl) rfl rfl hl1.1 rfl (lv_room (Nat.le_of_ble_eq_true rfl)) d_lawm_173 ⟨Nat.le_of_ble_eq_true rfl, Nat.le_of_ble_eq_true rfl⟩) hS (fun q _ h => hFc q h) hFc (fun r_22 u_20 t H_21 locs ht hvm hw hB hz1 hk1 hS => ?_)
  try dsimp only at hw
  subst hw
  obtain ⟨hP, hD⟩ := va_join (wr := []) (w1 := []) hP hD [0, 1] [] rfl rfl (by decide) (by decide) hk1 hFc x_nilP x_nilD
  have hP : va_P D classes [] H_21 := hP
  have hD : va_D (fun q : Nat => s.heap.size ≤ q) [] := hD
  refine lv_icmp_eq (tgt := 841) hx hb d_lawm_176 (by decide) (fun c_23 => ?_) (fun c_23 => ?_)
  rotate_left
  · first | exact absurd c_23 (by decide) | exact absurd (by decide) c_23
  refine lv_iinc (v := 4) (lv' := [(4, .int 4), (3, .ref o0), (2, .ref m0), (1, .ref a0), (0, .ref b)]) hx hb d_lawm_841 hl1 (k := 0) rfl (by decide) (by decide) rfl (fun ls hl1 => ?_)
  refine lv_goto (tgt := 23) hx hb d_lawm_844 (by decide) ?_
  refine lv_iload hx hb d_lawm_23 (lv_at hl1 0 rfl) ?_
  refine lv_aload_n hx hb d_lawm_25 rfl (lv_at hl1 4 rfl) ?_
  refine va_slen hx hb hX hbl hbA hS d_lawm_26 ?_
  refine lv_topi (fun z_24 ez_24 => ?_)
  have ez_24 : z_24 = 4 := ez_24.trans (by first | rfl | decide)
  subst ez_24
  refine lv_iconst (v := 4) hx hb d_lawm_27 (by decide) ?_
  refine lv_isub hx hb d_lawm_28 ?_
  refine lv_topi (fun z_25 ez_25 => ?_)
  have ez_25 : z_25 = 0 := ez_25.trans (by first | rfl | decide)
  subst ez_25
  refine lv_icmp_gt (tgt := 847) hx hb d_lawm_29 (by decide) (fun c_26 => ?_) (fun c_26 => ?_)
  rotate_left
  · first | exact absurd c_26 (by decide) | exact absurd (by decide) c_26
  refine lv_iconst (v := 1) hx hb d_lawm_847 (by decide) ?_
  refine va_forget (fun q hq => hS.2.2 q hq) ?_
  refine W.widen (k := 600002) (n := 7302232) (Nat.le_of_ble_eq_true rfl) (Nat.le_of_ble_eq_true rfl) ?_
  exact lw_ret hx hb hr hlocks d_lawm_848
set_option maxHeartbeats 4000000 in
set_option maxRecDepth 100000 in
theorem lc_type_bad {p : Program} {l : Launch} {e : Env} {s : State} {m : MethodId} {below : List Frame} {meth : Method} {c : Code} {D : va_G} {ax : Nat → ClassId} {b : Nat} {xs : Nat → Int32} (hl : l.stackTraces = false) (C0 : lw_At p s m meth c b 4 xs) (hK : xk D ax s) {a0 a1 a4 a5 a11 a19 a24 a26 a28 a32 a36 a40 a56 a2 a3 m0 m1 m2 m42 m3 m4 m5 m6 m7 m8 m9 m10 m11 m12 m13 m14 m15 m16 m17 m18 m19 m20 m21 m22 m23 m24 m25 m26 m27 m28 m29 m30 m31 m32 m33 m34 m35 m36 m37 m38 m39 m40 m41 o0 : Nat} {x1 x2 x3 : Int32} (hx1 : xs (Int32.toNatClampNeg 1) = x1) (hx2 : xs (Int32.toNatClampNeg 2) = x2) (hx3 : xs (Int32.toNatClampNeg 3) = x3) (hq0 : x3 < 1 ∨ 8 < x3) {H : Heap} {locs : List Loc} {ls : Array Slot} (hP : va_P D classes [(a0, .inr (10, [.ref a1, .ref a4, .ref a5, .ref a11, .ref a19, .ref a24, .ref a26, .ref a28, .ref a32, .ref a36, .ref a40, .ref a56, .int 0])), (a1, .inr (9, [.ref a2, .ref a3, .int 0, .int 0, .int 0, .int (-1), .int 0, .int 0])), (a2, .inl (ax 1, 400, .inl (fun _ => 0))), (a3, .inl (ax 0, 401, .inl (fun _ => 0))), (m0, .inr (11, [.int 0, .int 0, .ref m1, .int 0, .int 0, .ref m2, .int 0, .int 0, .int 0, .int 0, .int 0, .ref m42, .ref m3, .ref m4, .int 0, .int 0, .ref m5, .ref m6, .ref m7, .ref m8, .ref m9, .ref m10, .ref m11, .ref m12, .ref m13, .ref m14, .ref m15, .ref m16, .ref m17, .ref m18, .ref m19, .int 0, .ref m20, .int 0, .ref m21, .int 0, .int 0, .int 0, .int 0, .int 0, .int 0, .int 0, .ref m22, .int 0, .int 0, .ref m23, .ref m24, .ref m25, .ref m26, .int 0, .ref m27, .int 0, .ref m28, .int 0, .ref m29, .ref m30, .int (-1), .int 0, .int 0, .ref m31, .ref m32, .ref m33, .ref m34, .ref m35, .ref m36, .ref m37, .ref m38, .ref m39, .int 0, .ref m40, .int 0, .ref m41]))] H) (hD : va_D (fun q : Nat => s.heap.size ≤ q) [(a0, .inr (10, [.ref a1, .ref a4, .ref a5, .ref a11, .ref a19, .ref a24, .ref a26, .ref a28, .ref a32, .ref a36, .ref a40, .ref a56, .int 0])), (a1, .inr (9, [.ref a2, .ref a3, .int 0, .int 0, .int 0, .int (-1), .int 0, .int 0])), (a2, .inl (ax 1, 400, .inl (fun _ => 0))), (a3, .inl (ax 0, 401, .inl (fun _ => 0))), (m0, .inr (11, [.int 0, .int 0, .ref m1, .int 0, .int 0, .ref m2, .int 0, .int 0, .int 0, .int 0, .int 0, .ref m42, .ref m3, .ref m4, .int 0, .int 0, .ref m5, .ref m6, .ref m7, .ref m8, .ref m9, .ref m10, .ref m11, .ref m12, .ref m13, .ref m14, .ref m15, .ref m16, .ref m17, .ref m18, .ref m19, .int 0, .ref m20, .int 0, .ref m21, .int 0, .int 0, .int 0, .int 0, .int 0, .int 0, .int 0, .ref m22, .int 0, .int 0, .ref m23, .ref m24, .ref m25, .ref m26, .int 0, .ref m27, .int 0, .ref m28, .int 0, .ref m29, .ref m30, .int (-1), .int 0, .int 0, .ref m31, .ref m32, .ref m33, .ref m34, .ref m35, .ref m36, .ref m37, .ref m38, .ref m39, .int 0, .ref m40, .int 0, .ref m41]))]) (hS : va_S (fun q : Nat => s.heap.size ≤ q) s.heap H locs) (hl1 : lv_has ls 8 [(4, .int 0), (3, .ref o0), (2, .ref m0), (1, .ref a0), (0, .ref b)]) : W p l e room_1 s m #[Value.ref b] below meth c H locs 116 904940 (lw_Z below #[Value.ref b] s) (F0 m 112 ls []) := by
  obtain ⟨hx, hb, hr, hml, hown, hts0, hX, hbl, hlocks, hgv⟩ := id C0
  have hts : ∀ w ∈ lw_gd, w.before #[Value.ref b] s = true := fun w hw => hts0 w (List.mem_filter.mp hw).1
  have hA : ∀ q : Nat, s.heap.size ≤ q → (fun q : Nat => s.heap.size ≤ q) q := fun _ h => h
  have hbA : ¬ (fun q : Nat => s.heap.size ≤ q) b := Nat.not_le.mpr hbl
  have hN : ∀ (q : Nat) (cell : Cell), s.heap[q]? = some cell → cell.vm.isStatics = true → ¬ (fun q : Nat => s.heap.size ≤ q) q := fun q cell h _ => Nat.not_le.mpr (Array.getElem?_eq_some_iff.mp h).1
  refine lv_aload_n hx hb d_lawm_112 rfl (lv_at hl1 3 rfl) ?_
  refine lv_aload_n hx hb d_lawm_113 rfl (lv_at hl1 4 rfl) ?_
  refine lv_iload hx hb d_lawm_114 (lv_at hl1 0 rfl) ?_
  refine lv_iconst (v := 1) hx hb d_lawm_116 (by decide) ?_
  refine lv_iadd hx hb d_lawm_117 ?_
  refine lv_topi (fun z_1 ez_1 => ?_)
  have ez_1 : z_1 = 1 := ez_1.trans (by first | rfl | decide)
  subst ez_1
  refine va_sld hx hb hX hbl hbA hS (by unfold vp_in; decide) d_lawm_118 ?_
  refine W.eq (g2 := F0 m 119 ls [.int x1, .ref a0]) (by rw [hx1]) ?_
  refine lv_i2l hx hb d_lawm_119 rfl ?_
  refine lv_topl (fun z_2 ez_2 => ?_)
  refine lv_bipush (v := 32) hx hb d_lawm_120 (by decide) ?_
  refine lv_lshl hx hb d_lawm_122 rfl ?_
  refine lv_topl (fun z_3 ez_3 => ?_)
  refine lv_aload_n hx hb d_lawm_123 rfl (lv_at hl1 4 rfl) ?_
  refine lv_iload hx hb d_lawm_124 (lv_at hl1 0 rfl) ?_
  refine lv_iconst (v := 2) hx hb d_lawm_126 (by decide) ?_
  refine lv_iadd hx hb d_lawm_127 ?_
  refine lv_topi (fun z_4 ez_4 => ?_)
  have ez_4 : z_4 = 2 := ez_4.trans (by first | rfl | decide)
  subst ez_4
  refine va_sld hx hb hX hbl hbA hS (by unfold vp_in; decide) d_lawm_128 ?_
  refine W.eq (g2 := F0 m 129 ls [.int x2, .long z_3, .ref a0]) (by rw [hx2]) ?_
  refine lv_i2l hx hb d_lawm_129 rfl ?_
  refine lv_topl (fun z_5 ez_5 => ?_)
  refine lv_ldc2 (v := 4294967295) hx hb hown (hts _ wd_1608) d_lawm_130 ?_
  refine lv_land hx hb d_lawm_133 ?_
  refine lv_topl (fun z_6 ez_6 => ?_)
  refine lv_lor hx hb d_lawm_134 ?_
  refine lv_topl (fun z_7 ez_7 => ?_)
  refine lv_aload_n hx hb d_lawm_135 rfl (lv_at hl1 4 rfl) ?_
  refine lv_iload hx hb d_lawm_136 (lv_at hl1 0 rfl) ?_
  refine lv_iconst (v := 3) hx hb d_lawm_138 (by decide) ?_
  refine lv_iadd hx hb d_lawm_139 ?_
  refine lv_topi (fun z_8 ez_8 => ?_)
  have ez_8 : z_8 = 3 := ez_8.trans (by first | rfl | decide)
  subst ez_8
  refine va_sld hx hb hX hbl hbA hS (by unfold vp_in; decide) d_lawm_140 ?_
  refine W.eq (g2 := F0 m 141 ls [.int x3, .long z_7, .ref a0]) (by rw [hx3]) ?_
  have hPc := hP.sub (ws' := [(a0, .inr (10, [.ref a1, .ref a4, .ref a5, .ref a11, .ref a19, .ref a24, .ref a26, .ref a28, .ref a32, .ref a36, .ref a40, .ref a56, .int 0])), (a1, .inr (9, [.ref a2, .ref a3, .int 0, .int 0, .int 0, .int (-1), .int 0, .int 0])), (a2, .inl (ax 1, 400, .inl (fun _ => 0))), (a3, .inl (ax 0, 401, .inl (fun _ => 0)))]) [0, 1, 2, 3] rfl
  have hDc := hD.sub (ws' := [(a0, .inr (10, [.ref a1, .ref a4, .ref a5, .ref a11, .ref a19, .ref a24, .ref a26, .ref a28, .ref a32, .ref a36, .ref a40, .ref a56, .int 0])), (a1, .inr (9, [.ref a2, .ref a3, .int 0, .int 0, .int 0, .int (-1), .int 0, .int 0])), (a2, .inl (ax 1, 400, .inl (fun _ => 0))), (a3, .inl (ax 0, 401, .inl (fun _ => 0)))]) [0, 1, 2, 3] (by decide) rfl
  have hFc := va_free (wc := [(a0, .inr (10, [.ref a1, .ref a4, .ref a5, .ref a11, .ref a19, .ref a24, .ref a26, .ref a28, .ref a32, .ref a36, .ref a40, .ref a56, .int 0])), (a1, .inr (9, [.ref a2, .ref a3, .int 0, .int 0, .int 0, .int (-1), .int 0, .int 0])), (a2, .inl (ax 1, 400, .inl (fun _ => 0))), (a3, .inl (ax 0, 401, .inl (fun _ => 0)))]) hD hS hA [0, 1, 2, 3] rfl
  have hz := xz_of hN hS
  refine va_calli (va_runV (As := [.long z_7, .int x3]) (rest := []) ⟨hx, hb, hml, hown, hts⟩ (c_Desk_type_bad l D ax a0 a1 a4 a5 a11 a19 a24 a26 a28 a32 a36 a40 a56 a2 a3 z_7 x3 H.size hq0) (xcV (n := 2) hts wd_418 wd_1 wd_415 wd_416 wd_417 rfl rfl (by decide +kernel) ⟨Nat.le_of_ble_eq_true rfl, Nat.le_of_ble_eq_true rfl⟩) (xpV (ci := 10) (q0 := 0) (As := [.long z_7, .int x3]) hPc hK hz hDc rfl rfl) rfl rfl hl1.1 rfl (lv_room (Nat.le_of_ble_eq_true rfl)) d_lawm_141 ⟨Nat.le_of_ble_eq_true rfl, Nat.le_of_ble_eq_true rfl⟩) hS (fun q _ h => hFc q h) hFc (fun r_11 u_9 t H_10 locs ht hvm hw hB hz1 hk1 hS => ?_)
  try dsimp only at hw
  subst hw
  obtain ⟨hP, hD⟩ := va_join (wr := [(m0, .inr (11, [.int 0, .int 0, .ref m1, .int 0, .int 0, .ref m2, .int 0, .int 0, .int 0, .int 0, .int 0, .ref m42, .ref m3, .ref m4, .int 0, .int 0, .ref m5, .ref m6, .ref m7, .ref m8, .ref m9, .ref m10, .ref m11, .ref m12, .ref m13, .ref m14, .ref m15, .ref m16, .ref m17, .ref m18, .ref m19, .int 0, .ref m20, .int 0, .ref m21, .int 0, .int 0, .int 0, .int 0, .int 0, .int 0, .int 0, .ref m22, .int 0, .int 0, .ref m23, .ref m24, .ref m25, .ref m26, .int 0, .ref m27, .int 0, .ref m28, .int 0, .ref m29, .ref m30, .int (-1), .int 0, .int 0, .ref m31, .ref m32, .ref m33, .ref m34, .ref m35, .ref m36, .ref m37, .ref m38, .ref m39, .int 0, .ref m40, .int 0, .ref m41]))]) (w1 := []) hP hD [0, 1, 2, 3] [4] rfl rfl (by decide) (by decide) hk1 hFc x_nilP x_nilD
  have hP : va_P D classes [(m0, .inr (11, [.int 0, .int 0, .ref m1, .int 0, .int 0, .ref m2, .int 0, .int 0, .int 0, .int 0, .int 0, .ref m42, .ref m3, .ref m4, .int 0, .int 0, .ref m5, .ref m6, .ref m7, .ref m8, .ref m9, .ref m10, .ref m11, .ref m12, .ref m13, .ref m14, .ref m15, .ref m16, .ref m17, .ref m18, .ref m19, .int 0, .ref m20, .int 0, .ref m21, .int 0, .int 0, .int 0, .int 0, .int 0, .int 0, .int 0, .ref m22, .int 0, .int 0, .ref m23, .ref m24, .ref m25, .ref m26, .int 0, .ref m27, .int 0, .ref m28, .int 0, .ref m29, .ref m30, .int (-1), .int 0, .int 0, .ref m31, .ref m32, .ref m33, .ref m34, .ref m35, .ref m36, .ref m37, .ref m38, .ref m39, .int 0, .ref m40, .int 0, .ref m41]))] H_10 := hP
  have hD : va_D (fun q : Nat => s.heap.size ≤ q) [(m0, .inr (11, [.int 0, .int 0, .ref m1, .int 0, .int 0, .ref m2, .int 0, .int 0, .int 0, .int 0, .int 0, .ref m42, .ref m3, .ref m4, .int 0, .int 0, .ref m5, .ref m6, .ref m7, .ref m8, .ref m9, .ref m10, .ref m11, .ref m12, .ref m13, .ref m14, .ref m15, .ref m16, .ref m17, .ref m18, .ref m19, .int 0, .ref m20, .int 0, .ref m21, .int 0, .int 0, .int 0, .int 0, .int 0, .int 0, .int 0, .ref m22, .int 0, .int 0, .ref m23, .ref m24, .ref m25, .ref m26, .int 0, .ref m27, .int 0, .ref m28, .int 0, .ref m29, .ref m30, .int (-1), .int 0, .int 0, .ref m31, .ref m32, .ref m33, .ref m34, .ref m35, .ref m36, .ref m37, .ref m38, .ref m39, .int 0, .ref m40, .int 0, .ref m41]))] := hD
  refine lv_aload_n hx hb d_lawm_144 rfl (lv_at hl1 2 rfl) ?_
  refine lv_aload_n hx hb d_lawm_145 rfl (lv_at hl1 4 rfl) ?_
  refine lv_iload hx hb d_lawm_146 (lv_at hl1 0 rfl) ?_
  refine lv_iconst (v := 1) hx hb d_lawm_148 (by decide) ?_
  refine lv_iadd hx hb d_lawm_149 ?_
  refine lv_topi (fun z_12 ez_12 => ?_)
  have ez_12 : z_12 = 1 := ez_12.trans (by first | rfl | decide)
  subst ez_12
  refine va_sld hx hb hX hbl hbA hS (by unfold vp_in; decide) d_lawm_150 ?_
  refine W.eq (g2 := F0 m 151 ls [.int x1, .ref m0, .int 0]) (by rw [hx1]) ?_
  refine lv_i2l hx hb d_lawm_151 rfl ?_
  refine lv_topl (fun z_13 ez_13 => ?_)
  refine lv_bipush (v := 32) hx hb d_lawm_152 (by decide) ?_
  refine lv_lshl hx hb d_lawm_154 rfl ?_
  refine lv_topl (fun z_14 ez_14 => ?_)
  refine lv_aload_n hx hb d_lawm_155 rfl (lv_at hl1 4 rfl) ?_
  refine lv_iload hx hb d_lawm_156 (lv_at hl1 0 rfl) ?_
  refine lv_iconst (v := 2) hx hb d_lawm_158 (by decide) ?_
  refine lv_iadd hx hb d_lawm_159 ?_
  refine lv_topi (fun z_15 ez_15 => ?_)
  have ez_15 : z_15 = 2 := ez_15.trans (by first | rfl | decide)
  subst ez_15
  refine va_sld hx hb hX hbl hbA hS (by unfold vp_in; decide) d_lawm_160 ?_
  refine W.eq (g2 := F0 m 161 ls [.int x2, .long z_14, .ref m0, .int 0]) (by rw [hx2]) ?_
  refine lv_i2l hx hb d_lawm_161 rfl ?_
  refine lv_topl (fun z_16 ez_16 => ?_)
  refine lv_ldc2 (v := 4294967295) hx hb hown (hts _ wd_1608) d_lawm_162 ?_
  refine lv_land hx hb d_lawm_165 ?_
  refine lv_topl (fun z_17 ez_17 => ?_)
  refine lv_lor hx hb d_lawm_166 ?_
  refine lv_topl (fun z_18 ez_18 => ?_)
  refine lv_aload_n hx hb d_lawm_167 rfl (lv_at hl1 4 rfl) ?_
  refine lv_iload hx hb d_lawm_168 (lv_at hl1 0 rfl) ?_
  refine lv_iconst (v := 3) hx hb d_lawm_170 (by decide) ?_
  refine lv_iadd hx hb d_lawm_171 ?_
  refine lv_topi (fun z_19 ez_19 => ?_)
  have ez_19 : z_19 = 3 := ez_19.trans (by first | rfl | decide)
  subst ez_19
  refine va_sld hx hb hX hbl hbA hS (by unfold vp_in; decide) d_lawm_172 ?_
  refine W.eq (g2 := F0 m 173 ls [.int x3, .long z_18, .ref m0, .int 0]) (by rw [hx3]) ?_
  have hPc := hP.sub (ws' := [(m0, .inr (11, [.int 0, .int 0, .ref m1, .int 0, .int 0, .ref m2, .int 0, .int 0, .int 0, .int 0, .int 0, .ref m42, .ref m3, .ref m4, .int 0, .int 0, .ref m5, .ref m6, .ref m7, .ref m8, .ref m9, .ref m10, .ref m11, .ref m12, .ref m13, .ref m14, .ref m15, .ref m16, .ref m17, .ref m18, .ref m19, .int 0, .ref m20, .int 0, .ref m21, .int 0, .int 0, .int 0, .int 0, .int 0, .int 0, .int 0, .ref m22, .int 0, .int 0, .ref m23, .ref m24, .ref m25, .ref m26, .int 0, .ref m27, .int 0, .ref m28, .int 0, .ref m29, .ref m30, .int (-1), .int 0, .int 0, .ref m31, .ref m32, .ref m33, .ref m34, .ref m35, .ref m36, .ref m37, .ref m38, .ref m39, .int 0, .ref m40, .int 0, .ref m41]))]) [0] rfl
  have hDc := hD.sub (ws' := [(m0, .inr (11, [.int 0, .int 0, .ref m1, .int 0, .int 0, .ref m2, .int 0, .int 0, .int 0, .int 0, .int 0, .ref m42, .ref m3, .ref m4, .int 0, .int 0, .ref m5, .ref m6, .ref m7, .ref m8, .ref m9, .ref m10, .ref m11, .ref m12, .ref m13, .ref m14, .ref m15, .ref m16, .ref m17, .ref m18, .ref m19, .int 0, .ref m20, .int 0, .ref m21, .int 0, .int 0, .int 0, .int 0, .int 0, .int 0, .int 0, .ref m22, .int 0, .int 0, .ref m23, .ref m24, .ref m25, .ref m26, .int 0, .ref m27, .int 0, .ref m28, .int 0, .ref m29, .ref m30, .int (-1), .int 0, .int 0, .ref m31, .ref m32, .ref m33, .ref m34, .ref m35, .ref m36, .ref m37, .ref m38, .ref m39, .int 0, .ref m40, .int 0, .ref m41]))]) [0] (by decide) rfl
  have hFc := va_free (wc := [(m0, .inr (11, [.int 0, .int 0, .ref m1, .int 0, .int 0, .ref m2, .int 0, .int 0, .int 0, .int 0, .int 0, .ref m42, .ref m3, .ref m4, .int 0, .int 0, .ref m5, .ref m6, .ref m7, .ref m8, .ref m9, .ref m10, .ref m11, .ref m12, .ref m13, .ref m14, .ref m15, .ref m16, .ref m17, .ref m18, .ref m19, .int 0, .ref m20, .int 0, .ref m21, .int 0, .int 0, .int 0, .int 0, .int 0, .int 0, .int 0, .ref m22, .int 0, .int 0, .ref m23, .ref m24, .ref m25, .ref m26, .int 0, .ref m27, .int 0, .ref m28, .int 0, .ref m29, .ref m30, .int (-1), .int 0, .int 0, .ref m31, .ref m32, .ref m33, .ref m34, .ref m35, .ref m36, .ref m37, .ref m38, .ref m39, .int 0, .ref m40, .int 0, .ref m41]))]) hD hS hA [0] rfl
  have hz := xz_of hN hS
  refine va_calli (va_runV (As := [.long z_18, .int x3]) (rest := [.int 0]) ⟨hx, hb, hml, hown, hts⟩ (c_Model_type_bad l D ax m0 m1 m2 m3 m4 m5 m6 m7 m8 m9 m10 m11 m12 m13 m14 m15 m16 m17 m18 m19 m20 m21 m22 m23 m24 m25 m26 m27 m28 m29 m30 m31 m32 m33 m34 m35 m36 m37 m38 m39 m40 m41 m42 z_18 x3 H_10.size hq0) (xcV (n := 2) hts wd_1261 wd_15 wd_1258 wd_1259 wd_1260 rfl rfl (by decide +kernel) ⟨Nat.le_of_ble_eq_true rfl, Nat.le_of_ble_eq_true rfl⟩) (xpV (ci := 11) (q0 := 0) (As := [.long z_18, .int x3]) hPc hK hz hDc rfl rfl) rfl rfl hl1.1 rfl (lv_room (Nat.le_of_ble_eq_true rfl)) d_lawm_173 ⟨Nat.le_of_ble_eq_true rfl, Nat.le_of_ble_eq_true rfl⟩) hS (fun q _ h => hFc q h) hFc (fun r_22 u_20 t H_21 locs ht hvm hw hB hz1 hk1 hS => ?_)
  try dsimp only at hw
  subst hw
  obtain ⟨hP, hD⟩ := va_join (wr := []) (w1 := []) hP hD [0] [] rfl rfl (by decide) (by decide) hk1 hFc x_nilP x_nilD
  have hP : va_P D classes [] H_21 := hP
  have hD : va_D (fun q : Nat => s.heap.size ≤ q) [] := hD
  refine lv_icmp_eq (tgt := 841) hx hb d_lawm_176 (by decide) (fun c_23 => ?_) (fun c_23 => ?_)
  rotate_left
  · first | exact absurd c_23 (by decide) | exact absurd (by decide) c_23
  refine lv_iinc (v := 4) (lv' := [(4, .int 4), (3, .ref o0), (2, .ref m0), (1, .ref a0), (0, .ref b)]) hx hb d_lawm_841 hl1 (k := 0) rfl (by decide) (by decide) rfl (fun ls hl1 => ?_)
  refine lv_goto (tgt := 23) hx hb d_lawm_844 (by decide) ?_
  refine lv_iload hx hb d_lawm_23 (lv_at hl1 0 rfl) ?_
  refine lv_aload_n hx hb d_lawm_25 rfl (lv_at hl1 4 rfl) ?_
  refine va_slen hx hb hX hbl hbA hS d_lawm_26 ?_
  refine lv_topi (fun z_24 ez_24 => ?_)
  have ez_24 : z_24 = 4 := ez_24.trans (by first | rfl | decide)
  subst ez_24
  refine lv_iconst (v := 4) hx hb d_lawm_27 (by decide) ?_
  refine lv_isub hx hb d_lawm_28 ?_
  refine lv_topi (fun z_25 ez_25 => ?_)
  have ez_25 : z_25 = 0 := ez_25.trans (by first | rfl | decide)
  subst ez_25
  refine lv_icmp_gt (tgt := 847) hx hb d_lawm_29 (by decide) (fun c_26 => ?_) (fun c_26 => ?_)
  rotate_left
  · first | exact absurd c_26 (by decide) | exact absurd (by decide) c_26
  refine lv_iconst (v := 1) hx hb d_lawm_847 (by decide) ?_
  refine va_forget (fun q hq => hS.2.2 q hq) ?_
  refine W.widen (k := 600002) (n := 7302232) (Nat.le_of_ble_eq_true rfl) (Nat.le_of_ble_eq_true rfl) ?_
  exact lw_ret hx hb hr hlocks d_lawm_848
set_option maxHeartbeats 4000000 in
set_option maxRecDepth 100000 in
theorem lc_pre {p : Program} {l : Launch} {e : Env} {s : State} {m : MethodId} {below : List Frame} {meth : Method} {c : Code} {D : va_G} {ax : Nat → ClassId} {b : Nat} {xs : Nat → Int32} (hl : l.stackTraces = false) (C0 : lw_At p s m meth c b 4 xs) (hK : xk D ax s) {a0 a1 a4 a5 a11 a19 a24 a26 a28 a32 a36 a40 a56 a2 a3 a37 a38 a39 m0 m1 m2 m42 m3 m4 m5 m6 m7 m8 m9 m10 m11 m12 m13 m14 m15 m16 m17 m18 m19 m20 m21 m22 m23 m24 m25 m26 m27 m28 m29 m30 m31 m32 m33 m34 m35 m36 m37 m38 m39 m40 m41 o0 : Nat} {x1 x2 x3 : Int32} (hx1 : xs (Int32.toNatClampNeg 1) = x1) (hx2 : xs (Int32.toNatClampNeg 2) = x2) (hx3 : xs (Int32.toNatClampNeg 3) = x3) {H : Heap} {locs : List Loc} {ls : Array Slot} (hP : va_P D classes [(a0, .inr (10, [.ref a1, .ref a4, .ref a5, .ref a11, .ref a19, .ref a24, .ref a26, .ref a28, .ref a32, .ref a36, .ref a40, .ref a56, .int 0])), (a1, .inr (9, [.ref a2, .ref a3, .int 0, .int 0, .int 0, .int (-1), .int 0, .int 0])), (a2, .inl (ax 1, 400, .inl (fun _ => 0))), (a3, .inl (ax 0, 401, .inl (fun _ => 0))), (a4, .inr (7, [.ref a1, .null, .null, .int 0, .int 0])), (a36, .inr (4, [.ref a37, .ref a38, .ref a39, .int 0])), (a37, .inl (ax 1, 8, .inl (fun _ => 0))), (a38, .inl (ax 0, 8, .inl (fun _ => 0))), (a39, .inl (ax 0, 8, .inl (fun _ => 0))), (m0, .inr (11, [.int 0, .int 0, .ref m1, .int 0, .int 0, .ref m2, .int 0, .int 0, .int 0, .int 0, .int 0, .ref m42, .ref m3, .ref m4, .int 0, .int 0, .ref m5, .ref m6, .ref m7, .ref m8, .ref m9, .ref m10, .ref m11, .ref m12, .ref m13, .ref m14, .ref m15, .ref m16, .ref m17, .ref m18, .ref m19, .int 0, .ref m20, .int 0, .ref m21, .int 0, .int 0, .int 0, .int 0, .int 0, .int 0, .int 0, .ref m22, .int 0, .int 0, .ref m23, .ref m24, .ref m25, .ref m26, .int 0, .ref m27, .int 0, .ref m28, .int 0, .ref m29, .ref m30, .int (-1), .int 0, .int 0, .ref m31, .ref m32, .ref m33, .ref m34, .ref m35, .ref m36, .ref m37, .ref m38, .ref m39, .int 0, .ref m40, .int 0, .ref m41]))] H) (hD : va_D (fun q : Nat => s.heap.size ≤ q) [(a0, .inr (10, [.ref a1, .ref a4, .ref a5, .ref a11, .ref a19, .ref a24, .ref a26, .ref a28, .ref a32, .ref a36, .ref a40, .ref a56, .int 0])), (a1, .inr (9, [.ref a2, .ref a3, .int 0, .int 0, .int 0, .int (-1), .int 0, .int 0])), (a2, .inl (ax 1, 400, .inl (fun _ => 0))), (a3, .inl (ax 0, 401, .inl (fun _ => 0))), (a4, .inr (7, [.ref a1, .null, .null, .int 0, .int 0])), (a36, .inr (4, [.ref a37, .ref a38, .ref a39, .int 0])), (a37, .inl (ax 1, 8, .inl (fun _ => 0))), (a38, .inl (ax 0, 8, .inl (fun _ => 0))), (a39, .inl (ax 0, 8, .inl (fun _ => 0))), (m0, .inr (11, [.int 0, .int 0, .ref m1, .int 0, .int 0, .ref m2, .int 0, .int 0, .int 0, .int 0, .int 0, .ref m42, .ref m3, .ref m4, .int 0, .int 0, .ref m5, .ref m6, .ref m7, .ref m8, .ref m9, .ref m10, .ref m11, .ref m12, .ref m13, .ref m14, .ref m15, .ref m16, .ref m17, .ref m18, .ref m19, .int 0, .ref m20, .int 0, .ref m21, .int 0, .int 0, .int 0, .int 0, .int 0, .int 0, .int 0, .ref m22, .int 0, .int 0, .ref m23, .ref m24, .ref m25, .ref m26, .int 0, .ref m27, .int 0, .ref m28, .int 0, .ref m29, .ref m30, .int (-1), .int 0, .int 0, .ref m31, .ref m32, .ref m33, .ref m34, .ref m35, .ref m36, .ref m37, .ref m38, .ref m39, .int 0, .ref m40, .int 0, .ref m41]))]) (hS : va_S (fun q : Nat => s.heap.size ≤ q) s.heap H locs) (hl1 : lv_has ls 8 [(4, .int 0), (3, .ref o0), (2, .ref m0), (1, .ref a0), (0, .ref b)]) : W p l e room_1 s m #[Value.ref b] below meth c H locs 116 904940 (lw_Z below #[Value.ref b] s) (F0 m 181 ls []) := by
  obtain ⟨hx, hb, hr, hml, hown, hts0, hX, hbl, hlocks, hgv⟩ := id C0
  have hts : ∀ w ∈ lw_gd, w.before #[Value.ref b] s = true := fun w hw => hts0 w (List.mem_filter.mp hw).1
  have hA : ∀ q : Nat, s.heap.size ≤ q → (fun q : Nat => s.heap.size ≤ q) q := fun _ h => h
  have hbA : ¬ (fun q : Nat => s.heap.size ≤ q) b := Nat.not_le.mpr hbl
  have hN : ∀ (q : Nat) (cell : Cell), s.heap[q]? = some cell → cell.vm.isStatics = true → ¬ (fun q : Nat => s.heap.size ≤ q) q := fun q cell h _ => Nat.not_le.mpr (Array.getElem?_eq_some_iff.mp h).1
  refine lv_aload_n hx hb d_lawm_181 rfl (lv_at hl1 3 rfl) ?_
  have hPc := hP.sub (ws' := [(a0, .inr (10, [.ref a1, .ref a4, .ref a5, .ref a11, .ref a19, .ref a24, .ref a26, .ref a28, .ref a32, .ref a36, .ref a40, .ref a56, .int 0])), (a4, .inr (7, [.ref a1, .null, .null, .int 0, .int 0])), (a1, .inr (9, [.ref a2, .ref a3, .int 0, .int 0, .int 0, .int (-1), .int 0, .int 0])), (a2, .inl (ax 1, 400, .inl (fun _ => 0))), (a3, .inl (ax 0, 401, .inl (fun _ => 0))), (a36, .inr (4, [.ref a37, .ref a38, .ref a39, .int 0])), (a37, .inl (ax 1, 8, .inl (fun _ => 0))), (a38, .inl (ax 0, 8, .inl (fun _ => 0))), (a39, .inl (ax 0, 8, .inl (fun _ => 0)))]) [0, 4, 1, 2, 3, 5, 6, 7, 8] rfl
  have hDc := hD.sub (ws' := [(a0, .inr (10, [.ref a1, .ref a4, .ref a5, .ref a11, .ref a19, .ref a24, .ref a26, .ref a28, .ref a32, .ref a36, .ref a40, .ref a56, .int 0])), (a4, .inr (7, [.ref a1, .null, .null, .int 0, .int 0])), (a1, .inr (9, [.ref a2, .ref a3, .int 0, .int 0, .int 0, .int (-1), .int 0, .int 0])), (a2, .inl (ax 1, 400, .inl (fun _ => 0))), (a3, .inl (ax 0, 401, .inl (fun _ => 0))), (a36, .inr (4, [.ref a37, .ref a38, .ref a39, .int 0])), (a37, .inl (ax 1, 8, .inl (fun _ => 0))), (a38, .inl (ax 0, 8, .inl (fun _ => 0))), (a39, .inl (ax 0, 8, .inl (fun _ => 0)))]) [0, 4, 1, 2, 3, 5, 6, 7, 8] (by decide) rfl
  have hFc := va_free (wc := [(a0, .inr (10, [.ref a1, .ref a4, .ref a5, .ref a11, .ref a19, .ref a24, .ref a26, .ref a28, .ref a32, .ref a36, .ref a40, .ref a56, .int 0])), (a4, .inr (7, [.ref a1, .null, .null, .int 0, .int 0])), (a1, .inr (9, [.ref a2, .ref a3, .int 0, .int 0, .int 0, .int (-1), .int 0, .int 0])), (a2, .inl (ax 1, 400, .inl (fun _ => 0))), (a3, .inl (ax 0, 401, .inl (fun _ => 0))), (a36, .inr (4, [.ref a37, .ref a38, .ref a39, .int 0])), (a37, .inl (ax 1, 8, .inl (fun _ => 0))), (a38, .inl (ax 0, 8, .inl (fun _ => 0))), (a39, .inl (ax 0, 8, .inl (fun _ => 0)))]) hD hS hA [0, 4, 1, 2, 3, 5, 6, 7, 8] rfl
  have hz := xz_of hN hS
  refine va_calli (va_runV (As := []) (rest := []) ⟨hx, hb, hml, hown, hts⟩ (c_Desk_pre l D ax a0 a1 a4 a5 a11 a19 a24 a26 a28 a32 a36 a40 a56 a2 a3 a37 a38 a39 H.size) (xcV (n := 0) hts wd_426 wd_1 wd_423 wd_424 wd_425 rfl rfl (by decide +kernel) ⟨Nat.le_of_ble_eq_true rfl, Nat.le_of_ble_eq_true rfl⟩) (xpV (ci := 10) (q0 := 0) (As := []) hPc hK hz hDc rfl rfl) rfl rfl hl1.1 rfl (lv_room (Nat.le_of_ble_eq_true rfl)) d_lawm_182 ⟨Nat.le_of_ble_eq_true rfl, Nat.le_of_ble_eq_true rfl⟩) hS (fun q _ h => hFc q h) hFc (fun r_3 u_1 t H_2 locs ht hvm hw hB hz1 hk1 hS => ?_)
  try dsimp only at hw
  subst hw
  obtain ⟨hP, hD⟩ := va_join (wr := [(m0, .inr (11, [.int 0, .int 0, .ref m1, .int 0, .int 0, .ref m2, .int 0, .int 0, .int 0, .int 0, .int 0, .ref m42, .ref m3, .ref m4, .int 0, .int 0, .ref m5, .ref m6, .ref m7, .ref m8, .ref m9, .ref m10, .ref m11, .ref m12, .ref m13, .ref m14, .ref m15, .ref m16, .ref m17, .ref m18, .ref m19, .int 0, .ref m20, .int 0, .ref m21, .int 0, .int 0, .int 0, .int 0, .int 0, .int 0, .int 0, .ref m22, .int 0, .int 0, .ref m23, .ref m24, .ref m25, .ref m26, .int 0, .ref m27, .int 0, .ref m28, .int 0, .ref m29, .ref m30, .int (-1), .int 0, .int 0, .ref m31, .ref m32, .ref m33, .ref m34, .ref m35, .ref m36, .ref m37, .ref m38, .ref m39, .int 0, .ref m40, .int 0, .ref m41]))]) (w1 := []) hP hD [0, 4, 1, 2, 3, 5, 6, 7, 8] [9] rfl rfl (by decide) (by decide) hk1 hFc x_nilP x_nilD
  have hP : va_P D classes [(m0, .inr (11, [.int 0, .int 0, .ref m1, .int 0, .int 0, .ref m2, .int 0, .int 0, .int 0, .int 0, .int 0, .ref m42, .ref m3, .ref m4, .int 0, .int 0, .ref m5, .ref m6, .ref m7, .ref m8, .ref m9, .ref m10, .ref m11, .ref m12, .ref m13, .ref m14, .ref m15, .ref m16, .ref m17, .ref m18, .ref m19, .int 0, .ref m20, .int 0, .ref m21, .int 0, .int 0, .int 0, .int 0, .int 0, .int 0, .int 0, .ref m22, .int 0, .int 0, .ref m23, .ref m24, .ref m25, .ref m26, .int 0, .ref m27, .int 0, .ref m28, .int 0, .ref m29, .ref m30, .int (-1), .int 0, .int 0, .ref m31, .ref m32, .ref m33, .ref m34, .ref m35, .ref m36, .ref m37, .ref m38, .ref m39, .int 0, .ref m40, .int 0, .ref m41]))] H_2 := hP
  have hD : va_D (fun q : Nat => s.heap.size ≤ q) [(m0, .inr (11, [.int 0, .int 0, .ref m1, .int 0, .int 0, .ref m2, .int 0, .int 0, .int 0, .int 0, .int 0, .ref m42, .ref m3, .ref m4, .int 0, .int 0, .ref m5, .ref m6, .ref m7, .ref m8, .ref m9, .ref m10, .ref m11, .ref m12, .ref m13, .ref m14, .ref m15, .ref m16, .ref m17, .ref m18, .ref m19, .int 0, .ref m20, .int 0, .ref m21, .int 0, .int 0, .int 0, .int 0, .int 0, .int 0, .int 0, .ref m22, .int 0, .int 0, .ref m23, .ref m24, .ref m25, .ref m26, .int 0, .ref m27, .int 0, .ref m28, .int 0, .ref m29, .ref m30, .int (-1), .int 0, .int 0, .ref m31, .ref m32, .ref m33, .ref m34, .ref m35, .ref m36, .ref m37, .ref m38, .ref m39, .int 0, .ref m40, .int 0, .ref m41]))] := hD
  refine lv_aload_n hx hb d_lawm_185 rfl (lv_at hl1 2 rfl) ?_
  have hPc := hP.sub (ws' := [(m0, .inr (11, [.int 0, .int 0, .ref m1, .int 0, .int 0, .ref m2, .int 0, .int 0, .int 0, .int 0, .int 0, .ref m42, .ref m3, .ref m4, .int 0, .int 0, .ref m5, .ref m6, .ref m7, .ref m8, .ref m9, .ref m10, .ref m11, .ref m12, .ref m13, .ref m14, .ref m15, .ref m16, .ref m17, .ref m18, .ref m19, .int 0, .ref m20, .int 0, .ref m21, .int 0, .int 0, .int 0, .int 0, .int 0, .int 0, .int 0, .ref m22, .int 0, .int 0, .ref m23, .ref m24, .ref m25, .ref m26, .int 0, .ref m27, .int 0, .ref m28, .int 0, .ref m29, .ref m30, .int (-1), .int 0, .int 0, .ref m31, .ref m32, .ref m33, .ref m34, .ref m35, .ref m36, .ref m37, .ref m38, .ref m39, .int 0, .ref m40, .int 0, .ref m41]))]) [0] rfl
  have hDc := hD.sub (ws' := [(m0, .inr (11, [.int 0, .int 0, .ref m1, .int 0, .int 0, .ref m2, .int 0, .int 0, .int 0, .int 0, .int 0, .ref m42, .ref m3, .ref m4, .int 0, .int 0, .ref m5, .ref m6, .ref m7, .ref m8, .ref m9, .ref m10, .ref m11, .ref m12, .ref m13, .ref m14, .ref m15, .ref m16, .ref m17, .ref m18, .ref m19, .int 0, .ref m20, .int 0, .ref m21, .int 0, .int 0, .int 0, .int 0, .int 0, .int 0, .int 0, .ref m22, .int 0, .int 0, .ref m23, .ref m24, .ref m25, .ref m26, .int 0, .ref m27, .int 0, .ref m28, .int 0, .ref m29, .ref m30, .int (-1), .int 0, .int 0, .ref m31, .ref m32, .ref m33, .ref m34, .ref m35, .ref m36, .ref m37, .ref m38, .ref m39, .int 0, .ref m40, .int 0, .ref m41]))]) [0] (by decide) rfl
  have hFc := va_free (wc := [(m0, .inr (11, [.int 0, .int 0, .ref m1, .int 0, .int 0, .ref m2, .int 0, .int 0, .int 0, .int 0, .int 0, .ref m42, .ref m3, .ref m4, .int 0, .int 0, .ref m5, .ref m6, .ref m7, .ref m8, .ref m9, .ref m10, .ref m11, .ref m12, .ref m13, .ref m14, .ref m15, .ref m16, .ref m17, .ref m18, .ref m19, .int 0, .ref m20, .int 0, .ref m21, .int 0, .int 0, .int 0, .int 0, .int 0, .int 0, .int 0, .ref m22, .int 0, .int 0, .ref m23, .ref m24, .ref m25, .ref m26, .int 0, .ref m27, .int 0, .ref m28, .int 0, .ref m29, .ref m30, .int (-1), .int 0, .int 0, .ref m31, .ref m32, .ref m33, .ref m34, .ref m35, .ref m36, .ref m37, .ref m38, .ref m39, .int 0, .ref m40, .int 0, .ref m41]))]) hD hS hA [0] rfl
  have hz := xz_of hN hS
  refine va_calli (va_runV (As := []) (rest := [.int 1]) ⟨hx, hb, hml, hown, hts⟩ (c_Model_pre l D ax m0 m1 m2 m3 m4 m5 m6 m7 m8 m9 m10 m11 m12 m13 m14 m15 m16 m17 m18 m19 m20 m21 m22 m23 m24 m25 m26 m27 m28 m29 m30 m31 m32 m33 m34 m35 m36 m37 m38 m39 m40 m41 m42 H_2.size) (xcV (n := 0) hts wd_1266 wd_15 wd_1263 wd_1264 wd_1265 rfl rfl (by decide +kernel) ⟨Nat.le_of_ble_eq_true rfl, Nat.le_of_ble_eq_true rfl⟩) (xpV (ci := 11) (q0 := 0) (As := []) hPc hK hz hDc rfl rfl) rfl rfl hl1.1 rfl (lv_room (Nat.le_of_ble_eq_true rfl)) d_lawm_186 ⟨Nat.le_of_ble_eq_true rfl, Nat.le_of_ble_eq_true rfl⟩) hS (fun q _ h => hFc q h) hFc (fun r_6 u_4 t H_5 locs ht hvm hw hB hz1 hk1 hS => ?_)
  try dsimp only at hw
  subst hw
  obtain ⟨hP, hD⟩ := va_join (wr := []) (w1 := []) hP hD [0] [] rfl rfl (by decide) (by decide) hk1 hFc x_nilP x_nilD
  have hP : va_P D classes [] H_5 := hP
  have hD : va_D (fun q : Nat => s.heap.size ≤ q) [] := hD
  refine lv_icmp_eq (tgt := 841) hx hb d_lawm_189 (by decide) (fun c_7 => ?_) (fun c_7 => ?_)
  rotate_left
  · first | exact absurd c_7 (by decide) | exact absurd (by decide) c_7
  refine lv_iinc (v := 4) (lv' := [(4, .int 4), (3, .ref o0), (2, .ref m0), (1, .ref a0), (0, .ref b)]) hx hb d_lawm_841 hl1 (k := 0) rfl (by decide) (by decide) rfl (fun ls hl1 => ?_)
  refine lv_goto (tgt := 23) hx hb d_lawm_844 (by decide) ?_
  refine lv_iload hx hb d_lawm_23 (lv_at hl1 0 rfl) ?_
  refine lv_aload_n hx hb d_lawm_25 rfl (lv_at hl1 4 rfl) ?_
  refine va_slen hx hb hX hbl hbA hS d_lawm_26 ?_
  refine lv_topi (fun z_8 ez_8 => ?_)
  have ez_8 : z_8 = 4 := ez_8.trans (by first | rfl | decide)
  subst ez_8
  refine lv_iconst (v := 4) hx hb d_lawm_27 (by decide) ?_
  refine lv_isub hx hb d_lawm_28 ?_
  refine lv_topi (fun z_9 ez_9 => ?_)
  have ez_9 : z_9 = 0 := ez_9.trans (by first | rfl | decide)
  subst ez_9
  refine lv_icmp_gt (tgt := 847) hx hb d_lawm_29 (by decide) (fun c_10 => ?_) (fun c_10 => ?_)
  rotate_left
  · first | exact absurd c_10 (by decide) | exact absurd (by decide) c_10
  refine lv_iconst (v := 1) hx hb d_lawm_847 (by decide) ?_
  refine va_forget (fun q hq => hS.2.2 q hq) ?_
  refine W.widen (k := 600002) (n := 7302232) (Nat.le_of_ble_eq_true rfl) (Nat.le_of_ble_eq_true rfl) ?_
  exact lw_ret hx hb hr hlocks d_lawm_848
set_option maxHeartbeats 4000000 in
set_option maxRecDepth 100000 in
theorem lc_post {p : Program} {l : Launch} {e : Env} {s : State} {m : MethodId} {below : List Frame} {meth : Method} {c : Code} {D : va_G} {ax : Nat → ClassId} {b : Nat} {xs : Nat → Int32} (hl : l.stackTraces = false) (C0 : lw_At p s m meth c b 4 xs) (hK : xk D ax s) {a0 a1 a4 a5 a11 a19 a24 a26 a28 a32 a36 a40 a56 a2 a3 a37 a38 a39 m0 m1 m2 m42 m3 m4 m5 m6 m7 m8 m9 m10 m11 m12 m13 m14 m15 m16 m17 m18 m19 m20 m21 m22 m23 m24 m25 m26 m27 m28 m29 m30 m31 m32 m33 m34 m35 m36 m37 m38 m39 m40 m41 o0 : Nat} {x1 x2 x3 : Int32} (hx1 : xs (Int32.toNatClampNeg 1) = x1) (hx2 : xs (Int32.toNatClampNeg 2) = x2) (hx3 : xs (Int32.toNatClampNeg 3) = x3) {H : Heap} {locs : List Loc} {ls : Array Slot} (hP : va_P D classes [(a0, .inr (10, [.ref a1, .ref a4, .ref a5, .ref a11, .ref a19, .ref a24, .ref a26, .ref a28, .ref a32, .ref a36, .ref a40, .ref a56, .int 0])), (a1, .inr (9, [.ref a2, .ref a3, .int 0, .int 0, .int 0, .int (-1), .int 0, .int 0])), (a2, .inl (ax 1, 400, .inl (fun _ => 0))), (a3, .inl (ax 0, 401, .inl (fun _ => 0))), (a4, .inr (7, [.ref a1, .null, .null, .int 0, .int 0])), (a36, .inr (4, [.ref a37, .ref a38, .ref a39, .int 0])), (a37, .inl (ax 1, 8, .inl (fun _ => 0))), (a38, .inl (ax 0, 8, .inl (fun _ => 0))), (a39, .inl (ax 0, 8, .inl (fun _ => 0))), (m0, .inr (11, [.int 0, .int 0, .ref m1, .int 0, .int 0, .ref m2, .int 0, .int 0, .int 0, .int 0, .int 0, .ref m42, .ref m3, .ref m4, .int 0, .int 0, .ref m5, .ref m6, .ref m7, .ref m8, .ref m9, .ref m10, .ref m11, .ref m12, .ref m13, .ref m14, .ref m15, .ref m16, .ref m17, .ref m18, .ref m19, .int 0, .ref m20, .int 0, .ref m21, .int 0, .int 0, .int 0, .int 0, .int 0, .int 0, .int 0, .ref m22, .int 0, .int 0, .ref m23, .ref m24, .ref m25, .ref m26, .int 0, .ref m27, .int 0, .ref m28, .int 0, .ref m29, .ref m30, .int (-1), .int 0, .int 0, .ref m31, .ref m32, .ref m33, .ref m34, .ref m35, .ref m36, .ref m37, .ref m38, .ref m39, .int 0, .ref m40, .int 0, .ref m41]))] H) (hD : va_D (fun q : Nat => s.heap.size ≤ q) [(a0, .inr (10, [.ref a1, .ref a4, .ref a5, .ref a11, .ref a19, .ref a24, .ref a26, .ref a28, .ref a32, .ref a36, .ref a40, .ref a56, .int 0])), (a1, .inr (9, [.ref a2, .ref a3, .int 0, .int 0, .int 0, .int (-1), .int 0, .int 0])), (a2, .inl (ax 1, 400, .inl (fun _ => 0))), (a3, .inl (ax 0, 401, .inl (fun _ => 0))), (a4, .inr (7, [.ref a1, .null, .null, .int 0, .int 0])), (a36, .inr (4, [.ref a37, .ref a38, .ref a39, .int 0])), (a37, .inl (ax 1, 8, .inl (fun _ => 0))), (a38, .inl (ax 0, 8, .inl (fun _ => 0))), (a39, .inl (ax 0, 8, .inl (fun _ => 0))), (m0, .inr (11, [.int 0, .int 0, .ref m1, .int 0, .int 0, .ref m2, .int 0, .int 0, .int 0, .int 0, .int 0, .ref m42, .ref m3, .ref m4, .int 0, .int 0, .ref m5, .ref m6, .ref m7, .ref m8, .ref m9, .ref m10, .ref m11, .ref m12, .ref m13, .ref m14, .ref m15, .ref m16, .ref m17, .ref m18, .ref m19, .int 0, .ref m20, .int 0, .ref m21, .int 0, .int 0, .int 0, .int 0, .int 0, .int 0, .int 0, .ref m22, .int 0, .int 0, .ref m23, .ref m24, .ref m25, .ref m26, .int 0, .ref m27, .int 0, .ref m28, .int 0, .ref m29, .ref m30, .int (-1), .int 0, .int 0, .ref m31, .ref m32, .ref m33, .ref m34, .ref m35, .ref m36, .ref m37, .ref m38, .ref m39, .int 0, .ref m40, .int 0, .ref m41]))]) (hS : va_S (fun q : Nat => s.heap.size ≤ q) s.heap H locs) (hl1 : lv_has ls 8 [(4, .int 0), (3, .ref o0), (2, .ref m0), (1, .ref a0), (0, .ref b)]) : W p l e room_1 s m #[Value.ref b] below meth c H locs 116 904940 (lw_Z below #[Value.ref b] s) (F0 m 194 ls []) := by
  obtain ⟨hx, hb, hr, hml, hown, hts0, hX, hbl, hlocks, hgv⟩ := id C0
  have hts : ∀ w ∈ lw_gd, w.before #[Value.ref b] s = true := fun w hw => hts0 w (List.mem_filter.mp hw).1
  have hA : ∀ q : Nat, s.heap.size ≤ q → (fun q : Nat => s.heap.size ≤ q) q := fun _ h => h
  have hbA : ¬ (fun q : Nat => s.heap.size ≤ q) b := Nat.not_le.mpr hbl
  have hN : ∀ (q : Nat) (cell : Cell), s.heap[q]? = some cell → cell.vm.isStatics = true → ¬ (fun q : Nat => s.heap.size ≤ q) q := fun q cell h _ => Nat.not_le.mpr (Array.getElem?_eq_some_iff.mp h).1
  refine lv_aload_n hx hb d_lawm_194 rfl (lv_at hl1 3 rfl) ?_
  have hPc := hP.sub (ws' := [(a0, .inr (10, [.ref a1, .ref a4, .ref a5, .ref a11, .ref a19, .ref a24, .ref a26, .ref a28, .ref a32, .ref a36, .ref a40, .ref a56, .int 0])), (a4, .inr (7, [.ref a1, .null, .null, .int 0, .int 0])), (a1, .inr (9, [.ref a2, .ref a3, .int 0, .int 0, .int 0, .int (-1), .int 0, .int 0])), (a2, .inl (ax 1, 400, .inl (fun _ => 0))), (a3, .inl (ax 0, 401, .inl (fun _ => 0))), (a36, .inr (4, [.ref a37, .ref a38, .ref a39, .int 0])), (a37, .inl (ax 1, 8, .inl (fun _ => 0))), (a38, .inl (ax 0, 8, .inl (fun _ => 0))), (a39, .inl (ax 0, 8, .inl (fun _ => 0)))]) [0, 4, 1, 2, 3, 5, 6, 7, 8] rfl
  have hDc := hD.sub (ws' := [(a0, .inr (10, [.ref a1, .ref a4, .ref a5, .ref a11, .ref a19, .ref a24, .ref a26, .ref a28, .ref a32, .ref a36, .ref a40, .ref a56, .int 0])), (a4, .inr (7, [.ref a1, .null, .null, .int 0, .int 0])), (a1, .inr (9, [.ref a2, .ref a3, .int 0, .int 0, .int 0, .int (-1), .int 0, .int 0])), (a2, .inl (ax 1, 400, .inl (fun _ => 0))), (a3, .inl (ax 0, 401, .inl (fun _ => 0))), (a36, .inr (4, [.ref a37, .ref a38, .ref a39, .int 0])), (a37, .inl (ax 1, 8, .inl (fun _ => 0))), (a38, .inl (ax 0, 8, .inl (fun _ => 0))), (a39, .inl (ax 0, 8, .inl (fun _ => 0)))]) [0, 4, 1, 2, 3, 5, 6, 7, 8] (by decide) rfl
  have hFc := va_free (wc := [(a0, .inr (10, [.ref a1, .ref a4, .ref a5, .ref a11, .ref a19, .ref a24, .ref a26, .ref a28, .ref a32, .ref a36, .ref a40, .ref a56, .int 0])), (a4, .inr (7, [.ref a1, .null, .null, .int 0, .int 0])), (a1, .inr (9, [.ref a2, .ref a3, .int 0, .int 0, .int 0, .int (-1), .int 0, .int 0])), (a2, .inl (ax 1, 400, .inl (fun _ => 0))), (a3, .inl (ax 0, 401, .inl (fun _ => 0))), (a36, .inr (4, [.ref a37, .ref a38, .ref a39, .int 0])), (a37, .inl (ax 1, 8, .inl (fun _ => 0))), (a38, .inl (ax 0, 8, .inl (fun _ => 0))), (a39, .inl (ax 0, 8, .inl (fun _ => 0)))]) hD hS hA [0, 4, 1, 2, 3, 5, 6, 7, 8] rfl
  have hz := xz_of hN hS
  refine va_calli (va_runV (As := []) (rest := []) ⟨hx, hb, hml, hown, hts⟩ (c_Desk_post l D ax a0 a1 a4 a5 a11 a19 a24 a26 a28 a32 a36 a40 a56 a2 a3 a37 a38 a39 H.size) (xcV (n := 0) hts wd_596 wd_1 wd_593 wd_594 wd_595 rfl rfl (by decide +kernel) ⟨Nat.le_of_ble_eq_true rfl, Nat.le_of_ble_eq_true rfl⟩) (xpV (ci := 10) (q0 := 0) (As := []) hPc hK hz hDc rfl rfl) rfl rfl hl1.1 rfl (lv_room (Nat.le_of_ble_eq_true rfl)) d_lawm_195 ⟨Nat.le_of_ble_eq_true rfl, Nat.le_of_ble_eq_true rfl⟩) hS (fun q _ h => hFc q h) hFc (fun r_3 u_1 t H_2 locs ht hvm hw hB hz1 hk1 hS => ?_)
  try dsimp only at hw
  subst hw
  obtain ⟨hP, hD⟩ := va_join (wr := [(m0, .inr (11, [.int 0, .int 0, .ref m1, .int 0, .int 0, .ref m2, .int 0, .int 0, .int 0, .int 0, .int 0, .ref m42, .ref m3, .ref m4, .int 0, .int 0, .ref m5, .ref m6, .ref m7, .ref m8, .ref m9, .ref m10, .ref m11, .ref m12, .ref m13, .ref m14, .ref m15, .ref m16, .ref m17, .ref m18, .ref m19, .int 0, .ref m20, .int 0, .ref m21, .int 0, .int 0, .int 0, .int 0, .int 0, .int 0, .int 0, .ref m22, .int 0, .int 0, .ref m23, .ref m24, .ref m25, .ref m26, .int 0, .ref m27, .int 0, .ref m28, .int 0, .ref m29, .ref m30, .int (-1), .int 0, .int 0, .ref m31, .ref m32, .ref m33, .ref m34, .ref m35, .ref m36, .ref m37, .ref m38, .ref m39, .int 0, .ref m40, .int 0, .ref m41]))]) (w1 := []) hP hD [0, 4, 1, 2, 3, 5, 6, 7, 8] [9] rfl rfl (by decide) (by decide) hk1 hFc x_nilP x_nilD
  have hP : va_P D classes [(m0, .inr (11, [.int 0, .int 0, .ref m1, .int 0, .int 0, .ref m2, .int 0, .int 0, .int 0, .int 0, .int 0, .ref m42, .ref m3, .ref m4, .int 0, .int 0, .ref m5, .ref m6, .ref m7, .ref m8, .ref m9, .ref m10, .ref m11, .ref m12, .ref m13, .ref m14, .ref m15, .ref m16, .ref m17, .ref m18, .ref m19, .int 0, .ref m20, .int 0, .ref m21, .int 0, .int 0, .int 0, .int 0, .int 0, .int 0, .int 0, .ref m22, .int 0, .int 0, .ref m23, .ref m24, .ref m25, .ref m26, .int 0, .ref m27, .int 0, .ref m28, .int 0, .ref m29, .ref m30, .int (-1), .int 0, .int 0, .ref m31, .ref m32, .ref m33, .ref m34, .ref m35, .ref m36, .ref m37, .ref m38, .ref m39, .int 0, .ref m40, .int 0, .ref m41]))] H_2 := hP
  have hD : va_D (fun q : Nat => s.heap.size ≤ q) [(m0, .inr (11, [.int 0, .int 0, .ref m1, .int 0, .int 0, .ref m2, .int 0, .int 0, .int 0, .int 0, .int 0, .ref m42, .ref m3, .ref m4, .int 0, .int 0, .ref m5, .ref m6, .ref m7, .ref m8, .ref m9, .ref m10, .ref m11, .ref m12, .ref m13, .ref m14, .ref m15, .ref m16, .ref m17, .ref m18, .ref m19, .int 0, .ref m20, .int 0, .ref m21, .int 0, .int 0, .int 0, .int 0, .int 0, .int 0, .int 0, .ref m22, .int 0, .int 0, .ref m23, .ref m24, .ref m25, .ref m26, .int 0, .ref m27, .int 0, .ref m28, .int 0, .ref m29, .ref m30, .int (-1), .int 0, .int 0, .ref m31, .ref m32, .ref m33, .ref m34, .ref m35, .ref m36, .ref m37, .ref m38, .ref m39, .int 0, .ref m40, .int 0, .ref m41]))] := hD
  refine lv_aload_n hx hb d_lawm_198 rfl (lv_at hl1 2 rfl) ?_
  have hPc := hP.sub (ws' := [(m0, .inr (11, [.int 0, .int 0, .ref m1, .int 0, .int 0, .ref m2, .int 0, .int 0, .int 0, .int 0, .int 0, .ref m42, .ref m3, .ref m4, .int 0, .int 0, .ref m5, .ref m6, .ref m7, .ref m8, .ref m9, .ref m10, .ref m11, .ref m12, .ref m13, .ref m14, .ref m15, .ref m16, .ref m17, .ref m18, .ref m19, .int 0, .ref m20, .int 0, .ref m21, .int 0, .int 0, .int 0, .int 0, .int 0, .int 0, .int 0, .ref m22, .int 0, .int 0, .ref m23, .ref m24, .ref m25, .ref m26, .int 0, .ref m27, .int 0, .ref m28, .int 0, .ref m29, .ref m30, .int (-1), .int 0, .int 0, .ref m31, .ref m32, .ref m33, .ref m34, .ref m35, .ref m36, .ref m37, .ref m38, .ref m39, .int 0, .ref m40, .int 0, .ref m41]))]) [0] rfl
  have hDc := hD.sub (ws' := [(m0, .inr (11, [.int 0, .int 0, .ref m1, .int 0, .int 0, .ref m2, .int 0, .int 0, .int 0, .int 0, .int 0, .ref m42, .ref m3, .ref m4, .int 0, .int 0, .ref m5, .ref m6, .ref m7, .ref m8, .ref m9, .ref m10, .ref m11, .ref m12, .ref m13, .ref m14, .ref m15, .ref m16, .ref m17, .ref m18, .ref m19, .int 0, .ref m20, .int 0, .ref m21, .int 0, .int 0, .int 0, .int 0, .int 0, .int 0, .int 0, .ref m22, .int 0, .int 0, .ref m23, .ref m24, .ref m25, .ref m26, .int 0, .ref m27, .int 0, .ref m28, .int 0, .ref m29, .ref m30, .int (-1), .int 0, .int 0, .ref m31, .ref m32, .ref m33, .ref m34, .ref m35, .ref m36, .ref m37, .ref m38, .ref m39, .int 0, .ref m40, .int 0, .ref m41]))]) [0] (by decide) rfl
  have hFc := va_free (wc := [(m0, .inr (11, [.int 0, .int 0, .ref m1, .int 0, .int 0, .ref m2, .int 0, .int 0, .int 0, .int 0, .int 0, .ref m42, .ref m3, .ref m4, .int 0, .int 0, .ref m5, .ref m6, .ref m7, .ref m8, .ref m9, .ref m10, .ref m11, .ref m12, .ref m13, .ref m14, .ref m15, .ref m16, .ref m17, .ref m18, .ref m19, .int 0, .ref m20, .int 0, .ref m21, .int 0, .int 0, .int 0, .int 0, .int 0, .int 0, .int 0, .ref m22, .int 0, .int 0, .ref m23, .ref m24, .ref m25, .ref m26, .int 0, .ref m27, .int 0, .ref m28, .int 0, .ref m29, .ref m30, .int (-1), .int 0, .int 0, .ref m31, .ref m32, .ref m33, .ref m34, .ref m35, .ref m36, .ref m37, .ref m38, .ref m39, .int 0, .ref m40, .int 0, .ref m41]))]) hD hS hA [0] rfl
  have hz := xz_of hN hS
  refine va_calli (va_runV (As := []) (rest := [.int 1]) ⟨hx, hb, hml, hown, hts⟩ (c_Model_post l D ax m0 m1 m2 m3 m4 m5 m6 m7 m8 m9 m10 m11 m12 m13 m14 m15 m16 m17 m18 m19 m20 m21 m22 m23 m24 m25 m26 m27 m28 m29 m30 m31 m32 m33 m34 m35 m36 m37 m38 m39 m40 m41 m42 H_2.size) (xcV (n := 0) hts wd_1363 wd_15 wd_1360 wd_1361 wd_1362 rfl rfl (by decide +kernel) ⟨Nat.le_of_ble_eq_true rfl, Nat.le_of_ble_eq_true rfl⟩) (xpV (ci := 11) (q0 := 0) (As := []) hPc hK hz hDc rfl rfl) rfl rfl hl1.1 rfl (lv_room (Nat.le_of_ble_eq_true rfl)) d_lawm_199 ⟨Nat.le_of_ble_eq_true rfl, Nat.le_of_ble_eq_true rfl⟩) hS (fun q _ h => hFc q h) hFc (fun r_6 u_4 t H_5 locs ht hvm hw hB hz1 hk1 hS => ?_)
  try dsimp only at hw
  subst hw
  obtain ⟨hP, hD⟩ := va_join (wr := []) (w1 := []) hP hD [0] [] rfl rfl (by decide) (by decide) hk1 hFc x_nilP x_nilD
  have hP : va_P D classes [] H_5 := hP
  have hD : va_D (fun q : Nat => s.heap.size ≤ q) [] := hD
  refine lv_icmp_eq (tgt := 841) hx hb d_lawm_202 (by decide) (fun c_7 => ?_) (fun c_7 => ?_)
  rotate_left
  · first | exact absurd c_7 (by decide) | exact absurd (by decide) c_7
  refine lv_iinc (v := 4) (lv' := [(4, .int 4), (3, .ref o0), (2, .ref m0), (1, .ref a0), (0, .ref b)]) hx hb d_lawm_841 hl1 (k := 0) rfl (by decide) (by decide) rfl (fun ls hl1 => ?_)
  refine lv_goto (tgt := 23) hx hb d_lawm_844 (by decide) ?_
  refine lv_iload hx hb d_lawm_23 (lv_at hl1 0 rfl) ?_
  refine lv_aload_n hx hb d_lawm_25 rfl (lv_at hl1 4 rfl) ?_
  refine va_slen hx hb hX hbl hbA hS d_lawm_26 ?_
  refine lv_topi (fun z_8 ez_8 => ?_)
  have ez_8 : z_8 = 4 := ez_8.trans (by first | rfl | decide)
  subst ez_8
  refine lv_iconst (v := 4) hx hb d_lawm_27 (by decide) ?_
  refine lv_isub hx hb d_lawm_28 ?_
  refine lv_topi (fun z_9 ez_9 => ?_)
  have ez_9 : z_9 = 0 := ez_9.trans (by first | rfl | decide)
  subst ez_9
  refine lv_icmp_gt (tgt := 847) hx hb d_lawm_29 (by decide) (fun c_10 => ?_) (fun c_10 => ?_)
  rotate_left
  · first | exact absurd c_10 (by decide) | exact absurd (by decide) c_10
  refine lv_iconst (v := 1) hx hb d_lawm_847 (by decide) ?_
  refine va_forget (fun q hq => hS.2.2 q hq) ?_
  refine W.widen (k := 600002) (n := 7302232) (Nat.le_of_ble_eq_true rfl) (Nat.le_of_ble_eq_true rfl) ?_
  exact lw_ret hx hb hr hlocks d_lawm_848
set_option maxHeartbeats 4000000 in
set_option maxRecDepth 100000 in
theorem lc_program {p : Program} {l : Launch} {e : Env} {s : State} {m : MethodId} {below : List Frame} {meth : Method} {c : Code} {D : va_G} {ax : Nat → ClassId} {b : Nat} {xs : Nat → Int32} (hl : l.stackTraces = false) (C0 : lw_At p s m meth c b 4 xs) (hK : xk D ax s) {a0 a1 a4 a5 a11 a19 a24 a26 a28 a32 a36 a40 a56 a2 a3 a57 a61 a62 a63 a64 a65 a66 a67 a68 a69 a70 a71 a58 a59 a60 m0 m1 m2 m42 m3 m4 m5 m6 m7 m8 m9 m10 m11 m12 m13 m14 m15 m16 m17 m18 m19 m20 m21 m22 m23 m24 m25 m26 m27 m28 m29 m30 m31 m32 m33 m34 m35 m36 m37 m38 m39 m40 m41 o0 : Nat} {x1 x2 x3 : Int32} (hx1 : xs (Int32.toNatClampNeg 1) = x1) (hx2 : xs (Int32.toNatClampNeg 2) = x2) (hx3 : xs (Int32.toNatClampNeg 3) = x3) {H : Heap} {locs : List Loc} {ls : Array Slot} (hP : va_P D classes [(a0, .inr (10, [.ref a1, .ref a4, .ref a5, .ref a11, .ref a19, .ref a24, .ref a26, .ref a28, .ref a32, .ref a36, .ref a40, .ref a56, .int 0])), (a1, .inr (9, [.ref a2, .ref a3, .int 0, .int 0, .int 0, .int (-1), .int 0, .int 0])), (a2, .inl (ax 1, 400, .inl (fun _ => 0))), (a3, .inl (ax 0, 401, .inl (fun _ => 0))), (a4, .inr (7, [.ref a1, .null, .null, .int 0, .int 0])), (a56, .inr (2, [.ref a57, .ref a61, .ref a62, .ref a63, .ref a64, .ref a65, .ref a66, .ref a67, .ref a68, .ref a69, .ref a70, .ref a71, .int 0, .int 0, .int 0, .int 0, .int 0])), (a57, .inr (4, [.ref a58, .ref a59, .ref a60, .int 0])), (a58, .inl (ax 1, 8, .inl (fun _ => 0))), (a59, .inl (ax 0, 8, .inl (fun _ => 0))), (a60, .inl (ax 0, 8, .inl (fun _ => 0))), (a61, .inl (ax 1, 20, .inl (fun _ => 0))), (a62, .inl (ax 1, 20, .inl (fun _ => 0))), (a63, .inl (ax 1, 20, .inl (fun _ => 0))), (a64, .inl (ax 1, 20, .inl (fun _ => 0))), (a65, .inl (ax 1, 20, .inl (fun _ => 0))), (a66, .inl (ax 2, 20, .inl (fun _ => 0))), (a67, .inl (ax 2, 20, .inl (fun _ => 0))), (a68, .inl (ax 0, 20, .inl (fun _ => 0))), (a69, .inl (ax 1, 20, .inl (fun _ => 0))), (a70, .inl (ax 1, 29, .inl (fun _ => 0))), (a71, .inl (ax 1, 29, .inl (fun _ => 0))), (m0, .inr (11, [.int 0, .int 0, .ref m1, .int 0, .int 0, .ref m2, .int 0, .int 0, .int 0, .int 0, .int 0, .ref m42, .ref m3, .ref m4, .int 0, .int 0, .ref m5, .ref m6, .ref m7, .ref m8, .ref m9, .ref m10, .ref m11, .ref m12, .ref m13, .ref m14, .ref m15, .ref m16, .ref m17, .ref m18, .ref m19, .int 0, .ref m20, .int 0, .ref m21, .int 0, .int 0, .int 0, .int 0, .int 0, .int 0, .int 0, .ref m22, .int 0, .int 0, .ref m23, .ref m24, .ref m25, .ref m26, .int 0, .ref m27, .int 0, .ref m28, .int 0, .ref m29, .ref m30, .int (-1), .int 0, .int 0, .ref m31, .ref m32, .ref m33, .ref m34, .ref m35, .ref m36, .ref m37, .ref m38, .ref m39, .int 0, .ref m40, .int 0, .ref m41])), (m5, .inl (ax 0, 2, .inl (fun _ => 0))), (m19, .inl (ax 0, 2, .inl (fun _ => 0)))] H) (hD : va_D (fun q : Nat => s.heap.size ≤ q) [(a0, .inr (10, [.ref a1, .ref a4, .ref a5, .ref a11, .ref a19, .ref a24, .ref a26, .ref a28, .ref a32, .ref a36, .ref a40, .ref a56, .int 0])), (a1, .inr (9, [.ref a2, .ref a3, .int 0, .int 0, .int 0, .int (-1), .int 0, .int 0])), (a2, .inl (ax 1, 400, .inl (fun _ => 0))), (a3, .inl (ax 0, 401, .inl (fun _ => 0))), (a4, .inr (7, [.ref a1, .null, .null, .int 0, .int 0])), (a56, .inr (2, [.ref a57, .ref a61, .ref a62, .ref a63, .ref a64, .ref a65, .ref a66, .ref a67, .ref a68, .ref a69, .ref a70, .ref a71, .int 0, .int 0, .int 0, .int 0, .int 0])), (a57, .inr (4, [.ref a58, .ref a59, .ref a60, .int 0])), (a58, .inl (ax 1, 8, .inl (fun _ => 0))), (a59, .inl (ax 0, 8, .inl (fun _ => 0))), (a60, .inl (ax 0, 8, .inl (fun _ => 0))), (a61, .inl (ax 1, 20, .inl (fun _ => 0))), (a62, .inl (ax 1, 20, .inl (fun _ => 0))), (a63, .inl (ax 1, 20, .inl (fun _ => 0))), (a64, .inl (ax 1, 20, .inl (fun _ => 0))), (a65, .inl (ax 1, 20, .inl (fun _ => 0))), (a66, .inl (ax 2, 20, .inl (fun _ => 0))), (a67, .inl (ax 2, 20, .inl (fun _ => 0))), (a68, .inl (ax 0, 20, .inl (fun _ => 0))), (a69, .inl (ax 1, 20, .inl (fun _ => 0))), (a70, .inl (ax 1, 29, .inl (fun _ => 0))), (a71, .inl (ax 1, 29, .inl (fun _ => 0))), (m0, .inr (11, [.int 0, .int 0, .ref m1, .int 0, .int 0, .ref m2, .int 0, .int 0, .int 0, .int 0, .int 0, .ref m42, .ref m3, .ref m4, .int 0, .int 0, .ref m5, .ref m6, .ref m7, .ref m8, .ref m9, .ref m10, .ref m11, .ref m12, .ref m13, .ref m14, .ref m15, .ref m16, .ref m17, .ref m18, .ref m19, .int 0, .ref m20, .int 0, .ref m21, .int 0, .int 0, .int 0, .int 0, .int 0, .int 0, .int 0, .ref m22, .int 0, .int 0, .ref m23, .ref m24, .ref m25, .ref m26, .int 0, .ref m27, .int 0, .ref m28, .int 0, .ref m29, .ref m30, .int (-1), .int 0, .int 0, .ref m31, .ref m32, .ref m33, .ref m34, .ref m35, .ref m36, .ref m37, .ref m38, .ref m39, .int 0, .ref m40, .int 0, .ref m41])), (m5, .inl (ax 0, 2, .inl (fun _ => 0))), (m19, .inl (ax 0, 2, .inl (fun _ => 0)))]) (hS : va_S (fun q : Nat => s.heap.size ≤ q) s.heap H locs) (hl1 : lv_has ls 8 [(4, .int 0), (3, .ref o0), (2, .ref m0), (1, .ref a0), (0, .ref b)]) : W p l e room_1 s m #[Value.ref b] below meth c H locs 116 904940 (lw_Z below #[Value.ref b] s) (F0 m 207 ls []) := by
  obtain ⟨hx, hb, hr, hml, hown, hts0, hX, hbl, hlocks, hgv⟩ := id C0
  have hts : ∀ w ∈ lw_gd, w.before #[Value.ref b] s = true := fun w hw => hts0 w (List.mem_filter.mp hw).1
  have hA : ∀ q : Nat, s.heap.size ≤ q → (fun q : Nat => s.heap.size ≤ q) q := fun _ h => h
  have hbA : ¬ (fun q : Nat => s.heap.size ≤ q) b := Nat.not_le.mpr hbl
  have hN : ∀ (q : Nat) (cell : Cell), s.heap[q]? = some cell → cell.vm.isStatics = true → ¬ (fun q : Nat => s.heap.size ≤ q) q := fun q cell h _ => Nat.not_le.mpr (Array.getElem?_eq_some_iff.mp h).1
  refine lv_aload_n hx hb d_lawm_207 rfl (lv_at hl1 3 rfl) ?_
  have hPc := hP.sub (ws' := [(a0, .inr (10, [.ref a1, .ref a4, .ref a5, .ref a11, .ref a19, .ref a24, .ref a26, .ref a28, .ref a32, .ref a36, .ref a40, .ref a56, .int 0])), (a4, .inr (7, [.ref a1, .null, .null, .int 0, .int 0])), (a1, .inr (9, [.ref a2, .ref a3, .int 0, .int 0, .int 0, .int (-1), .int 0, .int 0])), (a2, .inl (ax 1, 400, .inl (fun _ => 0))), (a3, .inl (ax 0, 401, .inl (fun _ => 0))), (a56, .inr (2, [.ref a57, .ref a61, .ref a62, .ref a63, .ref a64, .ref a65, .ref a66, .ref a67, .ref a68, .ref a69, .ref a70, .ref a71, .int 0, .int 0, .int 0, .int 0, .int 0])), (a57, .inr (4, [.ref a58, .ref a59, .ref a60, .int 0])), (a58, .inl (ax 1, 8, .inl (fun _ => 0))), (a59, .inl (ax 0, 8, .inl (fun _ => 0))), (a60, .inl (ax 0, 8, .inl (fun _ => 0))), (a61, .inl (ax 1, 20, .inl (fun _ => 0))), (a62, .inl (ax 1, 20, .inl (fun _ => 0))), (a63, .inl (ax 1, 20, .inl (fun _ => 0))), (a64, .inl (ax 1, 20, .inl (fun _ => 0))), (a65, .inl (ax 1, 20, .inl (fun _ => 0))), (a66, .inl (ax 2, 20, .inl (fun _ => 0))), (a67, .inl (ax 2, 20, .inl (fun _ => 0))), (a68, .inl (ax 0, 20, .inl (fun _ => 0))), (a69, .inl (ax 1, 20, .inl (fun _ => 0))), (a70, .inl (ax 1, 29, .inl (fun _ => 0))), (a71, .inl (ax 1, 29, .inl (fun _ => 0)))]) [0, 4, 1, 2, 3, 5, 6, 7, 8, 9, 10, 11, 12, 13, 14, 15, 16, 17, 18, 19, 20] rfl
  have hDc := hD.sub (ws' := [(a0, .inr (10, [.ref a1, .ref a4, .ref a5, .ref a11, .ref a19, .ref a24, .ref a26, .ref a28, .ref a32, .ref a36, .ref a40, .ref a56, .int 0])), (a4, .inr (7, [.ref a1, .null, .null, .int 0, .int 0])), (a1, .inr (9, [.ref a2, .ref a3, .int 0, .int 0, .int 0, .int (-1), .int 0, .int 0])), (a2, .inl (ax 1, 400, .inl (fun _ => 0))), (a3, .inl (ax 0, 401, .inl (fun _ => 0))), (a56, .inr (2, [.ref a57, .ref a61, .ref a62, .ref a63, .ref a64, .ref a65, .ref a66, .ref a67, .ref a68, .ref a69, .ref a70, .ref a71, .int 0, .int 0, .int 0, .int 0, .int 0])), (a57, .inr (4, [.ref a58, .ref a59, .ref a60, .int 0])), (a58, .inl (ax 1, 8, .inl (fun _ => 0))), (a59, .inl (ax 0, 8, .inl (fun _ => 0))), (a60, .inl (ax 0, 8, .inl (fun _ => 0))), (a61, .inl (ax 1, 20, .inl (fun _ => 0))), (a62, .inl (ax 1, 20, .inl (fun _ => 0))), (a63, .inl (ax 1, 20, .inl (fun _ => 0))), (a64, .inl (ax 1, 20, .inl (fun _ => 0))), (a65, .inl (ax 1, 20, .inl (fun _ => 0))), (a66, .inl (ax 2, 20, .inl (fun _ => 0))), (a67, .inl (ax 2, 20, .inl (fun _ => 0))), (a68, .inl (ax 0, 20, .inl (fun _ => 0))), (a69, .inl (ax 1, 20, .inl (fun _ => 0))), (a70, .inl (ax 1, 29, .inl (fun _ => 0))), (a71, .inl (ax 1, 29, .inl (fun _ => 0)))]) [0, 4, 1, 2, 3, 5, 6, 7, 8, 9, 10, 11, 12, 13, 14, 15, 16, 17, 18, 19, 20] (by decide) rfl
  have hFc := va_free (wc := [(a0, .inr (10, [.ref a1, .ref a4, .ref a5, .ref a11, .ref a19, .ref a24, .ref a26, .ref a28, .ref a32, .ref a36, .ref a40, .ref a56, .int 0])), (a4, .inr (7, [.ref a1, .null, .null, .int 0, .int 0])), (a1, .inr (9, [.ref a2, .ref a3, .int 0, .int 0, .int 0, .int (-1), .int 0, .int 0])), (a2, .inl (ax 1, 400, .inl (fun _ => 0))), (a3, .inl (ax 0, 401, .inl (fun _ => 0))), (a56, .inr (2, [.ref a57, .ref a61, .ref a62, .ref a63, .ref a64, .ref a65, .ref a66, .ref a67, .ref a68, .ref a69, .ref a70, .ref a71, .int 0, .int 0, .int 0, .int 0, .int 0])), (a57, .inr (4, [.ref a58, .ref a59, .ref a60, .int 0])), (a58, .inl (ax 1, 8, .inl (fun _ => 0))), (a59, .inl (ax 0, 8, .inl (fun _ => 0))), (a60, .inl (ax 0, 8, .inl (fun _ => 0))), (a61, .inl (ax 1, 20, .inl (fun _ => 0))), (a62, .inl (ax 1, 20, .inl (fun _ => 0))), (a63, .inl (ax 1, 20, .inl (fun _ => 0))), (a64, .inl (ax 1, 20, .inl (fun _ => 0))), (a65, .inl (ax 1, 20, .inl (fun _ => 0))), (a66, .inl (ax 2, 20, .inl (fun _ => 0))), (a67, .inl (ax 2, 20, .inl (fun _ => 0))), (a68, .inl (ax 0, 20, .inl (fun _ => 0))), (a69, .inl (ax 1, 20, .inl (fun _ => 0))), (a70, .inl (ax 1, 29, .inl (fun _ => 0))), (a71, .inl (ax 1, 29, .inl (fun _ => 0)))]) hD hS hA [0, 4, 1, 2, 3, 5, 6, 7, 8, 9, 10, 11, 12, 13, 14, 15, 16, 17, 18, 19, 20] rfl
  have hz := xz_of hN hS
  refine va_calli (va_runV (As := []) (rest := []) ⟨hx, hb, hml, hown, hts⟩ (c_Desk_program l D ax a0 a1 a4 a5 a11 a19 a24 a26 a28 a32 a36 a40 a56 a2 a3 a57 a58 a59 a60 a61 a62 a63 a64 a65 a66 a67 a68 a69 a70 a71 H.size) (xcV (n := 0) hts wd_600 wd_1 wd_597 wd_598 wd_599 rfl rfl (by decide +kernel) ⟨Nat.le_of_ble_eq_true rfl, Nat.le_of_ble_eq_true rfl⟩) (xpV (ci := 10) (q0 := 0) (As := []) hPc hK hz hDc rfl rfl) rfl rfl hl1.1 rfl (lv_room (Nat.le_of_ble_eq_true rfl)) d_lawm_208 ⟨Nat.le_of_ble_eq_true rfl, Nat.le_of_ble_eq_true rfl⟩) hS (fun q _ h => hFc q h) hFc (fun r_3 u_1 t H_2 locs ht hvm hw hB hz1 hk1 hS => ?_)
  try dsimp only at hw
  subst hw
  obtain ⟨hP, hD⟩ := va_join (wr := [(m0, .inr (11, [.int 0, .int 0, .ref m1, .int 0, .int 0, .ref m2, .int 0, .int 0, .int 0, .int 0, .int 0, .ref m42, .ref m3, .ref m4, .int 0, .int 0, .ref m5, .ref m6, .ref m7, .ref m8, .ref m9, .ref m10, .ref m11, .ref m12, .ref m13, .ref m14, .ref m15, .ref m16, .ref m17, .ref m18, .ref m19, .int 0, .ref m20, .int 0, .ref m21, .int 0, .int 0, .int 0, .int 0, .int 0, .int 0, .int 0, .ref m22, .int 0, .int 0, .ref m23, .ref m24, .ref m25, .ref m26, .int 0, .ref m27, .int 0, .ref m28, .int 0, .ref m29, .ref m30, .int (-1), .int 0, .int 0, .ref m31, .ref m32, .ref m33, .ref m34, .ref m35, .ref m36, .ref m37, .ref m38, .ref m39, .int 0, .ref m40, .int 0, .ref m41])), (m5, .inl (ax 0, 2, .inl (fun _ => 0))), (m19, .inl (ax 0, 2, .inl (fun _ => 0)))]) (w1 := []) hP hD [0, 4, 1, 2, 3, 5, 6, 7, 8, 9, 10, 11, 12, 13, 14, 15, 16, 17, 18, 19, 20] [21, 22, 23] rfl rfl (by decide) (by decide) hk1 hFc x_nilP x_nilD
  have hP : va_P D classes [(m0, .inr (11, [.int 0, .int 0, .ref m1, .int 0, .int 0, .ref m2, .int 0, .int 0, .int 0, .int 0, .int 0, .ref m42, .ref m3, .ref m4, .int 0, .int 0, .ref m5, .ref m6, .ref m7, .ref m8, .ref m9, .ref m10, .ref m11, .ref m12, .ref m13, .ref m14, .ref m15, .ref m16, .ref m17, .ref m18, .ref m19, .int 0, .ref m20, .int 0, .ref m21, .int 0, .int 0, .int 0, .int 0, .int 0, .int 0, .int 0, .ref m22, .int 0, .int 0, .ref m23, .ref m24, .ref m25, .ref m26, .int 0, .ref m27, .int 0, .ref m28, .int 0, .ref m29, .ref m30, .int (-1), .int 0, .int 0, .ref m31, .ref m32, .ref m33, .ref m34, .ref m35, .ref m36, .ref m37, .ref m38, .ref m39, .int 0, .ref m40, .int 0, .ref m41])), (m5, .inl (ax 0, 2, .inl (fun _ => 0))), (m19, .inl (ax 0, 2, .inl (fun _ => 0)))] H_2 := hP
  have hD : va_D (fun q : Nat => s.heap.size ≤ q) [(m0, .inr (11, [.int 0, .int 0, .ref m1, .int 0, .int 0, .ref m2, .int 0, .int 0, .int 0, .int 0, .int 0, .ref m42, .ref m3, .ref m4, .int 0, .int 0, .ref m5, .ref m6, .ref m7, .ref m8, .ref m9, .ref m10, .ref m11, .ref m12, .ref m13, .ref m14, .ref m15, .ref m16, .ref m17, .ref m18, .ref m19, .int 0, .ref m20, .int 0, .ref m21, .int 0, .int 0, .int 0, .int 0, .int 0, .int 0, .int 0, .ref m22, .int 0, .int 0, .ref m23, .ref m24, .ref m25, .ref m26, .int 0, .ref m27, .int 0, .ref m28, .int 0, .ref m29, .ref m30, .int (-1), .int 0, .int 0, .ref m31, .ref m32, .ref m33, .ref m34, .ref m35, .ref m36, .ref m37, .ref m38, .ref m39, .int 0, .ref m40, .int 0, .ref m41])), (m5, .inl (ax 0, 2, .inl (fun _ => 0))), (m19, .inl (ax 0, 2, .inl (fun _ => 0)))] := hD
  refine lv_aload_n hx hb d_lawm_211 rfl (lv_at hl1 2 rfl) ?_
  have hPc := hP.sub (ws' := [(m0, .inr (11, [.int 0, .int 0, .ref m1, .int 0, .int 0, .ref m2, .int 0, .int 0, .int 0, .int 0, .int 0, .ref m42, .ref m3, .ref m4, .int 0, .int 0, .ref m5, .ref m6, .ref m7, .ref m8, .ref m9, .ref m10, .ref m11, .ref m12, .ref m13, .ref m14, .ref m15, .ref m16, .ref m17, .ref m18, .ref m19, .int 0, .ref m20, .int 0, .ref m21, .int 0, .int 0, .int 0, .int 0, .int 0, .int 0, .int 0, .ref m22, .int 0, .int 0, .ref m23, .ref m24, .ref m25, .ref m26, .int 0, .ref m27, .int 0, .ref m28, .int 0, .ref m29, .ref m30, .int (-1), .int 0, .int 0, .ref m31, .ref m32, .ref m33, .ref m34, .ref m35, .ref m36, .ref m37, .ref m38, .ref m39, .int 0, .ref m40, .int 0, .ref m41])), (m5, .inl (ax 0, 2, .inl (fun _ => 0))), (m19, .inl (ax 0, 2, .inl (fun _ => 0)))]) [0, 1, 2] rfl
  have hDc := hD.sub (ws' := [(m0, .inr (11, [.int 0, .int 0, .ref m1, .int 0, .int 0, .ref m2, .int 0, .int 0, .int 0, .int 0, .int 0, .ref m42, .ref m3, .ref m4, .int 0, .int 0, .ref m5, .ref m6, .ref m7, .ref m8, .ref m9, .ref m10, .ref m11, .ref m12, .ref m13, .ref m14, .ref m15, .ref m16, .ref m17, .ref m18, .ref m19, .int 0, .ref m20, .int 0, .ref m21, .int 0, .int 0, .int 0, .int 0, .int 0, .int 0, .int 0, .ref m22, .int 0, .int 0, .ref m23, .ref m24, .ref m25, .ref m26, .int 0, .ref m27, .int 0, .ref m28, .int 0, .ref m29, .ref m30, .int (-1), .int 0, .int 0, .ref m31, .ref m32, .ref m33, .ref m34, .ref m35, .ref m36, .ref m37, .ref m38, .ref m39, .int 0, .ref m40, .int 0, .ref m41])), (m5, .inl (ax 0, 2, .inl (fun _ => 0))), (m19, .inl (ax 0, 2, .inl (fun _ => 0)))]) [0, 1, 2] (by decide) rfl
  have hFc := va_free (wc := [(m0, .inr (11, [.int 0, .int 0, .ref m1, .int 0, .int 0, .ref m2, .int 0, .int 0, .int 0, .int 0, .int 0, .ref m42, .ref m3, .ref m4, .int 0, .int 0, .ref m5, .ref m6, .ref m7, .ref m8, .ref m9, .ref m10, .ref m11, .ref m12, .ref m13, .ref m14, .ref m15, .ref m16, .ref m17, .ref m18, .ref m19, .int 0, .ref m20, .int 0, .ref m21, .int 0, .int 0, .int 0, .int 0, .int 0, .int 0, .int 0, .ref m22, .int 0, .int 0, .ref m23, .ref m24, .ref m25, .ref m26, .int 0, .ref m27, .int 0, .ref m28, .int 0, .ref m29, .ref m30, .int (-1), .int 0, .int 0, .ref m31, .ref m32, .ref m33, .ref m34, .ref m35, .ref m36, .ref m37, .ref m38, .ref m39, .int 0, .ref m40, .int 0, .ref m41])), (m5, .inl (ax 0, 2, .inl (fun _ => 0))), (m19, .inl (ax 0, 2, .inl (fun _ => 0)))]) hD hS hA [0, 1, 2] rfl
  have hz := xz_of hN hS
  refine va_calli (va_runV (As := []) (rest := [.int 1]) ⟨hx, hb, hml, hown, hts⟩ (c_Model_program l D ax m0 m1 m2 m3 m4 m5 m6 m7 m8 m9 m10 m11 m12 m13 m14 m15 m16 m17 m18 m19 m20 m21 m22 m23 m24 m25 m26 m27 m28 m29 m30 m31 m32 m33 m34 m35 m36 m37 m38 m39 m40 m41 m42 H_2.size) (xcV (n := 0) hts wd_1367 wd_15 wd_1364 wd_1365 wd_1366 rfl rfl (by decide +kernel) ⟨Nat.le_of_ble_eq_true rfl, Nat.le_of_ble_eq_true rfl⟩) (xpV (ci := 11) (q0 := 0) (As := []) hPc hK hz hDc rfl rfl) rfl rfl hl1.1 rfl (lv_room (Nat.le_of_ble_eq_true rfl)) d_lawm_212 ⟨Nat.le_of_ble_eq_true rfl, Nat.le_of_ble_eq_true rfl⟩) hS (fun q _ h => hFc q h) hFc (fun r_6 u_4 t H_5 locs ht hvm hw hB hz1 hk1 hS => ?_)
  try dsimp only at hw
  subst hw
  obtain ⟨hP, hD⟩ := va_join (wr := []) (w1 := []) hP hD [0, 1, 2] [] rfl rfl (by decide) (by decide) hk1 hFc x_nilP x_nilD
  have hP : va_P D classes [] H_5 := hP
  have hD : va_D (fun q : Nat => s.heap.size ≤ q) [] := hD
  refine lv_icmp_eq (tgt := 841) hx hb d_lawm_215 (by decide) (fun c_7 => ?_) (fun c_7 => ?_)
  rotate_left
  · first | exact absurd c_7 (by decide) | exact absurd (by decide) c_7
  refine lv_iinc (v := 4) (lv' := [(4, .int 4), (3, .ref o0), (2, .ref m0), (1, .ref a0), (0, .ref b)]) hx hb d_lawm_841 hl1 (k := 0) rfl (by decide) (by decide) rfl (fun ls hl1 => ?_)
  refine lv_goto (tgt := 23) hx hb d_lawm_844 (by decide) ?_
  refine lv_iload hx hb d_lawm_23 (lv_at hl1 0 rfl) ?_
  refine lv_aload_n hx hb d_lawm_25 rfl (lv_at hl1 4 rfl) ?_
  refine va_slen hx hb hX hbl hbA hS d_lawm_26 ?_
  refine lv_topi (fun z_8 ez_8 => ?_)
  have ez_8 : z_8 = 4 := ez_8.trans (by first | rfl | decide)
  subst ez_8
  refine lv_iconst (v := 4) hx hb d_lawm_27 (by decide) ?_
  refine lv_isub hx hb d_lawm_28 ?_
  refine lv_topi (fun z_9 ez_9 => ?_)
  have ez_9 : z_9 = 0 := ez_9.trans (by first | rfl | decide)
  subst ez_9
  refine lv_icmp_gt (tgt := 847) hx hb d_lawm_29 (by decide) (fun c_10 => ?_) (fun c_10 => ?_)
  rotate_left
  · first | exact absurd c_10 (by decide) | exact absurd (by decide) c_10
  refine lv_iconst (v := 1) hx hb d_lawm_847 (by decide) ?_
  refine va_forget (fun q hq => hS.2.2 q hq) ?_
  refine W.widen (k := 600002) (n := 7302232) (Nat.le_of_ble_eq_true rfl) (Nat.le_of_ble_eq_true rfl) ?_
  exact lw_ret hx hb hr hlocks d_lawm_848
