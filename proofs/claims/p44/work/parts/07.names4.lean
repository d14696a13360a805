theorem dL_reads_21 : decode cL_reads 21 = .ok (.istore 4, 2) := by decide +kernel
theorem dL_reads_23 : decode cL_reads 23 = .ok (.iload 4, 2) := by decide +kernel
theorem dL_reads_25 : decode cL_reads 25 = .ok (.iload_n 2, 1) := by decide +kernel
theorem dL_reads_26 : decode cL_reads 26 = .ok (.if_icmp .ge 331, 3) := by decide +kernel
theorem dL_reads_29 : decode cL_reads 29 = .ok (.iload_n 3, 1) := by decide +kernel
theorem dL_reads_30 : decode cL_reads 30 = .ok (.ifCond .eq 327, 3) := by decide +kernel
theorem dL_reads_33 : decode cL_reads 33 = .ok (.iload_n 1, 1) := by decide +kernel
theorem dL_reads_34 : decode cL_reads 34 = .ok (.iconst 1, 1) := by decide +kernel
theorem dL_reads_35 : decode cL_reads 35 = .ok (.iconst 2, 1) := by decide +kernel
theorem dL_reads_36 : decode cL_reads 36 = .ok (.iload 4, 2) := by decide +kernel
theorem dL_reads_38 : decode cL_reads 38 = .ok (.imul, 1) := by decide +kernel
theorem dL_reads_39 : decode cL_reads 39 = .ok (.iadd, 1) := by decide +kernel
theorem dL_reads_40 : decode cL_reads 40 = .ok (.ishr, 1) := by decide +kernel
theorem dL_reads_41 : decode cL_reads 41 = .ok (.istore 5, 2) := by decide +kernel
theorem dL_reads_43 : decode cL_reads 43 = .ok (.iload 5, 2) := by decide +kernel
theorem dL_reads_45 : decode cL_reads 45 = .ok (.bipush 16, 2) := by decide +kernel
theorem dL_reads_47 : decode cL_reads 47 = .ok (.invokestatic 177, 3) := by decide +kernel
theorem dL_reads_50 : decode cL_reads 50 = .ok (.istore 6, 2) := by decide +kernel
theorem dL_reads_52 : decode cL_reads 52 = .ok (.iload_n 1, 1) := by decide +kernel
theorem dL_reads_53 : decode cL_reads 53 = .ok (.bipush 22, 2) := by decide +kernel
theorem dL_reads_55 : decode cL_reads 55 = .ok (.ishr, 1) := by decide +kernel
theorem dL_reads_56 : decode cL_reads 56 = .ok (.bipush 9, 2) := by decide +kernel
theorem dL_reads_58 : decode cL_reads 58 = .ok (.invokestatic 177, 3) := by decide +kernel
theorem dL_reads_61 : decode cL_reads 61 = .ok (.ifCond .ne 7, 3) := by decide +kernel
theorem dL_reads_64 : decode cL_reads 64 = .ok (.iconst 1, 1) := by decide +kernel
theorem dL_reads_65 : decode cL_reads 65 = .ok (.goto 4, 3) := by decide +kernel
theorem dL_reads_68 : decode cL_reads 68 = .ok (.iconst 0, 1) := by decide +kernel
theorem dL_reads_69 : decode cL_reads 69 = .ok (.istore 7, 2) := by decide +kernel
theorem dL_reads_71 : decode cL_reads 71 = .ok (.iload 6, 2) := by decide +kernel
theorem dL_reads_73 : decode cL_reads 73 = .ok (.iconst 4, 1) := by decide +kernel
theorem dL_reads_74 : decode cL_reads 74 = .ok (.if_icmp .ge 7, 3) := by decide +kernel
theorem dL_reads_77 : decode cL_reads 77 = .ok (.iconst 0, 1) := by decide +kernel
theorem dL_reads_78 : decode cL_reads 78 = .ok (.goto 37, 3) := by decide +kernel
theorem dL_reads_81 : decode cL_reads 81 = .ok (.iload 6, 2) := by decide +kernel
theorem dL_reads_83 : decode cL_reads 83 = .ok (.bipush 8, 2) := by decide +kernel
theorem dL_reads_85 : decode cL_reads 85 = .ok (.if_icmp .ge 7, 3) := by decide +kernel
theorem dL_reads_88 : decode cL_reads 88 = .ok (.iconst 1, 1) := by decide +kernel
theorem dL_reads_89 : decode cL_reads 89 = .ok (.goto 26, 3) := by decide +kernel
theorem dL_reads_92 : decode cL_reads 92 = .ok (.iload 6, 2) := by decide +kernel
theorem dL_reads_94 : decode cL_reads 94 = .ok (.bipush 10, 2) := by decide +kernel
theorem dL_reads_96 : decode cL_reads 96 = .ok (.if_icmp .ge 7, 3) := by decide +kernel
theorem dL_reads_99 : decode cL_reads 99 = .ok (.iconst 2, 1) := by decide +kernel
theorem dL_reads_100 : decode cL_reads 100 = .ok (.goto 15, 3) := by decide +kernel
theorem dL_reads_103 : decode cL_reads 103 = .ok (.iload 6, 2) := by decide +kernel
theorem dL_reads_105 : decode cL_reads 105 = .ok (.bipush 12, 2) := by decide +kernel
theorem dL_reads_107 : decode cL_reads 107 = .ok (.if_icmp .ge 7, 3) := by decide +kernel
theorem dL_reads_110 : decode cL_reads 110 = .ok (.iconst 3, 1) := by decide +kernel
theorem dL_reads_111 : decode cL_reads 111 = .ok (.goto 4, 3) := by decide +kernel
theorem dL_reads_114 : decode cL_reads 114 = .ok (.iconst 4, 1) := by decide +kernel
theorem dL_reads_115 : decode cL_reads 115 = .ok (.istore 8, 2) := by decide +kernel
theorem dL_reads_117 : decode cL_reads 117 = .ok (.iload 5, 2) := by decide +kernel
theorem dL_reads_119 : decode cL_reads 119 = .ok (.iconst 2, 1) := by decide +kernel
theorem dL_reads_120 : decode cL_reads 120 = .ok (.ishr, 1) := by decide +kernel
theorem dL_reads_121 : decode cL_reads 121 = .ok (.iload 7, 2) := by decide +kernel
theorem dL_reads_123 : decode cL_reads 123 = .ok (.ifCond .eq 8, 3) := by decide +kernel
theorem dL_reads_126 : decode cL_reads 126 = .ok (.bipush 51, 2) := by decide +kernel
theorem dL_reads_128 : decode cL_reads 128 = .ok (.goto 5, 3) := by decide +kernel
theorem dL_reads_131 : decode cL_reads 131 = .ok (.bipush 48, 2) := by decide +kernel
theorem dL_reads_133 : decode cL_reads 133 = .ok (.invokestatic 177, 3) := by decide +kernel
theorem dL_reads_136 : decode cL_reads 136 = .ok (.iload 7, 2) := by decide +kernel
theorem dL_reads_138 : decode cL_reads 138 = .ok (.ifCond .eq 7, 3) := by decide +kernel
theorem dL_reads_141 : decode cL_reads 141 = .ok (.iconst 0, 1) := by decide +kernel
theorem dL_reads_142 : decode cL_reads 142 = .ok (.goto 4, 3) := by decide +kernel
theorem dL_reads_145 : decode cL_reads 145 = .ok (.iconst 1, 1) := by decide +kernel
theorem dL_reads_146 : decode cL_reads 146 = .ok (.iadd, 1) := by decide +kernel
theorem dL_reads_147 : decode cL_reads 147 = .ok (.istore 9, 2) := by decide +kernel
theorem dL_reads_149 : decode cL_reads 149 = .ok (.iload 8, 2) := by decide +kernel
theorem dL_reads_151 : decode cL_reads 151 = .ok (.iconst 3, 1) := by decide +kernel
theorem dL_reads_152 : decode cL_reads 152 = .ok (.if_icmp .ne 38, 3) := by decide +kernel
theorem dL_reads_155 : decode cL_reads 155 = .ok (.iload 7, 2) := by decide +kernel
theorem dL_reads_157 : decode cL_reads 157 = .ok (.ifCond .eq 15, 3) := by decide +kernel
theorem dL_reads_160 : decode cL_reads 160 = .ok (.iload 5, 2) := by decide +kernel
theorem dL_reads_162 : decode cL_reads 162 = .ok (.iconst 4, 1) := by decide +kernel
theorem dL_reads_163 : decode cL_reads 163 = .ok (.ishr, 1) := by decide +kernel
theorem dL_reads_164 : decode cL_reads 164 = .ok (.bipush 51, 2) := by decide +kernel
theorem dL_reads_166 : decode cL_reads 166 = .ok (.invokestatic 177, 3) := by decide +kernel
theorem dL_reads_169 : decode cL_reads 169 = .ok (.goto 38, 3) := by decide +kernel
theorem dL_reads_172 : decode cL_reads 172 = .ok (.iload 9, 2) := by decide +kernel
theorem dL_reads_174 : decode cL_reads 174 = .ok (.iload 5, 2) := by decide +kernel
theorem dL_reads_176 : decode cL_reads 176 = .ok (.iconst 4, 1) := by decide +kernel
theorem dL_reads_177 : decode cL_reads 177 = .ok (.ishr, 1) := by decide +kernel
theorem dL_reads_178 : decode cL_reads 178 = .ok (.bipush 49, 2) := by decide +kernel
theorem dL_reads_180 : decode cL_reads 180 = .ok (.iload 9, 2) := by decide +kernel
theorem dL_reads_182 : decode cL_reads 182 = .ok (.isub, 1) := by decide +kernel
theorem dL_reads_183 : decode cL_reads 183 = .ok (.invokestatic 177, 3) := by decide +kernel
theorem dL_reads_186 : decode cL_reads 186 = .ok (.iadd, 1) := by decide +kernel
theorem dL_reads_187 : decode cL_reads 187 = .ok (.goto 20, 3) := by decide +kernel
theorem dL_reads_190 : decode cL_reads 190 = .ok (.iload 5, 2) := by decide +kernel
theorem dL_reads_192 : decode cL_reads 192 = .ok (.iconst 4, 1) := by decide +kernel
theorem dL_reads_193 : decode cL_reads 193 = .ok (.ishr, 1) := by decide +kernel
theorem dL_reads_194 : decode cL_reads 194 = .ok (.iload 7, 2) := by decide +kernel
theorem dL_reads_196 : decode cL_reads 196 = .ok (.ifCond .eq 7, 3) := by decide +kernel
theorem dL_reads_199 : decode cL_reads 199 = .ok (.iconst 3, 1) := by decide +kernel
theorem dL_reads_200 : decode cL_reads 200 = .ok (.goto 4, 3) := by decide +kernel
theorem dL_reads_203 : decode cL_reads 203 = .ok (.iconst 2, 1) := by decide +kernel
theorem dL_reads_204 : decode cL_reads 204 = .ok (.invokestatic 177, 3) := by decide +kernel
theorem dL_reads_207 : decode cL_reads 207 = .ok (.istore 10, 2) := by decide +kernel
theorem dL_reads_209 : decode cL_reads 209 = .ok (.aload_n 0, 1) := by decide +kernel
theorem dL_reads_210 : decode cL_reads 210 = .ok (.iload 8, 2) := by decide +kernel
theorem dL_reads_212 : decode cL_reads 212 = .ok (.ifCond .ne 8, 3) := by decide +kernel
theorem dL_reads_215 : decode cL_reads 215 = .ok (.bipush 112, 2) := by decide +kernel
theorem dL_reads_217 : decode cL_reads 217 = .ok (.goto 38, 3) := by decide +kernel
theorem dL_reads_220 : decode cL_reads 220 = .ok (.iload 8, 2) := by decide +kernel
theorem dL_reads_222 : decode cL_reads 222 = .ok (.iconst 1, 1) := by decide +kernel
theorem dL_reads_223 : decode cL_reads 223 = .ok (.if_icmp .ne 8, 3) := by decide +kernel
theorem dL_reads_226 : decode cL_reads 226 = .ok (.bipush 100, 2) := by decide +kernel
theorem dL_reads_228 : decode cL_reads 228 = .ok (.goto 27, 3) := by decide +kernel
theorem dL_reads_231 : decode cL_reads 231 = .ok (.iload 8, 2) := by decide +kernel
theorem dL_reads_233 : decode cL_reads 233 = .ok (.iconst 2, 1) := by decide +kernel
theorem dL_reads_234 : decode cL_reads 234 = .ok (.if_icmp .ne 8, 3) := by decide +kernel
theorem dL_reads_237 : decode cL_reads 237 = .ok (.bipush 108, 2) := by decide +kernel
theorem dL_reads_239 : decode cL_reads 239 = .ok (.goto 16, 3) := by decide +kernel
theorem dL_reads_242 : decode cL_reads 242 = .ok (.iload 8, 2) := by decide +kernel
theorem dL_reads_244 : decode cL_reads 244 = .ok (.iconst 3, 1) := by decide +kernel
theorem dL_reads_245 : decode cL_reads 245 = .ok (.if_icmp .ne 8, 3) := by decide +kernel
theorem dL_reads_248 : decode cL_reads 248 = .ok (.bipush 114, 2) := by decide +kernel
theorem dL_reads_250 : decode cL_reads 250 = .ok (.goto 5, 3) := by decide +kernel
theorem dL_reads_253 : decode cL_reads 253 = .ok (.bipush 116, 2) := by decide +kernel
theorem dL_reads_255 : decode cL_reads 255 = .ok (.invokevirtual 72, 3) := by decide +kernel
theorem dL_reads_258 : decode cL_reads 258 = .ok (.ifCond .le 91, 3) := by decide +kernel
theorem dL_reads_261 : decode cL_reads 261 = .ok (.aload_n 0, 1) := by decide +kernel
theorem dL_reads_262 : decode cL_reads 262 = .ok (.iload 9, 2) := by decide +kernel
theorem dL_reads_264 : decode cL_reads 264 = .ok (.invokestatic 216, 3) := by decide +kernel
theorem dL_reads_267 : decode cL_reads 267 = .ok (.ifCond .eq 82, 3) := by decide +kernel
theorem dL_reads_270 : decode cL_reads 270 = .ok (.iload 8, 2) := by decide +kernel
theorem dL_reads_272 : decode cL_reads 272 = .ok (.iconst 3, 1) := by decide +kernel
theorem dL_reads_273 : decode cL_reads 273 = .ok (.if_icmp .lt 38, 3) := by decide +kernel
theorem dL_reads_276 : decode cL_reads 276 = .ok (.aload_n 0, 1) := by decide +kernel
theorem dL_reads_277 : decode cL_reads 277 = .ok (.iload_n 1, 1) := by decide +kernel
theorem dL_reads_278 : decode cL_reads 278 = .ok (.bipush 23, 2) := by decide +kernel
theorem dL_reads_280 : decode cL_reads 280 = .ok (.ishr, 1) := by decide +kernel
theorem dL_reads_281 : decode cL_reads 281 = .ok (.bipush 11, 2) := by decide +kernel
theorem dL_reads_283 : decode cL_reads 283 = .ok (.invokestatic 177, 3) := by decide +kernel
theorem dL_reads_286 : decode cL_reads 286 = .ok (.ifCond .ne 8, 3) := by decide +kernel
theorem dL_reads_289 : decode cL_reads 289 = .ok (.bipush 46, 2) := by decide +kernel
theorem dL_reads_291 : decode cL_reads 291 = .ok (.goto 5, 3) := by decide +kernel
theorem dL_reads_294 : decode cL_reads 294 = .ok (.bipush 44, 2) := by decide +kernel
theorem dL_reads_296 : decode cL_reads 296 = .ok (.invokevirtual 72, 3) := by decide +kernel
theorem dL_reads_299 : decode cL_reads 299 = .ok (.ifCond .le 50, 3) := by decide +kernel
theorem dL_reads_302 : decode cL_reads 302 = .ok (.aload_n 0, 1) := by decide +kernel
theorem dL_reads_303 : decode cL_reads 303 = .ok (.iload 10, 2) := by decide +kernel
theorem dL_reads_305 : decode cL_reads 305 = .ok (.invokestatic 216, 3) := by decide +kernel
theorem dL_reads_308 : decode cL_reads 308 = .ok (.ifCond .eq 41, 3) := by decide +kernel
theorem dL_reads_311 : decode cL_reads 311 = .ok (.aload_n 0, 1) := by decide +kernel
theorem dL_reads_312 : decode cL_reads 312 = .ok (.iload 4, 2) := by decide +kernel
theorem dL_reads_314 : decode cL_reads 314 = .ok (.iload_n 2, 1) := by decide +kernel
theorem dL_reads_315 : decode cL_reads 315 = .ok (.iconst 1, 1) := by decide +kernel
theorem dL_reads_316 : decode cL_reads 316 = .ok (.isub, 1) := by decide +kernel
theorem dL_reads_317 : decode cL_reads 317 = .ok (.if_icmp .ne 20, 3) := by decide +kernel
theorem dL_reads_320 : decode cL_reads 320 = .ok (.iload_n 1, 1) := by decide +kernel
theorem dL_reads_321 : decode cL_reads 321 = .ok (.bipush 26, 2) := by decide +kernel
theorem dL_reads_323 : decode cL_reads 323 = .ok (.ishr, 1) := by decide +kernel
theorem dL_reads_324 : decode cL_reads 324 = .ok (.bipush 7, 2) := by decide +kernel
theorem dL_reads_326 : decode cL_reads 326 = .ok (.invokestatic 177, 3) := by decide +kernel
theorem dL_reads_329 : decode cL_reads 329 = .ok (.ifCond .ne 8, 3) := by decide +kernel
theorem dL_reads_332 : decode cL_reads 332 = .ok (.bipush 46, 2) := by decide +kernel
theorem dL_reads_334 : decode cL_reads 334 = .ok (.goto 5, 3) := by decide +kernel
theorem dL_reads_337 : decode cL_reads 337 = .ok (.bipush 59, 2) := by decide +kernel
theorem dL_reads_339 : decode cL_reads 339 = .ok (.invokevirtual 72, 3) := by decide +kernel
theorem dL_reads_342 : decode cL_reads 342 = .ok (.ifCond .le 7, 3) := by decide +kernel
theorem dL_reads_345 : decode cL_reads 345 = .ok (.iconst 1, 1) := by decide +kernel
theorem dL_reads_346 : decode cL_reads 346 = .ok (.goto 4, 3) := by decide +kernel
theorem dL_reads_349 : decode cL_reads 349 = .ok (.iconst 0, 1) := by decide +kernel
theorem dL_reads_350 : decode cL_reads 350 = .ok (.istore_n 3, 1) := by decide +kernel
theorem dL_reads_351 : decode cL_reads 351 = .ok (.iinc 4 1, 3) := by decide +kernel
theorem dL_reads_354 : decode cL_reads 354 = .ok (.goto (-331), 3) := by decide +kernel
theorem dL_reads_357 : decode cL_reads 357 = .ok (.aload_n 0, 1) := by decide +kernel
theorem dL_reads_358 : decode cL_reads 358 = .ok (.invokevirtual 147, 3) := by decide +kernel
theorem dL_reads_361 : decode cL_reads 361 = .ok (.istore 4, 2) := by decide +kernel
theorem dL_reads_363 : decode cL_reads 363 = .ok (.aload_n 0, 1) := by decide +kernel
theorem dL_reads_364 : decode cL_reads 364 = .ok (.invokestatic 220, 3) := by decide +kernel
theorem dL_reads_367 : decode cL_reads 367 = .ok (.istore 5, 2) := by decide +kernel
theorem dL_reads_369 : decode cL_reads 369 = .ok (.aload_n 0, 1) := by decide +kernel
theorem dL_reads_370 : decode cL_reads 370 = .ok (.invokestatic 223, 3) := by decide +kernel
theorem dL_reads_373 : decode cL_reads 373 = .ok (.istore 6, 2) := by decide +kernel
theorem dL_reads_375 : decode cL_reads 375 = .ok (.aload_n 0, 1) := by decide +kernel
theorem dL_reads_376 : decode cL_reads 376 = .ok (.invokestatic 225, 3) := by decide +kernel
theorem dL_reads_379 : decode cL_reads 379 = .ok (.istore 7, 2) := by decide +kernel
theorem dL_reads_381 : decode cL_reads 381 = .ok (.aload_n 0, 1) := by decide +kernel
theorem dL_reads_382 : decode cL_reads 382 = .ok (.invokestatic 227, 3) := by decide +kernel
theorem dL_reads_385 : decode cL_reads 385 = .ok (.istore 8, 2) := by decide +kernel
theorem dL_reads_387 : decode cL_reads 387 = .ok (.aload_n 0, 1) := by decide +kernel
theorem dL_reads_388 : decode cL_reads 388 = .ok (.invokevirtual 213, 3) := by decide +kernel
theorem dL_reads_391 : decode cL_reads 391 = .ok (.istore 9, 2) := by decide +kernel
theorem dL_reads_393 : decode cL_reads 393 = .ok (.iload_n 3, 1) := by decide +kernel
theorem dL_reads_394 : decode cL_reads 394 = .ok (.ifCond .eq 86, 3) := by decide +kernel
theorem dL_reads_397 : decode cL_reads 397 = .ok (.iload 5, 2) := by decide +kernel
theorem dL_reads_399 : decode cL_reads 399 = .ok (.bipush (-104), 2) := by decide +kernel
theorem dL_reads_401 : decode cL_reads 401 = .ok (.if_icmp .ne 7, 3) := by decide +kernel
theorem dL_reads_404 : decode cL_reads 404 = .ok (.iconst 1, 1) := by decide +kernel
theorem dL_reads_405 : decode cL_reads 405 = .ok (.goto 4, 3) := by decide +kernel
theorem dL_reads_408 : decode cL_reads 408 = .ok (.iconst 0, 1) := by decide +kernel
theorem dL_reads_409 : decode cL_reads 409 = .ok (.iload 6, 2) := by decide +kernel
theorem dL_reads_411 : decode cL_reads 411 = .ok (.bipush (-104), 2) := by decide +kernel
theorem dL_reads_413 : decode cL_reads 413 = .ok (.if_icmp .ne 7, 3) := by decide +kernel
theorem dL_reads_416 : decode cL_reads 416 = .ok (.iconst 1, 1) := by decide +kernel
theorem dL_reads_417 : decode cL_reads 417 = .ok (.goto 4, 3) := by decide +kernel
theorem dL_reads_420 : decode cL_reads 420 = .ok (.iconst 0, 1) := by decide +kernel
theorem dL_reads_421 : decode cL_reads 421 = .ok (.if_icmp .ne 59, 3) := by decide +kernel
theorem dL_reads_424 : decode cL_reads 424 = .ok (.iload 5, 2) := by decide +kernel
theorem dL_reads_426 : decode cL_reads 426 = .ok (.bipush (-104), 2) := by decide +kernel
theorem dL_reads_428 : decode cL_reads 428 = .ok (.if_icmp .ne 7, 3) := by decide +kernel
theorem dL_reads_431 : decode cL_reads 431 = .ok (.iconst 1, 1) := by decide +kernel
theorem dL_reads_432 : decode cL_reads 432 = .ok (.goto 4, 3) := by decide +kernel
theorem dL_reads_435 : decode cL_reads 435 = .ok (.iconst 0, 1) := by decide +kernel
theorem dL_reads_436 : decode cL_reads 436 = .ok (.iload 7, 2) := by decide +kernel
theorem dL_reads_438 : decode cL_reads 438 = .ok (.bipush (-104), 2) := by decide +kernel
theorem dL_reads_440 : decode cL_reads 440 = .ok (.if_icmp .ne 7, 3) := by decide +kernel
theorem dL_reads_443 : decode cL_reads 443 = .ok (.iconst 1, 1) := by decide +kernel
theorem dL_reads_444 : decode cL_reads 444 = .ok (.goto 4, 3) := by decide +kernel
theorem dL_reads_447 : decode cL_reads 447 = .ok (.iconst 0, 1) := by decide +kernel
theorem dL_reads_448 : decode cL_reads 448 = .ok (.if_icmp .ne 32, 3) := by decide +kernel
theorem dL_reads_451 : decode cL_reads 451 = .ok (.iload 8, 2) := by decide +kernel
theorem dL_reads_453 : decode cL_reads 453 = .ok (.bipush (-103), 2) := by decide +kernel
theorem dL_reads_455 : decode cL_reads 455 = .ok (.if_icmp .ne 7, 3) := by decide +kernel
theorem dL_reads_458 : decode cL_reads 458 = .ok (.iconst 1, 1) := by decide +kernel
theorem dL_reads_459 : decode cL_reads 459 = .ok (.goto 4, 3) := by decide +kernel
theorem dL_reads_462 : decode cL_reads 462 = .ok (.iconst 0, 1) := by decide +kernel
theorem dL_reads_463 : decode cL_reads 463 = .ok (.iload 5, 2) := by decide +kernel
theorem dL_reads_465 : decode cL_reads 465 = .ok (.ifCond .lt 7, 3) := by decide +kernel
theorem dL_reads_468 : decode cL_reads 468 = .ok (.iconst 1, 1) := by decide +kernel
theorem dL_reads_469 : decode cL_reads 469 = .ok (.goto 4, 3) := by decide +kernel
theorem dL_reads_472 : decode cL_reads 472 = .ok (.iconst 0, 1) := by decide +kernel
theorem dL_reads_473 : decode cL_reads 473 = .ok (.if_icmp .ne 7, 3) := by decide +kernel
theorem dL_reads_476 : decode cL_reads 476 = .ok (.iconst 1, 1) := by decide +kernel
theorem dL_reads_477 : decode cL_reads 477 = .ok (.goto 4, 3) := by decide +kernel
theorem dL_reads_480 : decode cL_reads 480 = .ok (.iconst 0, 1) := by decide +kernel
theorem dL_reads_481 : decode cL_reads 481 = .ok (.istore 10, 2) := by decide +kernel
theorem dL_reads_483 : decode cL_reads 483 = .ok (.iload 10, 2) := by decide +kernel
theorem dL_reads_485 : decode cL_reads 485 = .ok (.ifCond .eq 100, 3) := by decide +kernel
theorem dL_reads_488 : decode cL_reads 488 = .ok (.iload 5, 2) := by decide +kernel
theorem dL_reads_490 : decode cL_reads 490 = .ok (.ifCond .lt 64, 3) := by decide +kernel
theorem dL_reads_493 : decode cL_reads 493 = .ok (.iload 5, 2) := by decide +kernel
theorem dL_reads_495 : decode cL_reads 495 = .ok (.iload 9, 2) := by decide +kernel
theorem dL_reads_497 : decode cL_reads 497 = .ok (.if_icmp .ge 88, 3) := by decide +kernel
theorem dL_reads_500 : decode cL_reads 500 = .ok (.iload 6, 2) := by decide +kernel
theorem dL_reads_502 : decode cL_reads 502 = .ok (.iconst 1, 1) := by decide +kernel
theorem dL_reads_503 : decode cL_reads 503 = .ok (.if_icmp .ne 21, 3) := by decide +kernel
theorem dL_reads_506 : decode cL_reads 506 = .ok (.iload 7, 2) := by decide +kernel
theorem dL_reads_508 : decode cL_reads 508 = .ok (.ifCond .lt 77, 3) := by decide +kernel
theorem dL_reads_511 : decode cL_reads 511 = .ok (.iload 5, 2) := by decide +kernel
theorem dL_reads_513 : decode cL_reads 513 = .ok (.iload 7, 2) := by decide +kernel
theorem dL_reads_515 : decode cL_reads 515 = .ok (.iadd, 1) := by decide +kernel
theorem dL_reads_516 : decode cL_reads 516 = .ok (.iload 9, 2) := by decide +kernel
theorem dL_reads_518 : decode cL_reads 518 = .ok (.if_icmp .gt 67, 3) := by decide +kernel
theorem dL_reads_521 : decode cL_reads 521 = .ok (.goto 21, 3) := by decide +kernel
theorem dL_reads_524 : decode cL_reads 524 = .ok (.iload 6, 2) := by decide +kernel
theorem dL_reads_526 : decode cL_reads 526 = .ok (.iconst 2, 1) := by decide +kernel
theorem dL_reads_527 : decode cL_reads 527 = .ok (.if_icmp .ne 58, 3) := by decide +kernel
theorem dL_reads_530 : decode cL_reads 530 = .ok (.iload 7, 2) := by decide +kernel
theorem dL_reads_532 : decode cL_reads 532 = .ok (.iconst 1, 1) := by decide +kernel
theorem dL_reads_533 : decode cL_reads 533 = .ok (.if_icmp .eq 9, 3) := by decide +kernel
theorem dL_reads_536 : decode cL_reads 536 = .ok (.iload 7, 2) := by decide +kernel
theorem dL_reads_538 : decode cL_reads 538 = .ok (.iconst 2, 1) := by decide +kernel
theorem dL_reads_539 : decode cL_reads 539 = .ok (.if_icmp .ne 46, 3) := by decide +kernel
theorem dL_reads_542 : decode cL_reads 542 = .ok (.aload_n 0, 1) := by decide +kernel
theorem dL_reads_543 : decode cL_reads 543 = .ok (.invokevirtual 147, 3) := by decide +kernel
theorem dL_reads_546 : decode cL_reads 546 = .ok (.iload 4, 2) := by decide +kernel
theorem dL_reads_548 : decode cL_reads 548 = .ok (.if_icmp .ne 37, 3) := by decide +kernel
theorem dL_reads_551 : decode cL_reads 551 = .ok (.goto 30, 3) := by decide +kernel
theorem dL_reads_554 : decode cL_reads 554 = .ok (.iload 8, 2) := by decide +kernel
theorem dL_reads_556 : decode cL_reads 556 = .ok (.iload_n 2, 1) := by decide +kernel
theorem dL_reads_557 : decode cL_reads 557 = .ok (.if_icmp .ne 28, 3) := by decide +kernel
theorem dL_reads_560 : decode cL_reads 560 = .ok (.aload_n 0, 1) := by decide +kernel
theorem dL_reads_561 : decode cL_reads 561 = .ok (.invokevirtual 147, 3) := by decide +kernel
theorem dL_reads_564 : decode cL_reads 564 = .ok (.iload 4, 2) := by decide +kernel
theorem dL_reads_566 : decode cL_reads 566 = .ok (.iconst 4, 1) := by decide +kernel
theorem dL_reads_567 : decode cL_reads 567 = .ok (.if_icmp .ge 10, 3) := by decide +kernel
theorem dL_reads_570 : decode cL_reads 570 = .ok (.iload 4, 2) := by decide +kernel
theorem dL_reads_572 : decode cL_reads 572 = .ok (.iconst 1, 1) := by decide +kernel
theorem dL_reads_573 : decode cL_reads 573 = .ok (.iadd, 1) := by decide +kernel
theorem dL_reads_574 : decode cL_reads 574 = .ok (.goto 4, 3) := by decide +kernel
theorem dL_reads_577 : decode cL_reads 577 = .ok (.iconst 4, 1) := by decide +kernel
theorem dL_reads_578 : decode cL_reads 578 = .ok (.if_icmp .ne 7, 3) := by decide +kernel
theorem dL_reads_581 : decode cL_reads 581 = .ok (.iconst 1, 1) := by decide +kernel
theorem dL_reads_582 : decode cL_reads 582 = .ok (.goto 4, 3) := by decide +kernel
theorem dL_reads_585 : decode cL_reads 585 = .ok (.iconst 0, 1) := by decide +kernel
theorem dL_reads_586 : decode cL_reads 586 = .ok (.ireturn, 1) := by decide +kernel
set_option maxRecDepth 20000 in
theorem ggL_acts_L_low : GoodIn wsL_acts wsL_low := goodIn_r _ [5, 6] rfl (by decide +kernel)
set_option maxRecDepth 20000 in
theorem gL_acts_L_low : GoodIn wsL_acts (va_wsS RL 177 yL_low wsL_low) := goodIn_app (goodIn_of _ (by decide +kernel)) ggL_acts_L_low
set_option maxRecDepth 20000 in
theorem ggL_acts_X5_openSet : GoodIn wsL_acts wsX5_openSet := goodIn_r _ [11, 12, 326, 327, 328, 329, 330, 331, 332, 333, 334, 335, 336, 337, 338] rfl (by decide +kernel)
set_option maxRecDepth 20000 in
theorem gL_acts_X5_openSet : GoodIn wsL_acts (wsV RL 120 RX5 yX5_openSet wsX5_openSet) := goodIn_app (goodIn_of _ (by decide +kernel)) ggL_acts_X5_openSet
set_option maxRecDepth 20000 in
theorem ggL_acts_L_locked : GoodIn wsL_acts wsL_locked := goodIn_ca (goodIn_r _ [15, 16, 17, 18, 10, 19, 20, 21, 12, 22, 23, 24, 25, 26, 27, 326, 327, 328, 329, 330, 331, 332, 333, 334, 335, 336, 337, 338] rfl (by decide +kernel)) (goodIn_sub (fun _ h => List.mem_cons_of_mem _ (List.mem_append_left _ (List.mem_append_left _ (List.mem_append_right _ h)))) (by decide +kernel))
set_option maxRecDepth 20000 in
theorem gL_acts_L_locked : GoodIn wsL_acts (va_wsS RL 131 yL_locked wsL_locked) := goodIn_app (goodIn_of _ (by decide +kernel)) ggL_acts_L_locked
set_option maxRecDepth 20000 in
theorem ggL_acts_X5_turnsInAll : GoodIn wsL_acts wsX5_turnsInAll := goodIn_r _ [31, 12, 32, 33, 10, 34, 326, 327, 328, 329, 330, 331, 332, 333, 334, 335, 336, 337, 338] rfl (by decide +kernel)
set_option maxRecDepth 20000 in
theorem gL_acts_X5_turnsInAll : GoodIn wsL_acts (wsV RL 186 RX5 yX5_turnsInAll wsX5_turnsInAll) := goodIn_app (goodIn_of _ (by decide +kernel)) ggL_acts_X5_turnsInAll
set_option maxRecDepth 20000 in
theorem ggL_acts_X5_thingsOf : GoodIn wsL_acts wsX5_thingsOf := goodIn_ca (goodIn_r _ [38, 20, 21, 12, 39, 40, 10, 41, 42, 43, 44, 45, 46, 47, 48, 49, 50, 51, 52, 53, 54, 55, 56, 326, 327, 328, 329, 330, 331, 332, 333, 334, 335, 336, 337, 338] rfl (by decide +kernel)) (goodIn_sub (fun _ h => List.mem_cons_of_mem _ (List.mem_append_left _ (List.mem_append_left _ (List.mem_append_right _ h)))) (by decide +kernel))
set_option maxRecDepth 20000 in
theorem gL_acts_X5_thingsOf : GoodIn wsL_acts (wsV RL 62 RX5 yX5_thingsOf wsX5_thingsOf) := goodIn_app (goodIn_of _ (by decide +kernel)) ggL_acts_X5_thingsOf
set_option maxRecDepth 20000 in
theorem ggL_acts_X5_timesOf : GoodIn wsL_acts wsX5_timesOf := goodIn_ca (goodIn_r _ [60, 20, 21, 12, 22, 23, 10, 24, 32, 33, 34, 326, 327, 328, 329, 330, 331, 332, 333, 334, 335, 336, 337, 338] rfl (by decide +kernel)) (goodIn_sub (fun _ h => List.mem_cons_of_mem _ (List.mem_append_left _ (List.mem_append_left _ (List.mem_append_right _ h)))) (by decide +kernel))
set_option maxRecDepth 20000 in
theorem gL_acts_X5_timesOf : GoodIn wsL_acts (wsV RL 90 RX5 yX5_timesOf wsX5_timesOf) := goodIn_app (goodIn_of _ (by decide +kernel)) ggL_acts_X5_timesOf
set_option maxRecDepth 20000 in
theorem ggL_acts_L_turned : GoodIn wsL_acts wsL_turned := goodIn_r _ [63] rfl (by decide +kernel)
set_option maxRecDepth 20000 in
theorem gL_acts_L_turned : GoodIn wsL_acts (va_wsS RL 168 yL_turned wsL_turned) := goodIn_app (goodIn_of _ (by decide +kernel)) ggL_acts_L_turned
set_option maxRecDepth 20000 in
theorem ggL_acts_L_pass : GoodIn wsL_acts wsL_pass := goodIn_ca (goodIn_r _ [66, 67, 68, 69, 70, 10, 71, 20, 21, 72, 12, 22, 23, 24, 73, 74, 75, 76, 77, 78, 79, 80, 81, 82, 83, 84, 85, 86, 45, 87, 88, 89, 90, 48, 47, 91, 92, 93, 94, 95, 96, 97, 98, 99, 100, 101, 102, 103, 104, 105, 106, 107, 26, 27, 108, 109, 50, 51, 52, 53, 54, 55, 56, 326, 327, 328, 329, 330, 331, 332, 333, 334, 335, 336, 337, 338, 339, 340] rfl (by decide +kernel)) (goodIn_sub (fun _ h => List.mem_cons_of_mem _ (List.mem_append_left _ (List.mem_append_left _ (List.mem_append_right _ h)))) (by decide +kernel))
set_option maxRecDepth 20000 in
theorem gL_acts_L_pass : GoodIn wsL_acts (va_wsS RL 229 yL_pass wsL_pass) := goodIn_app (goodIn_of _ (by decide +kernel)) ggL_acts_L_pass
set_option maxRecDepth 20000 in
theorem ggL_acts_L_ones : GoodIn wsL_acts wsL_ones := goodIn_r _ [112] rfl (by decide +kernel)
set_option maxRecDepth 20000 in
theorem gL_acts_L_ones : GoodIn wsL_acts (va_wsS RL 135 yL_ones wsL_ones) := goodIn_app (goodIn_of _ (by decide +kernel)) ggL_acts_L_ones
set_option maxRecDepth 20000 in
theorem ggL_acts_X5_isSkipped : GoodIn wsL_acts wsX5_isSkipped := goodIn_ca (goodIn_r _ [116, 20, 21, 12, 22, 23, 10, 24, 25, 26, 27, 326, 327, 328, 329, 330, 331, 332, 333, 334, 335, 336, 337, 338] rfl (by decide +kernel)) (goodIn_sub (fun _ h => List.mem_cons_of_mem _ (List.mem_append_left _ (List.mem_append_left _ (List.mem_append_right _ h)))) (by decide +kernel))
set_option maxRecDepth 20000 in
theorem gL_acts_X5_isSkipped : GoodIn wsL_acts (wsV RL 45 RX5 yX5_isSkipped wsX5_isSkipped) := goodIn_app (goodIn_of _ (by decide +kernel)) ggL_acts_X5_isSkipped
set_option maxRecDepth 20000 in
theorem ggL_acts_L_passRow : GoodIn wsL_acts wsL_passRow := goodIn_ca (goodIn_r _ [119, 67, 120, 121, 122, 10, 123, 20, 21, 72, 12, 124, 125, 126, 73, 74, 75, 76, 77, 78, 79, 80, 81, 82, 83, 84, 85, 86, 45, 87, 88, 89, 90, 48, 47, 91, 92, 93, 94, 95, 127, 128, 129, 130, 26, 27, 131, 97, 98, 99, 100, 101, 102, 103, 104, 105, 106, 107, 108, 109, 326, 327, 328, 329, 330, 331, 339, 340, 332, 333, 334, 335, 336, 337, 338] rfl (by decide +kernel)) (goodIn_sub (fun _ h => List.mem_cons_of_mem _ (List.mem_append_left _ (List.mem_append_left _ (List.mem_append_right _ h)))) (by decide +kernel))
set_option maxRecDepth 20000 in
theorem gL_acts_L_passRow : GoodIn wsL_acts (va_wsS RL 231 yL_passRow wsL_passRow) := goodIn_app (goodIn_of _ (by decide +kernel)) ggL_acts_L_passRow
set_option maxRecDepth 20000 in
theorem ggL_acts_X5_isOpen : GoodIn wsL_acts wsX5_isOpen := goodIn_ca (goodIn_r _ [135, 20, 21, 12, 22, 23, 10, 24, 25, 26, 27, 326, 327, 328, 329, 330, 331, 332, 333, 334, 335, 336, 337, 338] rfl (by decide +kernel)) (goodIn_sub (fun _ h => List.mem_cons_of_mem _ (List.mem_append_left _ (List.mem_append_left _ (List.mem_append_right _ h)))) (by decide +kernel))
set_option maxRecDepth 20000 in
theorem gL_acts_X5_isOpen : GoodIn wsL_acts (wsV RL 39 RX5 yX5_isOpen wsX5_isOpen) := goodIn_app (goodIn_of _ (by decide +kernel)) ggL_acts_X5_isOpen
set_option maxRecDepth 20000 in
theorem ggL_acts_X5_isLocked : GoodIn wsL_acts wsX5_isLocked := goodIn_ca (goodIn_r _ [19, 20, 21, 12, 22, 23, 10, 24, 25, 26, 27, 326, 327, 328, 329, 330, 331, 332, 333, 334, 335, 336, 337, 338] rfl (by decide +kernel)) (goodIn_sub (fun _ h => List.mem_cons_of_mem _ (List.mem_append_left _ (List.mem_append_left _ (List.mem_append_right _ h)))) (by decide +kernel))
set_option maxRecDepth 20000 in
theorem gL_acts_X5_isLocked : GoodIn wsL_acts (wsV RL 42 RX5 yX5_isLocked wsX5_isLocked) := goodIn_app (goodIn_of _ (by decide +kernel)) ggL_acts_X5_isLocked
set_option maxRecDepth 20000 in
theorem ggL_acts_L_turnDoor : GoodIn wsL_acts wsL_turnDoor := goodIn_ca (goodIn_ca (goodIn_r _ [138, 67, 139, 140, 141, 142, 10, 143, 20, 21, 144, 145, 12, 72, 22, 23, 24, 25, 26, 27, 73, 74, 75, 76, 77, 78, 79, 80, 81, 82, 83, 84, 85, 86, 45, 87, 88, 89, 90, 48, 47, 91, 92, 93, 94, 95, 146, 105, 106, 107, 108, 109, 100, 101, 326, 327, 328, 329, 330, 331, 332, 333, 334, 335, 336, 337, 338, 339, 340] rfl (by decide +kernel)) (goodIn_sub (fun _ h => List.mem_cons_of_mem _ (List.mem_append_left _ (List.mem_append_left _ (List.mem_append_right _ h)))) (by decide +kernel))) (goodIn_sub (fun _ h => List.mem_cons_of_mem _ (List.mem_append_left _ (List.mem_append_right _ h))) (by decide +kernel))
set_option maxRecDepth 20000 in
theorem gL_acts_L_turnDoor : GoodIn wsL_acts (va_wsS RL 233 yL_turnDoor wsL_turnDoor) := goodIn_app (goodIn_of _ (by decide +kernel)) ggL_acts_L_turnDoor
set_option maxRecDepth 20000 in
theorem ggL_acts_L_turnLock : GoodIn wsL_acts wsL_turnLock := goodIn_ca (goodIn_r _ [149, 67, 150, 151, 152, 10, 153, 20, 21, 72, 12, 22, 23, 24, 73, 74, 75, 76, 77, 78, 79, 80, 81, 82, 83, 84, 85, 86, 45, 87, 88, 89, 90, 48, 47, 91, 92, 93, 94, 95, 154, 155, 156, 157, 108, 109, 25, 26, 27, 326, 327, 328, 329, 330, 331, 332, 333, 334, 335, 336, 337, 338, 339, 340] rfl (by decide +kernel)) (goodIn_sub (fun _ h => List.mem_cons_of_mem _ (List.mem_append_left _ (List.mem_append_left _ (List.mem_append_right _ h)))) (by decide +kernel))
set_option maxRecDepth 20000 in
theorem gL_acts_L_turnLock : GoodIn wsL_acts (va_wsS RL 235 yL_turnLock wsL_turnLock) := goodIn_app (goodIn_of _ (by decide +kernel)) ggL_acts_L_turnLock
set_option maxRecDepth 20000 in
theorem ggL_acts_L_turnSkip : GoodIn wsL_acts wsL_turnSkip := goodIn_ca (goodIn_r _ [160, 67, 161, 162, 163, 10, 164, 20, 21, 72, 12, 22, 23, 24, 73, 74, 75, 76, 77, 78, 79, 80, 81, 82, 83, 84, 85, 86, 45, 87, 88, 89, 90, 48, 47, 91, 92, 93, 94, 95, 165, 108, 109, 25, 26, 27, 326, 327, 328, 329, 330, 331, 332, 333, 334, 335, 336, 337, 338, 339, 340] rfl (by decide +kernel)) (goodIn_sub (fun _ h => List.mem_cons_of_mem _ (List.mem_append_left _ (List.mem_append_left _ (List.mem_append_right _ h)))) (by decide +kernel))
set_option maxRecDepth 20000 in
theorem gL_acts_L_turnSkip : GoodIn wsL_acts (va_wsS RL 237 yL_turnSkip wsL_turnSkip) := goodIn_app (goodIn_of _ (by decide +kernel)) ggL_acts_L_turnSkip
set_option maxRecDepth 20000 in
theorem ggL_acts_L_thingAt : GoodIn wsL_acts wsL_thingAt := goodIn_ca (goodIn_ca (goodIn_r _ [168, 67, 169, 170, 171, 172, 10, 173, 20, 21, 174, 175, 12, 22, 23, 24, 25, 26, 27, 176, 177, 178, 45, 179, 47, 326, 327, 328, 329, 330, 331, 332, 333, 334, 335, 336, 337, 338] rfl (by decide +kernel)) (goodIn_sub (fun _ h => List.mem_cons_of_mem _ (List.mem_append_left _ (List.mem_append_left _ (List.mem_append_right _ h)))) (by decide +kernel))) (goodIn_sub (fun _ h => List.mem_cons_of_mem _ (List.mem_append_right _ h)) (by decide +kernel))
set_option maxRecDepth 20000 in
theorem gL_acts_L_thingAt : GoodIn wsL_acts (va_wsS RL 126 yL_thingAt wsL_thingAt) := goodIn_app (goodIn_of _ (by decide +kernel)) ggL_acts_L_thingAt
set_option maxRecDepth 20000 in
theorem ggL_acts_X5_whyNot : GoodIn wsL_acts wsX5_whyNot := goodIn_ca (goodIn_r _ [183, 20, 21, 12, 22, 23, 10, 24, 39, 40, 41, 184, 185, 186, 45, 187, 88, 48, 26, 27, 188, 189, 190, 326, 327, 328, 329, 330, 331, 332, 333, 334, 335, 336, 337, 338] rfl (by decide +kernel)) (goodIn_sub (fun _ h => List.mem_cons_of_mem _ (List.mem_append_left _ (List.mem_append_left _ (List.mem_append_right _ h)))) (by decide +kernel))
set_option maxRecDepth 20000 in
theorem gL_acts_X5_whyNot : GoodIn wsL_acts (wsV RL 56 RX5 yX5_whyNot wsX5_whyNot) := goodIn_app (goodIn_of _ (by decide +kernel)) ggL_acts_X5_whyNot
set_option maxRecDepth 20000 in
theorem ggL_acts_L_store : GoodIn wsL_acts wsL_store := goodIn_ca (goodIn_ca (goodIn_r _ [193, 67, 139, 194, 195, 196, 10, 197, 20, 21, 144, 145, 12, 72, 22, 23, 24, 39, 40, 41, 184, 185, 186, 45, 187, 88, 48, 26, 27, 188, 189, 190, 73, 74, 75, 76, 77, 78, 79, 80, 81, 82, 83, 84, 85, 86, 87, 89, 90, 47, 91, 92, 93, 94, 95, 198, 199, 200, 201, 108, 109, 42, 43, 44, 46, 49, 50, 51, 52, 53, 54, 55, 56, 326, 327, 328, 329, 330, 331, 332, 333, 334, 335, 336, 337, 338, 339, 340] rfl (by decide +kernel)) (goodIn_sub (fun _ h => List.mem_cons_of_mem _ (List.mem_append_left _ (List.mem_append_left _ (List.mem_append_right _ h)))) (by decide +kernel))) (goodIn_sub (fun _ h => List.mem_cons_of_mem _ (List.mem_append_left _ (List.mem_append_right _ h))) (by decide +kernel))
set_option maxRecDepth 20000 in
theorem gL_acts_L_store : GoodIn wsL_acts (va_wsS RL 239 yL_store wsL_store) := goodIn_app (goodIn_of _ (by decide +kernel)) ggL_acts_L_store
set_option maxRecDepth 20000 in
theorem ggL_acts_X5_thingAt : GoodIn wsL_acts wsX5_thingAt := goodIn_ca (goodIn_ca (goodIn_r _ [173, 20, 21, 174, 175, 12, 22, 23, 10, 24, 25, 26, 27, 176, 177, 178, 45, 179, 47, 326, 327, 328, 329, 330, 331, 332, 333, 334, 335, 336, 337, 338] rfl (by decide +kernel)) (goodIn_sub (fun _ h => List.mem_cons_of_mem _ (List.mem_append_left _ (List.mem_append_left _ (List.mem_append_right _ h)))) (by decide +kernel))) (goodIn_sub (fun _ h => List.mem_cons_of_mem _ (List.mem_append_right _ h)) (by decide +kernel))
set_option maxRecDepth 20000 in
theorem gL_acts_X5_thingAt : GoodIn wsL_acts (wsV RL 59 RX5 yX5_thingAt wsX5_thingAt) := goodIn_app (goodIn_of _ (by decide +kernel)) ggL_acts_X5_thingAt
set_option maxRecDepth 20000 in
theorem ggL_acts_L_takeOut : GoodIn wsL_acts wsL_takeOut := goodIn_ca (goodIn_ca (goodIn_r _ [204, 67, 139, 205, 206, 207, 10, 208, 20, 21, 144, 145, 12, 72, 22, 23, 24, 25, 26, 27, 176, 177, 178, 45, 179, 47, 73, 74, 75, 76, 77, 78, 79, 80, 81, 82, 83, 84, 85, 86, 87, 88, 89, 90, 48, 91, 92, 93, 94, 95, 209, 210, 211, 212, 49, 108, 109, 326, 327, 328, 329, 330, 331, 332, 333, 334, 335, 336, 337, 338, 339, 340] rfl (by decide +kernel)) (goodIn_sub (fun _ h => List.mem_cons_of_mem _ (List.mem_append_left _ (List.mem_append_left _ (List.mem_append_right _ h)))) (by decide +kernel))) (goodIn_sub (fun _ h => List.mem_cons_of_mem _ (List.mem_append_left _ (List.mem_append_right _ h))) (by decide +kernel))
set_option maxRecDepth 20000 in
theorem gL_acts_L_takeOut : GoodIn wsL_acts (va_wsS RL 241 yL_takeOut wsL_takeOut) := goodIn_app (goodIn_of _ (by decide +kernel)) ggL_acts_L_takeOut
set_option maxRecDepth 20000 in
theorem ggL_acts_L_reads : GoodIn wsL_acts wsL_reads := goodIn_ca (goodIn_ca (goodIn_ca (goodIn_r _ [215, 2, 3, 4, 5, 6, 216, 217, 218, 10, 219, 220, 221, 222, 223, 224, 20, 21, 144, 145, 225, 226, 227, 228, 229, 230, 231, 232, 233, 234, 235, 236, 237, 238, 72, 239, 240, 241, 169, 242, 243, 244, 245, 174, 175, 246, 12, 247, 248, 249, 250, 251, 252, 253, 254, 255, 256, 257, 258, 85, 86, 45, 87, 88, 89, 90, 48, 47, 91, 92, 93, 94, 95, 259, 260, 261, 262, 263, 264, 265, 266, 267, 268, 269, 270, 271, 272, 273, 274, 275, 276, 277, 278, 279, 280, 281, 282, 283, 284, 285, 286, 287, 288, 289, 290, 291, 292, 293, 125, 126, 23, 24, 26, 27, 40, 41, 294, 185, 186, 187, 188, 189, 190, 295, 296, 297, 298, 299, 97, 98, 99, 100, 101, 102, 103, 104, 105, 106, 107, 108, 109, 300, 301, 155, 156, 157, 302, 128, 129, 130, 131, 303, 199, 200, 201, 304, 305, 306, 307, 308, 309, 310, 311, 312, 313, 314, 315, 316, 317, 318, 319, 320, 139, 321, 322, 323, 324, 73, 74, 75, 76, 77, 78, 79, 80, 81, 82, 83, 84, 325, 326, 327, 328, 329, 330, 331, 341, 342, 339, 340, 343, 344, 345, 346, 347, 348, 349, 350, 351, 352, 353, 332, 333, 334, 335, 336, 337, 338] rfl (by decide +kernel)) (goodIn_sub (fun _ h => List.mem_cons_of_mem _ (List.mem_append_left _ (List.mem_append_left _ (List.mem_append_right _ h)))) (by decide +kernel))) (goodIn_sub (fun _ h => List.mem_cons_of_mem _ (List.mem_append_left _ (List.mem_append_right _ h))) (by decide +kernel))) (goodIn_sub (fun _ h => List.mem_cons_of_mem _ (List.mem_append_right _ h)) (by decide +kernel))
set_option maxRecDepth 20000 in
theorem gL_acts_L_reads : GoodIn wsL_acts (va_wsS RL 243 yL_reads wsL_reads) := goodIn_app (goodIn_of _ (by decide +kernel)) ggL_acts_L_reads
theorem dL_acts_0 : decode cL_acts 0 = .ok (.iload_n 1, 1) := by decide +kernel
theorem dL_acts_1 : decode cL_acts 1 = .ok (.bipush 40, 2) := by decide +kernel
theorem dL_acts_3 : decode cL_acts 3 = .ok (.invokestatic 177, 3) := by decide +kernel
theorem dL_acts_6 : decode cL_acts 6 = .ok (.istore_n 3, 1) := by decide +kernel
theorem dL_acts_7 : decode cL_acts 7 = .ok (.iload_n 2, 1) := by decide +kernel
theorem dL_acts_8 : decode cL_acts 8 = .ok (.bipush 9, 2) := by decide +kernel
theorem dL_acts_10 : decode cL_acts 10 = .ok (.ishr, 1) := by decide +kernel
theorem dL_acts_11 : decode cL_acts 11 = .ok (.bipush 22, 2) := by decide +kernel
theorem dL_acts_13 : decode cL_acts 13 = .ok (.invokestatic 177, 3) := by decide +kernel
theorem dL_acts_16 : decode cL_acts 16 = .ok (.ifCond .ne 14, 3) := by decide +kernel
theorem dL_acts_19 : decode cL_acts 19 = .ok (.bipush 49, 2) := by decide +kernel
theorem dL_acts_21 : decode cL_acts 21 = .ok (.iload_n 2, 1) := by decide +kernel
theorem dL_acts_22 : decode cL_acts 22 = .ok (.iconst 2, 1) := by decide +kernel
theorem dL_acts_23 : decode cL_acts 23 = .ok (.invokestatic 177, 3) := by decide +kernel
theorem dL_acts_26 : decode cL_acts 26 = .ok (.imul, 1) := by decide +kernel
theorem dL_acts_27 : decode cL_acts 27 = .ok (.goto 11, 3) := by decide +kernel
theorem dL_acts_30 : decode cL_acts 30 = .ok (.iconst 1, 1) := by decide +kernel
theorem dL_acts_31 : decode cL_acts 31 = .ok (.iload_n 2, 1) := by decide +kernel
theorem dL_acts_32 : decode cL_acts 32 = .ok (.bipush 48, 2) := by decide +kernel
theorem dL_acts_34 : decode cL_acts 34 = .ok (.invokestatic 177, 3) := by decide +kernel
theorem dL_acts_37 : decode cL_acts 37 = .ok (.iadd, 1) := by decide +kernel
theorem dL_acts_38 : decode cL_acts 38 = .ok (.istore 4, 2) := by decide +kernel
theorem dL_acts_40 : decode cL_acts 40 = .ok (.iload 4, 2) := by decide +kernel
theorem dL_acts_42 : decode cL_acts 42 = .ok (.ifCond .eq 10, 3) := by decide +kernel
theorem dL_acts_45 : decode cL_acts 45 = .ok (.iload 4, 2) := by decide +kernel
theorem dL_acts_47 : decode cL_acts 47 = .ok (.bipush 49, 2) := by decide +kernel
theorem dL_acts_49 : decode cL_acts 49 = .ok (.if_icmp .ne 7, 3) := by decide +kernel
theorem dL_acts_52 : decode cL_acts 52 = .ok (.iconst 1, 1) := by decide +kernel
theorem dL_acts_53 : decode cL_acts 53 = .ok (.goto 4, 3) := by decide +kernel
theorem dL_acts_56 : decode cL_acts 56 = .ok (.iconst 0, 1) := by decide +kernel
theorem dL_acts_57 : decode cL_acts 57 = .ok (.istore 5, 2) := by decide +kernel
theorem dL_acts_59 : decode cL_acts 59 = .ok (.aload_n 0, 1) := by decide +kernel
theorem dL_acts_60 : decode cL_acts 60 = .ok (.invokevirtual 120, 3) := by decide +kernel
theorem dL_acts_63 : decode cL_acts 63 = .ok (.lstore 6, 2) := by decide +kernel
theorem dL_acts_65 : decode cL_acts 65 = .ok (.aload_n 0, 1) := by decide +kernel
theorem dL_acts_66 : decode cL_acts 66 = .ok (.invokestatic 131, 3) := by decide +kernel
theorem dL_acts_69 : decode cL_acts 69 = .ok (.lstore 8, 2) := by decide +kernel
theorem dL_acts_71 : decode cL_acts 71 = .ok (.aload_n 0, 1) := by decide +kernel
theorem dL_acts_72 : decode cL_acts 72 = .ok (.invokevirtual 186, 3) := by decide +kernel
theorem dL_acts_75 : decode cL_acts 75 = .ok (.istore 10, 2) := by decide +kernel
theorem dL_acts_77 : decode cL_acts 77 = .ok (.aload_n 0, 1) := by decide +kernel
theorem dL_acts_78 : decode cL_acts 78 = .ok (.iconst 0, 1) := by decide +kernel
theorem dL_acts_79 : decode cL_acts 79 = .ok (.invokevirtual 62, 3) := by decide +kernel
theorem dL_acts_82 : decode cL_acts 82 = .ok (.istore 11, 2) := by decide +kernel
theorem dL_acts_84 : decode cL_acts 84 = .ok (.aload_n 0, 1) := by decide +kernel
theorem dL_acts_85 : decode cL_acts 85 = .ok (.iconst 1, 1) := by decide +kernel
theorem dL_acts_86 : decode cL_acts 86 = .ok (.invokevirtual 62, 3) := by decide +kernel
theorem dL_acts_89 : decode cL_acts 89 = .ok (.istore 12, 2) := by decide +kernel
theorem dL_acts_91 : decode cL_acts 91 = .ok (.iload_n 3, 1) := by decide +kernel
theorem dL_acts_92 : decode cL_acts 92 = .ok (.bipush 7, 2) := by decide +kernel
theorem dL_acts_94 : decode cL_acts 94 = .ok (.if_icmp .ge 123, 3) := by decide +kernel
theorem dL_acts_97 : decode cL_acts 97 = .ok (.iload 5, 2) := by decide +kernel
theorem dL_acts_99 : decode cL_acts 99 = .ok (.ifCond .eq 7, 3) := by decide +kernel
theorem dL_acts_102 : decode cL_acts 102 = .ok (.iconst 0, 1) := by decide +kernel
theorem dL_acts_103 : decode cL_acts 103 = .ok (.goto 9, 3) := by decide +kernel
theorem dL_acts_106 : decode cL_acts 106 = .ok (.aload_n 0, 1) := by decide +kernel
theorem dL_acts_107 : decode cL_acts 107 = .ok (.iload 4, 2) := by decide +kernel
theorem dL_acts_109 : decode cL_acts 109 = .ok (.invokevirtual 90, 3) := by decide +kernel
theorem dL_acts_112 : decode cL_acts 112 = .ok (.istore 13, 2) := by decide +kernel
theorem dL_acts_114 : decode cL_acts 114 = .ok (.iload 5, 2) := by decide +kernel
theorem dL_acts_116 : decode cL_acts 116 = .ok (.ifCond .eq 8, 3) := by decide +kernel
theorem dL_acts_119 : decode cL_acts 119 = .ok (.lload 6, 2) := by decide +kernel
theorem dL_acts_121 : decode cL_acts 121 = .ok (.goto 18, 3) := by decide +kernel
theorem dL_acts_124 : decode cL_acts 124 = .ok (.lload 6, 2) := by decide +kernel
theorem dL_acts_126 : decode cL_acts 126 = .ok (.iload 4, 2) := by decide +kernel
theorem dL_acts_128 : decode cL_acts 128 = .ok (.invokestatic 168, 3) := by decide +kernel
theorem dL_acts_131 : decode cL_acts 131 = .ok (.lload 8, 2) := by decide +kernel
theorem dL_acts_133 : decode cL_acts 133 = .ok (.ldc2_w 175, 3) := by decide +kernel
theorem dL_acts_136 : decode cL_acts 136 = .ok (.lxor, 1) := by decide +kernel
theorem dL_acts_137 : decode cL_acts 137 = .ok (.land, 1) := by decide +kernel
theorem dL_acts_138 : decode cL_acts 138 = .ok (.lxor, 1) := by decide +kernel
theorem dL_acts_139 : decode cL_acts 139 = .ok (.lstore 14, 2) := by decide +kernel
theorem dL_acts_141 : decode cL_acts 141 = .ok (.aload_n 0, 1) := by decide +kernel
theorem dL_acts_142 : decode cL_acts 142 = .ok (.iload 4, 2) := by decide +kernel
theorem dL_acts_144 : decode cL_acts 144 = .ok (.invokestatic 229, 3) := by decide +kernel
theorem dL_acts_147 : decode cL_acts 147 = .ok (.iload 5, 2) := by decide +kernel
theorem dL_acts_149 : decode cL_acts 149 = .ok (.ifCond .eq 8, 3) := by decide +kernel
theorem dL_acts_152 : decode cL_acts 152 = .ok (.bipush (-102), 2) := by decide +kernel
theorem dL_acts_154 : decode cL_acts 154 = .ok (.goto 8, 3) := by decide +kernel
theorem dL_acts_157 : decode cL_acts 157 = .ok (.lload 14, 2) := by decide +kernel
theorem dL_acts_159 : decode cL_acts 159 = .ok (.invokestatic 135, 3) := by decide +kernel
theorem dL_acts_162 : decode cL_acts 162 = .ok (.if_icmp .ne 53, 3) := by decide +kernel
theorem dL_acts_165 : decode cL_acts 165 = .ok (.aload_n 0, 1) := by decide +kernel
theorem dL_acts_166 : decode cL_acts 166 = .ok (.invokevirtual 120, 3) := by decide +kernel
theorem dL_acts_169 : decode cL_acts 169 = .ok (.lload 14, 2) := by decide +kernel
theorem dL_acts_171 : decode cL_acts 171 = .ok (.lcmp, 1) := by decide +kernel
theorem dL_acts_172 : decode cL_acts 172 = .ok (.ifCond .ne 43, 3) := by decide +kernel
theorem dL_acts_175 : decode cL_acts 175 = .ok (.aload_n 0, 1) := by decide +kernel
theorem dL_acts_176 : decode cL_acts 176 = .ok (.invokevirtual 186, 3) := by decide +kernel
theorem dL_acts_179 : decode cL_acts 179 = .ok (.iload 10, 2) := by decide +kernel
theorem dL_acts_181 : decode cL_acts 181 = .ok (.lload 6, 2) := by decide +kernel
theorem dL_acts_183 : decode cL_acts 183 = .ok (.lload 14, 2) := by decide +kernel
theorem dL_acts_185 : decode cL_acts 185 = .ok (.lxor, 1) := by decide +kernel
theorem dL_acts_186 : decode cL_acts 186 = .ok (.invokestatic 135, 3) := by decide +kernel
theorem dL_acts_189 : decode cL_acts 189 = .ok (.iadd, 1) := by decide +kernel
theorem dL_acts_190 : decode cL_acts 190 = .ok (.if_icmp .ne 25, 3) := by decide +kernel
theorem dL_acts_193 : decode cL_acts 193 = .ok (.iload 5, 2) := by decide +kernel
theorem dL_acts_195 : decode cL_acts 195 = .ok (.ifCond .ne 16, 3) := by decide +kernel
theorem dL_acts_198 : decode cL_acts 198 = .ok (.aload_n 0, 1) := by decide +kernel
theorem dL_acts_199 : decode cL_acts 199 = .ok (.iload 4, 2) := by decide +kernel
theorem dL_acts_201 : decode cL_acts 201 = .ok (.invokevirtual 90, 3) := by decide +kernel
theorem dL_acts_204 : decode cL_acts 204 = .ok (.iload 13, 2) := by decide +kernel
theorem dL_acts_206 : decode cL_acts 206 = .ok (.iconst 1, 1) := by decide +kernel
theorem dL_acts_207 : decode cL_acts 207 = .ok (.iadd, 1) := by decide +kernel
theorem dL_acts_208 : decode cL_acts 208 = .ok (.if_icmp .ne 7, 3) := by decide +kernel
theorem dL_acts_211 : decode cL_acts 211 = .ok (.iconst 1, 1) := by decide +kernel
theorem dL_acts_212 : decode cL_acts 212 = .ok (.goto 4, 3) := by decide +kernel
theorem dL_acts_215 : decode cL_acts 215 = .ok (.iconst 0, 1) := by decide +kernel
theorem dL_acts_216 : decode cL_acts 216 = .ok (.ireturn, 1) := by decide +kernel
theorem dL_acts_217 : decode cL_acts 217 = .ok (.iload_n 3, 1) := by decide +kernel
theorem dL_acts_218 : decode cL_acts 218 = .ok (.bipush 11, 2) := by decide +kernel
theorem dL_acts_220 : decode cL_acts 220 = .ok (.if_icmp .ge 224, 3) := by decide +kernel
theorem dL_acts_223 : decode cL_acts 223 = .ok (.iload_n 2, 1) := by decide +kernel
theorem dL_acts_224 : decode cL_acts 224 = .ok (.bipush 11, 2) := by decide +kernel
theorem dL_acts_226 : decode cL_acts 226 = .ok (.ishr, 1) := by decide +kernel
theorem dL_acts_227 : decode cL_acts 227 = .ok (.bipush 14, 2) := by decide +kernel
theorem dL_acts_229 : decode cL_acts 229 = .ok (.invokestatic 177, 3) := by decide +kernel
theorem dL_acts_232 : decode cL_acts 232 = .ok (.ifCond .ne 14, 3) := by decide +kernel
theorem dL_acts_235 : decode cL_acts 235 = .ok (.iload_n 2, 1) := by decide +kernel
theorem dL_acts_236 : decode cL_acts 236 = .ok (.iconst 5, 1) := by decide +kernel
theorem dL_acts_237 : decode cL_acts 237 = .ok (.ishr, 1) := by decide +kernel
theorem dL_acts_238 : decode cL_acts 238 = .ok (.bipush 51, 2) := by decide +kernel
theorem dL_acts_240 : decode cL_acts 240 = .ok (.invokestatic 177, 3) := by decide +kernel
theorem dL_acts_243 : decode cL_acts 243 = .ok (.goto 27, 3) := by decide +kernel
theorem dL_acts_246 : decode cL_acts 246 = .ok (.iload 5, 2) := by decide +kernel
theorem dL_acts_248 : decode cL_acts 248 = .ok (.ifCond .eq 8, 3) := by decide +kernel
theorem dL_acts_251 : decode cL_acts 251 = .ok (.iload 4, 2) := by decide +kernel
theorem dL_acts_253 : decode cL_acts 253 = .ok (.goto 17, 3) := by decide +kernel
theorem dL_acts_256 : decode cL_acts 256 = .ok (.iload 4, 2) := by decide +kernel
theorem dL_acts_258 : decode cL_acts 258 = .ok (.iload_n 2, 1) := by decide +kernel
theorem dL_acts_259 : decode cL_acts 259 = .ok (.iconst 5, 1) := by decide +kernel
theorem dL_acts_260 : decode cL_acts 260 = .ok (.ishr, 1) := by decide +kernel
theorem dL_acts_261 : decode cL_acts 261 = .ok (.bipush 49, 2) := by decide +kernel
theorem dL_acts_263 : decode cL_acts 263 = .ok (.iload 4, 2) := by decide +kernel
theorem dL_acts_265 : decode cL_acts 265 = .ok (.isub, 1) := by decide +kernel
theorem dL_acts_266 : decode cL_acts 266 = .ok (.invokestatic 177, 3) := by decide +kernel
theorem dL_acts_269 : decode cL_acts 269 = .ok (.iadd, 1) := by decide +kernel
theorem dL_acts_270 : decode cL_acts 270 = .ok (.istore 13, 2) := by decide +kernel
theorem dL_acts_272 : decode cL_acts 272 = .ok (.iload 5, 2) := by decide +kernel
theorem dL_acts_274 : decode cL_acts 274 = .ok (.ifCond .ne 17, 3) := by decide +kernel
theorem dL_acts_277 : decode cL_acts 277 = .ok (.iload 13, 2) := by decide +kernel
theorem dL_acts_279 : decode cL_acts 279 = .ok (.iload 4, 2) := by decide +kernel
theorem dL_acts_281 : decode cL_acts 281 = .ok (.if_icmp .lt 10, 3) := by decide +kernel
theorem dL_acts_284 : decode cL_acts 284 = .ok (.iload 13, 2) := by decide +kernel
theorem dL_acts_286 : decode cL_acts 286 = .ok (.bipush 48, 2) := by decide +kernel
theorem dL_acts_288 : decode cL_acts 288 = .ok (.if_icmp .le 7, 3) := by decide +kernel
theorem dL_acts_291 : decode cL_acts 291 = .ok (.iconst 1, 1) := by decide +kernel
theorem dL_acts_292 : decode cL_acts 292 = .ok (.goto 4, 3) := by decide +kernel
theorem dL_acts_295 : decode cL_acts 295 = .ok (.iconst 0, 1) := by decide +kernel
theorem dL_acts_296 : decode cL_acts 296 = .ok (.istore 14, 2) := by decide +kernel
theorem dL_acts_298 : decode cL_acts 298 = .ok (.lload 6, 2) := by decide +kernel
theorem dL_acts_300 : decode cL_acts 300 = .ok (.lstore 15, 2) := by decide +kernel
theorem dL_acts_302 : decode cL_acts 302 = .ok (.iconst 0, 1) := by decide +kernel
theorem dL_acts_303 : decode cL_acts 303 = .ok (.istore 17, 2) := by decide +kernel
theorem dL_acts_305 : decode cL_acts 305 = .ok (.iconst 0, 1) := by decide +kernel
theorem dL_acts_306 : decode cL_acts 306 = .ok (.istore 18, 2) := by decide +kernel
theorem dL_acts_308 : decode cL_acts 308 = .ok (.iload 4, 2) := by decide +kernel
theorem dL_acts_310 : decode cL_acts 310 = .ok (.istore 19, 2) := by decide +kernel
theorem dL_acts_312 : decode cL_acts 312 = .ok (.iload 19, 2) := by decide +kernel
theorem dL_acts_314 : decode cL_acts 314 = .ok (.iload 13, 2) := by decide +kernel
theorem dL_acts_316 : decode cL_acts 316 = .ok (.if_icmp .gt 77, 3) := by decide +kernel
theorem dL_acts_319 : decode cL_acts 319 = .ok (.iload 14, 2) := by decide +kernel
theorem dL_acts_321 : decode cL_acts 321 = .ok (.ifCond .ne 72, 3) := by decide +kernel
theorem dL_acts_324 : decode cL_acts 324 = .ok (.aload_n 0, 1) := by decide +kernel
theorem dL_acts_325 : decode cL_acts 325 = .ok (.iload 19, 2) := by decide +kernel
theorem dL_acts_327 : decode cL_acts 327 = .ok (.invokevirtual 45, 3) := by decide +kernel
theorem dL_acts_330 : decode cL_acts 330 = .ok (.ifCond .eq 7, 3) := by decide +kernel
theorem dL_acts_333 : decode cL_acts 333 = .ok (.lconst 0, 1) := by decide +kernel
theorem dL_acts_334 : decode cL_acts 334 = .ok (.goto 15, 3) := by decide +kernel
theorem dL_acts_337 : decode cL_acts 337 = .ok (.iload 19, 2) := by decide +kernel
theorem dL_acts_339 : decode cL_acts 339 = .ok (.invokestatic 168, 3) := by decide +kernel
theorem dL_acts_342 : decode cL_acts 342 = .ok (.lload 8, 2) := by decide +kernel
theorem dL_acts_344 : decode cL_acts 344 = .ok (.ldc2_w 175, 3) := by decide +kernel
theorem dL_acts_347 : decode cL_acts 347 = .ok (.lxor, 1) := by decide +kernel
theorem dL_acts_348 : decode cL_acts 348 = .ok (.land, 1) := by decide +kernel
theorem dL_acts_349 : decode cL_acts 349 = .ok (.lstore 20, 2) := by decide +kernel
theorem dL_acts_351 : decode cL_acts 351 = .ok (.lload 15, 2) := by decide +kernel
theorem dL_acts_353 : decode cL_acts 353 = .ok (.lload 20, 2) := by decide +kernel
theorem dL_acts_355 : decode cL_acts 355 = .ok (.lxor, 1) := by decide +kernel
theorem dL_acts_356 : decode cL_acts 356 = .ok (.lstore 15, 2) := by decide +kernel
theorem dL_acts_358 : decode cL_acts 358 = .ok (.iload 18, 2) := by decide +kernel
theorem dL_acts_360 : decode cL_acts 360 = .ok (.lload 20, 2) := by decide +kernel
theorem dL_acts_362 : decode cL_acts 362 = .ok (.invokestatic 135, 3) := by decide +kernel
theorem dL_acts_365 : decode cL_acts 365 = .ok (.iadd, 1) := by decide +kernel
theorem dL_acts_366 : decode cL_acts 366 = .ok (.istore 18, 2) := by decide +kernel
theorem dL_acts_368 : decode cL_acts 368 = .ok (.iload 17, 2) := by decide +kernel
theorem dL_acts_370 : decode cL_acts 370 = .ok (.aload_n 0, 1) := by decide +kernel
theorem dL_acts_371 : decode cL_acts 371 = .ok (.iload 19, 2) := by decide +kernel
theorem dL_acts_373 : decode cL_acts 373 = .ok (.invokevirtual 45, 3) := by decide +kernel
theorem dL_acts_376 : decode cL_acts 376 = .ok (.ifCond .eq 7, 3) := by decide +kernel
theorem dL_acts_379 : decode cL_acts 379 = .ok (.iconst 0, 1) := by decide +kernel
theorem dL_acts_380 : decode cL_acts 380 = .ok (.goto 4, 3) := by decide +kernel
theorem dL_acts_383 : decode cL_acts 383 = .ok (.iconst 1, 1) := by decide +kernel
theorem dL_acts_384 : decode cL_acts 384 = .ok (.iadd, 1) := by decide +kernel
theorem dL_acts_385 : decode cL_acts 385 = .ok (.istore 17, 2) := by decide +kernel
theorem dL_acts_387 : decode cL_acts 387 = .ok (.iinc 19 1, 3) := by decide +kernel
theorem dL_acts_390 : decode cL_acts 390 = .ok (.goto (-78), 3) := by decide +kernel
theorem dL_acts_393 : decode cL_acts 393 = .ok (.aload_n 0, 1) := by decide +kernel
theorem dL_acts_394 : decode cL_acts 394 = .ok (.iload 4, 2) := by decide +kernel
theorem dL_acts_396 : decode cL_acts 396 = .ok (.iload 13, 2) := by decide +kernel
theorem dL_acts_398 : decode cL_acts 398 = .ok (.invokestatic 231, 3) := by decide +kernel
theorem dL_acts_401 : decode cL_acts 401 = .ok (.iload 14, 2) := by decide +kernel
theorem dL_acts_403 : decode cL_acts 403 = .ok (.ifCond .eq 8, 3) := by decide +kernel
theorem dL_acts_406 : decode cL_acts 406 = .ok (.bipush (-102), 2) := by decide +kernel
theorem dL_acts_408 : decode cL_acts 408 = .ok (.goto 5, 3) := by decide +kernel
theorem dL_acts_411 : decode cL_acts 411 = .ok (.iload 17, 2) := by decide +kernel
theorem dL_acts_413 : decode cL_acts 413 = .ok (.if_icmp .ne 29, 3) := by decide +kernel
theorem dL_acts_416 : decode cL_acts 416 = .ok (.aload_n 0, 1) := by decide +kernel
theorem dL_acts_417 : decode cL_acts 417 = .ok (.invokevirtual 120, 3) := by decide +kernel
theorem dL_acts_420 : decode cL_acts 420 = .ok (.lload 15, 2) := by decide +kernel
theorem dL_acts_422 : decode cL_acts 422 = .ok (.lcmp, 1) := by decide +kernel
theorem dL_acts_423 : decode cL_acts 423 = .ok (.ifCond .ne 19, 3) := by decide +kernel
theorem dL_acts_426 : decode cL_acts 426 = .ok (.aload_n 0, 1) := by decide +kernel
theorem dL_acts_427 : decode cL_acts 427 = .ok (.invokevirtual 186, 3) := by decide +kernel
theorem dL_acts_430 : decode cL_acts 430 = .ok (.iload 10, 2) := by decide +kernel
theorem dL_acts_432 : decode cL_acts 432 = .ok (.iload 18, 2) := by decide +kernel
theorem dL_acts_434 : decode cL_acts 434 = .ok (.iadd, 1) := by decide +kernel
theorem dL_acts_435 : decode cL_acts 435 = .ok (.if_icmp .ne 7, 3) := by decide +kernel
theorem dL_acts_438 : decode cL_acts 438 = .ok (.iconst 1, 1) := by decide +kernel
theorem dL_acts_439 : decode cL_acts 439 = .ok (.goto 4, 3) := by decide +kernel
theorem dL_acts_442 : decode cL_acts 442 = .ok (.iconst 0, 1) := by decide +kernel
theorem dL_acts_443 : decode cL_acts 443 = .ok (.ireturn, 1) := by decide +kernel
theorem dL_acts_444 : decode cL_acts 444 = .ok (.iload_n 3, 1) := by decide +kernel
theorem dL_acts_445 : decode cL_acts 445 = .ok (.bipush 19, 2) := by decide +kernel
theorem dL_acts_447 : decode cL_acts 447 = .ok (.if_icmp .ge 135, 3) := by decide +kernel
theorem dL_acts_450 : decode cL_acts 450 = .ok (.iload 5, 2) := by decide +kernel
theorem dL_acts_452 : decode cL_acts 452 = .ok (.ifCond .ne 16, 3) := by decide +kernel
theorem dL_acts_455 : decode cL_acts 455 = .ok (.aload_n 0, 1) := by decide +kernel
theorem dL_acts_456 : decode cL_acts 456 = .ok (.iload 4, 2) := by decide +kernel
theorem dL_acts_458 : decode cL_acts 458 = .ok (.invokevirtual 39, 3) := by decide +kernel
theorem dL_acts_461 : decode cL_acts 461 = .ok (.ifCond .eq 7, 3) := by decide +kernel
theorem dL_acts_464 : decode cL_acts 464 = .ok (.iconst 1, 1) := by decide +kernel
theorem dL_acts_465 : decode cL_acts 465 = .ok (.goto 4, 3) := by decide +kernel
theorem dL_acts_468 : decode cL_acts 468 = .ok (.iconst 0, 1) := by decide +kernel
theorem dL_acts_469 : decode cL_acts 469 = .ok (.istore 13, 2) := by decide +kernel
theorem dL_acts_471 : decode cL_acts 471 = .ok (.iload 5, 2) := by decide +kernel
theorem dL_acts_473 : decode cL_acts 473 = .ok (.ifCond .ne 16, 3) := by decide +kernel
theorem dL_acts_476 : decode cL_acts 476 = .ok (.aload_n 0, 1) := by decide +kernel
theorem dL_acts_477 : decode cL_acts 477 = .ok (.iload 4, 2) := by decide +kernel
theorem dL_acts_479 : decode cL_acts 479 = .ok (.invokevirtual 42, 3) := by decide +kernel
theorem dL_acts_482 : decode cL_acts 482 = .ok (.ifCond .ne 7, 3) := by decide +kernel
theorem dL_acts_485 : decode cL_acts 485 = .ok (.iconst 1, 1) := by decide +kernel
theorem dL_acts_486 : decode cL_acts 486 = .ok (.goto 4, 3) := by decide +kernel
theorem dL_acts_489 : decode cL_acts 489 = .ok (.iconst 0, 1) := by decide +kernel
theorem dL_acts_490 : decode cL_acts 490 = .ok (.istore 14, 2) := by decide +kernel
theorem dL_acts_492 : decode cL_acts 492 = .ok (.aload_n 0, 1) := by decide +kernel
theorem dL_acts_493 : decode cL_acts 493 = .ok (.iload 4, 2) := by decide +kernel
theorem dL_acts_495 : decode cL_acts 495 = .ok (.invokestatic 233, 3) := by decide +kernel
theorem dL_acts_498 : decode cL_acts 498 = .ok (.iload 5, 2) := by decide +kernel
theorem dL_acts_500 : decode cL_acts 500 = .ok (.ifCond .eq 8, 3) := by decide +kernel
theorem dL_acts_503 : decode cL_acts 503 = .ok (.bipush (-102), 2) := by decide +kernel
theorem dL_acts_505 : decode cL_acts 505 = .ok (.goto 23, 3) := by decide +kernel
theorem dL_acts_508 : decode cL_acts 508 = .ok (.iload 14, 2) := by decide +kernel
theorem dL_acts_510 : decode cL_acts 510 = .ok (.ifCond .eq 16, 3) := by decide +kernel
theorem dL_acts_513 : decode cL_acts 513 = .ok (.iload 13, 2) := by decide +kernel
theorem dL_acts_515 : decode cL_acts 515 = .ok (.ifCond .eq 7, 3) := by decide +kernel
theorem dL_acts_518 : decode cL_acts 518 = .ok (.iconst 0, 1) := by decide +kernel
theorem dL_acts_519 : decode cL_acts 519 = .ok (.goto 9, 3) := by decide +kernel
theorem dL_acts_522 : decode cL_acts 522 = .ok (.iconst 1, 1) := by decide +kernel
theorem dL_acts_523 : decode cL_acts 523 = .ok (.goto 5, 3) := by decide +kernel
theorem dL_acts_526 : decode cL_acts 526 = .ok (.bipush (-103), 2) := by decide +kernel
theorem dL_acts_528 : decode cL_acts 528 = .ok (.if_icmp .ne 52, 3) := by decide +kernel
theorem dL_acts_531 : decode cL_acts 531 = .ok (.aload_n 0, 1) := by decide +kernel
theorem dL_acts_532 : decode cL_acts 532 = .ok (.invokevirtual 120, 3) := by decide +kernel
theorem dL_acts_535 : decode cL_acts 535 = .ok (.iload 14, 2) := by decide +kernel
theorem dL_acts_537 : decode cL_acts 537 = .ok (.ifCond .eq 13, 3) := by decide +kernel
theorem dL_acts_540 : decode cL_acts 540 = .ok (.lload 6, 2) := by decide +kernel
theorem dL_acts_542 : decode cL_acts 542 = .ok (.lconst 1, 1) := by decide +kernel
theorem dL_acts_543 : decode cL_acts 543 = .ok (.iload 4, 2) := by decide +kernel
theorem dL_acts_545 : decode cL_acts 545 = .ok (.lshl, 1) := by decide +kernel
theorem dL_acts_546 : decode cL_acts 546 = .ok (.lxor, 1) := by decide +kernel
theorem dL_acts_547 : decode cL_acts 547 = .ok (.goto 5, 3) := by decide +kernel
theorem dL_acts_550 : decode cL_acts 550 = .ok (.lload 6, 2) := by decide +kernel
theorem dL_acts_552 : decode cL_acts 552 = .ok (.lcmp, 1) := by decide +kernel
theorem dL_acts_553 : decode cL_acts 553 = .ok (.ifCond .ne 27, 3) := by decide +kernel
theorem dL_acts_556 : decode cL_acts 556 = .ok (.aload_n 0, 1) := by decide +kernel
theorem dL_acts_557 : decode cL_acts 557 = .ok (.invokevirtual 186, 3) := by decide +kernel
theorem dL_acts_560 : decode cL_acts 560 = .ok (.iload 10, 2) := by decide +kernel
theorem dL_acts_562 : decode cL_acts 562 = .ok (.iload 14, 2) := by decide +kernel
theorem dL_acts_564 : decode cL_acts 564 = .ok (.ifCond .eq 7, 3) := by decide +kernel
theorem dL_acts_567 : decode cL_acts 567 = .ok (.iconst 1, 1) := by decide +kernel
theorem dL_acts_568 : decode cL_acts 568 = .ok (.goto 4, 3) := by decide +kernel
theorem dL_acts_571 : decode cL_acts 571 = .ok (.iconst 0, 1) := by decide +kernel
theorem dL_acts_572 : decode cL_acts 572 = .ok (.iadd, 1) := by decide +kernel
theorem dL_acts_573 : decode cL_acts 573 = .ok (.if_icmp .ne 7, 3) := by decide +kernel
theorem dL_acts_576 : decode cL_acts 576 = .ok (.iconst 1, 1) := by decide +kernel
theorem dL_acts_577 : decode cL_acts 577 = .ok (.goto 4, 3) := by decide +kernel
theorem dL_acts_580 : decode cL_acts 580 = .ok (.iconst 0, 1) := by decide +kernel
theorem dL_acts_581 : decode cL_acts 581 = .ok (.ireturn, 1) := by decide +kernel
theorem dL_acts_582 : decode cL_acts 582 = .ok (.iload_n 3, 1) := by decide +kernel
theorem dL_acts_583 : decode cL_acts 583 = .ok (.bipush 26, 2) := by decide +kernel
theorem dL_acts_585 : decode cL_acts 585 = .ok (.if_icmp .ge 156, 3) := by decide +kernel
theorem dL_acts_588 : decode cL_acts 588 = .ok (.iload_n 3, 1) := by decide +kernel
theorem dL_acts_589 : decode cL_acts 589 = .ok (.bipush 22, 2) := by decide +kernel
theorem dL_acts_591 : decode cL_acts 591 = .ok (.if_icmp .ge 7, 3) := by decide +kernel
theorem dL_acts_594 : decode cL_acts 594 = .ok (.iconst 1, 1) := by decide +kernel
theorem dL_acts_595 : decode cL_acts 595 = .ok (.goto 4, 3) := by decide +kernel
theorem dL_acts_598 : decode cL_acts 598 = .ok (.iconst 0, 1) := by decide +kernel
theorem dL_acts_599 : decode cL_acts 599 = .ok (.istore 13, 2) := by decide +kernel
theorem dL_acts_601 : decode cL_acts 601 = .ok (.iload 5, 2) := by decide +kernel
theorem dL_acts_603 : decode cL_acts 603 = .ok (.ifCond .ne 33, 3) := by decide +kernel
theorem dL_acts_606 : decode cL_acts 606 = .ok (.iload 13, 2) := by decide +kernel
theorem dL_acts_608 : decode cL_acts 608 = .ok (.ifCond .eq 15, 3) := by decide +kernel
theorem dL_acts_611 : decode cL_acts 611 = .ok (.aload_n 0, 1) := by decide +kernel
theorem dL_acts_612 : decode cL_acts 612 = .ok (.iload 4, 2) := by decide +kernel
theorem dL_acts_614 : decode cL_acts 614 = .ok (.invokevirtual 42, 3) := by decide +kernel
theorem dL_acts_617 : decode cL_acts 617 = .ok (.ifCond .eq 19, 3) := by decide +kernel
theorem dL_acts_620 : decode cL_acts 620 = .ok (.goto 12, 3) := by decide +kernel
theorem dL_acts_623 : decode cL_acts 623 = .ok (.aload_n 0, 1) := by decide +kernel
theorem dL_acts_624 : decode cL_acts 624 = .ok (.iload 4, 2) := by decide +kernel
theorem dL_acts_626 : decode cL_acts 626 = .ok (.invokevirtual 45, 3) := by decide +kernel
theorem dL_acts_629 : decode cL_acts 629 = .ok (.ifCond .eq 7, 3) := by decide +kernel
theorem dL_acts_632 : decode cL_acts 632 = .ok (.iconst 1, 1) := by decide +kernel
theorem dL_acts_633 : decode cL_acts 633 = .ok (.goto 4, 3) := by decide +kernel
theorem dL_acts_636 : decode cL_acts 636 = .ok (.iconst 0, 1) := by decide +kernel
theorem dL_acts_637 : decode cL_acts 637 = .ok (.istore 14, 2) := by decide +kernel
theorem dL_acts_639 : decode cL_acts 639 = .ok (.iload 13, 2) := by decide +kernel
theorem dL_acts_641 : decode cL_acts 641 = .ok (.ifCond .eq 12, 3) := by decide +kernel
theorem dL_acts_644 : decode cL_acts 644 = .ok (.aload_n 0, 1) := by decide +kernel
theorem dL_acts_645 : decode cL_acts 645 = .ok (.iload 4, 2) := by decide +kernel
theorem dL_acts_647 : decode cL_acts 647 = .ok (.invokestatic 235, 3) := by decide +kernel
theorem dL_acts_650 : decode cL_acts 650 = .ok (.goto 9, 3) := by decide +kernel
theorem dL_acts_653 : decode cL_acts 653 = .ok (.aload_n 0, 1) := by decide +kernel
theorem dL_acts_654 : decode cL_acts 654 = .ok (.iload 4, 2) := by decide +kernel
theorem dL_acts_656 : decode cL_acts 656 = .ok (.invokestatic 237, 3) := by decide +kernel
theorem dL_acts_659 : decode cL_acts 659 = .ok (.istore 15, 2) := by decide +kernel
theorem dL_acts_661 : decode cL_acts 661 = .ok (.iload 15, 2) := by decide +kernel
theorem dL_acts_663 : decode cL_acts 663 = .ok (.iload 5, 2) := by decide +kernel
theorem dL_acts_665 : decode cL_acts 665 = .ok (.ifCond .eq 8, 3) := by decide +kernel
theorem dL_acts_668 : decode cL_acts 668 = .ok (.bipush (-102), 2) := by decide +kernel
theorem dL_acts_670 : decode cL_acts 670 = .ok (.goto 13, 3) := by decide +kernel
theorem dL_acts_673 : decode cL_acts 673 = .ok (.iload 14, 2) := by decide +kernel
theorem dL_acts_675 : decode cL_acts 675 = .ok (.ifCond .eq 7, 3) := by decide +kernel
theorem dL_acts_678 : decode cL_acts 678 = .ok (.iconst 0, 1) := by decide +kernel
theorem dL_acts_679 : decode cL_acts 679 = .ok (.goto 4, 3) := by decide +kernel
theorem dL_acts_682 : decode cL_acts 682 = .ok (.iconst 1, 1) := by decide +kernel
theorem dL_acts_683 : decode cL_acts 683 = .ok (.if_icmp .ne 56, 3) := by decide +kernel
theorem dL_acts_686 : decode cL_acts 686 = .ok (.iload 5, 2) := by decide +kernel
theorem dL_acts_688 : decode cL_acts 688 = .ok (.ifCond .ne 28, 3) := by decide +kernel
theorem dL_acts_691 : decode cL_acts 691 = .ok (.iload 13, 2) := by decide +kernel
theorem dL_acts_693 : decode cL_acts 693 = .ok (.ifCond .eq 12, 3) := by decide +kernel
theorem dL_acts_696 : decode cL_acts 696 = .ok (.aload_n 0, 1) := by decide +kernel
theorem dL_acts_697 : decode cL_acts 697 = .ok (.iload 4, 2) := by decide +kernel
theorem dL_acts_699 : decode cL_acts 699 = .ok (.invokevirtual 42, 3) := by decide +kernel
theorem dL_acts_702 : decode cL_acts 702 = .ok (.goto 9, 3) := by decide +kernel
theorem dL_acts_705 : decode cL_acts 705 = .ok (.aload_n 0, 1) := by decide +kernel
theorem dL_acts_706 : decode cL_acts 706 = .ok (.iload 4, 2) := by decide +kernel
theorem dL_acts_708 : decode cL_acts 708 = .ok (.invokevirtual 45, 3) := by decide +kernel
theorem dL_acts_711 : decode cL_acts 711 = .ok (.iload 14, 2) := by decide +kernel
theorem dL_acts_713 : decode cL_acts 713 = .ok (.if_icmp .eq 26, 3) := by decide +kernel
theorem dL_acts_716 : decode cL_acts 716 = .ok (.aload_n 0, 1) := by decide +kernel
theorem dL_acts_717 : decode cL_acts 717 = .ok (.invokevirtual 120, 3) := by decide +kernel
theorem dL_acts_720 : decode cL_acts 720 = .ok (.lload 6, 2) := by decide +kernel
theorem dL_acts_722 : decode cL_acts 722 = .ok (.lcmp, 1) := by decide +kernel
theorem dL_acts_723 : decode cL_acts 723 = .ok (.ifCond .ne 16, 3) := by decide +kernel
theorem dL_acts_726 : decode cL_acts 726 = .ok (.aload_n 0, 1) := by decide +kernel
theorem dL_acts_727 : decode cL_acts 727 = .ok (.invokevirtual 186, 3) := by decide +kernel
theorem dL_acts_730 : decode cL_acts 730 = .ok (.iload 10, 2) := by decide +kernel
theorem dL_acts_732 : decode cL_acts 732 = .ok (.if_icmp .ne 7, 3) := by decide +kernel
theorem dL_acts_735 : decode cL_acts 735 = .ok (.iconst 1, 1) := by decide +kernel
theorem dL_acts_736 : decode cL_acts 736 = .ok (.goto 4, 3) := by decide +kernel
theorem dL_acts_739 : decode cL_acts 739 = .ok (.iconst 0, 1) := by decide +kernel
theorem dL_acts_740 : decode cL_acts 740 = .ok (.ireturn, 1) := by decide +kernel
theorem dL_acts_741 : decode cL_acts 741 = .ok (.iconst 0, 1) := by decide +kernel
theorem dL_acts_742 : decode cL_acts 742 = .ok (.istore 13, 2) := by decide +kernel
theorem dL_acts_744 : decode cL_acts 744 = .ok (.iload 13, 2) := by decide +kernel
theorem dL_acts_746 : decode cL_acts 746 = .ok (.bipush 48, 2) := by decide +kernel
theorem dL_acts_748 : decode cL_acts 748 = .ok (.if_icmp .ge 78, 3) := by decide +kernel
theorem dL_acts_751 : decode cL_acts 751 = .ok (.iload 5, 2) := by decide +kernel
theorem dL_acts_753 : decode cL_acts 753 = .ok (.ifCond .ne 73, 3) := by decide +kernel
theorem dL_acts_756 : decode cL_acts 756 = .ok (.iload_n 2, 1) := by decide +kernel
theorem dL_acts_757 : decode cL_acts 757 = .ok (.iconst 5, 1) := by decide +kernel
theorem dL_acts_758 : decode cL_acts 758 = .ok (.ishr, 1) := by decide +kernel
theorem dL_acts_759 : decode cL_acts 759 = .ok (.bipush 7, 2) := by decide +kernel
theorem dL_acts_761 : decode cL_acts 761 = .ok (.invokestatic 177, 3) := by decide +kernel
theorem dL_acts_764 : decode cL_acts 764 = .ok (.ifCond .le 62, 3) := by decide +kernel
theorem dL_acts_767 : decode cL_acts 767 = .ok (.aload_n 0, 1) := by decide +kernel
theorem dL_acts_768 : decode cL_acts 768 = .ok (.iload 4, 2) := by decide +kernel
theorem dL_acts_770 : decode cL_acts 770 = .ok (.invokevirtual 39, 3) := by decide +kernel
theorem dL_acts_773 : decode cL_acts 773 = .ok (.ifCond .eq 38, 3) := by decide +kernel
theorem dL_acts_776 : decode cL_acts 776 = .ok (.aload_n 0, 1) := by decide +kernel
theorem dL_acts_777 : decode cL_acts 777 = .ok (.iload 4, 2) := by decide +kernel
theorem dL_acts_779 : decode cL_acts 779 = .ok (.invokestatic 126, 3) := by decide +kernel
theorem dL_acts_782 : decode cL_acts 782 = .ok (.bipush (-104), 2) := by decide +kernel
theorem dL_acts_784 : decode cL_acts 784 = .ok (.if_icmp .ne 7, 3) := by decide +kernel
theorem dL_acts_787 : decode cL_acts 787 = .ok (.iconst 1, 1) := by decide +kernel
theorem dL_acts_788 : decode cL_acts 788 = .ok (.goto 4, 3) := by decide +kernel
theorem dL_acts_791 : decode cL_acts 791 = .ok (.iconst 0, 1) := by decide +kernel
theorem dL_acts_792 : decode cL_acts 792 = .ok (.iload_n 3, 1) := by decide +kernel
theorem dL_acts_793 : decode cL_acts 793 = .ok (.bipush 31, 2) := by decide +kernel
theorem dL_acts_795 : decode cL_acts 795 = .ok (.if_icmp .ge 7, 3) := by decide +kernel
theorem dL_acts_798 : decode cL_acts 798 = .ok (.iconst 1, 1) := by decide +kernel
theorem dL_acts_799 : decode cL_acts 799 = .ok (.goto 4, 3) := by decide +kernel
theorem dL_acts_802 : decode cL_acts 802 = .ok (.iconst 0, 1) := by decide +kernel
theorem dL_acts_803 : decode cL_acts 803 = .ok (.if_icmp .ne 8, 3) := by decide +kernel
theorem dL_acts_806 : decode cL_acts 806 = .ok (.iload 4, 2) := by decide +kernel
theorem dL_acts_808 : decode cL_acts 808 = .ok (.goto 10, 3) := by decide +kernel
theorem dL_acts_811 : decode cL_acts 811 = .ok (.iload 4, 2) := by decide +kernel
theorem dL_acts_813 : decode cL_acts 813 = .ok (.bipush 48, 2) := by decide +kernel
theorem dL_acts_815 : decode cL_acts 815 = .ok (.irem, 1) := by decide +kernel
theorem dL_acts_816 : decode cL_acts 816 = .ok (.iconst 1, 1) := by decide +kernel
theorem dL_acts_817 : decode cL_acts 817 = .ok (.iadd, 1) := by decide +kernel
theorem dL_acts_818 : decode cL_acts 818 = .ok (.istore 4, 2) := by decide +kernel
theorem dL_acts_820 : decode cL_acts 820 = .ok (.iinc 13 1, 3) := by decide +kernel
theorem dL_acts_823 : decode cL_acts 823 = .ok (.goto (-79), 3) := by decide +kernel
theorem dL_acts_826 : decode cL_acts 826 = .ok (.iload_n 3, 1) := by decide +kernel
theorem dL_acts_827 : decode cL_acts 827 = .ok (.bipush 31, 2) := by decide +kernel
theorem dL_acts_829 : decode cL_acts 829 = .ok (.if_icmp .ge 219, 3) := by decide +kernel
theorem dL_acts_832 : decode cL_acts 832 = .ok (.iload_n 2, 1) := by decide +kernel
theorem dL_acts_833 : decode cL_acts 833 = .ok (.bipush 7, 2) := by decide +kernel
theorem dL_acts_835 : decode cL_acts 835 = .ok (.ishr, 1) := by decide +kernel
theorem dL_acts_836 : decode cL_acts 836 = .ok (.iload_n 2, 1) := by decide +kernel
theorem dL_acts_837 : decode cL_acts 837 = .ok (.bipush 12, 2) := by decide +kernel
theorem dL_acts_839 : decode cL_acts 839 = .ok (.ishr, 1) := by decide +kernel
theorem dL_acts_840 : decode cL_acts 840 = .ok (.bipush 14, 2) := by decide +kernel
theorem dL_acts_842 : decode cL_acts 842 = .ok (.invokestatic 177, 3) := by decide +kernel
theorem dL_acts_845 : decode cL_acts 845 = .ok (.ifCond .ne 7, 3) := by decide +kernel
theorem dL_acts_848 : decode cL_acts 848 = .ok (.iconst 3, 1) := by decide +kernel
theorem dL_acts_849 : decode cL_acts 849 = .ok (.goto 4, 3) := by decide +kernel
theorem dL_acts_852 : decode cL_acts 852 = .ok (.iconst 2, 1) := by decide +kernel
theorem dL_acts_853 : decode cL_acts 853 = .ok (.invokestatic 177, 3) := by decide +kernel
theorem dL_acts_856 : decode cL_acts 856 = .ok (.istore 13, 2) := by decide +kernel
theorem dL_acts_858 : decode cL_acts 858 = .ok (.iload 5, 2) := by decide +kernel
theorem dL_acts_860 : decode cL_acts 860 = .ok (.ifCond .ne 9, 3) := by decide +kernel
theorem dL_acts_863 : decode cL_acts 863 = .ok (.iload 13, 2) := by decide +kernel
theorem dL_acts_865 : decode cL_acts 865 = .ok (.iconst 2, 1) := by decide +kernel
theorem dL_acts_866 : decode cL_acts 866 = .ok (.if_icmp .ne 7, 3) := by decide +kernel
theorem dL_acts_869 : decode cL_acts 869 = .ok (.iconst 1, 1) := by decide +kernel
theorem dL_acts_870 : decode cL_acts 870 = .ok (.goto 4, 3) := by decide +kernel
theorem dL_acts_873 : decode cL_acts 873 = .ok (.iconst 0, 1) := by decide +kernel
theorem dL_acts_874 : decode cL_acts 874 = .ok (.istore 14, 2) := by decide +kernel
theorem dL_acts_876 : decode cL_acts 876 = .ok (.iload 14, 2) := by decide +kernel
theorem dL_acts_878 : decode cL_acts 878 = .ok (.ifCond .eq 7, 3) := by decide +kernel
theorem dL_acts_881 : decode cL_acts 881 = .ok (.iconst 0, 1) := by decide +kernel
theorem dL_acts_882 : decode cL_acts 882 = .ok (.goto 11, 3) := by decide +kernel
theorem dL_acts_885 : decode cL_acts 885 = .ok (.aload_n 0, 1) := by decide +kernel
theorem dL_acts_886 : decode cL_acts 886 = .ok (.iload 4, 2) := by decide +kernel
theorem dL_acts_888 : decode cL_acts 888 = .ok (.iload 13, 2) := by decide +kernel
theorem dL_acts_890 : decode cL_acts 890 = .ok (.invokevirtual 56, 3) := by decide +kernel
theorem dL_acts_893 : decode cL_acts 893 = .ok (.istore 15, 2) := by decide +kernel
theorem dL_acts_895 : decode cL_acts 895 = .ok (.aload_n 0, 1) := by decide +kernel
theorem dL_acts_896 : decode cL_acts 896 = .ok (.iload 4, 2) := by decide +kernel
theorem dL_acts_898 : decode cL_acts 898 = .ok (.iload 13, 2) := by decide +kernel
theorem dL_acts_900 : decode cL_acts 900 = .ok (.invokestatic 239, 3) := by decide +kernel
theorem dL_acts_903 : decode cL_acts 903 = .ok (.istore 16, 2) := by decide +kernel
theorem dL_acts_905 : decode cL_acts 905 = .ok (.iload 14, 2) := by decide +kernel
theorem dL_acts_907 : decode cL_acts 907 = .ok (.ifCond .ne 12, 3) := by decide +kernel
theorem dL_acts_910 : decode cL_acts 910 = .ok (.iload 15, 2) := by decide +kernel
theorem dL_acts_912 : decode cL_acts 912 = .ok (.ifCond .ne 7, 3) := by decide +kernel
theorem dL_acts_915 : decode cL_acts 915 = .ok (.iconst 1, 1) := by decide +kernel
theorem dL_acts_916 : decode cL_acts 916 = .ok (.goto 4, 3) := by decide +kernel
theorem dL_acts_919 : decode cL_acts 919 = .ok (.iconst 0, 1) := by decide +kernel
theorem dL_acts_920 : decode cL_acts 920 = .ok (.istore 17, 2) := by decide +kernel
theorem dL_acts_922 : decode cL_acts 922 = .ok (.iload 16, 2) := by decide +kernel
theorem dL_acts_924 : decode cL_acts 924 = .ok (.iload 14, 2) := by decide +kernel
theorem dL_acts_926 : decode cL_acts 926 = .ok (.ifCond .eq 8, 3) := by decide +kernel
theorem dL_acts_929 : decode cL_acts 929 = .ok (.bipush (-102), 2) := by decide +kernel
theorem dL_acts_931 : decode cL_acts 931 = .ok (.goto 29, 3) := by decide +kernel
theorem dL_acts_934 : decode cL_acts 934 = .ok (.iload 17, 2) := by decide +kernel
theorem dL_acts_936 : decode cL_acts 936 = .ok (.ifCond .ne 8, 3) := by decide +kernel
theorem dL_acts_939 : decode cL_acts 939 = .ok (.bipush (-103), 2) := by decide +kernel
theorem dL_acts_941 : decode cL_acts 941 = .ok (.goto 19, 3) := by decide +kernel
theorem dL_acts_944 : decode cL_acts 944 = .ok (.iload 13, 2) := by decide +kernel
theorem dL_acts_946 : decode cL_acts 946 = .ok (.ifCond .ne 10, 3) := by decide +kernel
theorem dL_acts_949 : decode cL_acts 949 = .ok (.iload 11, 2) := by decide +kernel
theorem dL_acts_951 : decode cL_acts 951 = .ok (.iconst 1, 1) := by decide +kernel
theorem dL_acts_952 : decode cL_acts 952 = .ok (.iadd, 1) := by decide +kernel
theorem dL_acts_953 : decode cL_acts 953 = .ok (.goto 7, 3) := by decide +kernel
theorem dL_acts_956 : decode cL_acts 956 = .ok (.iload 12, 2) := by decide +kernel
theorem dL_acts_958 : decode cL_acts 958 = .ok (.iconst 1, 1) := by decide +kernel
theorem dL_acts_959 : decode cL_acts 959 = .ok (.iadd, 1) := by decide +kernel
theorem dL_acts_960 : decode cL_acts 960 = .ok (.if_icmp .ne 86, 3) := by decide +kernel
theorem dL_acts_963 : decode cL_acts 963 = .ok (.aload_n 0, 1) := by decide +kernel
theorem dL_acts_964 : decode cL_acts 964 = .ok (.iconst 0, 1) := by decide +kernel
theorem dL_acts_965 : decode cL_acts 965 = .ok (.invokevirtual 62, 3) := by decide +kernel
theorem dL_acts_968 : decode cL_acts 968 = .ok (.iload 11, 2) := by decide +kernel
theorem dL_acts_970 : decode cL_acts 970 = .ok (.iload 17, 2) := by decide +kernel
theorem dL_acts_972 : decode cL_acts 972 = .ok (.ifCond .eq 12, 3) := by decide +kernel
theorem dL_acts_975 : decode cL_acts 975 = .ok (.iload 13, 2) := by decide +kernel
theorem dL_acts_977 : decode cL_acts 977 = .ok (.ifCond .ne 7, 3) := by decide +kernel
theorem dL_acts_980 : decode cL_acts 980 = .ok (.iconst 1, 1) := by decide +kernel
theorem dL_acts_981 : decode cL_acts 981 = .ok (.goto 4, 3) := by decide +kernel
theorem dL_acts_984 : decode cL_acts 984 = .ok (.iconst 0, 1) := by decide +kernel
theorem dL_acts_985 : decode cL_acts 985 = .ok (.iadd, 1) := by decide +kernel
theorem dL_acts_986 : decode cL_acts 986 = .ok (.if_icmp .ne 60, 3) := by decide +kernel
theorem dL_acts_989 : decode cL_acts 989 = .ok (.aload_n 0, 1) := by decide +kernel
theorem dL_acts_990 : decode cL_acts 990 = .ok (.iconst 1, 1) := by decide +kernel
theorem dL_acts_991 : decode cL_acts 991 = .ok (.invokevirtual 62, 3) := by decide +kernel
theorem dL_acts_994 : decode cL_acts 994 = .ok (.iload 12, 2) := by decide +kernel
theorem dL_acts_996 : decode cL_acts 996 = .ok (.iload 17, 2) := by decide +kernel
theorem dL_acts_998 : decode cL_acts 998 = .ok (.ifCond .eq 13, 3) := by decide +kernel
theorem dL_acts_1001 : decode cL_acts 1001 = .ok (.iload 13, 2) := by decide +kernel
theorem dL_acts_1003 : decode cL_acts 1003 = .ok (.iconst 1, 1) := by decide +kernel
theorem dL_acts_1004 : decode cL_acts 1004 = .ok (.if_icmp .ne 7, 3) := by decide +kernel
theorem dL_acts_1007 : decode cL_acts 1007 = .ok (.iconst 1, 1) := by decide +kernel
theorem dL_acts_1008 : decode cL_acts 1008 = .ok (.goto 4, 3) := by decide +kernel
theorem dL_acts_1011 : decode cL_acts 1011 = .ok (.iconst 0, 1) := by decide +kernel
theorem dL_acts_1012 : decode cL_acts 1012 = .ok (.iadd, 1) := by decide +kernel
theorem dL_acts_1013 : decode cL_acts 1013 = .ok (.if_icmp .ne 33, 3) := by decide +kernel
theorem dL_acts_1016 : decode cL_acts 1016 = .ok (.iload 17, 2) := by decide +kernel
theorem dL_acts_1018 : decode cL_acts 1018 = .ok (.ifCond .eq 14, 3) := by decide +kernel
theorem dL_acts_1021 : decode cL_acts 1021 = .ok (.aload_n 0, 1) := by decide +kernel
theorem dL_acts_1022 : decode cL_acts 1022 = .ok (.iload 4, 2) := by decide +kernel
theorem dL_acts_1024 : decode cL_acts 1024 = .ok (.invokevirtual 59, 3) := by decide +kernel
theorem dL_acts_1027 : decode cL_acts 1027 = .ok (.iload 13, 2) := by decide +kernel
theorem dL_acts_1029 : decode cL_acts 1029 = .ok (.if_icmp .ne 17, 3) := by decide +kernel
theorem dL_acts_1032 : decode cL_acts 1032 = .ok (.aload_n 0, 1) := by decide +kernel
theorem dL_acts_1033 : decode cL_acts 1033 = .ok (.invokevirtual 120, 3) := by decide +kernel
theorem dL_acts_1036 : decode cL_acts 1036 = .ok (.lload 6, 2) := by decide +kernel
theorem dL_acts_1038 : decode cL_acts 1038 = .ok (.lcmp, 1) := by decide +kernel
theorem dL_acts_1039 : decode cL_acts 1039 = .ok (.ifCond .ne 7, 3) := by decide +kernel
theorem dL_acts_1042 : decode cL_acts 1042 = .ok (.iconst 1, 1) := by decide +kernel
theorem dL_acts_1043 : decode cL_acts 1043 = .ok (.goto 4, 3) := by decide +kernel
theorem dL_acts_1046 : decode cL_acts 1046 = .ok (.iconst 0, 1) := by decide +kernel
theorem dL_acts_1047 : decode cL_acts 1047 = .ok (.ireturn, 1) := by decide +kernel
theorem dL_acts_1048 : decode cL_acts 1048 = .ok (.iload_n 3, 1) := by decide +kernel
theorem dL_acts_1049 : decode cL_acts 1049 = .ok (.bipush 34, 2) := by decide +kernel
theorem dL_acts_1051 : decode cL_acts 1051 = .ok (.if_icmp .ge 169, 3) := by decide +kernel
theorem dL_acts_1054 : decode cL_acts 1054 = .ok (.iload 5, 2) := by decide +kernel
theorem dL_acts_1056 : decode cL_acts 1056 = .ok (.ifCond .eq 8, 3) := by decide +kernel
theorem dL_acts_1059 : decode cL_acts 1059 = .ok (.bipush (-104), 2) := by decide +kernel
theorem dL_acts_1061 : decode cL_acts 1061 = .ok (.goto 9, 3) := by decide +kernel
theorem dL_acts_1064 : decode cL_acts 1064 = .ok (.aload_n 0, 1) := by decide +kernel
theorem dL_acts_1065 : decode cL_acts 1065 = .ok (.iload 4, 2) := by decide +kernel
theorem dL_acts_1067 : decode cL_acts 1067 = .ok (.invokestatic 126, 3) := by decide +kernel
theorem dL_acts_1070 : decode cL_acts 1070 = .ok (.istore 13, 2) := by decide +kernel
theorem dL_acts_1072 : decode cL_acts 1072 = .ok (.iload 5, 2) := by decide +kernel
theorem dL_acts_1074 : decode cL_acts 1074 = .ok (.ifCond .ne 23, 3) := by decide +kernel
theorem dL_acts_1077 : decode cL_acts 1077 = .ok (.iload 13, 2) := by decide +kernel
theorem dL_acts_1079 : decode cL_acts 1079 = .ok (.bipush (-104), 2) := by decide +kernel
theorem dL_acts_1081 : decode cL_acts 1081 = .ok (.if_icmp .eq 16, 3) := by decide +kernel
theorem dL_acts_1084 : decode cL_acts 1084 = .ok (.aload_n 0, 1) := by decide +kernel
theorem dL_acts_1085 : decode cL_acts 1085 = .ok (.iload 4, 2) := by decide +kernel
theorem dL_acts_1087 : decode cL_acts 1087 = .ok (.invokevirtual 39, 3) := by decide +kernel
theorem dL_acts_1090 : decode cL_acts 1090 = .ok (.ifCond .eq 7, 3) := by decide +kernel
theorem dL_acts_1093 : decode cL_acts 1093 = .ok (.iconst 1, 1) := by decide +kernel
theorem dL_acts_1094 : decode cL_acts 1094 = .ok (.goto 4, 3) := by decide +kernel
theorem dL_acts_1097 : decode cL_acts 1097 = .ok (.iconst 0, 1) := by decide +kernel
theorem dL_acts_1098 : decode cL_acts 1098 = .ok (.istore 14, 2) := by decide +kernel
theorem dL_acts_1100 : decode cL_acts 1100 = .ok (.aload_n 0, 1) := by decide +kernel
theorem dL_acts_1101 : decode cL_acts 1101 = .ok (.iload 4, 2) := by decide +kernel
theorem dL_acts_1103 : decode cL_acts 1103 = .ok (.invokestatic 241, 3) := by decide +kernel
theorem dL_acts_1106 : decode cL_acts 1106 = .ok (.istore 15, 2) := by decide +kernel
theorem dL_acts_1108 : decode cL_acts 1108 = .ok (.iload 15, 2) := by decide +kernel
theorem dL_acts_1110 : decode cL_acts 1110 = .ok (.iload 5, 2) := by decide +kernel
theorem dL_acts_1112 : decode cL_acts 1112 = .ok (.ifCond .eq 8, 3) := by decide +kernel
theorem dL_acts_1115 : decode cL_acts 1115 = .ok (.bipush (-102), 2) := by decide +kernel
theorem dL_acts_1117 : decode cL_acts 1117 = .ok (.goto 15, 3) := by decide +kernel
theorem dL_acts_1120 : decode cL_acts 1120 = .ok (.iload 14, 2) := by decide +kernel
theorem dL_acts_1122 : decode cL_acts 1122 = .ok (.ifCond .eq 8, 3) := by decide +kernel
theorem dL_acts_1125 : decode cL_acts 1125 = .ok (.iload 13, 2) := by decide +kernel
theorem dL_acts_1127 : decode cL_acts 1127 = .ok (.goto 5, 3) := by decide +kernel
theorem dL_acts_1130 : decode cL_acts 1130 = .ok (.bipush (-103), 2) := by decide +kernel
theorem dL_acts_1132 : decode cL_acts 1132 = .ok (.if_icmp .ne 86, 3) := by decide +kernel
theorem dL_acts_1135 : decode cL_acts 1135 = .ok (.aload_n 0, 1) := by decide +kernel
theorem dL_acts_1136 : decode cL_acts 1136 = .ok (.iconst 0, 1) := by decide +kernel
theorem dL_acts_1137 : decode cL_acts 1137 = .ok (.invokevirtual 62, 3) := by decide +kernel
theorem dL_acts_1140 : decode cL_acts 1140 = .ok (.iload 11, 2) := by decide +kernel
theorem dL_acts_1142 : decode cL_acts 1142 = .ok (.iload 14, 2) := by decide +kernel
theorem dL_acts_1144 : decode cL_acts 1144 = .ok (.ifCond .eq 12, 3) := by decide +kernel
theorem dL_acts_1147 : decode cL_acts 1147 = .ok (.iload 13, 2) := by decide +kernel
theorem dL_acts_1149 : decode cL_acts 1149 = .ok (.ifCond .ne 7, 3) := by decide +kernel
theorem dL_acts_1152 : decode cL_acts 1152 = .ok (.iconst 1, 1) := by decide +kernel
theorem dL_acts_1153 : decode cL_acts 1153 = .ok (.goto 4, 3) := by decide +kernel
theorem dL_acts_1156 : decode cL_acts 1156 = .ok (.iconst 0, 1) := by decide +kernel
theorem dL_acts_1157 : decode cL_acts 1157 = .ok (.isub, 1) := by decide +kernel
theorem dL_acts_1158 : decode cL_acts 1158 = .ok (.if_icmp .ne 60, 3) := by decide +kernel
theorem dL_acts_1161 : decode cL_acts 1161 = .ok (.aload_n 0, 1) := by decide +kernel
theorem dL_acts_1162 : decode cL_acts 1162 = .ok (.iconst 1, 1) := by decide +kernel
theorem dL_acts_1163 : decode cL_acts 1163 = .ok (.invokevirtual 62, 3) := by decide +kernel
theorem dL_acts_1166 : decode cL_acts 1166 = .ok (.iload 12, 2) := by decide +kernel
theorem dL_acts_1168 : decode cL_acts 1168 = .ok (.iload 14, 2) := by decide +kernel
theorem dL_acts_1170 : decode cL_acts 1170 = .ok (.ifCond .eq 13, 3) := by decide +kernel
theorem dL_acts_1173 : decode cL_acts 1173 = .ok (.iload 13, 2) := by decide +kernel
theorem dL_acts_1175 : decode cL_acts 1175 = .ok (.iconst 1, 1) := by decide +kernel
theorem dL_acts_1176 : decode cL_acts 1176 = .ok (.if_icmp .ne 7, 3) := by decide +kernel
theorem dL_acts_1179 : decode cL_acts 1179 = .ok (.iconst 1, 1) := by decide +kernel
theorem dL_acts_1180 : decode cL_acts 1180 = .ok (.goto 4, 3) := by decide +kernel
theorem dL_acts_1183 : decode cL_acts 1183 = .ok (.iconst 0, 1) := by decide +kernel
theorem dL_acts_1184 : decode cL_acts 1184 = .ok (.isub, 1) := by decide +kernel
theorem dL_acts_1185 : decode cL_acts 1185 = .ok (.if_icmp .ne 33, 3) := by decide +kernel
theorem dL_acts_1188 : decode cL_acts 1188 = .ok (.iload 14, 2) := by decide +kernel
theorem dL_acts_1190 : decode cL_acts 1190 = .ok (.ifCond .eq 14, 3) := by decide +kernel
theorem dL_acts_1193 : decode cL_acts 1193 = .ok (.aload_n 0, 1) := by decide +kernel
theorem dL_acts_1194 : decode cL_acts 1194 = .ok (.iload 4, 2) := by decide +kernel
theorem dL_acts_1196 : decode cL_acts 1196 = .ok (.invokestatic 126, 3) := by decide +kernel
theorem dL_acts_1199 : decode cL_acts 1199 = .ok (.bipush (-104), 2) := by decide +kernel
theorem dL_acts_1201 : decode cL_acts 1201 = .ok (.if_icmp .ne 17, 3) := by decide +kernel
theorem dL_acts_1204 : decode cL_acts 1204 = .ok (.aload_n 0, 1) := by decide +kernel
theorem dL_acts_1205 : decode cL_acts 1205 = .ok (.invokevirtual 120, 3) := by decide +kernel
theorem dL_acts_1208 : decode cL_acts 1208 = .ok (.lload 6, 2) := by decide +kernel
theorem dL_acts_1210 : decode cL_acts 1210 = .ok (.lcmp, 1) := by decide +kernel
theorem dL_acts_1211 : decode cL_acts 1211 = .ok (.ifCond .ne 7, 3) := by decide +kernel
theorem dL_acts_1214 : decode cL_acts 1214 = .ok (.iconst 1, 1) := by decide +kernel
theorem dL_acts_1215 : decode cL_acts 1215 = .ok (.goto 4, 3) := by decide +kernel
theorem dL_acts_1218 : decode cL_acts 1218 = .ok (.iconst 0, 1) := by decide +kernel
theorem dL_acts_1219 : decode cL_acts 1219 = .ok (.ireturn, 1) := by decide +kernel
theorem dL_acts_1220 : decode cL_acts 1220 = .ok (.aload_n 0, 1) := by decide +kernel
theorem dL_acts_1221 : decode cL_acts 1221 = .ok (.iload_n 2, 1) := by decide +kernel
theorem dL_acts_1222 : decode cL_acts 1222 = .ok (.invokestatic 243, 3) := by decide +kernel
theorem dL_acts_1225 : decode cL_acts 1225 = .ok (.ireturn, 1) := by decide +kernel
set_option maxRecDepth 20000 in
theorem ggL_law_X5_init : GoodIn wsL_law wsX5_init := goodIn_r _ [5, 6, 7, 8, 9, 10, 11, 12, 13, 14, 15, 16, 17, 18, 19, 20, 21, 22, 23, 24, 25, 26, 27, 28, 29, 30, 31, 32, 33, 34, 35, 36, 37, 38, 39, 40, 41, 42, 43, 44, 45, 46, 47, 48, 49, 50, 51, 52, 53, 54, 55, 56, 57, 58, 59, 60, 540, 541, 542, 543, 544, 545, 546, 534, 535, 536, 537, 538, 539, 547, 548, 549, 550, 551, 552, 553, 554, 555, 556, 557, 558, 559, 560, 561] rfl (by decide +kernel)
set_option maxRecDepth 20000 in
theorem gL_law_X5_init : GoodIn wsL_law (wsX5_init) := ggL_law_X5_init
set_option maxRecDepth 20000 in
theorem ggL_law_L_holds : GoodIn wsL_law wsL_holds := goodIn_ca (goodIn_ca (goodIn_r _ [64, 65, 66, 67, 68, 69, 70, 2, 71, 12, 72, 73, 63, 74, 75, 76, 77, 78, 79, 80, 81, 82, 83, 84, 85, 86, 87, 88, 89, 90, 91, 92, 93, 94, 95, 96, 97, 98, 99, 100, 101, 102, 103, 104, 18, 105, 106, 107, 108, 109, 110, 111, 112, 113, 114, 115, 116, 117, 118, 119, 120, 121, 122, 123, 124, 125, 126, 127, 128, 129, 130, 131, 132, 133, 134, 135, 11, 136, 137, 138, 139, 140, 141, 142, 143, 144, 145, 146, 147, 148, 149, 150, 151, 152, 153, 154, 155, 156, 157, 158, 159, 160, 161, 162, 163, 164, 165, 166, 167, 168, 169, 170, 171, 172, 173, 174, 175, 176, 177, 178, 179, 180, 181, 182, 183, 184, 185, 186, 187, 188, 189, 190, 191, 192, 193, 194, 195, 196, 197, 198, 199, 200, 201, 202, 203, 204, 205, 206, 207, 208, 209, 210, 211, 212, 213, 214, 215, 216, 217, 218, 219, 220, 221, 222, 223, 224, 225, 226, 227, 228, 229, 230, 231, 232, 233, 234, 235, 236, 237, 238, 239, 240, 241, 242, 243, 244, 245, 246, 247, 248, 249, 250, 251, 252, 253, 254, 255, 256, 257, 258, 259, 260, 261, 262, 263, 264, 265, 266, 267, 268, 269, 270, 271, 272, 273, 274, 275, 276, 277, 278, 279, 280, 281, 282, 283, 284, 285, 286, 287, 288, 289, 290, 291, 292, 293, 294, 295, 296, 297, 298, 299, 300, 534, 535, 536, 537, 538, 539, 540, 541, 542, 543, 544, 545, 546, 547, 548] rfl (by decide +kernel)) (goodIn_sub (fun _ h => List.mem_append_left _ (List.mem_append_left _ (List.mem_append_right _ h))) (by decide +kernel))) (goodIn_sub (fun _ h => List.mem_append_left _ (List.mem_append_right _ h)) (by decide +kernel))
set_option maxRecDepth 20000 in
theorem gL_law_L_holds : GoodIn wsL_law (va_wsS RL 247 yL_holds wsL_holds) := goodIn_app (goodIn_of _ (by decide +kernel)) ggL_law_L_holds
set_option maxRecDepth 20000 in
theorem ggL_law_L_undo : GoodIn wsL_law wsL_undo := goodIn_ca (goodIn_r _ [303, 304, 305, 306, 307, 2, 308, 309, 310, 18, 12, 311, 312, 313, 17, 314, 315, 39, 316, 317, 318, 11, 319, 168, 137, 320, 169, 184, 32, 33, 321, 322, 323, 534, 535, 536, 537, 538, 539, 547, 548, 540, 541, 542, 543, 544, 545, 546] rfl (by decide +kernel)) (goodIn_sub (fun _ h => List.mem_append_right _ h) (by decide +kernel))
set_option maxRecDepth 20000 in
theorem gL_law_L_undo : GoodIn wsL_law (va_wsS RL 250 yL_undo wsL_undo) := goodIn_app (goodIn_of _ (by decide +kernel)) ggL_law_L_undo
set_option maxRecDepth 20000 in
theorem ggL_law_L_goBack : GoodIn wsL_law wsL_goBack := goodIn_ca (goodIn_r _ [326, 304, 327, 328, 329, 2, 330, 309, 310, 14, 18, 12, 13, 331, 332, 333, 17, 334, 315, 39, 335, 336, 337, 338, 316, 317, 318, 11, 319, 168, 137, 320, 169, 184, 32, 33, 321, 322, 323, 339, 147, 148, 149, 150, 151, 152, 153, 534, 535, 536, 537, 538, 539, 540, 541, 542, 543, 544, 545, 546, 547, 548] rfl (by decide +kernel)) (goodIn_sub (fun _ h => List.mem_append_right _ h) (by decide +kernel))
set_option maxRecDepth 20000 in
theorem gL_law_L_goBack : GoodIn wsL_law (va_wsS RL 252 yL_goBack wsL_goBack) := goodIn_app (goodIn_of _ (by decide +kernel)) ggL_law_L_goBack
set_option maxRecDepth 20000 in
theorem ggL_law_L_lot : GoodIn wsL_law wsL_lot := goodIn_r _ [342, 343] rfl (by decide +kernel)
set_option maxRecDepth 20000 in
theorem gL_law_L_lot : GoodIn wsL_law (va_wsS RL 254 yL_lot wsL_lot) := goodIn_app (goodIn_of _ (by decide +kernel)) ggL_law_L_lot
set_option maxRecDepth 20000 in
theorem ggL_law_L_look : GoodIn wsL_law wsL_look := goodIn_ca (goodIn_ca (goodIn_r _ [346, 347, 348, 349, 68, 69, 70, 2, 71, 12, 213, 214, 215, 216, 79, 80, 81, 82, 83, 98, 99, 100, 188, 189, 190, 191, 202, 203, 63, 204, 108, 116, 205, 206, 207, 208, 121, 122, 84, 85, 86, 209, 210, 211, 11, 212, 184, 75, 76, 77, 78, 233, 234, 235, 236, 534, 535, 536, 537, 538, 539, 540, 541, 542, 543, 544, 545, 546] rfl (by decide +kernel)) (goodIn_sub (fun _ h => List.mem_append_left _ (List.mem_append_left _ (List.mem_append_right _ h))) (by decide +kernel))) (goodIn_sub (fun _ h => List.mem_append_left _ (List.mem_append_right _ h)) (by decide +kernel))
set_option maxRecDepth 20000 in
theorem gL_law_L_look : GoodIn wsL_law (va_wsS RL 258 yL_look wsL_look) := goodIn_app (goodIn_of _ (by decide +kernel)) ggL_law_L_look
set_option maxRecDepth 20000 in
theorem ggL_law_X5_states : GoodIn wsL_law wsX5_states := goodIn_r _ [104, 18, 534, 535, 536, 537, 538, 539, 547, 548] rfl (by decide +kernel)
set_option maxRecDepth 20000 in
theorem gL_law_X5_states : GoodIn wsL_law (wsV RL 147 RX5 yX5_states wsX5_states) := goodIn_app (goodIn_of _ (by decide +kernel)) ggL_law_X5_states
set_option maxRecDepth 20000 in
theorem ggL_law_L_acts : GoodIn wsL_law wsL_acts := goodIn_ca (goodIn_ca (goodIn_ca (goodIn_r _ [352, 66, 229, 230, 63, 231, 232, 68, 69, 70, 2, 71, 12, 72, 73, 74, 75, 76, 77, 78, 79, 80, 81, 82, 83, 84, 85, 86, 253, 254, 255, 256, 98, 99, 100, 176, 177, 178, 179, 161, 162, 163, 180, 181, 182, 11, 183, 184, 169, 138, 147, 148, 149, 150, 151, 152, 153, 188, 189, 190, 191, 222, 223, 224, 353, 354, 355, 108, 356, 357, 358, 359, 18, 331, 332, 333, 17, 334, 315, 39, 335, 336, 337, 338, 316, 317, 318, 319, 168, 137, 320, 32, 33, 321, 322, 323, 360, 361, 362, 363, 364, 365, 142, 143, 366, 367, 368, 369, 145, 146, 87, 88, 89, 233, 234, 235, 236, 370, 371, 372, 373, 374, 375, 376, 130, 131, 132, 377, 378, 379, 380, 381, 109, 110, 111, 112, 382, 383, 384, 304, 385, 386, 387, 388, 309, 310, 389, 390, 391, 392, 393, 394, 395, 396, 397, 398, 399, 400, 401, 402, 403, 404, 405, 406, 407, 144, 202, 203, 204, 116, 205, 206, 207, 208, 121, 122, 209, 210, 211, 212, 157, 158, 159, 160, 164, 165, 166, 167, 170, 171, 172, 408, 409, 410, 411, 412, 413, 414, 415, 416, 417, 418, 419, 420, 421, 422, 423, 424, 425, 426, 427, 428, 429, 430, 431, 432, 433, 434, 435, 436, 22, 437, 438, 439, 440, 441, 442, 443, 21, 444, 445, 46, 446, 447, 448, 101, 102, 103, 104, 449, 450, 451, 452, 453, 454, 455, 26, 456, 457, 458, 25, 459, 52, 460, 461, 462, 463, 56, 464, 465, 466, 467, 55, 468, 469, 470, 471, 472, 473, 474, 475, 476, 477, 478, 479, 480, 481, 482, 483, 484, 485, 486, 487, 488, 489, 490, 491, 492, 493, 494, 495, 496, 497, 498, 499, 500, 501, 502, 503, 504, 505, 506, 507, 508, 509, 510, 511, 512, 513, 514, 515, 516, 517, 518, 519, 520, 521, 522, 523, 524, 525, 526, 527, 528, 529, 339, 534, 535, 536, 537, 538, 539, 540, 541, 542, 543, 544, 545, 546, 547, 548, 549, 550, 551, 552, 553, 554, 555, 556, 557, 558, 559, 560, 561] rfl (by decide +kernel)) (goodIn_sub (fun _ h => List.mem_append_left _ (List.mem_append_left _ (List.mem_append_right _ h))) (by decide +kernel))) (goodIn_sub (fun _ h => List.mem_append_right _ h) (by decide +kernel))) (goodIn_sub (fun _ h => List.mem_append_left _ (List.mem_append_right _ h)) (by decide +kernel))
set_option maxRecDepth 20000 in
theorem gL_law_L_acts : GoodIn wsL_law (va_wsS RL 261 yL_acts wsL_acts) := goodIn_app (goodIn_of _ (by decide +kernel)) ggL_law_L_acts
set_option maxRecDepth 20000 in
theorem ggL_law_L_low : GoodIn wsL_law wsL_low := goodIn_r _ [231, 232] rfl (by decide +kernel)
set_option maxRecDepth 20000 in
theorem gL_law_L_low : GoodIn wsL_law (va_wsS RL 177 yL_low wsL_low) := goodIn_app (goodIn_of _ (by decide +kernel)) ggL_law_L_low
set_option maxRecDepth 20000 in
theorem ggL_law_X5_keep : GoodIn wsL_law wsX5_keep := goodIn_r _ [533, 13, 12, 14, 339, 317, 318, 11, 319, 168, 137, 320, 169, 184, 32, 33, 321, 322, 323, 147, 148, 149, 150, 151, 152, 153, 534, 535, 536, 537, 538, 539, 540, 541, 542, 543, 544, 545, 546] rfl (by decide +kernel)
set_option maxRecDepth 20000 in
theorem gL_law_X5_keep : GoodIn wsL_law (wsV RL 265 RX5 yX5_keep wsX5_keep) := goodIn_app (goodIn_of _ (by decide +kernel)) ggL_law_X5_keep
set_option maxRecDepth 20000 in
theorem ggL_law_X5_openDoors : GoodIn wsL_law wsX5_openDoors := goodIn_r _ [93, 12, 84, 85, 2, 86, 534, 535, 536, 537, 538, 539, 540, 541, 542, 543, 544, 545, 546] rfl (by decide +kernel)
set_option maxRecDepth 20000 in
theorem gL_law_X5_openDoors : GoodIn wsL_law (wsV RL 139 RX5 yX5_openDoors wsX5_openDoors) := goodIn_app (goodIn_of _ (by decide +kernel)) ggL_law_X5_openDoors
theorem dL_law_0 : decode cL_law 0 = .ok (.new 10, 3) := by decide +kernel
theorem dL_law_3 : decode cL_law 3 = .ok (.dup, 1) := by decide +kernel
theorem dL_law_4 : decode cL_law 4 = .ok (.invokespecial 246, 3) := by decide +kernel
theorem dL_law_7 : decode cL_law 7 = .ok (.astore_n 1, 1) := by decide +kernel
theorem dL_law_8 : decode cL_law 8 = .ok (.lconst 0, 1) := by decide +kernel
theorem dL_law_9 : decode cL_law 9 = .ok (.lstore_n 2, 1) := by decide +kernel
theorem dL_law_10 : decode cL_law 10 = .ok (.aload_n 1, 1) := by decide +kernel
theorem dL_law_11 : decode cL_law 11 = .ok (.iconst 0, 1) := by decide +kernel
theorem dL_law_12 : decode cL_law 12 = .ok (.invokestatic 247, 3) := by decide +kernel
theorem dL_law_15 : decode cL_law 15 = .ok (.ifCond .eq 25, 3) := by decide +kernel
theorem dL_law_18 : decode cL_law 18 = .ok (.aload_n 1, 1) := by decide +kernel
theorem dL_law_19 : decode cL_law 19 = .ok (.invokestatic 250, 3) := by decide +kernel
theorem dL_law_22 : decode cL_law 22 = .ok (.bipush (-103), 2) := by decide +kernel
theorem dL_law_24 : decode cL_law 24 = .ok (.if_icmp .ne 16, 3) := by decide +kernel
theorem dL_law_27 : decode cL_law 27 = .ok (.aload_n 1, 1) := by decide +kernel
theorem dL_law_28 : decode cL_law 28 = .ok (.invokestatic 252, 3) := by decide +kernel
theorem dL_law_31 : decode cL_law 31 = .ok (.bipush (-103), 2) := by decide +kernel
theorem dL_law_33 : decode cL_law 33 = .ok (.if_icmp .ne 7, 3) := by decide +kernel
theorem dL_law_36 : decode cL_law 36 = .ok (.iconst 1, 1) := by decide +kernel
theorem dL_law_37 : decode cL_law 37 = .ok (.goto 4, 3) := by decide +kernel
theorem dL_law_40 : decode cL_law 40 = .ok (.iconst 0, 1) := by decide +kernel
theorem dL_law_41 : decode cL_law 41 = .ok (.istore 4, 2) := by decide +kernel
theorem dL_law_43 : decode cL_law 43 = .ok (.iconst 0, 1) := by decide +kernel
theorem dL_law_44 : decode cL_law 44 = .ok (.istore 5, 2) := by decide +kernel
theorem dL_law_46 : decode cL_law 46 = .ok (.iload 5, 2) := by decide +kernel
theorem dL_law_48 : decode cL_law 48 = .ok (.bipush 58, 2) := by decide +kernel
theorem dL_law_50 : decode cL_law 50 = .ok (.if_icmp .ge 315, 3) := by decide +kernel
theorem dL_law_53 : decode cL_law 53 = .ok (.iload 4, 2) := by decide +kernel
theorem dL_law_55 : decode cL_law 55 = .ok (.ifCond .eq 310, 3) := by decide +kernel
theorem dL_law_58 : decode cL_law 58 = .ok (.aload_n 0, 1) := by decide +kernel
theorem dL_law_59 : decode cL_law 59 = .ok (.iconst 2, 1) := by decide +kernel
theorem dL_law_60 : decode cL_law 60 = .ok (.iload 5, 2) := by decide +kernel
theorem dL_law_62 : decode cL_law 62 = .ok (.imul, 1) := by decide +kernel
theorem dL_law_63 : decode cL_law 63 = .ok (.invokestatic 254, 3) := by decide +kernel
theorem dL_law_66 : decode cL_law 66 = .ok (.istore 6, 2) := by decide +kernel
theorem dL_law_68 : decode cL_law 68 = .ok (.aload_n 0, 1) := by decide +kernel
theorem dL_law_69 : decode cL_law 69 = .ok (.iconst 2, 1) := by decide +kernel
theorem dL_law_70 : decode cL_law 70 = .ok (.iload 5, 2) := by decide +kernel
theorem dL_law_72 : decode cL_law 72 = .ok (.imul, 1) := by decide +kernel
theorem dL_law_73 : decode cL_law 73 = .ok (.iconst 1, 1) := by decide +kernel
theorem dL_law_74 : decode cL_law 74 = .ok (.iadd, 1) := by decide +kernel
theorem dL_law_75 : decode cL_law 75 = .ok (.invokestatic 254, 3) := by decide +kernel
theorem dL_law_78 : decode cL_law 78 = .ok (.istore 7, 2) := by decide +kernel
theorem dL_law_80 : decode cL_law 80 = .ok (.aload_n 1, 1) := by decide +kernel
theorem dL_law_81 : decode cL_law 81 = .ok (.invokestatic 258, 3) := by decide +kernel
theorem dL_law_84 : decode cL_law 84 = .ok (.lstore 8, 2) := by decide +kernel
theorem dL_law_86 : decode cL_law 86 = .ok (.aload_n 1, 1) := by decide +kernel
theorem dL_law_87 : decode cL_law 87 = .ok (.invokevirtual 147, 3) := by decide +kernel
theorem dL_law_90 : decode cL_law 90 = .ok (.istore 10, 2) := by decide +kernel
theorem dL_law_92 : decode cL_law 92 = .ok (.aload_n 1, 1) := by decide +kernel
theorem dL_law_93 : decode cL_law 93 = .ok (.iload 6, 2) := by decide +kernel
theorem dL_law_95 : decode cL_law 95 = .ok (.iload 7, 2) := by decide +kernel
theorem dL_law_97 : decode cL_law 97 = .ok (.invokestatic 261, 3) := by decide +kernel
theorem dL_law_100 : decode cL_law 100 = .ok (.ifCond .eq 25, 3) := by decide +kernel
theorem dL_law_103 : decode cL_law 103 = .ok (.iload 5, 2) := by decide +kernel
theorem dL_law_105 : decode cL_law 105 = .ok (.iconst 3, 1) := by decide +kernel
theorem dL_law_106 : decode cL_law 106 = .ok (.irem, 1) := by decide +kernel
theorem dL_law_107 : decode cL_law 107 = .ok (.ifCond .gt 14, 3) := by decide +kernel
theorem dL_law_110 : decode cL_law 110 = .ok (.aload_n 1, 1) := by decide +kernel
theorem dL_law_111 : decode cL_law 111 = .ok (.iload 7, 2) := by decide +kernel
theorem dL_law_113 : decode cL_law 113 = .ok (.iconst 2, 1) := by decide +kernel
theorem dL_law_114 : decode cL_law 114 = .ok (.ishr, 1) := by decide +kernel
theorem dL_law_115 : decode cL_law 115 = .ok (.invokestatic 247, 3) := by decide +kernel
theorem dL_law_118 : decode cL_law 118 = .ok (.ifCond .eq 7, 3) := by decide +kernel
theorem dL_law_121 : decode cL_law 121 = .ok (.iconst 1, 1) := by decide +kernel
theorem dL_law_122 : decode cL_law 122 = .ok (.goto 4, 3) := by decide +kernel
theorem dL_law_125 : decode cL_law 125 = .ok (.iconst 0, 1) := by decide +kernel
theorem dL_law_126 : decode cL_law 126 = .ok (.istore 4, 2) := by decide +kernel
theorem dL_law_128 : decode cL_law 128 = .ok (.aload_n 1, 1) := by decide +kernel
theorem dL_law_129 : decode cL_law 129 = .ok (.invokevirtual 147, 3) := by decide +kernel
theorem dL_law_132 : decode cL_law 132 = .ok (.istore 11, 2) := by decide +kernel
theorem dL_law_134 : decode cL_law 134 = .ok (.iload 4, 2) := by decide +kernel
theorem dL_law_136 : decode cL_law 136 = .ok (.ifCond .eq 39, 3) := by decide +kernel
theorem dL_law_139 : decode cL_law 139 = .ok (.iload 11, 2) := by decide +kernel
theorem dL_law_141 : decode cL_law 141 = .ok (.iload 10, 2) := by decide +kernel
theorem dL_law_143 : decode cL_law 143 = .ok (.if_icmp .ne 19, 3) := by decide +kernel
theorem dL_law_146 : decode cL_law 146 = .ok (.iload 10, 2) := by decide +kernel
theorem dL_law_148 : decode cL_law 148 = .ok (.iconst 4, 1) := by decide +kernel
theorem dL_law_149 : decode cL_law 149 = .ok (.if_icmp .eq 22, 3) := by decide +kernel
theorem dL_law_152 : decode cL_law 152 = .ok (.aload_n 1, 1) := by decide +kernel
theorem dL_law_153 : decode cL_law 153 = .ok (.invokestatic 258, 3) := by decide +kernel
theorem dL_law_156 : decode cL_law 156 = .ok (.lload 8, 2) := by decide +kernel
theorem dL_law_158 : decode cL_law 158 = .ok (.lcmp, 1) := by decide +kernel
theorem dL_law_159 : decode cL_law 159 = .ok (.ifCond .eq 12, 3) := by decide +kernel
theorem dL_law_162 : decode cL_law 162 = .ok (.iload 11, 2) := by decide +kernel
theorem dL_law_164 : decode cL_law 164 = .ok (.iload 10, 2) := by decide +kernel
theorem dL_law_166 : decode cL_law 166 = .ok (.iconst 1, 1) := by decide +kernel
theorem dL_law_167 : decode cL_law 167 = .ok (.iadd, 1) := by decide +kernel
theorem dL_law_168 : decode cL_law 168 = .ok (.if_icmp .ne 7, 3) := by decide +kernel
theorem dL_law_171 : decode cL_law 171 = .ok (.iconst 1, 1) := by decide +kernel
theorem dL_law_172 : decode cL_law 172 = .ok (.goto 4, 3) := by decide +kernel
theorem dL_law_175 : decode cL_law 175 = .ok (.iconst 0, 1) := by decide +kernel
theorem dL_law_176 : decode cL_law 176 = .ok (.istore 4, 2) := by decide +kernel
theorem dL_law_178 : decode cL_law 178 = .ok (.iload 4, 2) := by decide +kernel
theorem dL_law_180 : decode cL_law 180 = .ok (.ifCond .eq 50, 3) := by decide +kernel
theorem dL_law_183 : decode cL_law 183 = .ok (.iload 11, 2) := by decide +kernel
theorem dL_law_185 : decode cL_law 185 = .ok (.iload 10, 2) := by decide +kernel
theorem dL_law_187 : decode cL_law 187 = .ok (.iconst 1, 1) := by decide +kernel
theorem dL_law_188 : decode cL_law 188 = .ok (.iadd, 1) := by decide +kernel
theorem dL_law_189 : decode cL_law 189 = .ok (.if_icmp .ne 41, 3) := by decide +kernel
theorem dL_law_192 : decode cL_law 192 = .ok (.iload 7, 2) := by decide +kernel
theorem dL_law_194 : decode cL_law 194 = .ok (.bipush 8, 2) := by decide +kernel
theorem dL_law_196 : decode cL_law 196 = .ok (.ishr, 1) := by decide +kernel
theorem dL_law_197 : decode cL_law 197 = .ok (.iconst 4, 1) := by decide +kernel
theorem dL_law_198 : decode cL_law 198 = .ok (.invokestatic 177, 3) := by decide +kernel
theorem dL_law_201 : decode cL_law 201 = .ok (.ifCond .ne 29, 3) := by decide +kernel
theorem dL_law_204 : decode cL_law 204 = .ok (.aload_n 1, 1) := by decide +kernel
theorem dL_law_205 : decode cL_law 205 = .ok (.invokestatic 250, 3) := by decide +kernel
theorem dL_law_208 : decode cL_law 208 = .ok (.iload 10, 2) := by decide +kernel
theorem dL_law_210 : decode cL_law 210 = .ok (.if_icmp .ne 17, 3) := by decide +kernel
theorem dL_law_213 : decode cL_law 213 = .ok (.aload_n 1, 1) := by decide +kernel
theorem dL_law_214 : decode cL_law 214 = .ok (.invokestatic 258, 3) := by decide +kernel
theorem dL_law_217 : decode cL_law 217 = .ok (.lload 8, 2) := by decide +kernel
theorem dL_law_219 : decode cL_law 219 = .ok (.lcmp, 1) := by decide +kernel
theorem dL_law_220 : decode cL_law 220 = .ok (.ifCond .ne 7, 3) := by decide +kernel
theorem dL_law_223 : decode cL_law 223 = .ok (.iconst 1, 1) := by decide +kernel
theorem dL_law_224 : decode cL_law 224 = .ok (.goto 4, 3) := by decide +kernel
theorem dL_law_227 : decode cL_law 227 = .ok (.iconst 0, 1) := by decide +kernel
theorem dL_law_228 : decode cL_law 228 = .ok (.istore 4, 2) := by decide +kernel
theorem dL_law_230 : decode cL_law 230 = .ok (.iload 4, 2) := by decide +kernel
theorem dL_law_232 : decode cL_law 232 = .ok (.ifCond .eq 36, 3) := by decide +kernel
theorem dL_law_235 : decode cL_law 235 = .ok (.iload 5, 2) := by decide +kernel
theorem dL_law_237 : decode cL_law 237 = .ok (.bipush 20, 2) := by decide +kernel
theorem dL_law_239 : decode cL_law 239 = .ok (.irem, 1) := by decide +kernel
theorem dL_law_240 : decode cL_law 240 = .ok (.bipush 9, 2) := by decide +kernel
theorem dL_law_242 : decode cL_law 242 = .ok (.if_icmp .ne 26, 3) := by decide +kernel
theorem dL_law_245 : decode cL_law 245 = .ok (.aload_n 1, 1) := by decide +kernel
theorem dL_law_246 : decode cL_law 246 = .ok (.invokevirtual 265, 3) := by decide +kernel
theorem dL_law_249 : decode cL_law 249 = .ok (.aload_n 1, 1) := by decide +kernel
theorem dL_law_250 : decode cL_law 250 = .ok (.invokevirtual 139, 3) := by decide +kernel
theorem dL_law_253 : decode cL_law 253 = .ok (.if_icmp .ne 7, 3) := by decide +kernel
theorem dL_law_256 : decode cL_law 256 = .ok (.iconst 1, 1) := by decide +kernel
theorem dL_law_257 : decode cL_law 257 = .ok (.goto 4, 3) := by decide +kernel
theorem dL_law_260 : decode cL_law 260 = .ok (.iconst 0, 1) := by decide +kernel
theorem dL_law_261 : decode cL_law 261 = .ok (.istore 4, 2) := by decide +kernel
theorem dL_law_263 : decode cL_law 263 = .ok (.aload_n 1, 1) := by decide +kernel
theorem dL_law_264 : decode cL_law 264 = .ok (.invokestatic 258, 3) := by decide +kernel
theorem dL_law_267 : decode cL_law 267 = .ok (.lstore_n 2, 1) := by decide +kernel
theorem dL_law_268 : decode cL_law 268 = .ok (.iload 4, 2) := by decide +kernel
theorem dL_law_270 : decode cL_law 270 = .ok (.ifCond .eq 40, 3) := by decide +kernel
theorem dL_law_273 : decode cL_law 273 = .ok (.iload 5, 2) := by decide +kernel
theorem dL_law_275 : decode cL_law 275 = .ok (.bipush 20, 2) := by decide +kernel
theorem dL_law_277 : decode cL_law 277 = .ok (.irem, 1) := by decide +kernel
theorem dL_law_278 : decode cL_law 278 = .ok (.bipush 19, 2) := by decide +kernel
theorem dL_law_280 : decode cL_law 280 = .ok (.if_icmp .ne 30, 3) := by decide +kernel
theorem dL_law_283 : decode cL_law 283 = .ok (.aload_n 1, 1) := by decide +kernel
theorem dL_law_284 : decode cL_law 284 = .ok (.invokestatic 252, 3) := by decide +kernel
theorem dL_law_287 : decode cL_law 287 = .ok (.aload_n 1, 1) := by decide +kernel
theorem dL_law_288 : decode cL_law 288 = .ok (.invokevirtual 139, 3) := by decide +kernel
theorem dL_law_291 : decode cL_law 291 = .ok (.if_icmp .ne 16, 3) := by decide +kernel
theorem dL_law_294 : decode cL_law 294 = .ok (.aload_n 1, 1) := by decide +kernel
theorem dL_law_295 : decode cL_law 295 = .ok (.invokestatic 258, 3) := by decide +kernel
theorem dL_law_298 : decode cL_law 298 = .ok (.lload_n 2, 1) := by decide +kernel
theorem dL_law_299 : decode cL_law 299 = .ok (.lcmp, 1) := by decide +kernel
theorem dL_law_300 : decode cL_law 300 = .ok (.ifCond .ne 7, 3) := by decide +kernel
theorem dL_law_303 : decode cL_law 303 = .ok (.iconst 1, 1) := by decide +kernel
theorem dL_law_304 : decode cL_law 304 = .ok (.goto 4, 3) := by decide +kernel
theorem dL_law_307 : decode cL_law 307 = .ok (.iconst 0, 1) := by decide +kernel
theorem dL_law_308 : decode cL_law 308 = .ok (.istore 4, 2) := by decide +kernel
theorem dL_law_310 : decode cL_law 310 = .ok (.iload 4, 2) := by decide +kernel
theorem dL_law_312 : decode cL_law 312 = .ok (.ifCond .eq 47, 3) := by decide +kernel
theorem dL_law_315 : decode cL_law 315 = .ok (.iload 5, 2) := by decide +kernel
theorem dL_law_317 : decode cL_law 317 = .ok (.bipush 9, 2) := by decide +kernel
theorem dL_law_319 : decode cL_law 319 = .ok (.irem, 1) := by decide +kernel
theorem dL_law_320 : decode cL_law 320 = .ok (.bipush 8, 2) := by decide +kernel
theorem dL_law_322 : decode cL_law 322 = .ok (.if_icmp .ne 37, 3) := by decide +kernel
theorem dL_law_325 : decode cL_law 325 = .ok (.aload_n 1, 1) := by decide +kernel
theorem dL_law_326 : decode cL_law 326 = .ok (.invokevirtual 147, 3) := by decide +kernel
theorem dL_law_329 : decode cL_law 329 = .ok (.istore 12, 2) := by decide +kernel
theorem dL_law_331 : decode cL_law 331 = .ok (.aload_n 1, 1) := by decide +kernel
theorem dL_law_332 : decode cL_law 332 = .ok (.invokestatic 250, 3) := by decide +kernel
theorem dL_law_335 : decode cL_law 335 = .ok (.iload 12, 2) := by decide +kernel
theorem dL_law_337 : decode cL_law 337 = .ok (.ifCond .ne 8, 3) := by decide +kernel
theorem dL_law_340 : decode cL_law 340 = .ok (.bipush (-103), 2) := by decide +kernel
theorem dL_law_342 : decode cL_law 342 = .ok (.goto 7, 3) := by decide +kernel
theorem dL_law_345 : decode cL_law 345 = .ok (.iload 12, 2) := by decide +kernel
theorem dL_law_347 : decode cL_law 347 = .ok (.iconst 1, 1) := by decide +kernel
theorem dL_law_348 : decode cL_law 348 = .ok (.isub, 1) := by decide +kernel
theorem dL_law_349 : decode cL_law 349 = .ok (.if_icmp .ne 7, 3) := by decide +kernel
theorem dL_law_352 : decode cL_law 352 = .ok (.iconst 1, 1) := by decide +kernel
theorem dL_law_353 : decode cL_law 353 = .ok (.goto 4, 3) := by decide +kernel
theorem dL_law_356 : decode cL_law 356 = .ok (.iconst 0, 1) := by decide +kernel
theorem dL_law_357 : decode cL_law 357 = .ok (.istore 4, 2) := by decide +kernel
theorem dL_law_359 : decode cL_law 359 = .ok (.iinc 5 1, 3) := by decide +kernel
theorem dL_law_362 : decode cL_law 362 = .ok (.goto (-316), 3) := by decide +kernel
theorem dL_law_365 : decode cL_law 365 = .ok (.iload 4, 2) := by decide +kernel
theorem dL_law_367 : decode cL_law 367 = .ok (.ifCond .eq 15, 3) := by decide +kernel
theorem dL_law_370 : decode cL_law 370 = .ok (.aload_n 1, 1) := by decide +kernel
theorem dL_law_371 : decode cL_law 371 = .ok (.iconst 5, 1) := by decide +kernel
theorem dL_law_372 : decode cL_law 372 = .ok (.invokestatic 247, 3) := by decide +kernel
theorem dL_law_375 : decode cL_law 375 = .ok (.ifCond .eq 7, 3) := by decide +kernel
theorem dL_law_378 : decode cL_law 378 = .ok (.iconst 1, 1) := by decide +kernel
theorem dL_law_379 : decode cL_law 379 = .ok (.goto 4, 3) := by decide +kernel
theorem dL_law_382 : decode cL_law 382 = .ok (.iconst 0, 1) := by decide +kernel
theorem dL_law_383 : decode cL_law 383 = .ok (.ireturn, 1) := by decide +kernel
