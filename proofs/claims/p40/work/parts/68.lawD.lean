-- L_acts: room (9, 183) cells (3, 18)
theorem dL_acts_0 : decode cL_acts 0 = .ok (.aload_n 0, 1) := by decide +kernel
theorem dL_acts_1 : decode cL_acts 1 = .ok (.getfield 10, 3) := by decide +kernel
theorem dL_acts_4 : decode cL_acts 4 = .ok (.bipush 6, 2) := by decide +kernel
theorem dL_acts_6 : decode cL_acts 6 = .ok (.invokestatic 154, 3) := by decide +kernel
theorem dL_acts_9 : decode cL_acts 9 = .ok (.istore_n 1, 1) := by decide +kernel
theorem dL_acts_10 : decode cL_acts 10 = .ok (.iload_n 1, 1) := by decide +kernel
theorem dL_acts_11 : decode cL_acts 11 = .ok (.ifCond .ne 22, 3) := by decide +kernel
theorem dL_acts_14 : decode cL_acts 14 = .ok (.aload_n 0, 1) := by decide +kernel
theorem dL_acts_15 : decode cL_acts 15 = .ok (.getfield 10, 3) := by decide +kernel
theorem dL_acts_18 : decode cL_acts 18 = .ok (.iconst 0, 1) := by decide +kernel
theorem dL_acts_19 : decode cL_acts 19 = .ok (.invokestatic 177, 3) := by decide +kernel
theorem dL_acts_22 : decode cL_acts 22 = .ok (.bipush (-101), 2) := by decide +kernel
theorem dL_acts_24 : decode cL_acts 24 = .ok (.if_icmp .ne 7, 3) := by decide +kernel
theorem dL_acts_27 : decode cL_acts 27 = .ok (.iconst 1, 1) := by decide +kernel
theorem dL_acts_28 : decode cL_acts 28 = .ok (.goto 4, 3) := by decide +kernel
theorem dL_acts_31 : decode cL_acts 31 = .ok (.iconst 0, 1) := by decide +kernel
theorem dL_acts_32 : decode cL_acts 32 = .ok (.ireturn, 1) := by decide +kernel
theorem dL_acts_33 : decode cL_acts 33 = .ok (.aload_n 0, 1) := by decide +kernel
theorem dL_acts_34 : decode cL_acts 34 = .ok (.iload_n 1, 1) := by decide +kernel
theorem dL_acts_35 : decode cL_acts 35 = .ok (.invokevirtual 142, 3) := by decide +kernel
theorem dL_acts_38 : decode cL_acts 38 = .ok (.istore_n 2, 1) := by decide +kernel
theorem dL_acts_39 : decode cL_acts 39 = .ok (.aload_n 0, 1) := by decide +kernel
theorem dL_acts_40 : decode cL_acts 40 = .ok (.iload_n 1, 1) := by decide +kernel
theorem dL_acts_41 : decode cL_acts 41 = .ok (.invokevirtual 142, 3) := by decide +kernel
theorem dL_acts_44 : decode cL_acts 44 = .ok (.istore_n 3, 1) := by decide +kernel
theorem dL_acts_45 : decode cL_acts 45 = .ok (.aload_n 0, 1) := by decide +kernel
theorem dL_acts_46 : decode cL_acts 46 = .ok (.getfield 10, 3) := by decide +kernel
theorem dL_acts_49 : decode cL_acts 49 = .ok (.iload_n 2, 1) := by decide +kernel
theorem dL_acts_50 : decode cL_acts 50 = .ok (.bipush 7, 2) := by decide +kernel
theorem dL_acts_52 : decode cL_acts 52 = .ok (.invokestatic 167, 3) := by decide +kernel
theorem dL_acts_55 : decode cL_acts 55 = .ok (.istore 4, 2) := by decide +kernel
theorem dL_acts_57 : decode cL_acts 57 = .ok (.aload_n 0, 1) := by decide +kernel
theorem dL_acts_58 : decode cL_acts 58 = .ok (.getfield 10, 3) := by decide +kernel
theorem dL_acts_61 : decode cL_acts 61 = .ok (.iload_n 2, 1) := by decide +kernel
theorem dL_acts_62 : decode cL_acts 62 = .ok (.iconst 0, 1) := by decide +kernel
theorem dL_acts_63 : decode cL_acts 63 = .ok (.invokestatic 167, 3) := by decide +kernel
theorem dL_acts_66 : decode cL_acts 66 = .ok (.istore 5, 2) := by decide +kernel
theorem dL_acts_68 : decode cL_acts 68 = .ok (.aload_n 0, 1) := by decide +kernel
theorem dL_acts_69 : decode cL_acts 69 = .ok (.getfield 10, 3) := by decide +kernel
theorem dL_acts_72 : decode cL_acts 72 = .ok (.iload_n 2, 1) := by decide +kernel
theorem dL_acts_73 : decode cL_acts 73 = .ok (.bipush 8, 2) := by decide +kernel
theorem dL_acts_75 : decode cL_acts 75 = .ok (.invokestatic 167, 3) := by decide +kernel
theorem dL_acts_78 : decode cL_acts 78 = .ok (.istore 6, 2) := by decide +kernel
theorem dL_acts_80 : decode cL_acts 80 = .ok (.aload_n 0, 1) := by decide +kernel
theorem dL_acts_81 : decode cL_acts 81 = .ok (.getfield 10, 3) := by decide +kernel
theorem dL_acts_84 : decode cL_acts 84 = .ok (.bipush 7, 2) := by decide +kernel
theorem dL_acts_86 : decode cL_acts 86 = .ok (.invokestatic 154, 3) := by decide +kernel
theorem dL_acts_89 : decode cL_acts 89 = .ok (.istore 7, 2) := by decide +kernel
theorem dL_acts_91 : decode cL_acts 91 = .ok (.aload_n 0, 1) := by decide +kernel
theorem dL_acts_92 : decode cL_acts 92 = .ok (.bipush 8, 2) := by decide +kernel
theorem dL_acts_94 : decode cL_acts 94 = .ok (.invokevirtual 142, 3) := by decide +kernel
theorem dL_acts_97 : decode cL_acts 97 = .ok (.tableswitch 865 0 6 #[43, 43, 130, 221, 334, 437, 513], 43) := by decide +kernel
theorem dL_acts_140 : decode cL_acts 140 = .ok (.aload_n 0, 1) := by decide +kernel
theorem dL_acts_141 : decode cL_acts 141 = .ok (.getfield 10, 3) := by decide +kernel
theorem dL_acts_144 : decode cL_acts 144 = .ok (.iload 5, 2) := by decide +kernel
theorem dL_acts_146 : decode cL_acts 146 = .ok (.bipush 6, 2) := by decide +kernel
theorem dL_acts_148 : decode cL_acts 148 = .ok (.invokestatic 162, 3) := by decide +kernel
theorem dL_acts_151 : decode cL_acts 151 = .ok (.istore 8, 2) := by decide +kernel
theorem dL_acts_153 : decode cL_acts 153 = .ok (.aload_n 0, 1) := by decide +kernel
theorem dL_acts_154 : decode cL_acts 154 = .ok (.getfield 10, 3) := by decide +kernel
theorem dL_acts_157 : decode cL_acts 157 = .ok (.iload_n 2, 1) := by decide +kernel
theorem dL_acts_158 : decode cL_acts 158 = .ok (.invokestatic 179, 3) := by decide +kernel
theorem dL_acts_161 : decode cL_acts 161 = .ok (.istore 9, 2) := by decide +kernel
theorem dL_acts_163 : decode cL_acts 163 = .ok (.iload 9, 2) := by decide +kernel
theorem dL_acts_165 : decode cL_acts 165 = .ok (.iload 4, 2) := by decide +kernel
theorem dL_acts_167 : decode cL_acts 167 = .ok (.iconst 1, 1) := by decide +kernel
theorem dL_acts_168 : decode cL_acts 168 = .ok (.if_icmp .eq 7, 3) := by decide +kernel
theorem dL_acts_171 : decode cL_acts 171 = .ok (.iconst 1, 1) := by decide +kernel
theorem dL_acts_172 : decode cL_acts 172 = .ok (.goto 15, 3) := by decide +kernel
theorem dL_acts_175 : decode cL_acts 175 = .ok (.iload 7, 2) := by decide +kernel
theorem dL_acts_177 : decode cL_acts 177 = .ok (.iload 6, 2) := by decide +kernel
theorem dL_acts_179 : decode cL_acts 179 = .ok (.if_icmp .ge 7, 3) := by decide +kernel
theorem dL_acts_182 : decode cL_acts 182 = .ok (.iconst 2, 1) := by decide +kernel
theorem dL_acts_183 : decode cL_acts 183 = .ok (.goto 4, 3) := by decide +kernel
theorem dL_acts_186 : decode cL_acts 186 = .ok (.iconst 0, 1) := by decide +kernel
theorem dL_acts_187 : decode cL_acts 187 = .ok (.if_icmp .ne 38, 3) := by decide +kernel
theorem dL_acts_190 : decode cL_acts 190 = .ok (.aload_n 0, 1) := by decide +kernel
theorem dL_acts_191 : decode cL_acts 191 = .ok (.getfield 10, 3) := by decide +kernel
theorem dL_acts_194 : decode cL_acts 194 = .ok (.iload 5, 2) := by decide +kernel
theorem dL_acts_196 : decode cL_acts 196 = .ok (.bipush 6, 2) := by decide +kernel
theorem dL_acts_198 : decode cL_acts 198 = .ok (.invokestatic 162, 3) := by decide +kernel
theorem dL_acts_201 : decode cL_acts 201 = .ok (.iload 8, 2) := by decide +kernel
theorem dL_acts_203 : decode cL_acts 203 = .ok (.iload 9, 2) := by decide +kernel
theorem dL_acts_205 : decode cL_acts 205 = .ok (.ifCond .ne 11, 3) := by decide +kernel
theorem dL_acts_208 : decode cL_acts 208 = .ok (.iload 7, 2) := by decide +kernel
theorem dL_acts_210 : decode cL_acts 210 = .ok (.iload 6, 2) := by decide +kernel
theorem dL_acts_212 : decode cL_acts 212 = .ok (.isub, 1) := by decide +kernel
theorem dL_acts_213 : decode cL_acts 213 = .ok (.goto 4, 3) := by decide +kernel
theorem dL_acts_216 : decode cL_acts 216 = .ok (.iconst 0, 1) := by decide +kernel
theorem dL_acts_217 : decode cL_acts 217 = .ok (.iadd, 1) := by decide +kernel
theorem dL_acts_218 : decode cL_acts 218 = .ok (.if_icmp .ne 7, 3) := by decide +kernel
theorem dL_acts_221 : decode cL_acts 221 = .ok (.iconst 1, 1) := by decide +kernel
theorem dL_acts_222 : decode cL_acts 222 = .ok (.goto 4, 3) := by decide +kernel
theorem dL_acts_225 : decode cL_acts 225 = .ok (.iconst 0, 1) := by decide +kernel
theorem dL_acts_226 : decode cL_acts 226 = .ok (.ireturn, 1) := by decide +kernel
theorem dL_acts_227 : decode cL_acts 227 = .ok (.aload_n 0, 1) := by decide +kernel
theorem dL_acts_228 : decode cL_acts 228 = .ok (.getfield 10, 3) := by decide +kernel
theorem dL_acts_231 : decode cL_acts 231 = .ok (.iload 5, 2) := by decide +kernel
theorem dL_acts_233 : decode cL_acts 233 = .ok (.iconst 1, 1) := by decide +kernel
theorem dL_acts_234 : decode cL_acts 234 = .ok (.invokestatic 162, 3) := by decide +kernel
theorem dL_acts_237 : decode cL_acts 237 = .ok (.istore 8, 2) := by decide +kernel
theorem dL_acts_239 : decode cL_acts 239 = .ok (.aload_n 0, 1) := by decide +kernel
theorem dL_acts_240 : decode cL_acts 240 = .ok (.getfield 10, 3) := by decide +kernel
theorem dL_acts_243 : decode cL_acts 243 = .ok (.iload_n 2, 1) := by decide +kernel
theorem dL_acts_244 : decode cL_acts 244 = .ok (.invokestatic 177, 3) := by decide +kernel
theorem dL_acts_247 : decode cL_acts 247 = .ok (.istore 9, 2) := by decide +kernel
theorem dL_acts_249 : decode cL_acts 249 = .ok (.iload 9, 2) := by decide +kernel
theorem dL_acts_251 : decode cL_acts 251 = .ok (.iload 4, 2) := by decide +kernel
theorem dL_acts_253 : decode cL_acts 253 = .ok (.iconst 2, 1) := by decide +kernel
theorem dL_acts_254 : decode cL_acts 254 = .ok (.if_icmp .ne 7, 3) := by decide +kernel
theorem dL_acts_257 : decode cL_acts 257 = .ok (.iconst 0, 1) := by decide +kernel
theorem dL_acts_258 : decode cL_acts 258 = .ok (.goto 4, 3) := by decide +kernel
theorem dL_acts_261 : decode cL_acts 261 = .ok (.iconst 1, 1) := by decide +kernel
theorem dL_acts_262 : decode cL_acts 262 = .ok (.if_icmp .ne 54, 3) := by decide +kernel
theorem dL_acts_265 : decode cL_acts 265 = .ok (.aload_n 0, 1) := by decide +kernel
theorem dL_acts_266 : decode cL_acts 266 = .ok (.getfield 10, 3) := by decide +kernel
theorem dL_acts_269 : decode cL_acts 269 = .ok (.iload 5, 2) := by decide +kernel
theorem dL_acts_271 : decode cL_acts 271 = .ok (.iconst 1, 1) := by decide +kernel
theorem dL_acts_272 : decode cL_acts 272 = .ok (.invokestatic 162, 3) := by decide +kernel
theorem dL_acts_275 : decode cL_acts 275 = .ok (.iload 8, 2) := by decide +kernel
theorem dL_acts_277 : decode cL_acts 277 = .ok (.iconst 1, 1) := by decide +kernel
theorem dL_acts_278 : decode cL_acts 278 = .ok (.iadd, 1) := by decide +kernel
theorem dL_acts_279 : decode cL_acts 279 = .ok (.iload 9, 2) := by decide +kernel
theorem dL_acts_281 : decode cL_acts 281 = .ok (.isub, 1) := by decide +kernel
theorem dL_acts_282 : decode cL_acts 282 = .ok (.if_icmp .ne 34, 3) := by decide +kernel
theorem dL_acts_285 : decode cL_acts 285 = .ok (.iload 9, 2) := by decide +kernel
theorem dL_acts_287 : decode cL_acts 287 = .ok (.ifCond .ne 25, 3) := by decide +kernel
theorem dL_acts_290 : decode cL_acts 290 = .ok (.aload_n 0, 1) := by decide +kernel
theorem dL_acts_291 : decode cL_acts 291 = .ok (.getfield 10, 3) := by decide +kernel
theorem dL_acts_294 : decode cL_acts 294 = .ok (.iload_n 2, 1) := by decide +kernel
theorem dL_acts_295 : decode cL_acts 295 = .ok (.bipush 9, 2) := by decide +kernel
theorem dL_acts_297 : decode cL_acts 297 = .ok (.invokestatic 167, 3) := by decide +kernel
theorem dL_acts_300 : decode cL_acts 300 = .ok (.iload 7, 2) := by decide +kernel
theorem dL_acts_302 : decode cL_acts 302 = .ok (.if_icmp .ne 14, 3) := by decide +kernel
theorem dL_acts_305 : decode cL_acts 305 = .ok (.aload_n 0, 1) := by decide +kernel
theorem dL_acts_306 : decode cL_acts 306 = .ok (.invokevirtual 181, 3) := by decide +kernel
theorem dL_acts_309 : decode cL_acts 309 = .ok (.ifCond .eq 7, 3) := by decide +kernel
theorem dL_acts_312 : decode cL_acts 312 = .ok (.iconst 1, 1) := by decide +kernel
theorem dL_acts_313 : decode cL_acts 313 = .ok (.goto 4, 3) := by decide +kernel
theorem dL_acts_316 : decode cL_acts 316 = .ok (.iconst 0, 1) := by decide +kernel
theorem dL_acts_317 : decode cL_acts 317 = .ok (.ireturn, 1) := by decide +kernel
theorem dL_acts_318 : decode cL_acts 318 = .ok (.aload_n 0, 1) := by decide +kernel
theorem dL_acts_319 : decode cL_acts 319 = .ok (.getfield 10, 3) := by decide +kernel
theorem dL_acts_322 : decode cL_acts 322 = .ok (.iload 5, 2) := by decide +kernel
theorem dL_acts_324 : decode cL_acts 324 = .ok (.iconst 3, 1) := by decide +kernel
theorem dL_acts_325 : decode cL_acts 325 = .ok (.invokestatic 162, 3) := by decide +kernel
theorem dL_acts_328 : decode cL_acts 328 = .ok (.istore 8, 2) := by decide +kernel
theorem dL_acts_330 : decode cL_acts 330 = .ok (.aload_n 0, 1) := by decide +kernel
theorem dL_acts_331 : decode cL_acts 331 = .ok (.getfield 10, 3) := by decide +kernel
theorem dL_acts_334 : decode cL_acts 334 = .ok (.iload_n 2, 1) := by decide +kernel
theorem dL_acts_335 : decode cL_acts 335 = .ok (.invokestatic 185, 3) := by decide +kernel
theorem dL_acts_338 : decode cL_acts 338 = .ok (.istore 9, 2) := by decide +kernel
theorem dL_acts_340 : decode cL_acts 340 = .ok (.iload 9, 2) := by decide +kernel
theorem dL_acts_342 : decode cL_acts 342 = .ok (.iload 4, 2) := by decide +kernel
theorem dL_acts_344 : decode cL_acts 344 = .ok (.iconst 2, 1) := by decide +kernel
theorem dL_acts_345 : decode cL_acts 345 = .ok (.if_icmp .ge 7, 3) := by decide +kernel
theorem dL_acts_348 : decode cL_acts 348 = .ok (.iconst 0, 1) := by decide +kernel
theorem dL_acts_349 : decode cL_acts 349 = .ok (.goto 4, 3) := by decide +kernel
theorem dL_acts_352 : decode cL_acts 352 = .ok (.iconst 1, 1) := by decide +kernel
theorem dL_acts_353 : decode cL_acts 353 = .ok (.if_icmp .ne 76, 3) := by decide +kernel
theorem dL_acts_356 : decode cL_acts 356 = .ok (.aload_n 0, 1) := by decide +kernel
theorem dL_acts_357 : decode cL_acts 357 = .ok (.getfield 10, 3) := by decide +kernel
theorem dL_acts_360 : decode cL_acts 360 = .ok (.iload 5, 2) := by decide +kernel
theorem dL_acts_362 : decode cL_acts 362 = .ok (.iconst 3, 1) := by decide +kernel
theorem dL_acts_363 : decode cL_acts 363 = .ok (.invokestatic 162, 3) := by decide +kernel
theorem dL_acts_366 : decode cL_acts 366 = .ok (.iload 8, 2) := by decide +kernel
theorem dL_acts_368 : decode cL_acts 368 = .ok (.iload 4, 2) := by decide +kernel
theorem dL_acts_370 : decode cL_acts 370 = .ok (.iconst 1, 1) := by decide +kernel
theorem dL_acts_371 : decode cL_acts 371 = .ok (.if_icmp .ne 23, 3) := by decide +kernel
theorem dL_acts_374 : decode cL_acts 374 = .ok (.iload 6, 2) := by decide +kernel
theorem dL_acts_376 : decode cL_acts 376 = .ok (.iload 7, 2) := by decide +kernel
theorem dL_acts_378 : decode cL_acts 378 = .ok (.aload_n 0, 1) := by decide +kernel
theorem dL_acts_379 : decode cL_acts 379 = .ok (.getfield 10, 3) := by decide +kernel
theorem dL_acts_382 : decode cL_acts 382 = .ok (.iconst 1, 1) := by decide +kernel
theorem dL_acts_383 : decode cL_acts 383 = .ok (.invokestatic 154, 3) := by decide +kernel
theorem dL_acts_386 : decode cL_acts 386 = .ok (.iadd, 1) := by decide +kernel
theorem dL_acts_387 : decode cL_acts 387 = .ok (.if_icmp .ge 7, 3) := by decide +kernel
theorem dL_acts_390 : decode cL_acts 390 = .ok (.iconst 1, 1) := by decide +kernel
theorem dL_acts_391 : decode cL_acts 391 = .ok (.goto 4, 3) := by decide +kernel
theorem dL_acts_394 : decode cL_acts 394 = .ok (.iconst 0, 1) := by decide +kernel
theorem dL_acts_395 : decode cL_acts 395 = .ok (.iadd, 1) := by decide +kernel
theorem dL_acts_396 : decode cL_acts 396 = .ok (.if_icmp .ne 33, 3) := by decide +kernel
theorem dL_acts_399 : decode cL_acts 399 = .ok (.iload 9, 2) := by decide +kernel
theorem dL_acts_401 : decode cL_acts 401 = .ok (.ifCond .ne 24, 3) := by decide +kernel
theorem dL_acts_404 : decode cL_acts 404 = .ok (.aload_n 0, 1) := by decide +kernel
theorem dL_acts_405 : decode cL_acts 405 = .ok (.getfield 10, 3) := by decide +kernel
theorem dL_acts_408 : decode cL_acts 408 = .ok (.iload_n 2, 1) := by decide +kernel
theorem dL_acts_409 : decode cL_acts 409 = .ok (.bipush 7, 2) := by decide +kernel
theorem dL_acts_411 : decode cL_acts 411 = .ok (.invokestatic 167, 3) := by decide +kernel
theorem dL_acts_414 : decode cL_acts 414 = .ok (.iconst 4, 1) := by decide +kernel
theorem dL_acts_415 : decode cL_acts 415 = .ok (.if_icmp .ne 14, 3) := by decide +kernel
theorem dL_acts_418 : decode cL_acts 418 = .ok (.aload_n 0, 1) := by decide +kernel
theorem dL_acts_419 : decode cL_acts 419 = .ok (.invokevirtual 181, 3) := by decide +kernel
theorem dL_acts_422 : decode cL_acts 422 = .ok (.ifCond .eq 7, 3) := by decide +kernel
theorem dL_acts_425 : decode cL_acts 425 = .ok (.iconst 1, 1) := by decide +kernel
theorem dL_acts_426 : decode cL_acts 426 = .ok (.goto 4, 3) := by decide +kernel
theorem dL_acts_429 : decode cL_acts 429 = .ok (.iconst 0, 1) := by decide +kernel
theorem dL_acts_430 : decode cL_acts 430 = .ok (.ireturn, 1) := by decide +kernel
theorem dL_acts_431 : decode cL_acts 431 = .ok (.aload_n 0, 1) := by decide +kernel
theorem dL_acts_432 : decode cL_acts 432 = .ok (.getfield 10, 3) := by decide +kernel
theorem dL_acts_435 : decode cL_acts 435 = .ok (.iload_n 2, 1) := by decide +kernel
theorem dL_acts_436 : decode cL_acts 436 = .ok (.bipush 9, 2) := by decide +kernel
theorem dL_acts_438 : decode cL_acts 438 = .ok (.invokestatic 167, 3) := by decide +kernel
theorem dL_acts_441 : decode cL_acts 441 = .ok (.istore 8, 2) := by decide +kernel
theorem dL_acts_443 : decode cL_acts 443 = .ok (.iconst 1, 1) := by decide +kernel
theorem dL_acts_444 : decode cL_acts 444 = .ok (.aload_n 0, 1) := by decide +kernel
theorem dL_acts_445 : decode cL_acts 445 = .ok (.bipush 9, 2) := by decide +kernel
theorem dL_acts_447 : decode cL_acts 447 = .ok (.invokevirtual 142, 3) := by decide +kernel
theorem dL_acts_450 : decode cL_acts 450 = .ok (.iadd, 1) := by decide +kernel
theorem dL_acts_451 : decode cL_acts 451 = .ok (.istore 9, 2) := by decide +kernel
theorem dL_acts_453 : decode cL_acts 453 = .ok (.aload_n 0, 1) := by decide +kernel
theorem dL_acts_454 : decode cL_acts 454 = .ok (.getfield 10, 3) := by decide +kernel
theorem dL_acts_457 : decode cL_acts 457 = .ok (.iload_n 2, 1) := by decide +kernel
theorem dL_acts_458 : decode cL_acts 458 = .ok (.iload 9, 2) := by decide +kernel
theorem dL_acts_460 : decode cL_acts 460 = .ok (.invokestatic 187, 3) := by decide +kernel
theorem dL_acts_463 : decode cL_acts 463 = .ok (.istore 10, 2) := by decide +kernel
theorem dL_acts_465 : decode cL_acts 465 = .ok (.iload 4, 2) := by decide +kernel
theorem dL_acts_467 : decode cL_acts 467 = .ok (.iconst 1, 1) := by decide +kernel
theorem dL_acts_468 : decode cL_acts 468 = .ok (.if_icmp .eq 21, 3) := by decide +kernel
theorem dL_acts_471 : decode cL_acts 471 = .ok (.iload 4, 2) := by decide +kernel
theorem dL_acts_473 : decode cL_acts 473 = .ok (.iconst 2, 1) := by decide +kernel
theorem dL_acts_474 : decode cL_acts 474 = .ok (.if_icmp .eq 15, 3) := by decide +kernel
theorem dL_acts_477 : decode cL_acts 477 = .ok (.iload 10, 2) := by decide +kernel
theorem dL_acts_479 : decode cL_acts 479 = .ok (.iconst 1, 1) := by decide +kernel
theorem dL_acts_480 : decode cL_acts 480 = .ok (.if_icmp .ne 7, 3) := by decide +kernel
theorem dL_acts_483 : decode cL_acts 483 = .ok (.iconst 1, 1) := by decide +kernel
theorem dL_acts_484 : decode cL_acts 484 = .ok (.goto 4, 3) := by decide +kernel
theorem dL_acts_487 : decode cL_acts 487 = .ok (.iconst 0, 1) := by decide +kernel
theorem dL_acts_488 : decode cL_acts 488 = .ok (.ireturn, 1) := by decide +kernel
theorem dL_acts_489 : decode cL_acts 489 = .ok (.iload 10, 2) := by decide +kernel
theorem dL_acts_491 : decode cL_acts 491 = .ok (.ifCond .eq 9, 3) := by decide +kernel
theorem dL_acts_494 : decode cL_acts 494 = .ok (.iload 10, 2) := by decide +kernel
theorem dL_acts_496 : decode cL_acts 496 = .ok (.iconst 3, 1) := by decide +kernel
theorem dL_acts_497 : decode cL_acts 497 = .ok (.if_icmp .ne 35, 3) := by decide +kernel
theorem dL_acts_500 : decode cL_acts 500 = .ok (.aload_n 0, 1) := by decide +kernel
theorem dL_acts_501 : decode cL_acts 501 = .ok (.getfield 10, 3) := by decide +kernel
theorem dL_acts_504 : decode cL_acts 504 = .ok (.iload_n 2, 1) := by decide +kernel
theorem dL_acts_505 : decode cL_acts 505 = .ok (.bipush 9, 2) := by decide +kernel
theorem dL_acts_507 : decode cL_acts 507 = .ok (.invokestatic 167, 3) := by decide +kernel
theorem dL_acts_510 : decode cL_acts 510 = .ok (.iload 10, 2) := by decide +kernel
theorem dL_acts_512 : decode cL_acts 512 = .ok (.ifCond .ne 11, 3) := by decide +kernel
theorem dL_acts_515 : decode cL_acts 515 = .ok (.iload 8, 2) := by decide +kernel
theorem dL_acts_517 : decode cL_acts 517 = .ok (.iload 9, 2) := by decide +kernel
theorem dL_acts_519 : decode cL_acts 519 = .ok (.iadd, 1) := by decide +kernel
theorem dL_acts_520 : decode cL_acts 520 = .ok (.goto 5, 3) := by decide +kernel
theorem dL_acts_523 : decode cL_acts 523 = .ok (.iload 8, 2) := by decide +kernel
theorem dL_acts_525 : decode cL_acts 525 = .ok (.if_icmp .ne 7, 3) := by decide +kernel
theorem dL_acts_528 : decode cL_acts 528 = .ok (.iconst 1, 1) := by decide +kernel
theorem dL_acts_529 : decode cL_acts 529 = .ok (.goto 4, 3) := by decide +kernel
theorem dL_acts_532 : decode cL_acts 532 = .ok (.iconst 0, 1) := by decide +kernel
theorem dL_acts_533 : decode cL_acts 533 = .ok (.ireturn, 1) := by decide +kernel
theorem dL_acts_534 : decode cL_acts 534 = .ok (.aload_n 0, 1) := by decide +kernel
theorem dL_acts_535 : decode cL_acts 535 = .ok (.getfield 10, 3) := by decide +kernel
theorem dL_acts_538 : decode cL_acts 538 = .ok (.iload 5, 2) := by decide +kernel
theorem dL_acts_540 : decode cL_acts 540 = .ok (.iconst 4, 1) := by decide +kernel
theorem dL_acts_541 : decode cL_acts 541 = .ok (.invokestatic 162, 3) := by decide +kernel
theorem dL_acts_544 : decode cL_acts 544 = .ok (.istore 8, 2) := by decide +kernel
theorem dL_acts_546 : decode cL_acts 546 = .ok (.aload_n 0, 1) := by decide +kernel
theorem dL_acts_547 : decode cL_acts 547 = .ok (.getfield 10, 3) := by decide +kernel
theorem dL_acts_550 : decode cL_acts 550 = .ok (.iload_n 2, 1) := by decide +kernel
theorem dL_acts_551 : decode cL_acts 551 = .ok (.invokestatic 189, 3) := by decide +kernel
theorem dL_acts_554 : decode cL_acts 554 = .ok (.istore 9, 2) := by decide +kernel
theorem dL_acts_556 : decode cL_acts 556 = .ok (.iload 9, 2) := by decide +kernel
theorem dL_acts_558 : decode cL_acts 558 = .ok (.iload 4, 2) := by decide +kernel
theorem dL_acts_560 : decode cL_acts 560 = .ok (.iconst 1, 1) := by decide +kernel
theorem dL_acts_561 : decode cL_acts 561 = .ok (.if_icmp .ne 7, 3) := by decide +kernel
theorem dL_acts_564 : decode cL_acts 564 = .ok (.iconst 0, 1) := by decide +kernel
theorem dL_acts_565 : decode cL_acts 565 = .ok (.goto 4, 3) := by decide +kernel
theorem dL_acts_568 : decode cL_acts 568 = .ok (.iconst 1, 1) := by decide +kernel
theorem dL_acts_569 : decode cL_acts 569 = .ok (.if_icmp .ne 39, 3) := by decide +kernel
theorem dL_acts_572 : decode cL_acts 572 = .ok (.aload_n 0, 1) := by decide +kernel
theorem dL_acts_573 : decode cL_acts 573 = .ok (.getfield 10, 3) := by decide +kernel
theorem dL_acts_576 : decode cL_acts 576 = .ok (.iload 5, 2) := by decide +kernel
theorem dL_acts_578 : decode cL_acts 578 = .ok (.iconst 4, 1) := by decide +kernel
theorem dL_acts_579 : decode cL_acts 579 = .ok (.invokestatic 162, 3) := by decide +kernel
theorem dL_acts_582 : decode cL_acts 582 = .ok (.iload 8, 2) := by decide +kernel
theorem dL_acts_584 : decode cL_acts 584 = .ok (.iconst 1, 1) := by decide +kernel
theorem dL_acts_585 : decode cL_acts 585 = .ok (.iadd, 1) := by decide +kernel
theorem dL_acts_586 : decode cL_acts 586 = .ok (.iload 9, 2) := by decide +kernel
theorem dL_acts_588 : decode cL_acts 588 = .ok (.isub, 1) := by decide +kernel
theorem dL_acts_589 : decode cL_acts 589 = .ok (.if_icmp .ne 19, 3) := by decide +kernel
theorem dL_acts_592 : decode cL_acts 592 = .ok (.iload 9, 2) := by decide +kernel
theorem dL_acts_594 : decode cL_acts 594 = .ok (.ifCond .ne 10, 3) := by decide +kernel
theorem dL_acts_597 : decode cL_acts 597 = .ok (.aload_n 0, 1) := by decide +kernel
theorem dL_acts_598 : decode cL_acts 598 = .ok (.invokevirtual 181, 3) := by decide +kernel
theorem dL_acts_601 : decode cL_acts 601 = .ok (.ifCond .eq 7, 3) := by decide +kernel
theorem dL_acts_604 : decode cL_acts 604 = .ok (.iconst 1, 1) := by decide +kernel
theorem dL_acts_605 : decode cL_acts 605 = .ok (.goto 4, 3) := by decide +kernel
theorem dL_acts_608 : decode cL_acts 608 = .ok (.iconst 0, 1) := by decide +kernel
theorem dL_acts_609 : decode cL_acts 609 = .ok (.ireturn, 1) := by decide +kernel
theorem dL_acts_610 : decode cL_acts 610 = .ok (.aload_n 0, 1) := by decide +kernel
theorem dL_acts_611 : decode cL_acts 611 = .ok (.getfield 10, 3) := by decide +kernel
theorem dL_acts_614 : decode cL_acts 614 = .ok (.iload_n 2, 1) := by decide +kernel
theorem dL_acts_615 : decode cL_acts 615 = .ok (.iload_n 3, 1) := by decide +kernel
theorem dL_acts_616 : decode cL_acts 616 = .ok (.invokestatic 191, 3) := by decide +kernel
theorem dL_acts_619 : decode cL_acts 619 = .ok (.istore 8, 2) := by decide +kernel
theorem dL_acts_621 : decode cL_acts 621 = .ok (.aload_n 0, 1) := by decide +kernel
theorem dL_acts_622 : decode cL_acts 622 = .ok (.getfield 10, 3) := by decide +kernel
theorem dL_acts_625 : decode cL_acts 625 = .ok (.iload_n 2, 1) := by decide +kernel
theorem dL_acts_626 : decode cL_acts 626 = .ok (.bipush 10, 2) := by decide +kernel
theorem dL_acts_628 : decode cL_acts 628 = .ok (.invokestatic 167, 3) := by decide +kernel
theorem dL_acts_631 : decode cL_acts 631 = .ok (.istore 9, 2) := by decide +kernel
theorem dL_acts_633 : decode cL_acts 633 = .ok (.aload_n 0, 1) := by decide +kernel
theorem dL_acts_634 : decode cL_acts 634 = .ok (.getfield 10, 3) := by decide +kernel
theorem dL_acts_637 : decode cL_acts 637 = .ok (.iload_n 3, 1) := by decide +kernel
theorem dL_acts_638 : decode cL_acts 638 = .ok (.bipush 10, 2) := by decide +kernel
theorem dL_acts_640 : decode cL_acts 640 = .ok (.invokestatic 167, 3) := by decide +kernel
theorem dL_acts_643 : decode cL_acts 643 = .ok (.istore 10, 2) := by decide +kernel
theorem dL_acts_645 : decode cL_acts 645 = .ok (.aload_n 0, 1) := by decide +kernel
theorem dL_acts_646 : decode cL_acts 646 = .ok (.getfield 10, 3) := by decide +kernel
theorem dL_acts_649 : decode cL_acts 649 = .ok (.iconst 4, 1) := by decide +kernel
theorem dL_acts_650 : decode cL_acts 650 = .ok (.invokestatic 193, 3) := by decide +kernel
theorem dL_acts_653 : decode cL_acts 653 = .ok (.istore 11, 2) := by decide +kernel
theorem dL_acts_655 : decode cL_acts 655 = .ok (.aload_n 0, 1) := by decide +kernel
theorem dL_acts_656 : decode cL_acts 656 = .ok (.getfield 10, 3) := by decide +kernel
theorem dL_acts_659 : decode cL_acts 659 = .ok (.bipush 11, 2) := by decide +kernel
theorem dL_acts_661 : decode cL_acts 661 = .ok (.invokestatic 154, 3) := by decide +kernel
theorem dL_acts_664 : decode cL_acts 664 = .ok (.aload_n 0, 1) := by decide +kernel
theorem dL_acts_665 : decode cL_acts 665 = .ok (.getfield 10, 3) := by decide +kernel
theorem dL_acts_668 : decode cL_acts 668 = .ok (.bipush 12, 2) := by decide +kernel
theorem dL_acts_670 : decode cL_acts 670 = .ok (.invokestatic 154, 3) := by decide +kernel
theorem dL_acts_673 : decode cL_acts 673 = .ok (.iadd, 1) := by decide +kernel
theorem dL_acts_674 : decode cL_acts 674 = .ok (.istore 12, 2) := by decide +kernel
theorem dL_acts_676 : decode cL_acts 676 = .ok (.iload_n 2, 1) := by decide +kernel
theorem dL_acts_677 : decode cL_acts 677 = .ok (.iload_n 3, 1) := by decide +kernel
theorem dL_acts_678 : decode cL_acts 678 = .ok (.if_icmp .ne 28, 3) := by decide +kernel
theorem dL_acts_681 : decode cL_acts 681 = .ok (.iload 8, 2) := by decide +kernel
theorem dL_acts_683 : decode cL_acts 683 = .ok (.ifCond .ne 21, 3) := by decide +kernel
theorem dL_acts_686 : decode cL_acts 686 = .ok (.aload_n 0, 1) := by decide +kernel
theorem dL_acts_687 : decode cL_acts 687 = .ok (.getfield 10, 3) := by decide +kernel
theorem dL_acts_690 : decode cL_acts 690 = .ok (.iload_n 2, 1) := by decide +kernel
theorem dL_acts_691 : decode cL_acts 691 = .ok (.iload_n 3, 1) := by decide +kernel
theorem dL_acts_692 : decode cL_acts 692 = .ok (.invokestatic 195, 3) := by decide +kernel
theorem dL_acts_695 : decode cL_acts 695 = .ok (.bipush (-102), 2) := by decide +kernel
theorem dL_acts_697 : decode cL_acts 697 = .ok (.if_icmp .ne 7, 3) := by decide +kernel
theorem dL_acts_700 : decode cL_acts 700 = .ok (.iconst 1, 1) := by decide +kernel
theorem dL_acts_701 : decode cL_acts 701 = .ok (.goto 4, 3) := by decide +kernel
theorem dL_acts_704 : decode cL_acts 704 = .ok (.iconst 0, 1) := by decide +kernel
theorem dL_acts_705 : decode cL_acts 705 = .ok (.ireturn, 1) := by decide +kernel
theorem dL_acts_706 : decode cL_acts 706 = .ok (.iload 4, 2) := by decide +kernel
theorem dL_acts_708 : decode cL_acts 708 = .ok (.ifCond .ne 15, 3) := by decide +kernel
theorem dL_acts_711 : decode cL_acts 711 = .ok (.aload_n 0, 1) := by decide +kernel
theorem dL_acts_712 : decode cL_acts 712 = .ok (.getfield 10, 3) := by decide +kernel
theorem dL_acts_715 : decode cL_acts 715 = .ok (.iload_n 2, 1) := by decide +kernel
theorem dL_acts_716 : decode cL_acts 716 = .ok (.iload_n 3, 1) := by decide +kernel
theorem dL_acts_717 : decode cL_acts 717 = .ok (.invokestatic 197, 3) := by decide +kernel
theorem dL_acts_720 : decode cL_acts 720 = .ok (.goto 12, 3) := by decide +kernel
theorem dL_acts_723 : decode cL_acts 723 = .ok (.aload_n 0, 1) := by decide +kernel
theorem dL_acts_724 : decode cL_acts 724 = .ok (.getfield 10, 3) := by decide +kernel
theorem dL_acts_727 : decode cL_acts 727 = .ok (.iload_n 2, 1) := by decide +kernel
theorem dL_acts_728 : decode cL_acts 728 = .ok (.iload_n 3, 1) := by decide +kernel
theorem dL_acts_729 : decode cL_acts 729 = .ok (.invokestatic 195, 3) := by decide +kernel
theorem dL_acts_732 : decode cL_acts 732 = .ok (.istore 13, 2) := by decide +kernel
theorem dL_acts_734 : decode cL_acts 734 = .ok (.iload 4, 2) := by decide +kernel
theorem dL_acts_736 : decode cL_acts 736 = .ok (.ifCond .eq 9, 3) := by decide +kernel
theorem dL_acts_739 : decode cL_acts 739 = .ok (.iload 4, 2) := by decide +kernel
theorem dL_acts_741 : decode cL_acts 741 = .ok (.iconst 1, 1) := by decide +kernel
theorem dL_acts_742 : decode cL_acts 742 = .ok (.if_icmp .ne 13, 3) := by decide +kernel
theorem dL_acts_745 : decode cL_acts 745 = .ok (.iload 13, 2) := by decide +kernel
theorem dL_acts_747 : decode cL_acts 747 = .ok (.iconst 1, 1) := by decide +kernel
theorem dL_acts_748 : decode cL_acts 748 = .ok (.if_icmp .eq 7, 3) := by decide +kernel
theorem dL_acts_751 : decode cL_acts 751 = .ok (.iconst 1, 1) := by decide +kernel
theorem dL_acts_752 : decode cL_acts 752 = .ok (.goto 4, 3) := by decide +kernel
theorem dL_acts_755 : decode cL_acts 755 = .ok (.iconst 0, 1) := by decide +kernel
theorem dL_acts_756 : decode cL_acts 756 = .ok (.istore 14, 2) := by decide +kernel
theorem dL_acts_758 : decode cL_acts 758 = .ok (.iload 8, 2) := by decide +kernel
theorem dL_acts_760 : decode cL_acts 760 = .ok (.ifCond .ne 45, 3) := by decide +kernel
theorem dL_acts_763 : decode cL_acts 763 = .ok (.iload 13, 2) := by decide +kernel
theorem dL_acts_765 : decode cL_acts 765 = .ok (.iconst 1, 1) := by decide +kernel
theorem dL_acts_766 : decode cL_acts 766 = .ok (.if_icmp .eq 9, 3) := by decide +kernel
theorem dL_acts_769 : decode cL_acts 769 = .ok (.iload 13, 2) := by decide +kernel
theorem dL_acts_771 : decode cL_acts 771 = .ok (.iconst 4, 1) := by decide +kernel
theorem dL_acts_772 : decode cL_acts 772 = .ok (.if_icmp .ne 31, 3) := by decide +kernel
theorem dL_acts_775 : decode cL_acts 775 = .ok (.aload_n 0, 1) := by decide +kernel
theorem dL_acts_776 : decode cL_acts 776 = .ok (.getfield 10, 3) := by decide +kernel
theorem dL_acts_779 : decode cL_acts 779 = .ok (.bipush 11, 2) := by decide +kernel
theorem dL_acts_781 : decode cL_acts 781 = .ok (.invokestatic 154, 3) := by decide +kernel
theorem dL_acts_784 : decode cL_acts 784 = .ok (.aload_n 0, 1) := by decide +kernel
theorem dL_acts_785 : decode cL_acts 785 = .ok (.getfield 10, 3) := by decide +kernel
theorem dL_acts_788 : decode cL_acts 788 = .ok (.bipush 12, 2) := by decide +kernel
theorem dL_acts_790 : decode cL_acts 790 = .ok (.invokestatic 154, 3) := by decide +kernel
theorem dL_acts_793 : decode cL_acts 793 = .ok (.iadd, 1) := by decide +kernel
theorem dL_acts_794 : decode cL_acts 794 = .ok (.iload 12, 2) := by decide +kernel
theorem dL_acts_796 : decode cL_acts 796 = .ok (.if_icmp .ne 7, 3) := by decide +kernel
theorem dL_acts_799 : decode cL_acts 799 = .ok (.iconst 1, 1) := by decide +kernel
theorem dL_acts_800 : decode cL_acts 800 = .ok (.goto 4, 3) := by decide +kernel
theorem dL_acts_803 : decode cL_acts 803 = .ok (.iconst 0, 1) := by decide +kernel
theorem dL_acts_804 : decode cL_acts 804 = .ok (.ireturn, 1) := by decide +kernel
theorem dL_acts_805 : decode cL_acts 805 = .ok (.iload 14, 2) := by decide +kernel
theorem dL_acts_807 : decode cL_acts 807 = .ok (.ifCond .eq 39, 3) := by decide +kernel
theorem dL_acts_810 : decode cL_acts 810 = .ok (.iload 13, 2) := by decide +kernel
theorem dL_acts_812 : decode cL_acts 812 = .ok (.ifCond .ne 34, 3) := by decide +kernel
theorem dL_acts_815 : decode cL_acts 815 = .ok (.aload_n 0, 1) := by decide +kernel
theorem dL_acts_816 : decode cL_acts 816 = .ok (.getfield 10, 3) := by decide +kernel
theorem dL_acts_819 : decode cL_acts 819 = .ok (.bipush 11, 2) := by decide +kernel
theorem dL_acts_821 : decode cL_acts 821 = .ok (.invokestatic 154, 3) := by decide +kernel
theorem dL_acts_824 : decode cL_acts 824 = .ok (.aload_n 0, 1) := by decide +kernel
theorem dL_acts_825 : decode cL_acts 825 = .ok (.getfield 10, 3) := by decide +kernel
theorem dL_acts_828 : decode cL_acts 828 = .ok (.bipush 12, 2) := by decide +kernel
theorem dL_acts_830 : decode cL_acts 830 = .ok (.invokestatic 154, 3) := by decide +kernel
theorem dL_acts_833 : decode cL_acts 833 = .ok (.iadd, 1) := by decide +kernel
theorem dL_acts_834 : decode cL_acts 834 = .ok (.iload 12, 2) := by decide +kernel
theorem dL_acts_836 : decode cL_acts 836 = .ok (.iconst 1, 1) := by decide +kernel
theorem dL_acts_837 : decode cL_acts 837 = .ok (.iadd, 1) := by decide +kernel
theorem dL_acts_838 : decode cL_acts 838 = .ok (.if_icmp .ne 8, 3) := by decide +kernel
theorem dL_acts_841 : decode cL_acts 841 = .ok (.iload 11, 2) := by decide +kernel
theorem dL_acts_843 : decode cL_acts 843 = .ok (.ifCond .ge 5, 3) := by decide +kernel
theorem dL_acts_846 : decode cL_acts 846 = .ok (.iconst 0, 1) := by decide +kernel
theorem dL_acts_847 : decode cL_acts 847 = .ok (.ireturn, 1) := by decide +kernel
theorem dL_acts_848 : decode cL_acts 848 = .ok (.iload 4, 2) := by decide +kernel
theorem dL_acts_850 : decode cL_acts 850 = .ok (.ifCond .ne 44, 3) := by decide +kernel
theorem dL_acts_853 : decode cL_acts 853 = .ok (.aload_n 0, 1) := by decide +kernel
theorem dL_acts_854 : decode cL_acts 854 = .ok (.getfield 10, 3) := by decide +kernel
theorem dL_acts_857 : decode cL_acts 857 = .ok (.iload_n 2, 1) := by decide +kernel
theorem dL_acts_858 : decode cL_acts 858 = .ok (.bipush 10, 2) := by decide +kernel
theorem dL_acts_860 : decode cL_acts 860 = .ok (.invokestatic 167, 3) := by decide +kernel
theorem dL_acts_863 : decode cL_acts 863 = .ok (.iload 10, 2) := by decide +kernel
theorem dL_acts_865 : decode cL_acts 865 = .ok (.if_icmp .le 25, 3) := by decide +kernel
theorem dL_acts_868 : decode cL_acts 868 = .ok (.aload_n 0, 1) := by decide +kernel
theorem dL_acts_869 : decode cL_acts 869 = .ok (.getfield 10, 3) := by decide +kernel
theorem dL_acts_872 : decode cL_acts 872 = .ok (.iload_n 2, 1) := by decide +kernel
theorem dL_acts_873 : decode cL_acts 873 = .ok (.bipush 10, 2) := by decide +kernel
theorem dL_acts_875 : decode cL_acts 875 = .ok (.invokestatic 167, 3) := by decide +kernel
theorem dL_acts_878 : decode cL_acts 878 = .ok (.iload 10, 2) := by decide +kernel
theorem dL_acts_880 : decode cL_acts 880 = .ok (.isub, 1) := by decide +kernel
theorem dL_acts_881 : decode cL_acts 881 = .ok (.iload 8, 2) := by decide +kernel
theorem dL_acts_883 : decode cL_acts 883 = .ok (.if_icmp .ne 7, 3) := by decide +kernel
theorem dL_acts_886 : decode cL_acts 886 = .ok (.iconst 1, 1) := by decide +kernel
theorem dL_acts_887 : decode cL_acts 887 = .ok (.goto 74, 3) := by decide +kernel
theorem dL_acts_890 : decode cL_acts 890 = .ok (.iconst 0, 1) := by decide +kernel
theorem dL_acts_891 : decode cL_acts 891 = .ok (.goto 70, 3) := by decide +kernel
theorem dL_acts_894 : decode cL_acts 894 = .ok (.aload_n 0, 1) := by decide +kernel
theorem dL_acts_895 : decode cL_acts 895 = .ok (.getfield 10, 3) := by decide +kernel
theorem dL_acts_898 : decode cL_acts 898 = .ok (.iload_n 2, 1) := by decide +kernel
theorem dL_acts_899 : decode cL_acts 899 = .ok (.bipush 10, 2) := by decide +kernel
theorem dL_acts_901 : decode cL_acts 901 = .ok (.invokestatic 167, 3) := by decide +kernel
theorem dL_acts_904 : decode cL_acts 904 = .ok (.iload 9, 2) := by decide +kernel
theorem dL_acts_906 : decode cL_acts 906 = .ok (.if_icmp .le 54, 3) := by decide +kernel
theorem dL_acts_909 : decode cL_acts 909 = .ok (.aload_n 0, 1) := by decide +kernel
theorem dL_acts_910 : decode cL_acts 910 = .ok (.getfield 10, 3) := by decide +kernel
theorem dL_acts_913 : decode cL_acts 913 = .ok (.iload_n 3, 1) := by decide +kernel
theorem dL_acts_914 : decode cL_acts 914 = .ok (.bipush 10, 2) := by decide +kernel
theorem dL_acts_916 : decode cL_acts 916 = .ok (.invokestatic 167, 3) := by decide +kernel
theorem dL_acts_919 : decode cL_acts 919 = .ok (.iload 10, 2) := by decide +kernel
theorem dL_acts_921 : decode cL_acts 921 = .ok (.if_icmp .le 39, 3) := by decide +kernel
theorem dL_acts_924 : decode cL_acts 924 = .ok (.aload_n 0, 1) := by decide +kernel
theorem dL_acts_925 : decode cL_acts 925 = .ok (.getfield 10, 3) := by decide +kernel
theorem dL_acts_928 : decode cL_acts 928 = .ok (.iload_n 2, 1) := by decide +kernel
theorem dL_acts_929 : decode cL_acts 929 = .ok (.bipush 10, 2) := by decide +kernel
theorem dL_acts_931 : decode cL_acts 931 = .ok (.invokestatic 167, 3) := by decide +kernel
theorem dL_acts_934 : decode cL_acts 934 = .ok (.iload 9, 2) := by decide +kernel
theorem dL_acts_936 : decode cL_acts 936 = .ok (.isub, 1) := by decide +kernel
theorem dL_acts_937 : decode cL_acts 937 = .ok (.aload_n 0, 1) := by decide +kernel
theorem dL_acts_938 : decode cL_acts 938 = .ok (.getfield 10, 3) := by decide +kernel
theorem dL_acts_941 : decode cL_acts 941 = .ok (.iload_n 3, 1) := by decide +kernel
theorem dL_acts_942 : decode cL_acts 942 = .ok (.bipush 10, 2) := by decide +kernel
theorem dL_acts_944 : decode cL_acts 944 = .ok (.invokestatic 167, 3) := by decide +kernel
theorem dL_acts_947 : decode cL_acts 947 = .ok (.iadd, 1) := by decide +kernel
theorem dL_acts_948 : decode cL_acts 948 = .ok (.iload 10, 2) := by decide +kernel
theorem dL_acts_950 : decode cL_acts 950 = .ok (.isub, 1) := by decide +kernel
theorem dL_acts_951 : decode cL_acts 951 = .ok (.iload 8, 2) := by decide +kernel
theorem dL_acts_953 : decode cL_acts 953 = .ok (.if_icmp .ne 7, 3) := by decide +kernel
theorem dL_acts_956 : decode cL_acts 956 = .ok (.iconst 1, 1) := by decide +kernel
theorem dL_acts_957 : decode cL_acts 957 = .ok (.goto 4, 3) := by decide +kernel
theorem dL_acts_960 : decode cL_acts 960 = .ok (.iconst 0, 1) := by decide +kernel
theorem dL_acts_961 : decode cL_acts 961 = .ok (.ireturn, 1) := by decide +kernel
theorem dL_acts_962 : decode cL_acts 962 = .ok (.aload_n 0, 1) := by decide +kernel
theorem dL_acts_963 : decode cL_acts 963 = .ok (.getfield 10, 3) := by decide +kernel
theorem dL_acts_966 : decode cL_acts 966 = .ok (.iconst 0, 1) := by decide +kernel
theorem dL_acts_967 : decode cL_acts 967 = .ok (.invokestatic 193, 3) := by decide +kernel
theorem dL_acts_970 : decode cL_acts 970 = .ok (.istore 8, 2) := by decide +kernel
theorem dL_acts_972 : decode cL_acts 972 = .ok (.aload_n 0, 1) := by decide +kernel
theorem dL_acts_973 : decode cL_acts 973 = .ok (.getfield 10, 3) := by decide +kernel
theorem dL_acts_976 : decode cL_acts 976 = .ok (.iconst 1, 1) := by decide +kernel
theorem dL_acts_977 : decode cL_acts 977 = .ok (.invokestatic 193, 3) := by decide +kernel
theorem dL_acts_980 : decode cL_acts 980 = .ok (.istore 9, 2) := by decide +kernel
theorem dL_acts_982 : decode cL_acts 982 = .ok (.aload_n 0, 1) := by decide +kernel
theorem dL_acts_983 : decode cL_acts 983 = .ok (.getfield 10, 3) := by decide +kernel
theorem dL_acts_986 : decode cL_acts 986 = .ok (.iconst 2, 1) := by decide +kernel
theorem dL_acts_987 : decode cL_acts 987 = .ok (.invokestatic 193, 3) := by decide +kernel
theorem dL_acts_990 : decode cL_acts 990 = .ok (.istore 10, 2) := by decide +kernel
theorem dL_acts_992 : decode cL_acts 992 = .ok (.aload_n 0, 1) := by decide +kernel
theorem dL_acts_993 : decode cL_acts 993 = .ok (.getfield 10, 3) := by decide +kernel
theorem dL_acts_996 : decode cL_acts 996 = .ok (.iconst 3, 1) := by decide +kernel
theorem dL_acts_997 : decode cL_acts 997 = .ok (.invokestatic 193, 3) := by decide +kernel
theorem dL_acts_1000 : decode cL_acts 1000 = .ok (.istore 11, 2) := by decide +kernel
theorem dL_acts_1002 : decode cL_acts 1002 = .ok (.iload 8, 2) := by decide +kernel
theorem dL_acts_1004 : decode cL_acts 1004 = .ok (.ifCond .ge 20, 3) := by decide +kernel
theorem dL_acts_1007 : decode cL_acts 1007 = .ok (.aload_n 0, 1) := by decide +kernel
theorem dL_acts_1008 : decode cL_acts 1008 = .ok (.getfield 10, 3) := by decide +kernel
theorem dL_acts_1011 : decode cL_acts 1011 = .ok (.invokevirtual 199, 3) := by decide +kernel
theorem dL_acts_1014 : decode cL_acts 1014 = .ok (.iconst 5, 1) := by decide +kernel
theorem dL_acts_1015 : decode cL_acts 1015 = .ok (.if_icmp .ne 7, 3) := by decide +kernel
theorem dL_acts_1018 : decode cL_acts 1018 = .ok (.iconst 1, 1) := by decide +kernel
theorem dL_acts_1019 : decode cL_acts 1019 = .ok (.goto 4, 3) := by decide +kernel
theorem dL_acts_1022 : decode cL_acts 1022 = .ok (.iconst 0, 1) := by decide +kernel
theorem dL_acts_1023 : decode cL_acts 1023 = .ok (.ireturn, 1) := by decide +kernel
theorem dL_acts_1024 : decode cL_acts 1024 = .ok (.iload 8, 2) := by decide +kernel
theorem dL_acts_1026 : decode cL_acts 1026 = .ok (.aload_n 0, 1) := by decide +kernel
theorem dL_acts_1027 : decode cL_acts 1027 = .ok (.getfield 10, 3) := by decide +kernel
theorem dL_acts_1030 : decode cL_acts 1030 = .ok (.iload 10, 2) := by decide +kernel
theorem dL_acts_1032 : decode cL_acts 1032 = .ok (.iload 11, 2) := by decide +kernel
theorem dL_acts_1034 : decode cL_acts 1034 = .ok (.invokestatic 191, 3) := by decide +kernel
theorem dL_acts_1037 : decode cL_acts 1037 = .ok (.if_icmp .ne 50, 3) := by decide +kernel
theorem dL_acts_1040 : decode cL_acts 1040 = .ok (.aload_n 0, 1) := by decide +kernel
theorem dL_acts_1041 : decode cL_acts 1041 = .ok (.getfield 10, 3) := by decide +kernel
theorem dL_acts_1044 : decode cL_acts 1044 = .ok (.iload_n 2, 1) := by decide +kernel
theorem dL_acts_1045 : decode cL_acts 1045 = .ok (.iload_n 3, 1) := by decide +kernel
theorem dL_acts_1046 : decode cL_acts 1046 = .ok (.invokestatic 191, 3) := by decide +kernel
theorem dL_acts_1049 : decode cL_acts 1049 = .ok (.iload 8, 2) := by decide +kernel
theorem dL_acts_1051 : decode cL_acts 1051 = .ok (.if_icmp .gt 36, 3) := by decide +kernel
theorem dL_acts_1054 : decode cL_acts 1054 = .ok (.aload_n 0, 1) := by decide +kernel
theorem dL_acts_1055 : decode cL_acts 1055 = .ok (.getfield 10, 3) := by decide +kernel
theorem dL_acts_1058 : decode cL_acts 1058 = .ok (.iload 10, 2) := by decide +kernel
theorem dL_acts_1060 : decode cL_acts 1060 = .ok (.bipush 7, 2) := by decide +kernel
theorem dL_acts_1062 : decode cL_acts 1062 = .ok (.invokestatic 167, 3) := by decide +kernel
theorem dL_acts_1065 : decode cL_acts 1065 = .ok (.iconst 1, 1) := by decide +kernel
theorem dL_acts_1066 : decode cL_acts 1066 = .ok (.iload 9, 2) := by decide +kernel
theorem dL_acts_1068 : decode cL_acts 1068 = .ok (.isub, 1) := by decide +kernel
theorem dL_acts_1069 : decode cL_acts 1069 = .ok (.if_icmp .ne 18, 3) := by decide +kernel
theorem dL_acts_1072 : decode cL_acts 1072 = .ok (.aload_n 0, 1) := by decide +kernel
theorem dL_acts_1073 : decode cL_acts 1073 = .ok (.getfield 10, 3) := by decide +kernel
theorem dL_acts_1076 : decode cL_acts 1076 = .ok (.iload 11, 2) := by decide +kernel
theorem dL_acts_1078 : decode cL_acts 1078 = .ok (.bipush 7, 2) := by decide +kernel
theorem dL_acts_1080 : decode cL_acts 1080 = .ok (.invokestatic 167, 3) := by decide +kernel
theorem dL_acts_1083 : decode cL_acts 1083 = .ok (.iconst 1, 1) := by decide +kernel
theorem dL_acts_1084 : decode cL_acts 1084 = .ok (.if_icmp .eq 5, 3) := by decide +kernel
theorem dL_acts_1087 : decode cL_acts 1087 = .ok (.iconst 0, 1) := by decide +kernel
theorem dL_acts_1088 : decode cL_acts 1088 = .ok (.ireturn, 1) := by decide +kernel
theorem dL_acts_1089 : decode cL_acts 1089 = .ok (.aload_n 0, 1) := by decide +kernel
theorem dL_acts_1090 : decode cL_acts 1090 = .ok (.getfield 10, 3) := by decide +kernel
theorem dL_acts_1093 : decode cL_acts 1093 = .ok (.invokevirtual 199, 3) := by decide +kernel
theorem dL_acts_1096 : decode cL_acts 1096 = .ok (.ifCond .ne 14, 3) := by decide +kernel
theorem dL_acts_1099 : decode cL_acts 1099 = .ok (.aload_n 0, 1) := by decide +kernel
theorem dL_acts_1100 : decode cL_acts 1100 = .ok (.invokevirtual 181, 3) := by decide +kernel
theorem dL_acts_1103 : decode cL_acts 1103 = .ok (.ifCond .eq 7, 3) := by decide +kernel
theorem dL_acts_1106 : decode cL_acts 1106 = .ok (.iconst 1, 1) := by decide +kernel
theorem dL_acts_1107 : decode cL_acts 1107 = .ok (.goto 4, 3) := by decide +kernel
theorem dL_acts_1110 : decode cL_acts 1110 = .ok (.iconst 0, 1) := by decide +kernel
theorem dL_acts_1111 : decode cL_acts 1111 = .ok (.ireturn, 1) := by decide +kernel
def w_L_acts_226  (Q : Int32 → V3 → Prop) (s0 : Int32) (v : V3) : Prop := (s0 = 0 ∨ s0 = 1) ∧ Q s0 v
def w_L_acts_225  (Q : Int32 → V3 → Prop) (v : V3) : Prop := w_L_acts_226 Q 0 v
def w_L_acts_217  (Q : Int32 → V3 → Prop) (s0 : Int32) (s1 : Int32) (s2 : Int32) (v : V3) : Prop := ((¬ s0 = (s1 + s2) → w_L_acts_225 Q v) ∧ (s0 = (s1 + s2) → w_L_acts_226 Q 1 v))
def w_L_acts_187  (Q : Int32 → V3 → Prop) (x5 : Int32) (x6 : Int32) (x7 : Int32) (x8 : Int32) (x9 : Int32) (s0 : Int32) (s1 : Int32) (v : V3) : Prop := ((¬ s0 = s1 → w_L_acts_225 Q v) ∧ (s0 = s1 → w_L_owner x5 6 v (fun r28 v27 => ((¬ x9 = 0 → w_L_acts_217 Q r28 x8 0 v27) ∧ (x9 = 0 → w_L_acts_217 Q r28 x8 (x7 - x6) v27)))))
def w_L_acts_317  (Q : Int32 → V3 → Prop) (s0 : Int32) (v : V3) : Prop := (s0 = 0 ∨ s0 = 1) ∧ Q s0 v
def w_L_acts_316  (Q : Int32 → V3 → Prop) (v : V3) : Prop := w_L_acts_317 Q 0 v
def w_L_acts_312  (Q : Int32 → V3 → Prop) (v : V3) : Prop := w_L_acts_317 Q 1 v
def w_L_acts_262  (Q : Int32 → V3 → Prop) (x2 : Int32) (x5 : Int32) (x7 : Int32) (x8 : Int32) (x9 : Int32) (s0 : Int32) (s1 : Int32) (v : V3) : Prop := ((¬ s0 = s1 → w_L_acts_316 Q v) ∧ (s0 = s1 → w_L_owner x5 1 v (fun r47 v46 => ((¬ r47 = ((x8 + 1) - x9) → w_L_acts_316 Q v46) ∧ (r47 = ((x8 + 1) - x9) → ((¬ x9 = 0 → w_L_acts_312 Q v46) ∧ (x9 = 0 → w_L_booking x2 9 v46 (fun r51 v50 => ((¬ r51 = x7 → w_L_acts_316 Q v50) ∧ (r51 = x7 → w_L_nobodyCould v50 (fun r54 v53 => ((r54 = 0 → w_L_acts_316 Q v53) ∧ (¬ r54 = 0 → w_L_acts_312 Q v53)))))))))))))
def w_L_acts_430  (Q : Int32 → V3 → Prop) (s0 : Int32) (v : V3) : Prop := (s0 = 0 ∨ s0 = 1) ∧ Q s0 v
def w_L_acts_429  (Q : Int32 → V3 → Prop) (v : V3) : Prop := w_L_acts_430 Q 0 v
def w_L_acts_425  (Q : Int32 → V3 → Prop) (v : V3) : Prop := w_L_acts_430 Q 1 v
def w_L_acts_395  (Q : Int32 → V3 → Prop) (x2 : Int32) (x9 : Int32) (s0 : Int32) (s1 : Int32) (s2 : Int32) (v : V3) : Prop := ((¬ s0 = (s1 + s2) → w_L_acts_429 Q v) ∧ (s0 = (s1 + s2) → ((¬ x9 = 0 → w_L_acts_425 Q v) ∧ (x9 = 0 → w_L_booking x2 7 v (fun r70 v69 => ((¬ r70 = 4 → w_L_acts_429 Q v69) ∧ (r70 = 4 → w_L_nobodyCould v69 (fun r73 v72 => ((r73 = 0 → w_L_acts_429 Q v72) ∧ (¬ r73 = 0 → w_L_acts_425 Q v72))))))))))
def w_L_acts_394  (Q : Int32 → V3 → Prop) (x2 : Int32) (x9 : Int32) (s0 : Int32) (s1 : Int32) (v : V3) : Prop := w_L_acts_395 Q x2 x9 s0 s1 0 v
def w_L_acts_353  (Q : Int32 → V3 → Prop) (x2 : Int32) (x4 : Int32) (x5 : Int32) (x6 : Int32) (x7 : Int32) (x8 : Int32) (x9 : Int32) (s0 : Int32) (s1 : Int32) (v : V3) : Prop := ((¬ s0 = s1 → w_L_acts_429 Q v) ∧ (s0 = s1 → w_L_owner x5 3 v (fun r65 v64 => ((¬ x4 = 1 → w_L_acts_394 Q x2 x9 r65 x8 v64) ∧ (x4 = 1 → w_L_count 1 v64 (fun r76 v75 => (((x7 + r76) ≤ x6 → w_L_acts_394 Q x2 x9 r65 x8 v75) ∧ (¬ (x7 + r76) ≤ x6 → w_L_acts_395 Q x2 x9 r65 x8 1 v75))))))))
def w_L_acts_533  (Q : Int32 → V3 → Prop) (s0 : Int32) (v : V3) : Prop := (s0 = 0 ∨ s0 = 1) ∧ Q s0 v
def w_L_acts_532  (Q : Int32 → V3 → Prop) (v : V3) : Prop := w_L_acts_533 Q 0 v
def w_L_acts_525  (Q : Int32 → V3 → Prop) (s0 : Int32) (s1 : Int32) (v : V3) : Prop := ((¬ s0 = s1 → w_L_acts_532 Q v) ∧ (s0 = s1 → w_L_acts_533 Q 1 v))
def w_L_acts_500  (Q : Int32 → V3 → Prop) (x2 : Int32) (x8 : Int32) (x9 : Int32) (x10 : Int32) (v : V3) : Prop := w_L_booking x2 9 v (fun r88 v87 => ((¬ x10 = 0 → w_L_acts_525 Q r88 x8 v87) ∧ (x10 = 0 → w_L_acts_525 Q r88 (x8 + x9) v87)))
def w_L_acts_489  (Q : Int32 → V3 → Prop) (x2 : Int32) (x8 : Int32) (x9 : Int32) (x10 : Int32) (v : V3) : Prop := ((x10 = 0 → w_L_acts_500 Q x2 x8 x9 x10 v) ∧ (¬ x10 = 0 → ((¬ x10 = 3 → w_L_acts_532 Q v) ∧ (x10 = 3 → w_L_acts_500 Q x2 x8 x9 x10 v))))
def w_L_acts_488  (Q : Int32 → V3 → Prop) (s0 : Int32) (v : V3) : Prop := (s0 = 0 ∨ s0 = 1) ∧ Q s0 v
def w_L_acts_609  (Q : Int32 → V3 → Prop) (s0 : Int32) (v : V3) : Prop := (s0 = 0 ∨ s0 = 1) ∧ Q s0 v
def w_L_acts_608  (Q : Int32 → V3 → Prop) (v : V3) : Prop := w_L_acts_609 Q 0 v
def w_L_acts_604  (Q : Int32 → V3 → Prop) (v : V3) : Prop := w_L_acts_609 Q 1 v
def w_L_acts_569  (Q : Int32 → V3 → Prop) (x5 : Int32) (x8 : Int32) (x9 : Int32) (s0 : Int32) (s1 : Int32) (v : V3) : Prop := ((¬ s0 = s1 → w_L_acts_608 Q v) ∧ (s0 = s1 → w_L_owner x5 4 v (fun r105 v104 => ((¬ r105 = ((x8 + 1) - x9) → w_L_acts_608 Q v104) ∧ (r105 = ((x8 + 1) - x9) → ((¬ x9 = 0 → w_L_acts_604 Q v104) ∧ (x9 = 0 → w_L_nobodyCould v104 (fun r109 v108 => ((r109 = 0 → w_L_acts_608 Q v108) ∧ (¬ r109 = 0 → w_L_acts_604 Q v108))))))))))
def w_L_acts_846  (Q : Int32 → V3 → Prop) (v : V3) : Prop := Q 0 v
def w_L_acts_961  (Q : Int32 → V3 → Prop) (s0 : Int32) (v : V3) : Prop := (s0 = 0 ∨ s0 = 1) ∧ Q s0 v
def w_L_acts_960  (Q : Int32 → V3 → Prop) (v : V3) : Prop := w_L_acts_961 Q 0 v
def w_L_acts_890  (Q : Int32 → V3 → Prop) (v : V3) : Prop := w_L_acts_961 Q 0 v
def w_L_acts_804  (Q : Int32 → V3 → Prop) (s0 : Int32) (v : V3) : Prop := (s0 = 0 ∨ s0 = 1) ∧ Q s0 v
def w_L_acts_803  (Q : Int32 → V3 → Prop) (v : V3) : Prop := w_L_acts_804 Q 0 v
def w_L_acts_775  (Q : Int32 → V3 → Prop) (x12 : Int32) (v : V3) : Prop := w_L_count 11 v (fun r160 v159 => w_L_count 12 v159 (fun r162 v161 => ((¬ (r160 + r162) = x12 → w_L_acts_803 Q v161) ∧ ((r160 + r162) = x12 → w_L_acts_804 Q 1 v161))))
def w_L_acts_756  (Q : Int32 → V3 → Prop) (x2 : Int32) (x3 : Int32) (x4 : Int32) (x8 : Int32) (x9 : Int32) (x10 : Int32) (x11 : Int32) (x12 : Int32) (x13 : Int32) (s0 : Int32) (v : V3) : Prop := ((¬ x8 = 0 → ((s0 = 0 → w_L_acts_846 Q v) ∧ (¬ s0 = 0 → ((¬ x13 = 0 → w_L_acts_846 Q v) ∧ (x13 = 0 → w_L_count 11 v (fun r134 v133 => w_L_count 12 v133 (fun r136 v135 => ((¬ (r134 + r136) = (x12 + 1) → w_L_acts_846 Q v135) ∧ ((r134 + r136) = (x12 + 1) → ((0 ≤ x11 → ((¬ x4 = 0 → w_L_booking x2 10 v135 (fun r141 v140 => ((r141 ≤ x9 → w_L_acts_960 Q v140) ∧ (¬ r141 ≤ x9 → w_L_booking x3 10 v140 (fun r145 v144 => ((r145 ≤ x10 → w_L_acts_960 Q v144) ∧ (¬ r145 ≤ x10 → w_L_booking x2 10 v144 (fun r148 v147 => w_L_booking x3 10 v147 (fun r150 v149 => ((¬ (((r148 - x9) + r150) - x10) = x8 → w_L_acts_960 Q v149) ∧ ((((r148 - x9) + r150) - x10) = x8 → w_L_acts_961 Q 1 v149))))))))))) ∧ (x4 = 0 → w_L_booking x2 10 v135 (fun r153 v152 => ((r153 ≤ x10 → w_L_acts_890 Q v152) ∧ (¬ r153 ≤ x10 → w_L_booking x2 10 v152 (fun r156 v155 => ((¬ (r156 - x10) = x8 → w_L_acts_890 Q v155) ∧ ((r156 - x10) = x8 → w_L_acts_961 Q 1 v155))))))))) ∧ (¬ 0 ≤ x11 → w_L_acts_846 Q v135))))))))))) ∧ (x8 = 0 → ((x13 = 1 → w_L_acts_775 Q x12 v) ∧ (¬ x13 = 1 → ((¬ x13 = 4 → w_L_acts_803 Q v) ∧ (x13 = 4 → w_L_acts_775 Q x12 v))))))
def w_L_acts_755  (Q : Int32 → V3 → Prop) (x2 : Int32) (x3 : Int32) (x4 : Int32) (x8 : Int32) (x9 : Int32) (x10 : Int32) (x11 : Int32) (x12 : Int32) (x13 : Int32) (v : V3) : Prop := w_L_acts_756 Q x2 x3 x4 x8 x9 x10 x11 x12 x13 0 v
def w_L_acts_745  (Q : Int32 → V3 → Prop) (x2 : Int32) (x3 : Int32) (x4 : Int32) (x8 : Int32) (x9 : Int32) (x10 : Int32) (x11 : Int32) (x12 : Int32) (x13 : Int32) (v : V3) : Prop := ((x13 = 1 → w_L_acts_755 Q x2 x3 x4 x8 x9 x10 x11 x12 x13 v) ∧ (¬ x13 = 1 → w_L_acts_756 Q x2 x3 x4 x8 x9 x10 x11 x12 x13 1 v))
def w_L_acts_732  (Q : Int32 → V3 → Prop) (x2 : Int32) (x3 : Int32) (x4 : Int32) (x8 : Int32) (x9 : Int32) (x10 : Int32) (x11 : Int32) (x12 : Int32) (s0 : Int32) (v : V3) : Prop := ((x4 = 0 → w_L_acts_745 Q x2 x3 x4 x8 x9 x10 x11 x12 s0 v) ∧ (¬ x4 = 0 → ((¬ x4 = 1 → w_L_acts_755 Q x2 x3 x4 x8 x9 x10 x11 x12 s0 v) ∧ (x4 = 1 → w_L_acts_745 Q x2 x3 x4 x8 x9 x10 x11 x12 s0 v))))
def w_L_acts_705  (Q : Int32 → V3 → Prop) (s0 : Int32) (v : V3) : Prop := (s0 = 0 ∨ s0 = 1) ∧ Q s0 v
def w_L_acts_704  (Q : Int32 → V3 → Prop) (v : V3) : Prop := w_L_acts_705 Q 0 v
def w_L_acts_1087  (Q : Int32 → V3 → Prop) (v : V3) : Prop := Q 0 v
def w_L_acts_1111  (Q : Int32 → V3 → Prop) (s0 : Int32) (v : V3) : Prop := (s0 = 0 ∨ s0 = 1) ∧ Q s0 v
def w_L_acts_1110  (Q : Int32 → V3 → Prop) (v : V3) : Prop := w_L_acts_1111 Q 0 v
def w_L_acts_1023  (Q : Int32 → V3 → Prop) (s0 : Int32) (v : V3) : Prop := (s0 = 0 ∨ s0 = 1) ∧ Q s0 v
def w_L_acts_32  (Q : Int32 → V3 → Prop) (s0 : Int32) (v : V3) : Prop := (s0 = 0 ∨ s0 = 1) ∧ Q s0 v
def w_L_acts  (v : V3) (Q : Int32 → V3 → Prop) : Prop := w_L_count 6 v (fun r2 v1 => ((¬ r2 = 0 → w_L_draw r2 v1 (fun r5 v4 => w_L_draw r2 v4 (fun r7 v6 => w_L_booking r5 7 v6 (fun r9 v8 => w_L_booking r5 0 v8 (fun r11 v10 => w_L_booking r5 8 v10 (fun r13 v12 => w_L_count 7 v12 (fun r15 v14 => w_L_draw 8 v14 (fun r17 v16 => ((r17 = 0 → w_L_owner r11 6 v16 (fun r20 v19 => w_L_arrive r5 v19 (fun r22 v21 => ((r9 = 1 → ((r13 ≤ r15 → w_L_acts_187 Q r11 r13 r15 r20 r22 r22 0 v21) ∧ (¬ r13 ≤ r15 → w_L_acts_187 Q r11 r13 r15 r20 r22 r22 2 v21))) ∧ (¬ r9 = 1 → w_L_acts_187 Q r11 r13 r15 r20 r22 r22 1 v21))))) ∧ (r17 = 1 → w_L_owner r11 6 v16 (fun r33 v32 => w_L_arrive r5 v32 (fun r35 v34 => ((r9 = 1 → ((r13 ≤ r15 → w_L_acts_187 Q r11 r13 r15 r33 r35 r35 0 v34) ∧ (¬ r13 ≤ r15 → w_L_acts_187 Q r11 r13 r15 r33 r35 r35 2 v34))) ∧ (¬ r9 = 1 → w_L_acts_187 Q r11 r13 r15 r33 r35 r35 1 v34))))) ∧ (r17 = 2 → w_L_owner r11 1 v16 (fun r40 v39 => w_L_leave r5 v39 (fun r42 v41 => ((¬ r9 = 2 → w_L_acts_262 Q r5 r11 r15 r40 r42 r42 1 v41) ∧ (r9 = 2 → w_L_acts_262 Q r5 r11 r15 r40 r42 r42 0 v41))))) ∧ (r17 = 3 → w_L_owner r11 3 v16 (fun r58 v57 => w_L_cancel r5 v57 (fun r60 v59 => ((2 ≤ r9 → w_L_acts_353 Q r5 r9 r11 r13 r15 r58 r60 r60 1 v59) ∧ (¬ 2 ≤ r9 → w_L_acts_353 Q r5 r9 r11 r13 r15 r58 r60 r60 0 v59))))) ∧ (r17 = 4 → w_L_booking r5 9 v16 (fun r80 v79 => w_L_draw 9 v79 (fun r82 v81 => w_L_extend r5 (1 + r82) v81 (fun r84 v83 => ((r9 = 1 → w_L_acts_489 Q r5 r80 (1 + r82) r84 v83) ∧ (¬ r9 = 1 → ((r9 = 2 → w_L_acts_489 Q r5 r80 (1 + r82) r84 v83) ∧ (¬ r9 = 2 → ((¬ r84 = 1 → w_L_acts_488 Q 0 v83) ∧ (r84 = 1 → w_L_acts_488 Q 1 v83)))))))))) ∧ (r17 = 5 → w_L_owner r11 4 v16 (fun r98 v97 => w_L_evict r5 v97 (fun r100 v99 => ((¬ r9 = 1 → w_L_acts_569 Q r11 r98 r100 r100 1 v99) ∧ (r9 = 1 → w_L_acts_569 Q r11 r98 r100 r100 0 v99))))) ∧ (r17 = 6 → w_L_gain r5 r7 v16 (fun r113 v112 => w_L_booking r5 10 v112 (fun r115 v114 => w_L_booking r7 10 v114 (fun r117 v116 => w_L_best 4 v116 (fun r119 v118 => w_L_count 11 v118 (fun r121 v120 => w_L_count 12 v120 (fun r123 v122 => ((¬ r5 = r7 → ((¬ r9 = 0 → w_L_swap r5 r7 v122 (fun r127 v126 => w_L_acts_732 Q r5 r7 r9 r113 r115 r117 r119 (r121 + r123) r127 v126)) ∧ (r9 = 0 → w_L_buy r5 r7 v122 (fun r168 v167 => w_L_acts_732 Q r5 r7 r9 r113 r115 r117 r119 (r121 + r123) r168 v167)))) ∧ (r5 = r7 → ((¬ r113 = 0 → w_L_acts_704 Q v122) ∧ (r113 = 0 → w_L_swap r5 r7 v122 (fun r172 v171 => ((¬ r172 = (-102) → w_L_acts_704 Q v171) ∧ (r172 = (-102) → w_L_acts_705 Q 1 v171)))))))))))))) ∧ (¬ r17 = 0 ∧ ¬ r17 = 1 ∧ ¬ r17 = 2 ∧ ¬ r17 = 3 ∧ ¬ r17 = 4 ∧ ¬ r17 = 5 ∧ ¬ r17 = 6 → w_L_best 0 v16 (fun r175 v174 => w_L_best 1 v174 (fun r177 v176 => w_L_best 2 v176 (fun r179 v178 => w_L_best 3 v178 (fun r181 v180 => ((0 ≤ r175 → w_L_gain r179 r181 v180 (fun r184 v183 => ((¬ r175 = r184 → w_L_acts_1087 Q v183) ∧ (r175 = r184 → w_L_gain r5 r7 v183 (fun r187 v186 => ((r175 < r187 → w_L_acts_1087 Q v186) ∧ (¬ r175 < r187 → w_L_booking r179 7 v186 (fun r190 v189 => ((¬ r190 = (1 - r177) → w_L_acts_1087 Q v189) ∧ (r190 = (1 - r177) → w_L_booking r181 7 v189 (fun r193 v192 => ((r193 = 1 → w_X3_bargain v192 (fun r196 v195 => ((¬ r196 = 0 → w_L_acts_1110 Q v195) ∧ (r196 = 0 → w_L_nobodyCould v195 (fun r200 v199 => ((r200 = 0 → w_L_acts_1110 Q v199) ∧ (¬ r200 = 0 → w_L_acts_1111 Q 1 v199))))))) ∧ (¬ r193 = 1 → w_L_acts_1087 Q v192))))))))))))) ∧ (¬ 0 ≤ r175 → w_X3_bargain v180 (fun r203 v202 => ((¬ r203 = 5 → w_L_acts_1023 Q 0 v202) ∧ (r203 = 5 → w_L_acts_1023 Q 1 v202))))))))))))))))))) ∧ (r2 = 0 → w_L_leave 0 v1 (fun r207 v206 => ((¬ r207 = (-101) → w_L_acts_32 Q 0 v206) ∧ (r207 = (-101) → w_L_acts_32 Q 1 v206))))))
set_option maxRecDepth 100000 in
set_option maxHeartbeats 4000000 in
theorem b_L_acts_226 {p : Program} (l : Launch) {e : Env} {s : State} {m : MethodId} {args : Array Value} {below : List Frame} {meth : Method} {c : Code} {G : zG}   (hst : l.stackTraces = false) (C0 : Cx G RL cL_acts 15 (some .boolean) p s m args meth c) {Q : Int32 → V3 → Prop} : ∀ (s0 : Int32) (v : V3) (H : Heap) (locs : List Loc) (ls : Array Slot), w_L_acts_226 Q s0 v → Zs G s v H locs → lv_has ls 15 [] → W p l e { frames := 9, cells := 3, slots := 18, locals := 183 } s m args below meth c H locs 0 0 (MQ below (QiZ G Q) args s 3 18 (zA G)) (F0 m 226 ls [.int s0]) := by
  have hx := C0.1
  have hb := C0.2.1
  intro s0 v H locs ls hw Z hl
  rw [w_L_acts_226] at hw
  obtain ⟨h26, hw⟩ := hw
  refine z_wide (mc := 3) (ms := 18) (by decide) (by decide) ?_
  exact z_zret C0 Z h26 hw dL_acts_226
set_option maxRecDepth 100000 in
set_option maxHeartbeats 4000000 in
theorem b_L_acts_225 {p : Program} (l : Launch) {e : Env} {s : State} {m : MethodId} {args : Array Value} {below : List Frame} {meth : Method} {c : Code} {G : zG}   (hst : l.stackTraces = false) (C0 : Cx G RL cL_acts 15 (some .boolean) p s m args meth c) {Q : Int32 → V3 → Prop} : ∀ (v : V3) (H : Heap) (locs : List Loc) (ls : Array Slot), w_L_acts_225 Q v → Zs G s v H locs → lv_has ls 15 [] → W p l e { frames := 9, cells := 3, slots := 18, locals := 183 } s m args below meth c H locs 0 0 (MQ below (QiZ G Q) args s 3 18 (zA G)) (F0 m 225 ls []) := by
  have hx := C0.1
  have hb := C0.2.1
  intro v H locs ls hw Z hl
  rw [w_L_acts_225] at hw
  refine lv_iconst (v := 0) hx hb dL_acts_225 (by decide) ?_
  exact b_L_acts_226 l hst C0 _ _ _ _ _ hw Z (lv_sub hl [] rfl)
set_option maxRecDepth 100000 in
set_option maxHeartbeats 4000000 in
theorem b_L_acts_217 {p : Program} (l : Launch) {e : Env} {s : State} {m : MethodId} {args : Array Value} {below : List Frame} {meth : Method} {c : Code} {G : zG}   (hst : l.stackTraces = false) (C0 : Cx G RL cL_acts 15 (some .boolean) p s m args meth c) {Q : Int32 → V3 → Prop} : ∀ (s0 : Int32) (s1 : Int32) (s2 : Int32) (v : V3) (H : Heap) (locs : List Loc) (ls : Array Slot), w_L_acts_217 Q s0 s1 s2 v → Zs G s v H locs → lv_has ls 15 [] → W p l e { frames := 9, cells := 3, slots := 18, locals := 183 } s m args below meth c H locs 0 0 (MQ below (QiZ G Q) args s 3 18 (zA G)) (F0 m 217 ls [.int s2, .int s1, .int s0]) := by
  have hx := C0.1
  have hb := C0.2.1
  intro s0 s1 s2 v H locs ls hw Z hl
  rw [w_L_acts_217] at hw
  refine lv_iadd hx hb dL_acts_217 ?_
  refine lv_icmp_ne (tgt := 225) hx hb dL_acts_218 (by decide) (fun c30 => ?_) (fun c30 => ?_)
  · replace hw := hw.1 c30
    exact b_L_acts_225 l hst C0 _ _ _ _ hw Z (lv_sub hl [] rfl)
  · replace hw := hw.2 c30
    refine lv_iconst (v := 1) hx hb dL_acts_221 (by decide) ?_
    refine lv_goto (tgt := 226) hx hb dL_acts_222 (by decide) ?_
    exact b_L_acts_226 l hst C0 _ _ _ _ _ hw Z (lv_sub hl [] rfl)
set_option maxRecDepth 100000 in
set_option maxHeartbeats 4000000 in
theorem b_L_acts_187 {p : Program} (l : Launch) {e : Env} {s : State} {m : MethodId} {args : Array Value} {below : List Frame} {meth : Method} {c : Code} {G : zG}   (hst : l.stackTraces = false) (C0 : Cx G RL cL_acts 15 (some .boolean) p s m args meth c) {Q : Int32 → V3 → Prop} : ∀ (x5 : Int32) (x6 : Int32) (x7 : Int32) (x8 : Int32) (x9 : Int32) (s0 : Int32) (s1 : Int32) (v : V3) (H : Heap) (locs : List Loc) (ls : Array Slot), w_L_acts_187 Q x5 x6 x7 x8 x9 s0 s1 v → Zs G s v H locs → lv_has ls 15 [(0, .ref (gad G 7)), (5, .int x5), (6, .int x6), (7, .int x7), (8, .int x8), (9, .int x9)] → W p l e { frames := 9, cells := 3, slots := 18, locals := 183 } s m args below meth c H locs 0 0 (MQ below (QiZ G Q) args s 3 18 (zA G)) (F0 m 187 ls [.int s1, .int s0]) := by
  have hx := C0.1
  have hb := C0.2.1
  intro x5 x6 x7 x8 x9 s0 s1 v H locs ls hw Z hl
  rw [w_L_acts_187] at hw
  refine lv_icmp_ne (tgt := 225) hx hb dL_acts_187 (by decide) (fun c25 => ?_) (fun c25 => ?_)
  · replace hw := hw.1 c25
    exact b_L_acts_225 l hst C0 _ _ _ _ hw Z (lv_sub hl [] rfl)
  · replace hw := hw.2 c25
    refine lv_aload_n hx hb dL_acts_190 rfl (lv_at hl 0 rfl) ?_
    refine z_get C0 Z in_L rfl 0 (by decide) rfl tm_1_181 (cx_lt C0 (by decide)) rfl rfl dL_acts_191 ?_
    refine lv_iload hx hb dL_acts_194 (lv_at hl 1 rfl) ?_
    refine lv_bipush (v := 6) hx hb dL_acts_196 (by decide) ?_
    refine z_callH C0 Z hl.1 (As := [.ref (gad G 0), .int x5, .int 6]) (rest := []) (k_L_owner l (cx_g C0) hw) (gv_L_owner tm_2_147) ds_L_owner ⟨Nat.le_of_ble_eq_true rfl, Nat.le_of_ble_eq_true rfl⟩ rfl rfl (Nat.le_of_ble_eq_true rfl) ⟨Nat.le_of_ble_eq_true rfl, Nat.le_of_ble_eq_true rfl⟩ dL_acts_198 (fun r28 v27 H locs hw Z => ?_)
    refine lv_iload hx hb dL_acts_201 (lv_at hl 4 rfl) ?_
    refine lv_iload hx hb dL_acts_203 (lv_at hl 5 rfl) ?_
    refine lv_if_ne (tgt := 216) hx hb dL_acts_205 (by decide) (fun c29 => ?_) (fun c29 => ?_)
    · replace hw := hw.1 c29
      refine lv_iconst (v := 0) hx hb dL_acts_216 (by decide) ?_
      exact b_L_acts_217 l hst C0 _ _ _ _ _ _ _ hw Z (lv_sub hl [] rfl)
    · replace hw := hw.2 c29
      refine lv_iload hx hb dL_acts_208 (lv_at hl 3 rfl) ?_
      refine lv_iload hx hb dL_acts_210 (lv_at hl 2 rfl) ?_
      refine lv_isub hx hb dL_acts_212 ?_
      refine lv_goto (tgt := 217) hx hb dL_acts_213 (by decide) ?_
      exact b_L_acts_217 l hst C0 _ _ _ _ _ _ _ hw Z (lv_sub hl [] rfl)
set_option maxRecDepth 100000 in
set_option maxHeartbeats 4000000 in
theorem b_L_acts_317 {p : Program} (l : Launch) {e : Env} {s : State} {m : MethodId} {args : Array Value} {below : List Frame} {meth : Method} {c : Code} {G : zG}   (hst : l.stackTraces = false) (C0 : Cx G RL cL_acts 15 (some .boolean) p s m args meth c) {Q : Int32 → V3 → Prop} : ∀ (s0 : Int32) (v : V3) (H : Heap) (locs : List Loc) (ls : Array Slot), w_L_acts_317 Q s0 v → Zs G s v H locs → lv_has ls 15 [] → W p l e { frames := 9, cells := 3, slots := 18, locals := 183 } s m args below meth c H locs 1 6 (MQ below (QiZ G Q) args s 3 18 (zA G)) (F0 m 317 ls [.int s0]) := by
  have hx := C0.1
  have hb := C0.2.1
  intro s0 v H locs ls hw Z hl
  rw [w_L_acts_317] at hw
  obtain ⟨h45, hw⟩ := hw
  refine z_wide (mc := 3) (ms := 18) (by decide) (by decide) ?_
  exact z_zret C0 Z h45 hw dL_acts_317
set_option maxRecDepth 100000 in
set_option maxHeartbeats 4000000 in
theorem b_L_acts_316 {p : Program} (l : Launch) {e : Env} {s : State} {m : MethodId} {args : Array Value} {below : List Frame} {meth : Method} {c : Code} {G : zG}   (hst : l.stackTraces = false) (C0 : Cx G RL cL_acts 15 (some .boolean) p s m args meth c) {Q : Int32 → V3 → Prop} : ∀ (v : V3) (H : Heap) (locs : List Loc) (ls : Array Slot), w_L_acts_316 Q v → Zs G s v H locs → lv_has ls 15 [] → W p l e { frames := 9, cells := 3, slots := 18, locals := 183 } s m args below meth c H locs 1 6 (MQ below (QiZ G Q) args s 3 18 (zA G)) (F0 m 316 ls []) := by
  have hx := C0.1
  have hb := C0.2.1
  intro v H locs ls hw Z hl
  rw [w_L_acts_316] at hw
  refine lv_iconst (v := 0) hx hb dL_acts_316 (by decide) ?_
  exact b_L_acts_317 l hst C0 _ _ _ _ _ hw Z (lv_sub hl [] rfl)
set_option maxRecDepth 100000 in
set_option maxHeartbeats 4000000 in
theorem b_L_acts_312 {p : Program} (l : Launch) {e : Env} {s : State} {m : MethodId} {args : Array Value} {below : List Frame} {meth : Method} {c : Code} {G : zG}   (hst : l.stackTraces = false) (C0 : Cx G RL cL_acts 15 (some .boolean) p s m args meth c) {Q : Int32 → V3 → Prop} : ∀ (v : V3) (H : Heap) (locs : List Loc) (ls : Array Slot), w_L_acts_312 Q v → Zs G s v H locs → lv_has ls 15 [] → W p l e { frames := 9, cells := 3, slots := 18, locals := 183 } s m args below meth c H locs 1 6 (MQ below (QiZ G Q) args s 3 18 (zA G)) (F0 m 312 ls []) := by
  have hx := C0.1
  have hb := C0.2.1
  intro v H locs ls hw Z hl
  rw [w_L_acts_312] at hw
  refine lv_iconst (v := 1) hx hb dL_acts_312 (by decide) ?_
  refine lv_goto (tgt := 317) hx hb dL_acts_313 (by decide) ?_
  exact b_L_acts_317 l hst C0 _ _ _ _ _ hw Z (lv_sub hl [] rfl)
set_option maxRecDepth 100000 in
set_option maxHeartbeats 4000000 in
theorem b_L_acts_262 {p : Program} (l : Launch) {e : Env} {s : State} {m : MethodId} {args : Array Value} {below : List Frame} {meth : Method} {c : Code} {G : zG}   (hst : l.stackTraces = false) (C0 : Cx G RL cL_acts 15 (some .boolean) p s m args meth c) {Q : Int32 → V3 → Prop} : ∀ (x2 : Int32) (x5 : Int32) (x7 : Int32) (x8 : Int32) (x9 : Int32) (s0 : Int32) (s1 : Int32) (v : V3) (H : Heap) (locs : List Loc) (ls : Array Slot), w_L_acts_262 Q x2 x5 x7 x8 x9 s0 s1 v → Zs G s v H locs → lv_has ls 15 [(0, .ref (gad G 7)), (2, .int x2), (5, .int x5), (7, .int x7), (8, .int x8), (9, .int x9)] → W p l e { frames := 9, cells := 3, slots := 18, locals := 183 } s m args below meth c H locs 1 6 (MQ below (QiZ G Q) args s 3 18 (zA G)) (F0 m 262 ls [.int s1, .int s0]) := by
  have hx := C0.1
  have hb := C0.2.1
  intro x2 x5 x7 x8 x9 s0 s1 v H locs ls hw Z hl
  rw [w_L_acts_262] at hw
  refine lv_icmp_ne (tgt := 316) hx hb dL_acts_262 (by decide) (fun c44 => ?_) (fun c44 => ?_)
  · replace hw := hw.1 c44
    exact b_L_acts_316 l hst C0 _ _ _ _ hw Z (lv_sub hl [] rfl)
  · replace hw := hw.2 c44
    refine lv_aload_n hx hb dL_acts_265 rfl (lv_at hl 0 rfl) ?_
    refine z_get C0 Z in_L rfl 0 (by decide) rfl tm_1_181 (cx_lt C0 (by decide)) rfl rfl dL_acts_266 ?_
    refine lv_iload hx hb dL_acts_269 (lv_at hl 2 rfl) ?_
    refine lv_iconst (v := 1) hx hb dL_acts_271 (by decide) ?_
    refine z_callH C0 Z hl.1 (As := [.ref (gad G 0), .int x5, .int 1]) (rest := []) (k_L_owner l (cx_g C0) hw) (gv_L_owner tm_2_147) ds_L_owner ⟨Nat.le_of_ble_eq_true rfl, Nat.le_of_ble_eq_true rfl⟩ rfl rfl (Nat.le_of_ble_eq_true rfl) ⟨Nat.le_of_ble_eq_true rfl, Nat.le_of_ble_eq_true rfl⟩ dL_acts_272 (fun r47 v46 H locs hw Z => ?_)
    refine lv_iload hx hb dL_acts_275 (lv_at hl 4 rfl) ?_
    refine lv_iconst (v := 1) hx hb dL_acts_277 (by decide) ?_
    refine lv_iadd hx hb dL_acts_278 ?_
    refine lv_iload hx hb dL_acts_279 (lv_at hl 5 rfl) ?_
    refine lv_isub hx hb dL_acts_281 ?_
    refine lv_icmp_ne (tgt := 316) hx hb dL_acts_282 (by decide) (fun c48 => ?_) (fun c48 => ?_)
    · replace hw := hw.1 c48
      exact b_L_acts_316 l hst C0 _ _ _ _ hw Z (lv_sub hl [] rfl)
    · replace hw := hw.2 c48
      refine lv_iload hx hb dL_acts_285 (lv_at hl 5 rfl) ?_
      refine lv_if_ne (tgt := 312) hx hb dL_acts_287 (by decide) (fun c49 => ?_) (fun c49 => ?_)
      · replace hw := hw.1 c49
        exact b_L_acts_312 l hst C0 _ _ _ _ hw Z (lv_sub hl [] rfl)
      · replace hw := hw.2 c49
        refine lv_aload_n hx hb dL_acts_290 rfl (lv_at hl 0 rfl) ?_
        refine z_get C0 Z in_L rfl 0 (by decide) rfl tm_1_181 (cx_lt C0 (by decide)) rfl rfl dL_acts_291 ?_
        refine lv_iload_n hx hb dL_acts_294 rfl (lv_at hl 1 rfl) ?_
        refine lv_bipush (v := 9) hx hb dL_acts_295 (by decide) ?_
        refine z_callH C0 Z hl.1 (As := [.ref (gad G 0), .int x2, .int 9]) (rest := []) (k_L_booking l (cx_g C0) hw) (gv_L_booking tm_2_238) ds_L_booking ⟨Nat.le_of_ble_eq_true rfl, Nat.le_of_ble_eq_true rfl⟩ rfl rfl (Nat.le_of_ble_eq_true rfl) ⟨Nat.le_of_ble_eq_true rfl, Nat.le_of_ble_eq_true rfl⟩ dL_acts_297 (fun r51 v50 H locs hw Z => ?_)
        refine lv_iload hx hb dL_acts_300 (lv_at hl 3 rfl) ?_
        refine lv_icmp_ne (tgt := 316) hx hb dL_acts_302 (by decide) (fun c52 => ?_) (fun c52 => ?_)
        · replace hw := hw.1 c52
          exact b_L_acts_316 l hst C0 _ _ _ _ hw Z (lv_sub hl [] rfl)
        · replace hw := hw.2 c52
          refine lv_aload_n hx hb dL_acts_305 rfl (lv_at hl 0 rfl) ?_
          refine z_callVi C0 Z hl.1 (As := []) (rest := []) (k_L_nobodyCould l (cx_g C0) hw) (gv_L_nobodyCould tm_3_43) rfl ds_L_nobodyCould ⟨Nat.le_of_ble_eq_true rfl, Nat.le_of_ble_eq_true rfl⟩ (ci := 4) rfl (cx_lt C0 (by decide)) rfl rfl rfl (Nat.le_of_ble_eq_true rfl) ⟨Nat.le_of_ble_eq_true rfl, Nat.le_of_ble_eq_true rfl⟩ dL_acts_306 (fun r54 v53 H locs hw Z => ?_)
          refine lv_if_eq (tgt := 316) hx hb dL_acts_309 (by decide) (fun c55 => ?_) (fun c55 => ?_)
          · replace hw := hw.1 c55
            exact b_L_acts_316 l hst C0 _ _ _ _ hw Z (lv_sub hl [] rfl)
          · replace hw := hw.2 c55
            exact b_L_acts_312 l hst C0 _ _ _ _ hw Z (lv_sub hl [] rfl)
set_option maxRecDepth 100000 in
set_option maxHeartbeats 4000000 in
theorem b_L_acts_430 {p : Program} (l : Launch) {e : Env} {s : State} {m : MethodId} {args : Array Value} {below : List Frame} {meth : Method} {c : Code} {G : zG}   (hst : l.stackTraces = false) (C0 : Cx G RL cL_acts 15 (some .boolean) p s m args meth c) {Q : Int32 → V3 → Prop} : ∀ (s0 : Int32) (v : V3) (H : Heap) (locs : List Loc) (ls : Array Slot), w_L_acts_430 Q s0 v → Zs G s v H locs → lv_has ls 15 [] → W p l e { frames := 9, cells := 3, slots := 18, locals := 183 } s m args below meth c H locs 0 0 (MQ below (QiZ G Q) args s 3 18 (zA G)) (F0 m 430 ls [.int s0]) := by
  have hx := C0.1
  have hb := C0.2.1
  intro s0 v H locs ls hw Z hl
  rw [w_L_acts_430] at hw
  obtain ⟨h63, hw⟩ := hw
  refine z_wide (mc := 3) (ms := 18) (by decide) (by decide) ?_
  exact z_zret C0 Z h63 hw dL_acts_430
set_option maxRecDepth 100000 in
set_option maxHeartbeats 4000000 in
theorem b_L_acts_429 {p : Program} (l : Launch) {e : Env} {s : State} {m : MethodId} {args : Array Value} {below : List Frame} {meth : Method} {c : Code} {G : zG}   (hst : l.stackTraces = false) (C0 : Cx G RL cL_acts 15 (some .boolean) p s m args meth c) {Q : Int32 → V3 → Prop} : ∀ (v : V3) (H : Heap) (locs : List Loc) (ls : Array Slot), w_L_acts_429 Q v → Zs G s v H locs → lv_has ls 15 [] → W p l e { frames := 9, cells := 3, slots := 18, locals := 183 } s m args below meth c H locs 0 0 (MQ below (QiZ G Q) args s 3 18 (zA G)) (F0 m 429 ls []) := by
  have hx := C0.1
  have hb := C0.2.1
  intro v H locs ls hw Z hl
  rw [w_L_acts_429] at hw
  refine lv_iconst (v := 0) hx hb dL_acts_429 (by decide) ?_
  exact b_L_acts_430 l hst C0 _ _ _ _ _ hw Z (lv_sub hl [] rfl)
set_option maxRecDepth 100000 in
set_option maxHeartbeats 4000000 in
theorem b_L_acts_425 {p : Program} (l : Launch) {e : Env} {s : State} {m : MethodId} {args : Array Value} {below : List Frame} {meth : Method} {c : Code} {G : zG}   (hst : l.stackTraces = false) (C0 : Cx G RL cL_acts 15 (some .boolean) p s m args meth c) {Q : Int32 → V3 → Prop} : ∀ (v : V3) (H : Heap) (locs : List Loc) (ls : Array Slot), w_L_acts_425 Q v → Zs G s v H locs → lv_has ls 15 [] → W p l e { frames := 9, cells := 3, slots := 18, locals := 183 } s m args below meth c H locs 0 0 (MQ below (QiZ G Q) args s 3 18 (zA G)) (F0 m 425 ls []) := by
  have hx := C0.1
  have hb := C0.2.1
  intro v H locs ls hw Z hl
  rw [w_L_acts_425] at hw
  refine lv_iconst (v := 1) hx hb dL_acts_425 (by decide) ?_
  refine lv_goto (tgt := 430) hx hb dL_acts_426 (by decide) ?_
  exact b_L_acts_430 l hst C0 _ _ _ _ _ hw Z (lv_sub hl [] rfl)
set_option maxRecDepth 100000 in
set_option maxHeartbeats 4000000 in
theorem b_L_acts_395 {p : Program} (l : Launch) {e : Env} {s : State} {m : MethodId} {args : Array Value} {below : List Frame} {meth : Method} {c : Code} {G : zG}   (hst : l.stackTraces = false) (C0 : Cx G RL cL_acts 15 (some .boolean) p s m args meth c) {Q : Int32 → V3 → Prop} : ∀ (x2 : Int32) (x9 : Int32) (s0 : Int32) (s1 : Int32) (s2 : Int32) (v : V3) (H : Heap) (locs : List Loc) (ls : Array Slot), w_L_acts_395 Q x2 x9 s0 s1 s2 v → Zs G s v H locs → lv_has ls 15 [(0, .ref (gad G 7)), (2, .int x2), (9, .int x9)] → W p l e { frames := 9, cells := 3, slots := 18, locals := 183 } s m args below meth c H locs 0 0 (MQ below (QiZ G Q) args s 3 18 (zA G)) (F0 m 395 ls [.int s2, .int s1, .int s0]) := by
  have hx := C0.1
  have hb := C0.2.1
  intro x2 x9 s0 s1 s2 v H locs ls hw Z hl
  rw [w_L_acts_395] at hw
  refine lv_iadd hx hb dL_acts_395 ?_
  refine lv_icmp_ne (tgt := 429) hx hb dL_acts_396 (by decide) (fun c67 => ?_) (fun c67 => ?_)
  · replace hw := hw.1 c67
    exact b_L_acts_429 l hst C0 _ _ _ _ hw Z (lv_sub hl [] rfl)
  · replace hw := hw.2 c67
    refine lv_iload hx hb dL_acts_399 (lv_at hl 2 rfl) ?_
    refine lv_if_ne (tgt := 425) hx hb dL_acts_401 (by decide) (fun c68 => ?_) (fun c68 => ?_)
    · replace hw := hw.1 c68
      exact b_L_acts_425 l hst C0 _ _ _ _ hw Z (lv_sub hl [] rfl)
    · replace hw := hw.2 c68
      refine lv_aload_n hx hb dL_acts_404 rfl (lv_at hl 0 rfl) ?_
      refine z_get C0 Z in_L rfl 0 (by decide) rfl tm_1_181 (cx_lt C0 (by decide)) rfl rfl dL_acts_405 ?_
      refine lv_iload_n hx hb dL_acts_408 rfl (lv_at hl 1 rfl) ?_
      refine lv_bipush (v := 7) hx hb dL_acts_409 (by decide) ?_
      refine z_callH C0 Z hl.1 (As := [.ref (gad G 0), .int x2, .int 7]) (rest := []) (k_L_booking l (cx_g C0) hw) (gv_L_booking tm_2_238) ds_L_booking ⟨Nat.le_of_ble_eq_true rfl, Nat.le_of_ble_eq_true rfl⟩ rfl rfl (Nat.le_of_ble_eq_true rfl) ⟨Nat.le_of_ble_eq_true rfl, Nat.le_of_ble_eq_true rfl⟩ dL_acts_411 (fun r70 v69 H locs hw Z => ?_)
      refine lv_iconst (v := 4) hx hb dL_acts_414 (by decide) ?_
      refine lv_icmp_ne (tgt := 429) hx hb dL_acts_415 (by decide) (fun c71 => ?_) (fun c71 => ?_)
      · replace hw := hw.1 c71
        exact b_L_acts_429 l hst C0 _ _ _ _ hw Z (lv_sub hl [] rfl)
      · replace hw := hw.2 c71
        refine lv_aload_n hx hb dL_acts_418 rfl (lv_at hl 0 rfl) ?_
        refine z_callVi C0 Z hl.1 (As := []) (rest := []) (k_L_nobodyCould l (cx_g C0) hw) (gv_L_nobodyCould tm_3_43) rfl ds_L_nobodyCould ⟨Nat.le_of_ble_eq_true rfl, Nat.le_of_ble_eq_true rfl⟩ (ci := 4) rfl (cx_lt C0 (by decide)) rfl rfl rfl (Nat.le_of_ble_eq_true rfl) ⟨Nat.le_of_ble_eq_true rfl, Nat.le_of_ble_eq_true rfl⟩ dL_acts_419 (fun r73 v72 H locs hw Z => ?_)
        refine lv_if_eq (tgt := 429) hx hb dL_acts_422 (by decide) (fun c74 => ?_) (fun c74 => ?_)
        · replace hw := hw.1 c74
          exact b_L_acts_429 l hst C0 _ _ _ _ hw Z (lv_sub hl [] rfl)
        · replace hw := hw.2 c74
          exact b_L_acts_425 l hst C0 _ _ _ _ hw Z (lv_sub hl [] rfl)
set_option maxRecDepth 100000 in
set_option maxHeartbeats 4000000 in
theorem b_L_acts_394 {p : Program} (l : Launch) {e : Env} {s : State} {m : MethodId} {args : Array Value} {below : List Frame} {meth : Method} {c : Code} {G : zG}   (hst : l.stackTraces = false) (C0 : Cx G RL cL_acts 15 (some .boolean) p s m args meth c) {Q : Int32 → V3 → Prop} : ∀ (x2 : Int32) (x9 : Int32) (s0 : Int32) (s1 : Int32) (v : V3) (H : Heap) (locs : List Loc) (ls : Array Slot), w_L_acts_394 Q x2 x9 s0 s1 v → Zs G s v H locs → lv_has ls 15 [(0, .ref (gad G 7)), (2, .int x2), (9, .int x9)] → W p l e { frames := 9, cells := 3, slots := 18, locals := 183 } s m args below meth c H locs 0 0 (MQ below (QiZ G Q) args s 3 18 (zA G)) (F0 m 394 ls [.int s1, .int s0]) := by
  have hx := C0.1
  have hb := C0.2.1
  intro x2 x9 s0 s1 v H locs ls hw Z hl
  rw [w_L_acts_394] at hw
  refine lv_iconst (v := 0) hx hb dL_acts_394 (by decide) ?_
  exact b_L_acts_395 l hst C0 _ _ _ _ _ _ _ _ _ hw Z (lv_sub hl [0, 1, 2] rfl)
set_option maxRecDepth 100000 in
set_option maxHeartbeats 4000000 in
theorem b_L_acts_353 {p : Program} (l : Launch) {e : Env} {s : State} {m : MethodId} {args : Array Value} {below : List Frame} {meth : Method} {c : Code} {G : zG}   (hst : l.stackTraces = false) (C0 : Cx G RL cL_acts 15 (some .boolean) p s m args meth c) {Q : Int32 → V3 → Prop} : ∀ (x2 : Int32) (x4 : Int32) (x5 : Int32) (x6 : Int32) (x7 : Int32) (x8 : Int32) (x9 : Int32) (s0 : Int32) (s1 : Int32) (v : V3) (H : Heap) (locs : List Loc) (ls : Array Slot), w_L_acts_353 Q x2 x4 x5 x6 x7 x8 x9 s0 s1 v → Zs G s v H locs → lv_has ls 15 [(0, .ref (gad G 7)), (2, .int x2), (4, .int x4), (5, .int x5), (6, .int x6), (7, .int x7), (8, .int x8), (9, .int x9)] → W p l e { frames := 9, cells := 3, slots := 18, locals := 183 } s m args below meth c H locs 0 0 (MQ below (QiZ G Q) args s 3 18 (zA G)) (F0 m 353 ls [.int s1, .int s0]) := by
  have hx := C0.1
  have hb := C0.2.1
  intro x2 x4 x5 x6 x7 x8 x9 s0 s1 v H locs ls hw Z hl
  rw [w_L_acts_353] at hw
  refine lv_icmp_ne (tgt := 429) hx hb dL_acts_353 (by decide) (fun c62 => ?_) (fun c62 => ?_)
  · replace hw := hw.1 c62
    exact b_L_acts_429 l hst C0 _ _ _ _ hw Z (lv_sub hl [] rfl)
  · replace hw := hw.2 c62
    refine lv_aload_n hx hb dL_acts_356 rfl (lv_at hl 0 rfl) ?_
    refine z_get C0 Z in_L rfl 0 (by decide) rfl tm_1_181 (cx_lt C0 (by decide)) rfl rfl dL_acts_357 ?_
    refine lv_iload hx hb dL_acts_360 (lv_at hl 3 rfl) ?_
    refine lv_iconst (v := 3) hx hb dL_acts_362 (by decide) ?_
    refine z_callH C0 Z hl.1 (As := [.ref (gad G 0), .int x5, .int 3]) (rest := []) (k_L_owner l (cx_g C0) hw) (gv_L_owner tm_2_147) ds_L_owner ⟨Nat.le_of_ble_eq_true rfl, Nat.le_of_ble_eq_true rfl⟩ rfl rfl (Nat.le_of_ble_eq_true rfl) ⟨Nat.le_of_ble_eq_true rfl, Nat.le_of_ble_eq_true rfl⟩ dL_acts_363 (fun r65 v64 H locs hw Z => ?_)
    refine lv_iload hx hb dL_acts_366 (lv_at hl 6 rfl) ?_
    refine lv_iload hx hb dL_acts_368 (lv_at hl 2 rfl) ?_
    refine lv_iconst (v := 1) hx hb dL_acts_370 (by decide) ?_
    refine lv_icmp_ne (tgt := 394) hx hb dL_acts_371 (by decide) (fun c66 => ?_) (fun c66 => ?_)
    · replace hw := hw.1 c66
      exact b_L_acts_394 l hst C0 _ _ _ _ _ _ _ _ hw Z (lv_sub hl [0, 1, 7] rfl)
    · replace hw := hw.2 c66
      refine lv_iload hx hb dL_acts_374 (lv_at hl 4 rfl) ?_
      refine lv_iload hx hb dL_acts_376 (lv_at hl 5 rfl) ?_
      refine lv_aload_n hx hb dL_acts_378 rfl (lv_at hl 0 rfl) ?_
      refine z_get C0 Z in_L rfl 0 (by decide) rfl tm_1_181 (cx_lt C0 (by decide)) rfl rfl dL_acts_379 ?_
      refine lv_iconst (v := 1) hx hb dL_acts_382 (by decide) ?_
      refine z_callH C0 Z hl.1 (As := [.ref (gad G 0), .int 1]) (rest := [.int x7, .int x6, .int x8, .int r65]) (k_L_count l (cx_g C0) hw) (gv_L_count tm_2_93) ds_L_count ⟨Nat.le_of_ble_eq_true rfl, Nat.le_of_ble_eq_true rfl⟩ rfl rfl (Nat.le_of_ble_eq_true rfl) ⟨Nat.le_of_ble_eq_true rfl, Nat.le_of_ble_eq_true rfl⟩ dL_acts_383 (fun r76 v75 H locs hw Z => ?_)
      refine lv_iadd hx hb dL_acts_386 ?_
      refine lv_icmp_ge (tgt := 394) hx hb dL_acts_387 (by decide) (fun c77 => ?_) (fun c77 => ?_)
      · replace hw := hw.1 c77
        exact b_L_acts_394 l hst C0 _ _ _ _ _ _ _ _ hw Z (lv_sub hl [0, 1, 7] rfl)
      · replace hw := hw.2 c77
        refine lv_iconst (v := 1) hx hb dL_acts_390 (by decide) ?_
        refine lv_goto (tgt := 395) hx hb dL_acts_391 (by decide) ?_
        exact b_L_acts_395 l hst C0 _ _ _ _ _ _ _ _ _ hw Z (lv_sub hl [0, 1, 7] rfl)
set_option maxRecDepth 100000 in
set_option maxHeartbeats 4000000 in
theorem b_L_acts_533 {p : Program} (l : Launch) {e : Env} {s : State} {m : MethodId} {args : Array Value} {below : List Frame} {meth : Method} {c : Code} {G : zG}   (hst : l.stackTraces = false) (C0 : Cx G RL cL_acts 15 (some .boolean) p s m args meth c) {Q : Int32 → V3 → Prop} : ∀ (s0 : Int32) (v : V3) (H : Heap) (locs : List Loc) (ls : Array Slot), w_L_acts_533 Q s0 v → Zs G s v H locs → lv_has ls 15 [] → W p l e { frames := 9, cells := 3, slots := 18, locals := 183 } s m args below meth c H locs 0 0 (MQ below (QiZ G Q) args s 3 18 (zA G)) (F0 m 533 ls [.int s0]) := by
  have hx := C0.1
  have hb := C0.2.1
  intro s0 v H locs ls hw Z hl
  rw [w_L_acts_533] at hw
  obtain ⟨h91, hw⟩ := hw
  refine z_wide (mc := 3) (ms := 18) (by decide) (by decide) ?_
  exact z_zret C0 Z h91 hw dL_acts_533
set_option maxRecDepth 100000 in
set_option maxHeartbeats 4000000 in
theorem b_L_acts_532 {p : Program} (l : Launch) {e : Env} {s : State} {m : MethodId} {args : Array Value} {below : List Frame} {meth : Method} {c : Code} {G : zG}   (hst : l.stackTraces = false) (C0 : Cx G RL cL_acts 15 (some .boolean) p s m args meth c) {Q : Int32 → V3 → Prop} : ∀ (v : V3) (H : Heap) (locs : List Loc) (ls : Array Slot), w_L_acts_532 Q v → Zs G s v H locs → lv_has ls 15 [] → W p l e { frames := 9, cells := 3, slots := 18, locals := 183 } s m args below meth c H locs 0 0 (MQ below (QiZ G Q) args s 3 18 (zA G)) (F0 m 532 ls []) := by
  have hx := C0.1
  have hb := C0.2.1
  intro v H locs ls hw Z hl
  rw [w_L_acts_532] at hw
  refine lv_iconst (v := 0) hx hb dL_acts_532 (by decide) ?_
  exact b_L_acts_533 l hst C0 _ _ _ _ _ hw Z (lv_sub hl [] rfl)
set_option maxRecDepth 100000 in
set_option maxHeartbeats 4000000 in
theorem b_L_acts_525 {p : Program} (l : Launch) {e : Env} {s : State} {m : MethodId} {args : Array Value} {below : List Frame} {meth : Method} {c : Code} {G : zG}   (hst : l.stackTraces = false) (C0 : Cx G RL cL_acts 15 (some .boolean) p s m args meth c) {Q : Int32 → V3 → Prop} : ∀ (s0 : Int32) (s1 : Int32) (v : V3) (H : Heap) (locs : List Loc) (ls : Array Slot), w_L_acts_525 Q s0 s1 v → Zs G s v H locs → lv_has ls 15 [] → W p l e { frames := 9, cells := 3, slots := 18, locals := 183 } s m args below meth c H locs 0 0 (MQ below (QiZ G Q) args s 3 18 (zA G)) (F0 m 525 ls [.int s1, .int s0]) := by
  have hx := C0.1
  have hb := C0.2.1
  intro s0 s1 v H locs ls hw Z hl
  rw [w_L_acts_525] at hw
  refine lv_icmp_ne (tgt := 532) hx hb dL_acts_525 (by decide) (fun c90 => ?_) (fun c90 => ?_)
  · replace hw := hw.1 c90
    exact b_L_acts_532 l hst C0 _ _ _ _ hw Z (lv_sub hl [] rfl)
  · replace hw := hw.2 c90
    refine lv_iconst (v := 1) hx hb dL_acts_528 (by decide) ?_
    refine lv_goto (tgt := 533) hx hb dL_acts_529 (by decide) ?_
    exact b_L_acts_533 l hst C0 _ _ _ _ _ hw Z (lv_sub hl [] rfl)
set_option maxRecDepth 100000 in
set_option maxHeartbeats 4000000 in
theorem b_L_acts_500 {p : Program} (l : Launch) {e : Env} {s : State} {m : MethodId} {args : Array Value} {below : List Frame} {meth : Method} {c : Code} {G : zG}   (hst : l.stackTraces = false) (C0 : Cx G RL cL_acts 15 (some .boolean) p s m args meth c) {Q : Int32 → V3 → Prop} : ∀ (x2 : Int32) (x8 : Int32) (x9 : Int32) (x10 : Int32) (v : V3) (H : Heap) (locs : List Loc) (ls : Array Slot), w_L_acts_500 Q x2 x8 x9 x10 v → Zs G s v H locs → lv_has ls 15 [(0, .ref (gad G 7)), (2, .int x2), (8, .int x8), (9, .int x9), (10, .int x10)] → W p l e { frames := 9, cells := 3, slots := 18, locals := 183 } s m args below meth c H locs 0 0 (MQ below (QiZ G Q) args s 3 18 (zA G)) (F0 m 500 ls []) := by
  have hx := C0.1
  have hb := C0.2.1
  intro x2 x8 x9 x10 v H locs ls hw Z hl
  rw [w_L_acts_500] at hw
  refine lv_aload_n hx hb dL_acts_500 rfl (lv_at hl 0 rfl) ?_
  refine z_get C0 Z in_L rfl 0 (by decide) rfl tm_1_181 (cx_lt C0 (by decide)) rfl rfl dL_acts_501 ?_
  refine lv_iload_n hx hb dL_acts_504 rfl (lv_at hl 1 rfl) ?_
  refine lv_bipush (v := 9) hx hb dL_acts_505 (by decide) ?_
  refine z_callH C0 Z hl.1 (As := [.ref (gad G 0), .int x2, .int 9]) (rest := []) (k_L_booking l (cx_g C0) hw) (gv_L_booking tm_2_238) ds_L_booking ⟨Nat.le_of_ble_eq_true rfl, Nat.le_of_ble_eq_true rfl⟩ rfl rfl (Nat.le_of_ble_eq_true rfl) ⟨Nat.le_of_ble_eq_true rfl, Nat.le_of_ble_eq_true rfl⟩ dL_acts_507 (fun r88 v87 H locs hw Z => ?_)
  refine lv_iload hx hb dL_acts_510 (lv_at hl 4 rfl) ?_
  refine lv_if_ne (tgt := 523) hx hb dL_acts_512 (by decide) (fun c89 => ?_) (fun c89 => ?_)
  · replace hw := hw.1 c89
    refine lv_iload hx hb dL_acts_523 (lv_at hl 2 rfl) ?_
    exact b_L_acts_525 l hst C0 _ _ _ _ _ _ hw Z (lv_sub hl [] rfl)
  · replace hw := hw.2 c89
    refine lv_iload hx hb dL_acts_515 (lv_at hl 2 rfl) ?_
    refine lv_iload hx hb dL_acts_517 (lv_at hl 3 rfl) ?_
    refine lv_iadd hx hb dL_acts_519 ?_
    refine lv_goto (tgt := 525) hx hb dL_acts_520 (by decide) ?_
    exact b_L_acts_525 l hst C0 _ _ _ _ _ _ hw Z (lv_sub hl [] rfl)
set_option maxRecDepth 100000 in
set_option maxHeartbeats 4000000 in
theorem b_L_acts_489 {p : Program} (l : Launch) {e : Env} {s : State} {m : MethodId} {args : Array Value} {below : List Frame} {meth : Method} {c : Code} {G : zG}   (hst : l.stackTraces = false) (C0 : Cx G RL cL_acts 15 (some .boolean) p s m args meth c) {Q : Int32 → V3 → Prop} : ∀ (x2 : Int32) (x8 : Int32) (x9 : Int32) (x10 : Int32) (v : V3) (H : Heap) (locs : List Loc) (ls : Array Slot), w_L_acts_489 Q x2 x8 x9 x10 v → Zs G s v H locs → lv_has ls 15 [(0, .ref (gad G 7)), (2, .int x2), (8, .int x8), (9, .int x9), (10, .int x10)] → W p l e { frames := 9, cells := 3, slots := 18, locals := 183 } s m args below meth c H locs 0 0 (MQ below (QiZ G Q) args s 3 18 (zA G)) (F0 m 489 ls []) := by
  have hx := C0.1
  have hb := C0.2.1
  intro x2 x8 x9 x10 v H locs ls hw Z hl
  rw [w_L_acts_489] at hw
  refine lv_iload hx hb dL_acts_489 (lv_at hl 4 rfl) ?_
  refine lv_if_eq (tgt := 500) hx hb dL_acts_491 (by decide) (fun c86 => ?_) (fun c86 => ?_)
  · replace hw := hw.1 c86
    exact b_L_acts_500 l hst C0 _ _ _ _ _ _ _ _ hw Z (lv_sub hl [0, 1, 2, 3, 4] rfl)
  · replace hw := hw.2 c86
    refine lv_iload hx hb dL_acts_494 (lv_at hl 4 rfl) ?_
    refine lv_iconst (v := 3) hx hb dL_acts_496 (by decide) ?_
    refine lv_icmp_ne (tgt := 532) hx hb dL_acts_497 (by decide) (fun c92 => ?_) (fun c92 => ?_)
    · replace hw := hw.1 c92
      exact b_L_acts_532 l hst C0 _ _ _ _ hw Z (lv_sub hl [] rfl)
    · replace hw := hw.2 c92
      exact b_L_acts_500 l hst C0 _ _ _ _ _ _ _ _ hw Z (lv_sub hl [0, 1, 2, 3, 4] rfl)
set_option maxRecDepth 100000 in
set_option maxHeartbeats 4000000 in
theorem b_L_acts_488 {p : Program} (l : Launch) {e : Env} {s : State} {m : MethodId} {args : Array Value} {below : List Frame} {meth : Method} {c : Code} {G : zG}   (hst : l.stackTraces = false) (C0 : Cx G RL cL_acts 15 (some .boolean) p s m args meth c) {Q : Int32 → V3 → Prop} : ∀ (s0 : Int32) (v : V3) (H : Heap) (locs : List Loc) (ls : Array Slot), w_L_acts_488 Q s0 v → Zs G s v H locs → lv_has ls 15 [] → W p l e { frames := 9, cells := 3, slots := 18, locals := 183 } s m args below meth c H locs 0 0 (MQ below (QiZ G Q) args s 3 18 (zA G)) (F0 m 488 ls [.int s0]) := by
  have hx := C0.1
  have hb := C0.2.1
  intro s0 v H locs ls hw Z hl
  rw [w_L_acts_488] at hw
  obtain ⟨h95, hw⟩ := hw
  refine z_wide (mc := 3) (ms := 18) (by decide) (by decide) ?_
  exact z_zret C0 Z h95 hw dL_acts_488
set_option maxRecDepth 100000 in
set_option maxHeartbeats 4000000 in
theorem b_L_acts_609 {p : Program} (l : Launch) {e : Env} {s : State} {m : MethodId} {args : Array Value} {below : List Frame} {meth : Method} {c : Code} {G : zG}   (hst : l.stackTraces = false) (C0 : Cx G RL cL_acts 15 (some .boolean) p s m args meth c) {Q : Int32 → V3 → Prop} : ∀ (s0 : Int32) (v : V3) (H : Heap) (locs : List Loc) (ls : Array Slot), w_L_acts_609 Q s0 v → Zs G s v H locs → lv_has ls 15 [] → W p l e { frames := 9, cells := 3, slots := 18, locals := 183 } s m args below meth c H locs 0 0 (MQ below (QiZ G Q) args s 3 18 (zA G)) (F0 m 609 ls [.int s0]) := by
  have hx := C0.1
  have hb := C0.2.1
  intro s0 v H locs ls hw Z hl
  rw [w_L_acts_609] at hw
  obtain ⟨h103, hw⟩ := hw
  refine z_wide (mc := 3) (ms := 18) (by decide) (by decide) ?_
  exact z_zret C0 Z h103 hw dL_acts_609
set_option maxRecDepth 100000 in
set_option maxHeartbeats 4000000 in
theorem b_L_acts_608 {p : Program} (l : Launch) {e : Env} {s : State} {m : MethodId} {args : Array Value} {below : List Frame} {meth : Method} {c : Code} {G : zG}   (hst : l.stackTraces = false) (C0 : Cx G RL cL_acts 15 (some .boolean) p s m args meth c) {Q : Int32 → V3 → Prop} : ∀ (v : V3) (H : Heap) (locs : List Loc) (ls : Array Slot), w_L_acts_608 Q v → Zs G s v H locs → lv_has ls 15 [] → W p l e { frames := 9, cells := 3, slots := 18, locals := 183 } s m args below meth c H locs 0 0 (MQ below (QiZ G Q) args s 3 18 (zA G)) (F0 m 608 ls []) := by
  have hx := C0.1
  have hb := C0.2.1
  intro v H locs ls hw Z hl
  rw [w_L_acts_608] at hw
  refine lv_iconst (v := 0) hx hb dL_acts_608 (by decide) ?_
  exact b_L_acts_609 l hst C0 _ _ _ _ _ hw Z (lv_sub hl [] rfl)
set_option maxRecDepth 100000 in
set_option maxHeartbeats 4000000 in
theorem b_L_acts_604 {p : Program} (l : Launch) {e : Env} {s : State} {m : MethodId} {args : Array Value} {below : List Frame} {meth : Method} {c : Code} {G : zG}   (hst : l.stackTraces = false) (C0 : Cx G RL cL_acts 15 (some .boolean) p s m args meth c) {Q : Int32 → V3 → Prop} : ∀ (v : V3) (H : Heap) (locs : List Loc) (ls : Array Slot), w_L_acts_604 Q v → Zs G s v H locs → lv_has ls 15 [] → W p l e { frames := 9, cells := 3, slots := 18, locals := 183 } s m args below meth c H locs 0 0 (MQ below (QiZ G Q) args s 3 18 (zA G)) (F0 m 604 ls []) := by
  have hx := C0.1
  have hb := C0.2.1
  intro v H locs ls hw Z hl
  rw [w_L_acts_604] at hw
  refine lv_iconst (v := 1) hx hb dL_acts_604 (by decide) ?_
  refine lv_goto (tgt := 609) hx hb dL_acts_605 (by decide) ?_
  exact b_L_acts_609 l hst C0 _ _ _ _ _ hw Z (lv_sub hl [] rfl)
set_option maxRecDepth 100000 in
set_option maxHeartbeats 4000000 in
theorem b_L_acts_569 {p : Program} (l : Launch) {e : Env} {s : State} {m : MethodId} {args : Array Value} {below : List Frame} {meth : Method} {c : Code} {G : zG}   (hst : l.stackTraces = false) (C0 : Cx G RL cL_acts 15 (some .boolean) p s m args meth c) {Q : Int32 → V3 → Prop} : ∀ (x5 : Int32) (x8 : Int32) (x9 : Int32) (s0 : Int32) (s1 : Int32) (v : V3) (H : Heap) (locs : List Loc) (ls : Array Slot), w_L_acts_569 Q x5 x8 x9 s0 s1 v → Zs G s v H locs → lv_has ls 15 [(0, .ref (gad G 7)), (5, .int x5), (8, .int x8), (9, .int x9)] → W p l e { frames := 9, cells := 3, slots := 18, locals := 183 } s m args below meth c H locs 0 0 (MQ below (QiZ G Q) args s 3 18 (zA G)) (F0 m 569 ls [.int s1, .int s0]) := by
  have hx := C0.1
  have hb := C0.2.1
  intro x5 x8 x9 s0 s1 v H locs ls hw Z hl
  rw [w_L_acts_569] at hw
  refine lv_icmp_ne (tgt := 608) hx hb dL_acts_569 (by decide) (fun c102 => ?_) (fun c102 => ?_)
  · replace hw := hw.1 c102
    exact b_L_acts_608 l hst C0 _ _ _ _ hw Z (lv_sub hl [] rfl)
  · replace hw := hw.2 c102
    refine lv_aload_n hx hb dL_acts_572 rfl (lv_at hl 0 rfl) ?_
    refine z_get C0 Z in_L rfl 0 (by decide) rfl tm_1_181 (cx_lt C0 (by decide)) rfl rfl dL_acts_573 ?_
    refine lv_iload hx hb dL_acts_576 (lv_at hl 1 rfl) ?_
    refine lv_iconst (v := 4) hx hb dL_acts_578 (by decide) ?_
    refine z_callH C0 Z hl.1 (As := [.ref (gad G 0), .int x5, .int 4]) (rest := []) (k_L_owner l (cx_g C0) hw) (gv_L_owner tm_2_147) ds_L_owner ⟨Nat.le_of_ble_eq_true rfl, Nat.le_of_ble_eq_true rfl⟩ rfl rfl (Nat.le_of_ble_eq_true rfl) ⟨Nat.le_of_ble_eq_true rfl, Nat.le_of_ble_eq_true rfl⟩ dL_acts_579 (fun r105 v104 H locs hw Z => ?_)
    refine lv_iload hx hb dL_acts_582 (lv_at hl 2 rfl) ?_
    refine lv_iconst (v := 1) hx hb dL_acts_584 (by decide) ?_
    refine lv_iadd hx hb dL_acts_585 ?_
    refine lv_iload hx hb dL_acts_586 (lv_at hl 3 rfl) ?_
    refine lv_isub hx hb dL_acts_588 ?_
    refine lv_icmp_ne (tgt := 608) hx hb dL_acts_589 (by decide) (fun c106 => ?_) (fun c106 => ?_)
    · replace hw := hw.1 c106
      exact b_L_acts_608 l hst C0 _ _ _ _ hw Z (lv_sub hl [] rfl)
    · replace hw := hw.2 c106
      refine lv_iload hx hb dL_acts_592 (lv_at hl 3 rfl) ?_
      refine lv_if_ne (tgt := 604) hx hb dL_acts_594 (by decide) (fun c107 => ?_) (fun c107 => ?_)
      · replace hw := hw.1 c107
        exact b_L_acts_604 l hst C0 _ _ _ _ hw Z (lv_sub hl [] rfl)
      · replace hw := hw.2 c107
        refine lv_aload_n hx hb dL_acts_597 rfl (lv_at hl 0 rfl) ?_
        refine z_callVi C0 Z hl.1 (As := []) (rest := []) (k_L_nobodyCould l (cx_g C0) hw) (gv_L_nobodyCould tm_3_43) rfl ds_L_nobodyCould ⟨Nat.le_of_ble_eq_true rfl, Nat.le_of_ble_eq_true rfl⟩ (ci := 4) rfl (cx_lt C0 (by decide)) rfl rfl rfl (Nat.le_of_ble_eq_true rfl) ⟨Nat.le_of_ble_eq_true rfl, Nat.le_of_ble_eq_true rfl⟩ dL_acts_598 (fun r109 v108 H locs hw Z => ?_)
        refine lv_if_eq (tgt := 608) hx hb dL_acts_601 (by decide) (fun c110 => ?_) (fun c110 => ?_)
        · replace hw := hw.1 c110
          exact b_L_acts_608 l hst C0 _ _ _ _ hw Z (lv_sub hl [] rfl)
        · replace hw := hw.2 c110
          exact b_L_acts_604 l hst C0 _ _ _ _ hw Z (lv_sub hl [] rfl)
set_option maxRecDepth 100000 in
set_option maxHeartbeats 4000000 in
theorem b_L_acts_846 {p : Program} (l : Launch) {e : Env} {s : State} {m : MethodId} {args : Array Value} {below : List Frame} {meth : Method} {c : Code} {G : zG}   (hst : l.stackTraces = false) (C0 : Cx G RL cL_acts 15 (some .boolean) p s m args meth c) {Q : Int32 → V3 → Prop} : ∀ (v : V3) (H : Heap) (locs : List Loc) (ls : Array Slot), w_L_acts_846 Q v → Zs G s v H locs → lv_has ls 15 [] → W p l e { frames := 9, cells := 3, slots := 18, locals := 183 } s m args below meth c H locs 3 18 (MQ below (QiZ G Q) args s 3 18 (zA G)) (F0 m 846 ls []) := by
  have hx := C0.1
  have hb := C0.2.1
  intro v H locs ls hw Z hl
  rw [w_L_acts_846] at hw
  refine lv_iconst (v := 0) hx hb dL_acts_846 (by decide) ?_
  refine z_wide (mc := 3) (ms := 18) (by decide) (by decide) ?_
  exact z_zret C0 Z (by decide) hw dL_acts_847
set_option maxRecDepth 100000 in
set_option maxHeartbeats 4000000 in
theorem b_L_acts_961 {p : Program} (l : Launch) {e : Env} {s : State} {m : MethodId} {args : Array Value} {below : List Frame} {meth : Method} {c : Code} {G : zG}   (hst : l.stackTraces = false) (C0 : Cx G RL cL_acts 15 (some .boolean) p s m args meth c) {Q : Int32 → V3 → Prop} : ∀ (s0 : Int32) (v : V3) (H : Heap) (locs : List Loc) (ls : Array Slot), w_L_acts_961 Q s0 v → Zs G s v H locs → lv_has ls 15 [] → W p l e { frames := 9, cells := 3, slots := 18, locals := 183 } s m args below meth c H locs 3 18 (MQ below (QiZ G Q) args s 3 18 (zA G)) (F0 m 961 ls [.int s0]) := by
  have hx := C0.1
  have hb := C0.2.1
  intro s0 v H locs ls hw Z hl
  rw [w_L_acts_961] at hw
  obtain ⟨h143, hw⟩ := hw
  refine z_wide (mc := 3) (ms := 18) (by decide) (by decide) ?_
  exact z_zret C0 Z h143 hw dL_acts_961
set_option maxRecDepth 100000 in
set_option maxHeartbeats 4000000 in
theorem b_L_acts_960 {p : Program} (l : Launch) {e : Env} {s : State} {m : MethodId} {args : Array Value} {below : List Frame} {meth : Method} {c : Code} {G : zG}   (hst : l.stackTraces = false) (C0 : Cx G RL cL_acts 15 (some .boolean) p s m args meth c) {Q : Int32 → V3 → Prop} : ∀ (v : V3) (H : Heap) (locs : List Loc) (ls : Array Slot), w_L_acts_960 Q v → Zs G s v H locs → lv_has ls 15 [] → W p l e { frames := 9, cells := 3, slots := 18, locals := 183 } s m args below meth c H locs 3 18 (MQ below (QiZ G Q) args s 3 18 (zA G)) (F0 m 960 ls []) := by
  have hx := C0.1
  have hb := C0.2.1
  intro v H locs ls hw Z hl
  rw [w_L_acts_960] at hw
  refine lv_iconst (v := 0) hx hb dL_acts_960 (by decide) ?_
  exact b_L_acts_961 l hst C0 _ _ _ _ _ hw Z (lv_sub hl [] rfl)
set_option maxRecDepth 100000 in
set_option maxHeartbeats 4000000 in
theorem b_L_acts_890 {p : Program} (l : Launch) {e : Env} {s : State} {m : MethodId} {args : Array Value} {below : List Frame} {meth : Method} {c : Code} {G : zG}   (hst : l.stackTraces = false) (C0 : Cx G RL cL_acts 15 (some .boolean) p s m args meth c) {Q : Int32 → V3 → Prop} : ∀ (v : V3) (H : Heap) (locs : List Loc) (ls : Array Slot), w_L_acts_890 Q v → Zs G s v H locs → lv_has ls 15 [] → W p l e { frames := 9, cells := 3, slots := 18, locals := 183 } s m args below meth c H locs 3 18 (MQ below (QiZ G Q) args s 3 18 (zA G)) (F0 m 890 ls []) := by
  have hx := C0.1
  have hb := C0.2.1
  intro v H locs ls hw Z hl
  rw [w_L_acts_890] at hw
  refine lv_iconst (v := 0) hx hb dL_acts_890 (by decide) ?_
  refine lv_goto (tgt := 961) hx hb dL_acts_891 (by decide) ?_
  exact b_L_acts_961 l hst C0 _ _ _ _ _ hw Z (lv_sub hl [] rfl)
set_option maxRecDepth 100000 in
set_option maxHeartbeats 4000000 in
theorem b_L_acts_804 {p : Program} (l : Launch) {e : Env} {s : State} {m : MethodId} {args : Array Value} {below : List Frame} {meth : Method} {c : Code} {G : zG}   (hst : l.stackTraces = false) (C0 : Cx G RL cL_acts 15 (some .boolean) p s m args meth c) {Q : Int32 → V3 → Prop} : ∀ (s0 : Int32) (v : V3) (H : Heap) (locs : List Loc) (ls : Array Slot), w_L_acts_804 Q s0 v → Zs G s v H locs → lv_has ls 15 [] → W p l e { frames := 9, cells := 3, slots := 18, locals := 183 } s m args below meth c H locs 3 18 (MQ below (QiZ G Q) args s 3 18 (zA G)) (F0 m 804 ls [.int s0]) := by
  have hx := C0.1
  have hb := C0.2.1
  intro s0 v H locs ls hw Z hl
  rw [w_L_acts_804] at hw
  obtain ⟨h164, hw⟩ := hw
  refine z_wide (mc := 3) (ms := 18) (by decide) (by decide) ?_
  exact z_zret C0 Z h164 hw dL_acts_804
set_option maxRecDepth 100000 in
set_option maxHeartbeats 4000000 in
theorem b_L_acts_803 {p : Program} (l : Launch) {e : Env} {s : State} {m : MethodId} {args : Array Value} {below : List Frame} {meth : Method} {c : Code} {G : zG}   (hst : l.stackTraces = false) (C0 : Cx G RL cL_acts 15 (some .boolean) p s m args meth c) {Q : Int32 → V3 → Prop} : ∀ (v : V3) (H : Heap) (locs : List Loc) (ls : Array Slot), w_L_acts_803 Q v → Zs G s v H locs → lv_has ls 15 [] → W p l e { frames := 9, cells := 3, slots := 18, locals := 183 } s m args below meth c H locs 3 18 (MQ below (QiZ G Q) args s 3 18 (zA G)) (F0 m 803 ls []) := by
  have hx := C0.1
  have hb := C0.2.1
  intro v H locs ls hw Z hl
  rw [w_L_acts_803] at hw
  refine lv_iconst (v := 0) hx hb dL_acts_803 (by decide) ?_
  exact b_L_acts_804 l hst C0 _ _ _ _ _ hw Z (lv_sub hl [] rfl)
set_option maxRecDepth 100000 in
set_option maxHeartbeats 4000000 in
theorem b_L_acts_775 {p : Program} (l : Launch) {e : Env} {s : State} {m : MethodId} {args : Array Value} {below : List Frame} {meth : Method} {c : Code} {G : zG}   (hst : l.stackTraces = false) (C0 : Cx G RL cL_acts 15 (some .boolean) p s m args meth c) {Q : Int32 → V3 → Prop} : ∀ (x12 : Int32) (v : V3) (H : Heap) (locs : List Loc) (ls : Array Slot), w_L_acts_775 Q x12 v → Zs G s v H locs → lv_has ls 15 [(0, .ref (gad G 7)), (12, .int x12)] → W p l e { frames := 9, cells := 3, slots := 18, locals := 183 } s m args below meth c H locs 3 18 (MQ below (QiZ G Q) args s 3 18 (zA G)) (F0 m 775 ls []) := by
  have hx := C0.1
  have hb := C0.2.1
  intro x12 v H locs ls hw Z hl
  rw [w_L_acts_775] at hw
  refine lv_aload_n hx hb dL_acts_775 rfl (lv_at hl 0 rfl) ?_
  refine z_get C0 Z in_L rfl 0 (by decide) rfl tm_1_181 (cx_lt C0 (by decide)) rfl rfl dL_acts_776 ?_
  refine lv_bipush (v := 11) hx hb dL_acts_779 (by decide) ?_
  refine z_callH C0 Z hl.1 (As := [.ref (gad G 0), .int 11]) (rest := []) (k_L_count l (cx_g C0) hw) (gv_L_count tm_2_93) ds_L_count ⟨Nat.le_of_ble_eq_true rfl, Nat.le_of_ble_eq_true rfl⟩ rfl rfl (Nat.le_of_ble_eq_true rfl) ⟨Nat.le_of_ble_eq_true rfl, Nat.le_of_ble_eq_true rfl⟩ dL_acts_781 (fun r160 v159 H locs hw Z => ?_)
  refine lv_aload_n hx hb dL_acts_784 rfl (lv_at hl 0 rfl) ?_
  refine z_get C0 Z in_L rfl 0 (by decide) rfl tm_1_181 (cx_lt C0 (by decide)) rfl rfl dL_acts_785 ?_
  refine lv_bipush (v := 12) hx hb dL_acts_788 (by decide) ?_
  refine z_callH C0 Z hl.1 (As := [.ref (gad G 0), .int 12]) (rest := [.int r160]) (k_L_count l (cx_g C0) hw) (gv_L_count tm_2_93) ds_L_count ⟨Nat.le_of_ble_eq_true rfl, Nat.le_of_ble_eq_true rfl⟩ rfl rfl (Nat.le_of_ble_eq_true rfl) ⟨Nat.le_of_ble_eq_true rfl, Nat.le_of_ble_eq_true rfl⟩ dL_acts_790 (fun r162 v161 H locs hw Z => ?_)
  refine lv_iadd hx hb dL_acts_793 ?_
  refine lv_iload hx hb dL_acts_794 (lv_at hl 1 rfl) ?_
  refine lv_icmp_ne (tgt := 803) hx hb dL_acts_796 (by decide) (fun c163 => ?_) (fun c163 => ?_)
  · replace hw := hw.1 c163
    exact b_L_acts_803 l hst C0 _ _ _ _ hw Z (lv_sub hl [] rfl)
  · replace hw := hw.2 c163
    refine lv_iconst (v := 1) hx hb dL_acts_799 (by decide) ?_
    refine lv_goto (tgt := 804) hx hb dL_acts_800 (by decide) ?_
    exact b_L_acts_804 l hst C0 _ _ _ _ _ hw Z (lv_sub hl [] rfl)
set_option maxRecDepth 100000 in
set_option maxHeartbeats 4000000 in
theorem b_L_acts_756 {p : Program} (l : Launch) {e : Env} {s : State} {m : MethodId} {args : Array Value} {below : List Frame} {meth : Method} {c : Code} {G : zG}   (hst : l.stackTraces = false) (C0 : Cx G RL cL_acts 15 (some .boolean) p s m args meth c) {Q : Int32 → V3 → Prop} : ∀ (x2 : Int32) (x3 : Int32) (x4 : Int32) (x8 : Int32) (x9 : Int32) (x10 : Int32) (x11 : Int32) (x12 : Int32) (x13 : Int32) (s0 : Int32) (v : V3) (H : Heap) (locs : List Loc) (ls : Array Slot), w_L_acts_756 Q x2 x3 x4 x8 x9 x10 x11 x12 x13 s0 v → Zs G s v H locs → lv_has ls 15 [(0, .ref (gad G 7)), (2, .int x2), (3, .int x3), (4, .int x4), (8, .int x8), (9, .int x9), (10, .int x10), (11, .int x11), (12, .int x12), (13, .int x13)] → W p l e { frames := 9, cells := 3, slots := 18, locals := 183 } s m args below meth c H locs 3 18 (MQ below (QiZ G Q) args s 3 18 (zA G)) (F0 m 756 ls [.int s0]) := by
  have hx := C0.1
  have hb := C0.2.1
  intro x2 x3 x4 x8 x9 x10 x11 x12 x13 s0 v H locs ls hw Z hl
  rw [w_L_acts_756] at hw
  refine lv_istore (lv' := [(14, .int s0), (0, .ref (gad G 7)), (2, .int x2), (3, .int x3), (4, .int x4), (8, .int x8), (9, .int x9), (10, .int x10), (11, .int x11), (12, .int x12), (13, .int x13)]) hx hb dL_acts_756 hl (by decide) rfl (fun ls hl => ?_)
  refine lv_iload hx hb dL_acts_758 (lv_at hl 5 rfl) ?_
  refine lv_if_ne (tgt := 805) hx hb dL_acts_760 (by decide) (fun c130 => ?_) (fun c130 => ?_)
  · replace hw := hw.1 c130
    refine lv_iload hx hb dL_acts_805 (lv_at hl 0 rfl) ?_
    refine lv_if_eq (tgt := 846) hx hb dL_acts_807 (by decide) (fun c131 => ?_) (fun c131 => ?_)
    · replace hw := hw.1 c131
      exact b_L_acts_846 l hst C0 _ _ _ _ hw Z (lv_sub hl [] rfl)
    · replace hw := hw.2 c131
      refine lv_iload hx hb dL_acts_810 (lv_at hl 10 rfl) ?_
      refine lv_if_ne (tgt := 846) hx hb dL_acts_812 (by decide) (fun c132 => ?_) (fun c132 => ?_)
      · replace hw := hw.1 c132
        exact b_L_acts_846 l hst C0 _ _ _ _ hw Z (lv_sub hl [] rfl)
      · replace hw := hw.2 c132
        refine lv_aload_n hx hb dL_acts_815 rfl (lv_at hl 1 rfl) ?_
        refine z_get C0 Z in_L rfl 0 (by decide) rfl tm_1_181 (cx_lt C0 (by decide)) rfl rfl dL_acts_816 ?_
        refine lv_bipush (v := 11) hx hb dL_acts_819 (by decide) ?_
        refine z_callH C0 Z hl.1 (As := [.ref (gad G 0), .int 11]) (rest := []) (k_L_count l (cx_g C0) hw) (gv_L_count tm_2_93) ds_L_count ⟨Nat.le_of_ble_eq_true rfl, Nat.le_of_ble_eq_true rfl⟩ rfl rfl (Nat.le_of_ble_eq_true rfl) ⟨Nat.le_of_ble_eq_true rfl, Nat.le_of_ble_eq_true rfl⟩ dL_acts_821 (fun r134 v133 H locs hw Z => ?_)
        refine lv_aload_n hx hb dL_acts_824 rfl (lv_at hl 1 rfl) ?_
        refine z_get C0 Z in_L rfl 0 (by decide) rfl tm_1_181 (cx_lt C0 (by decide)) rfl rfl dL_acts_825 ?_
        refine lv_bipush (v := 12) hx hb dL_acts_828 (by decide) ?_
        refine z_callH C0 Z hl.1 (As := [.ref (gad G 0), .int 12]) (rest := [.int r134]) (k_L_count l (cx_g C0) hw) (gv_L_count tm_2_93) ds_L_count ⟨Nat.le_of_ble_eq_true rfl, Nat.le_of_ble_eq_true rfl⟩ rfl rfl (Nat.le_of_ble_eq_true rfl) ⟨Nat.le_of_ble_eq_true rfl, Nat.le_of_ble_eq_true rfl⟩ dL_acts_830 (fun r136 v135 H locs hw Z => ?_)
        refine lv_iadd hx hb dL_acts_833 ?_
        refine lv_iload hx hb dL_acts_834 (lv_at hl 9 rfl) ?_
        refine lv_iconst (v := 1) hx hb dL_acts_836 (by decide) ?_
        refine lv_iadd hx hb dL_acts_837 ?_
        refine lv_icmp_ne (tgt := 846) hx hb dL_acts_838 (by decide) (fun c137 => ?_) (fun c137 => ?_)
        · replace hw := hw.1 c137
          exact b_L_acts_846 l hst C0 _ _ _ _ hw Z (lv_sub hl [] rfl)
        · replace hw := hw.2 c137
          refine lv_iload hx hb dL_acts_841 (lv_at hl 8 rfl) ?_
          refine lv_if_ge (tgt := 848) hx hb dL_acts_843 (by decide) (fun c138 => ?_) (fun c138 => ?_)
          · replace hw := hw.1 c138
            refine lv_iload hx hb dL_acts_848 (lv_at hl 4 rfl) ?_
            refine lv_if_ne (tgt := 894) hx hb dL_acts_850 (by decide) (fun c139 => ?_) (fun c139 => ?_)
            · replace hw := hw.1 c139
              refine lv_aload_n hx hb dL_acts_894 rfl (lv_at hl 1 rfl) ?_
              refine z_get C0 Z in_L rfl 0 (by decide) rfl tm_1_181 (cx_lt C0 (by decide)) rfl rfl dL_acts_895 ?_
              refine lv_iload_n hx hb dL_acts_898 rfl (lv_at hl 2 rfl) ?_
              refine lv_bipush (v := 10) hx hb dL_acts_899 (by decide) ?_
              refine z_callH C0 Z hl.1 (As := [.ref (gad G 0), .int x2, .int 10]) (rest := []) (k_L_booking l (cx_g C0) hw) (gv_L_booking tm_2_238) ds_L_booking ⟨Nat.le_of_ble_eq_true rfl, Nat.le_of_ble_eq_true rfl⟩ rfl rfl (Nat.le_of_ble_eq_true rfl) ⟨Nat.le_of_ble_eq_true rfl, Nat.le_of_ble_eq_true rfl⟩ dL_acts_901 (fun r141 v140 H locs hw Z => ?_)
              refine lv_iload hx hb dL_acts_904 (lv_at hl 6 rfl) ?_
              refine lv_icmp_le (tgt := 960) hx hb dL_acts_906 (by decide) (fun c142 => ?_) (fun c142 => ?_)
              · replace hw := hw.1 c142
                exact b_L_acts_960 l hst C0 _ _ _ _ hw Z (lv_sub hl [] rfl)
              · replace hw := hw.2 c142
                refine lv_aload_n hx hb dL_acts_909 rfl (lv_at hl 1 rfl) ?_
                refine z_get C0 Z in_L rfl 0 (by decide) rfl tm_1_181 (cx_lt C0 (by decide)) rfl rfl dL_acts_910 ?_
                refine lv_iload_n hx hb dL_acts_913 rfl (lv_at hl 3 rfl) ?_
                refine lv_bipush (v := 10) hx hb dL_acts_914 (by decide) ?_
                refine z_callH C0 Z hl.1 (As := [.ref (gad G 0), .int x3, .int 10]) (rest := []) (k_L_booking l (cx_g C0) hw) (gv_L_booking tm_2_238) ds_L_booking ⟨Nat.le_of_ble_eq_true rfl, Nat.le_of_ble_eq_true rfl⟩ rfl rfl (Nat.le_of_ble_eq_true rfl) ⟨Nat.le_of_ble_eq_true rfl, Nat.le_of_ble_eq_true rfl⟩ dL_acts_916 (fun r145 v144 H locs hw Z => ?_)
                refine lv_iload hx hb dL_acts_919 (lv_at hl 7 rfl) ?_
                refine lv_icmp_le (tgt := 960) hx hb dL_acts_921 (by decide) (fun c146 => ?_) (fun c146 => ?_)
                · replace hw := hw.1 c146
                  exact b_L_acts_960 l hst C0 _ _ _ _ hw Z (lv_sub hl [] rfl)
                · replace hw := hw.2 c146
                  refine lv_aload_n hx hb dL_acts_924 rfl (lv_at hl 1 rfl) ?_
                  refine z_get C0 Z in_L rfl 0 (by decide) rfl tm_1_181 (cx_lt C0 (by decide)) rfl rfl dL_acts_925 ?_
                  refine lv_iload_n hx hb dL_acts_928 rfl (lv_at hl 2 rfl) ?_
                  refine lv_bipush (v := 10) hx hb dL_acts_929 (by decide) ?_
                  refine z_callH C0 Z hl.1 (As := [.ref (gad G 0), .int x2, .int 10]) (rest := []) (k_L_booking l (cx_g C0) hw) (gv_L_booking tm_2_238) ds_L_booking ⟨Nat.le_of_ble_eq_true rfl, Nat.le_of_ble_eq_true rfl⟩ rfl rfl (Nat.le_of_ble_eq_true rfl) ⟨Nat.le_of_ble_eq_true rfl, Nat.le_of_ble_eq_true rfl⟩ dL_acts_931 (fun r148 v147 H locs hw Z => ?_)
                  refine lv_iload hx hb dL_acts_934 (lv_at hl 6 rfl) ?_
                  refine lv_isub hx hb dL_acts_936 ?_
                  refine lv_aload_n hx hb dL_acts_937 rfl (lv_at hl 1 rfl) ?_
                  refine z_get C0 Z in_L rfl 0 (by decide) rfl tm_1_181 (cx_lt C0 (by decide)) rfl rfl dL_acts_938 ?_
                  refine lv_iload_n hx hb dL_acts_941 rfl (lv_at hl 3 rfl) ?_
                  refine lv_bipush (v := 10) hx hb dL_acts_942 (by decide) ?_
                  refine z_callH C0 Z hl.1 (As := [.ref (gad G 0), .int x3, .int 10]) (rest := [.int (r148 - x9)]) (k_L_booking l (cx_g C0) hw) (gv_L_booking tm_2_238) ds_L_booking ⟨Nat.le_of_ble_eq_true rfl, Nat.le_of_ble_eq_true rfl⟩ rfl rfl (Nat.le_of_ble_eq_true rfl) ⟨Nat.le_of_ble_eq_true rfl, Nat.le_of_ble_eq_true rfl⟩ dL_acts_944 (fun r150 v149 H locs hw Z => ?_)
                  refine lv_iadd hx hb dL_acts_947 ?_
                  refine lv_iload hx hb dL_acts_948 (lv_at hl 7 rfl) ?_
                  refine lv_isub hx hb dL_acts_950 ?_
                  refine lv_iload hx hb dL_acts_951 (lv_at hl 5 rfl) ?_
                  refine lv_icmp_ne (tgt := 960) hx hb dL_acts_953 (by decide) (fun c151 => ?_) (fun c151 => ?_)
                  · replace hw := hw.1 c151
                    exact b_L_acts_960 l hst C0 _ _ _ _ hw Z (lv_sub hl [] rfl)
                  · replace hw := hw.2 c151
                    refine lv_iconst (v := 1) hx hb dL_acts_956 (by decide) ?_
                    refine lv_goto (tgt := 961) hx hb dL_acts_957 (by decide) ?_
                    exact b_L_acts_961 l hst C0 _ _ _ _ _ hw Z (lv_sub hl [] rfl)
            · replace hw := hw.2 c139
              refine lv_aload_n hx hb dL_acts_853 rfl (lv_at hl 1 rfl) ?_
              refine z_get C0 Z in_L rfl 0 (by decide) rfl tm_1_181 (cx_lt C0 (by decide)) rfl rfl dL_acts_854 ?_
              refine lv_iload_n hx hb dL_acts_857 rfl (lv_at hl 2 rfl) ?_
              refine lv_bipush (v := 10) hx hb dL_acts_858 (by decide) ?_
              refine z_callH C0 Z hl.1 (As := [.ref (gad G 0), .int x2, .int 10]) (rest := []) (k_L_booking l (cx_g C0) hw) (gv_L_booking tm_2_238) ds_L_booking ⟨Nat.le_of_ble_eq_true rfl, Nat.le_of_ble_eq_true rfl⟩ rfl rfl (Nat.le_of_ble_eq_true rfl) ⟨Nat.le_of_ble_eq_true rfl, Nat.le_of_ble_eq_true rfl⟩ dL_acts_860 (fun r153 v152 H locs hw Z => ?_)
              refine lv_iload hx hb dL_acts_863 (lv_at hl 7 rfl) ?_
              refine lv_icmp_le (tgt := 890) hx hb dL_acts_865 (by decide) (fun c154 => ?_) (fun c154 => ?_)
              · replace hw := hw.1 c154
                exact b_L_acts_890 l hst C0 _ _ _ _ hw Z (lv_sub hl [] rfl)
              · replace hw := hw.2 c154
                refine lv_aload_n hx hb dL_acts_868 rfl (lv_at hl 1 rfl) ?_
                refine z_get C0 Z in_L rfl 0 (by decide) rfl tm_1_181 (cx_lt C0 (by decide)) rfl rfl dL_acts_869 ?_
                refine lv_iload_n hx hb dL_acts_872 rfl (lv_at hl 2 rfl) ?_
                refine lv_bipush (v := 10) hx hb dL_acts_873 (by decide) ?_
                refine z_callH C0 Z hl.1 (As := [.ref (gad G 0), .int x2, .int 10]) (rest := []) (k_L_booking l (cx_g C0) hw) (gv_L_booking tm_2_238) ds_L_booking ⟨Nat.le_of_ble_eq_true rfl, Nat.le_of_ble_eq_true rfl⟩ rfl rfl (Nat.le_of_ble_eq_true rfl) ⟨Nat.le_of_ble_eq_true rfl, Nat.le_of_ble_eq_true rfl⟩ dL_acts_875 (fun r156 v155 H locs hw Z => ?_)
                refine lv_iload hx hb dL_acts_878 (lv_at hl 7 rfl) ?_
                refine lv_isub hx hb dL_acts_880 ?_
                refine lv_iload hx hb dL_acts_881 (lv_at hl 5 rfl) ?_
                refine lv_icmp_ne (tgt := 890) hx hb dL_acts_883 (by decide) (fun c157 => ?_) (fun c157 => ?_)
                · replace hw := hw.1 c157
                  exact b_L_acts_890 l hst C0 _ _ _ _ hw Z (lv_sub hl [] rfl)
                · replace hw := hw.2 c157
                  refine lv_iconst (v := 1) hx hb dL_acts_886 (by decide) ?_
                  refine lv_goto (tgt := 961) hx hb dL_acts_887 (by decide) ?_
                  exact b_L_acts_961 l hst C0 _ _ _ _ _ hw Z (lv_sub hl [] rfl)
          · replace hw := hw.2 c138
            exact b_L_acts_846 l hst C0 _ _ _ _ hw Z (lv_sub hl [] rfl)
  · replace hw := hw.2 c130
    refine lv_iload hx hb dL_acts_763 (lv_at hl 10 rfl) ?_
    refine lv_iconst (v := 1) hx hb dL_acts_765 (by decide) ?_
    refine lv_icmp_eq (tgt := 775) hx hb dL_acts_766 (by decide) (fun c158 => ?_) (fun c158 => ?_)
    · replace hw := hw.1 c158
      exact b_L_acts_775 l hst C0 _ _ _ _ _ hw Z (lv_sub hl [1, 9] rfl)
    · replace hw := hw.2 c158
      refine lv_iload hx hb dL_acts_769 (lv_at hl 10 rfl) ?_
      refine lv_iconst (v := 4) hx hb dL_acts_771 (by decide) ?_
      refine lv_icmp_ne (tgt := 803) hx hb dL_acts_772 (by decide) (fun c165 => ?_) (fun c165 => ?_)
      · replace hw := hw.1 c165
        exact b_L_acts_803 l hst C0 _ _ _ _ hw Z (lv_sub hl [] rfl)
      · replace hw := hw.2 c165
        exact b_L_acts_775 l hst C0 _ _ _ _ _ hw Z (lv_sub hl [1, 9] rfl)
set_option maxRecDepth 100000 in
set_option maxHeartbeats 4000000 in
theorem b_L_acts_755 {p : Program} (l : Launch) {e : Env} {s : State} {m : MethodId} {args : Array Value} {below : List Frame} {meth : Method} {c : Code} {G : zG}   (hst : l.stackTraces = false) (C0 : Cx G RL cL_acts 15 (some .boolean) p s m args meth c) {Q : Int32 → V3 → Prop} : ∀ (x2 : Int32) (x3 : Int32) (x4 : Int32) (x8 : Int32) (x9 : Int32) (x10 : Int32) (x11 : Int32) (x12 : Int32) (x13 : Int32) (v : V3) (H : Heap) (locs : List Loc) (ls : Array Slot), w_L_acts_755 Q x2 x3 x4 x8 x9 x10 x11 x12 x13 v → Zs G s v H locs → lv_has ls 15 [(0, .ref (gad G 7)), (2, .int x2), (3, .int x3), (4, .int x4), (8, .int x8), (9, .int x9), (10, .int x10), (11, .int x11), (12, .int x12), (13, .int x13)] → W p l e { frames := 9, cells := 3, slots := 18, locals := 183 } s m args below meth c H locs 3 18 (MQ below (QiZ G Q) args s 3 18 (zA G)) (F0 m 755 ls []) := by
  have hx := C0.1
  have hb := C0.2.1
  intro x2 x3 x4 x8 x9 x10 x11 x12 x13 v H locs ls hw Z hl
  rw [w_L_acts_755] at hw
  refine lv_iconst (v := 0) hx hb dL_acts_755 (by decide) ?_
  exact b_L_acts_756 l hst C0 _ _ _ _ _ _ _ _ _ _ _ _ _ _ hw Z (lv_sub hl [0, 1, 2, 3, 4, 5, 6, 7, 8, 9] rfl)
set_option maxRecDepth 100000 in
set_option maxHeartbeats 4000000 in
theorem b_L_acts_745 {p : Program} (l : Launch) {e : Env} {s : State} {m : MethodId} {args : Array Value} {below : List Frame} {meth : Method} {c : Code} {G : zG}   (hst : l.stackTraces = false) (C0 : Cx G RL cL_acts 15 (some .boolean) p s m args meth c) {Q : Int32 → V3 → Prop} : ∀ (x2 : Int32) (x3 : Int32) (x4 : Int32) (x8 : Int32) (x9 : Int32) (x10 : Int32) (x11 : Int32) (x12 : Int32) (x13 : Int32) (v : V3) (H : Heap) (locs : List Loc) (ls : Array Slot), w_L_acts_745 Q x2 x3 x4 x8 x9 x10 x11 x12 x13 v → Zs G s v H locs → lv_has ls 15 [(0, .ref (gad G 7)), (2, .int x2), (3, .int x3), (4, .int x4), (8, .int x8), (9, .int x9), (10, .int x10), (11, .int x11), (12, .int x12), (13, .int x13)] → W p l e { frames := 9, cells := 3, slots := 18, locals := 183 } s m args below meth c H locs 3 18 (MQ below (QiZ G Q) args s 3 18 (zA G)) (F0 m 745 ls []) := by
  have hx := C0.1
  have hb := C0.2.1
  intro x2 x3 x4 x8 x9 x10 x11 x12 x13 v H locs ls hw Z hl
  rw [w_L_acts_745] at hw
  refine lv_iload hx hb dL_acts_745 (lv_at hl 9 rfl) ?_
  refine lv_iconst (v := 1) hx hb dL_acts_747 (by decide) ?_
  refine lv_icmp_eq (tgt := 755) hx hb dL_acts_748 (by decide) (fun c129 => ?_) (fun c129 => ?_)
  · replace hw := hw.1 c129
    exact b_L_acts_755 l hst C0 _ _ _ _ _ _ _ _ _ _ _ _ _ hw Z (lv_sub hl [0, 1, 2, 3, 4, 5, 6, 7, 8, 9] rfl)
  · replace hw := hw.2 c129
    refine lv_iconst (v := 1) hx hb dL_acts_751 (by decide) ?_
    refine lv_goto (tgt := 756) hx hb dL_acts_752 (by decide) ?_
    exact b_L_acts_756 l hst C0 _ _ _ _ _ _ _ _ _ _ _ _ _ _ hw Z (lv_sub hl [0, 1, 2, 3, 4, 5, 6, 7, 8, 9] rfl)
set_option maxRecDepth 100000 in
set_option maxHeartbeats 4000000 in
theorem b_L_acts_732 {p : Program} (l : Launch) {e : Env} {s : State} {m : MethodId} {args : Array Value} {below : List Frame} {meth : Method} {c : Code} {G : zG}   (hst : l.stackTraces = false) (C0 : Cx G RL cL_acts 15 (some .boolean) p s m args meth c) {Q : Int32 → V3 → Prop} : ∀ (x2 : Int32) (x3 : Int32) (x4 : Int32) (x8 : Int32) (x9 : Int32) (x10 : Int32) (x11 : Int32) (x12 : Int32) (s0 : Int32) (v : V3) (H : Heap) (locs : List Loc) (ls : Array Slot), w_L_acts_732 Q x2 x3 x4 x8 x9 x10 x11 x12 s0 v → Zs G s v H locs → lv_has ls 15 [(0, .ref (gad G 7)), (2, .int x2), (3, .int x3), (4, .int x4), (8, .int x8), (9, .int x9), (10, .int x10), (11, .int x11), (12, .int x12)] → W p l e { frames := 9, cells := 3, slots := 18, locals := 183 } s m args below meth c H locs 3 18 (MQ below (QiZ G Q) args s 3 18 (zA G)) (F0 m 732 ls [.int s0]) := by
  have hx := C0.1
  have hb := C0.2.1
  intro x2 x3 x4 x8 x9 x10 x11 x12 s0 v H locs ls hw Z hl
  rw [w_L_acts_732] at hw
  refine lv_istore (lv' := [(13, .int s0), (0, .ref (gad G 7)), (2, .int x2), (3, .int x3), (4, .int x4), (8, .int x8), (9, .int x9), (10, .int x10), (11, .int x11), (12, .int x12)]) hx hb dL_acts_732 hl (by decide) rfl (fun ls hl => ?_)
  refine lv_iload hx hb dL_acts_734 (lv_at hl 4 rfl) ?_
  refine lv_if_eq (tgt := 745) hx hb dL_acts_736 (by decide) (fun c128 => ?_) (fun c128 => ?_)
  · replace hw := hw.1 c128
    exact b_L_acts_745 l hst C0 _ _ _ _ _ _ _ _ _ _ _ _ _ hw Z (lv_sub hl [1, 2, 3, 4, 5, 6, 7, 8, 9, 0] rfl)
  · replace hw := hw.2 c128
    refine lv_iload hx hb dL_acts_739 (lv_at hl 4 rfl) ?_
    refine lv_iconst (v := 1) hx hb dL_acts_741 (by decide) ?_
    refine lv_icmp_ne (tgt := 755) hx hb dL_acts_742 (by decide) (fun c166 => ?_) (fun c166 => ?_)
    · replace hw := hw.1 c166
      exact b_L_acts_755 l hst C0 _ _ _ _ _ _ _ _ _ _ _ _ _ hw Z (lv_sub hl [1, 2, 3, 4, 5, 6, 7, 8, 9, 0] rfl)
    · replace hw := hw.2 c166
      exact b_L_acts_745 l hst C0 _ _ _ _ _ _ _ _ _ _ _ _ _ hw Z (lv_sub hl [1, 2, 3, 4, 5, 6, 7, 8, 9, 0] rfl)
set_option maxRecDepth 100000 in
set_option maxHeartbeats 4000000 in
theorem b_L_acts_705 {p : Program} (l : Launch) {e : Env} {s : State} {m : MethodId} {args : Array Value} {below : List Frame} {meth : Method} {c : Code} {G : zG}   (hst : l.stackTraces = false) (C0 : Cx G RL cL_acts 15 (some .boolean) p s m args meth c) {Q : Int32 → V3 → Prop} : ∀ (s0 : Int32) (v : V3) (H : Heap) (locs : List Loc) (ls : Array Slot), w_L_acts_705 Q s0 v → Zs G s v H locs → lv_has ls 15 [] → W p l e { frames := 9, cells := 3, slots := 18, locals := 183 } s m args below meth c H locs 3 18 (MQ below (QiZ G Q) args s 3 18 (zA G)) (F0 m 705 ls [.int s0]) := by
  have hx := C0.1
  have hb := C0.2.1
  intro s0 v H locs ls hw Z hl
  rw [w_L_acts_705] at hw
  obtain ⟨h170, hw⟩ := hw
  refine z_wide (mc := 3) (ms := 18) (by decide) (by decide) ?_
  exact z_zret C0 Z h170 hw dL_acts_705
set_option maxRecDepth 100000 in
set_option maxHeartbeats 4000000 in
theorem b_L_acts_704 {p : Program} (l : Launch) {e : Env} {s : State} {m : MethodId} {args : Array Value} {below : List Frame} {meth : Method} {c : Code} {G : zG}   (hst : l.stackTraces = false) (C0 : Cx G RL cL_acts 15 (some .boolean) p s m args meth c) {Q : Int32 → V3 → Prop} : ∀ (v : V3) (H : Heap) (locs : List Loc) (ls : Array Slot), w_L_acts_704 Q v → Zs G s v H locs → lv_has ls 15 [] → W p l e { frames := 9, cells := 3, slots := 18, locals := 183 } s m args below meth c H locs 3 18 (MQ below (QiZ G Q) args s 3 18 (zA G)) (F0 m 704 ls []) := by
  have hx := C0.1
  have hb := C0.2.1
  intro v H locs ls hw Z hl
  rw [w_L_acts_704] at hw
  refine lv_iconst (v := 0) hx hb dL_acts_704 (by decide) ?_
  exact b_L_acts_705 l hst C0 _ _ _ _ _ hw Z (lv_sub hl [] rfl)
set_option maxRecDepth 100000 in
set_option maxHeartbeats 4000000 in
theorem b_L_acts_1087 {p : Program} (l : Launch) {e : Env} {s : State} {m : MethodId} {args : Array Value} {below : List Frame} {meth : Method} {c : Code} {G : zG}   (hst : l.stackTraces = false) (C0 : Cx G RL cL_acts 15 (some .boolean) p s m args meth c) {Q : Int32 → V3 → Prop} : ∀ (v : V3) (H : Heap) (locs : List Loc) (ls : Array Slot), w_L_acts_1087 Q v → Zs G s v H locs → lv_has ls 15 [] → W p l e { frames := 9, cells := 3, slots := 18, locals := 183 } s m args below meth c H locs 0 0 (MQ below (QiZ G Q) args s 3 18 (zA G)) (F0 m 1087 ls []) := by
  have hx := C0.1
  have hb := C0.2.1
  intro v H locs ls hw Z hl
  rw [w_L_acts_1087] at hw
  refine lv_iconst (v := 0) hx hb dL_acts_1087 (by decide) ?_
  refine z_wide (mc := 3) (ms := 18) (by decide) (by decide) ?_
  exact z_zret C0 Z (by decide) hw dL_acts_1088
set_option maxRecDepth 100000 in
set_option maxHeartbeats 4000000 in
theorem b_L_acts_1111 {p : Program} (l : Launch) {e : Env} {s : State} {m : MethodId} {args : Array Value} {below : List Frame} {meth : Method} {c : Code} {G : zG}   (hst : l.stackTraces = false) (C0 : Cx G RL cL_acts 15 (some .boolean) p s m args meth c) {Q : Int32 → V3 → Prop} : ∀ (s0 : Int32) (v : V3) (H : Heap) (locs : List Loc) (ls : Array Slot), w_L_acts_1111 Q s0 v → Zs G s v H locs → lv_has ls 15 [] → W p l e { frames := 9, cells := 3, slots := 18, locals := 183 } s m args below meth c H locs 0 0 (MQ below (QiZ G Q) args s 3 18 (zA G)) (F0 m 1111 ls [.int s0]) := by
  have hx := C0.1
  have hb := C0.2.1
  intro s0 v H locs ls hw Z hl
  rw [w_L_acts_1111] at hw
  obtain ⟨h198, hw⟩ := hw
  refine z_wide (mc := 3) (ms := 18) (by decide) (by decide) ?_
  exact z_zret C0 Z h198 hw dL_acts_1111
set_option maxRecDepth 100000 in
set_option maxHeartbeats 4000000 in
theorem b_L_acts_1110 {p : Program} (l : Launch) {e : Env} {s : State} {m : MethodId} {args : Array Value} {below : List Frame} {meth : Method} {c : Code} {G : zG}   (hst : l.stackTraces = false) (C0 : Cx G RL cL_acts 15 (some .boolean) p s m args meth c) {Q : Int32 → V3 → Prop} : ∀ (v : V3) (H : Heap) (locs : List Loc) (ls : Array Slot), w_L_acts_1110 Q v → Zs G s v H locs → lv_has ls 15 [] → W p l e { frames := 9, cells := 3, slots := 18, locals := 183 } s m args below meth c H locs 0 0 (MQ below (QiZ G Q) args s 3 18 (zA G)) (F0 m 1110 ls []) := by
  have hx := C0.1
  have hb := C0.2.1
  intro v H locs ls hw Z hl
  rw [w_L_acts_1110] at hw
  refine lv_iconst (v := 0) hx hb dL_acts_1110 (by decide) ?_
  exact b_L_acts_1111 l hst C0 _ _ _ _ _ hw Z (lv_sub hl [] rfl)
set_option maxRecDepth 100000 in
set_option maxHeartbeats 4000000 in
theorem b_L_acts_1023 {p : Program} (l : Launch) {e : Env} {s : State} {m : MethodId} {args : Array Value} {below : List Frame} {meth : Method} {c : Code} {G : zG}   (hst : l.stackTraces = false) (C0 : Cx G RL cL_acts 15 (some .boolean) p s m args meth c) {Q : Int32 → V3 → Prop} : ∀ (s0 : Int32) (v : V3) (H : Heap) (locs : List Loc) (ls : Array Slot), w_L_acts_1023 Q s0 v → Zs G s v H locs → lv_has ls 15 [] → W p l e { frames := 9, cells := 3, slots := 18, locals := 183 } s m args below meth c H locs 0 0 (MQ below (QiZ G Q) args s 3 18 (zA G)) (F0 m 1023 ls [.int s0]) := by
  have hx := C0.1
  have hb := C0.2.1
  intro s0 v H locs ls hw Z hl
  rw [w_L_acts_1023] at hw
  obtain ⟨h205, hw⟩ := hw
  refine z_wide (mc := 3) (ms := 18) (by decide) (by decide) ?_
  exact z_zret C0 Z h205 hw dL_acts_1023
set_option maxRecDepth 100000 in
set_option maxHeartbeats 4000000 in
theorem b_L_acts_32 {p : Program} (l : Launch) {e : Env} {s : State} {m : MethodId} {args : Array Value} {below : List Frame} {meth : Method} {c : Code} {G : zG}   (hst : l.stackTraces = false) (C0 : Cx G RL cL_acts 15 (some .boolean) p s m args meth c) {Q : Int32 → V3 → Prop} : ∀ (s0 : Int32) (v : V3) (H : Heap) (locs : List Loc) (ls : Array Slot), w_L_acts_32 Q s0 v → Zs G s v H locs → lv_has ls 15 [] → W p l e { frames := 9, cells := 3, slots := 18, locals := 183 } s m args below meth c H locs 1 6 (MQ below (QiZ G Q) args s 3 18 (zA G)) (F0 m 32 ls [.int s0]) := by
  have hx := C0.1
  have hb := C0.2.1
  intro s0 v H locs ls hw Z hl
  rw [w_L_acts_32] at hw
  obtain ⟨h209, hw⟩ := hw
  refine z_wide (mc := 3) (ms := 18) (by decide) (by decide) ?_
  exact z_zret C0 Z h209 hw dL_acts_32
set_option maxRecDepth 100000 in
set_option maxHeartbeats 4000000 in
theorem k_L_acts (l : Launch) (hst : l.stackTraces = false) {G : zG} (hg : 116 ≤ gn G)  {v : V3} {Q : Int32 → V3 → Prop} (hw : w_L_acts v Q) : My l yL_acts cL_acts 15 (some .boolean) 9 183 3 18 G [.ref (gad G 7)] v (QiZ G Q) := by
  rw [w_L_acts] at hw
  refine z_yofW hg (by decide) (Nat.le_of_ble_eq_true rfl) ?_
  intro p e s m args below meth c ls C0 Z hl
  have hx := C0.1
  have hb := C0.2.1
  replace hl : lv_has ls 15 [(0, .ref (gad G 7))] := hl
  generalize s.heap = H at Z ⊢
  generalize ([] : List Loc) = locs at Z ⊢
  refine lv_aload_n hx hb dL_acts_0 rfl (lv_at hl 0 rfl) ?_
  refine z_get C0 Z in_L rfl 0 (by decide) rfl tm_1_181 (cx_lt C0 (by decide)) rfl rfl dL_acts_1 ?_
  refine lv_bipush (v := 6) hx hb dL_acts_4 (by decide) ?_
  refine z_callH C0 Z hl.1 (As := [.ref (gad G 0), .int 6]) (rest := []) (k_L_count l (cx_g C0) hw) (gv_L_count tm_2_93) ds_L_count ⟨Nat.le_of_ble_eq_true rfl, Nat.le_of_ble_eq_true rfl⟩ rfl rfl (Nat.le_of_ble_eq_true rfl) ⟨Nat.le_of_ble_eq_true rfl, Nat.le_of_ble_eq_true rfl⟩ dL_acts_6 (fun r2 v1 H locs hw Z => ?_)
  refine lv_istore_n (lv' := [(1, .int r2), (0, .ref (gad G 7))]) hx hb dL_acts_9 rfl hl (by decide) rfl (fun ls hl => ?_)
  refine lv_iload_n hx hb dL_acts_10 rfl (lv_at hl 0 rfl) ?_
  refine lv_if_ne (tgt := 33) hx hb dL_acts_11 (by decide) (fun c3 => ?_) (fun c3 => ?_)
  · replace hw := hw.1 c3
    refine lv_aload_n hx hb dL_acts_33 rfl (lv_at hl 1 rfl) ?_
    refine lv_iload_n hx hb dL_acts_34 rfl (lv_at hl 0 rfl) ?_
    refine z_callVi C0 Z hl.1 (As := [.int r2]) (rest := []) (k_L_draw l (cx_g C0) hw) (gv_L_draw tm_1_204) rfl ds_L_draw ⟨Nat.le_of_ble_eq_true rfl, Nat.le_of_ble_eq_true rfl⟩ (ci := 4) rfl (cx_lt C0 (by decide)) rfl rfl rfl (Nat.le_of_ble_eq_true rfl) ⟨Nat.le_of_ble_eq_true rfl, Nat.le_of_ble_eq_true rfl⟩ dL_acts_35 (fun r5 v4 H locs hw Z => ?_)
    refine lv_istore_n (lv' := [(2, .int r5), (1, .int r2), (0, .ref (gad G 7))]) hx hb dL_acts_38 rfl hl (by decide) rfl (fun ls hl => ?_)
    refine lv_aload_n hx hb dL_acts_39 rfl (lv_at hl 2 rfl) ?_
    refine lv_iload_n hx hb dL_acts_40 rfl (lv_at hl 1 rfl) ?_
    refine z_callVi C0 Z hl.1 (As := [.int r2]) (rest := []) (k_L_draw l (cx_g C0) hw) (gv_L_draw tm_1_204) rfl ds_L_draw ⟨Nat.le_of_ble_eq_true rfl, Nat.le_of_ble_eq_true rfl⟩ (ci := 4) rfl (cx_lt C0 (by decide)) rfl rfl rfl (Nat.le_of_ble_eq_true rfl) ⟨Nat.le_of_ble_eq_true rfl, Nat.le_of_ble_eq_true rfl⟩ dL_acts_41 (fun r7 v6 H locs hw Z => ?_)
    refine lv_istore_n (lv' := [(3, .int r7), (2, .int r5), (1, .int r2), (0, .ref (gad G 7))]) hx hb dL_acts_44 rfl hl (by decide) rfl (fun ls hl => ?_)
    refine lv_aload_n hx hb dL_acts_45 rfl (lv_at hl 3 rfl) ?_
    refine z_get C0 Z in_L rfl 0 (by decide) rfl tm_1_181 (cx_lt C0 (by decide)) rfl rfl dL_acts_46 ?_
    refine lv_iload_n hx hb dL_acts_49 rfl (lv_at hl 1 rfl) ?_
    refine lv_bipush (v := 7) hx hb dL_acts_50 (by decide) ?_
    refine z_callH C0 Z hl.1 (As := [.ref (gad G 0), .int r5, .int 7]) (rest := []) (k_L_booking l (cx_g C0) hw) (gv_L_booking tm_2_238) ds_L_booking ⟨Nat.le_of_ble_eq_true rfl, Nat.le_of_ble_eq_true rfl⟩ rfl rfl (Nat.le_of_ble_eq_true rfl) ⟨Nat.le_of_ble_eq_true rfl, Nat.le_of_ble_eq_true rfl⟩ dL_acts_52 (fun r9 v8 H locs hw Z => ?_)
    refine lv_istore (lv' := [(4, .int r9), (3, .int r7), (2, .int r5), (1, .int r2), (0, .ref (gad G 7))]) hx hb dL_acts_55 hl (by decide) rfl (fun ls hl => ?_)
    refine lv_aload_n hx hb dL_acts_57 rfl (lv_at hl 4 rfl) ?_
    refine z_get C0 Z in_L rfl 0 (by decide) rfl tm_1_181 (cx_lt C0 (by decide)) rfl rfl dL_acts_58 ?_
    refine lv_iload_n hx hb dL_acts_61 rfl (lv_at hl 2 rfl) ?_
    refine lv_iconst (v := 0) hx hb dL_acts_62 (by decide) ?_
    refine z_callH C0 Z hl.1 (As := [.ref (gad G 0), .int r5, .int 0]) (rest := []) (k_L_booking l (cx_g C0) hw) (gv_L_booking tm_2_238) ds_L_booking ⟨Nat.le_of_ble_eq_true rfl, Nat.le_of_ble_eq_true rfl⟩ rfl rfl (Nat.le_of_ble_eq_true rfl) ⟨Nat.le_of_ble_eq_true rfl, Nat.le_of_ble_eq_true rfl⟩ dL_acts_63 (fun r11 v10 H locs hw Z => ?_)
    refine lv_istore (lv' := [(5, .int r11), (4, .int r9), (3, .int r7), (2, .int r5), (1, .int r2), (0, .ref (gad G 7))]) hx hb dL_acts_66 hl (by decide) rfl (fun ls hl => ?_)
    refine lv_aload_n hx hb dL_acts_68 rfl (lv_at hl 5 rfl) ?_
    refine z_get C0 Z in_L rfl 0 (by decide) rfl tm_1_181 (cx_lt C0 (by decide)) rfl rfl dL_acts_69 ?_
    refine lv_iload_n hx hb dL_acts_72 rfl (lv_at hl 3 rfl) ?_
    refine lv_bipush (v := 8) hx hb dL_acts_73 (by decide) ?_
    refine z_callH C0 Z hl.1 (As := [.ref (gad G 0), .int r5, .int 8]) (rest := []) (k_L_booking l (cx_g C0) hw) (gv_L_booking tm_2_238) ds_L_booking ⟨Nat.le_of_ble_eq_true rfl, Nat.le_of_ble_eq_true rfl⟩ rfl rfl (Nat.le_of_ble_eq_true rfl) ⟨Nat.le_of_ble_eq_true rfl, Nat.le_of_ble_eq_true rfl⟩ dL_acts_75 (fun r13 v12 H locs hw Z => ?_)
    refine lv_istore (lv' := [(6, .int r13), (5, .int r11), (4, .int r9), (3, .int r7), (2, .int r5), (1, .int r2), (0, .ref (gad G 7))]) hx hb dL_acts_78 hl (by decide) rfl (fun ls hl => ?_)
    refine lv_aload_n hx hb dL_acts_80 rfl (lv_at hl 6 rfl) ?_
    refine z_get C0 Z in_L rfl 0 (by decide) rfl tm_1_181 (cx_lt C0 (by decide)) rfl rfl dL_acts_81 ?_
    refine lv_bipush (v := 7) hx hb dL_acts_84 (by decide) ?_
    refine z_callH C0 Z hl.1 (As := [.ref (gad G 0), .int 7]) (rest := []) (k_L_count l (cx_g C0) hw) (gv_L_count tm_2_93) ds_L_count ⟨Nat.le_of_ble_eq_true rfl, Nat.le_of_ble_eq_true rfl⟩ rfl rfl (Nat.le_of_ble_eq_true rfl) ⟨Nat.le_of_ble_eq_true rfl, Nat.le_of_ble_eq_true rfl⟩ dL_acts_86 (fun r15 v14 H locs hw Z => ?_)
    refine lv_istore (lv' := [(7, .int r15), (6, .int r13), (5, .int r11), (4, .int r9), (3, .int r7), (2, .int r5), (1, .int r2), (0, .ref (gad G 7))]) hx hb dL_acts_89 hl (by decide) rfl (fun ls hl => ?_)
    refine lv_aload_n hx hb dL_acts_91 rfl (lv_at hl 7 rfl) ?_
    refine lv_bipush (v := 8) hx hb dL_acts_92 (by decide) ?_
    refine z_callVi C0 Z hl.1 (As := [.int 8]) (rest := []) (k_L_draw l (cx_g C0) hw) (gv_L_draw tm_1_204) rfl ds_L_draw ⟨Nat.le_of_ble_eq_true rfl, Nat.le_of_ble_eq_true rfl⟩ (ci := 4) rfl (cx_lt C0 (by decide)) rfl rfl rfl (Nat.le_of_ble_eq_true rfl) ⟨Nat.le_of_ble_eq_true rfl, Nat.le_of_ble_eq_true rfl⟩ dL_acts_94 (fun r17 v16 H locs hw Z => ?_)
    by_cases c18 : r17 = 0
    · refine lv_tableIn (tgt := 140) (off := 43) hx hb dL_acts_97 (by rw [c18]; decide) (by rw [c18]; decide) (by rw [c18]; rfl) (by decide) ?_
      replace hw := hw.1 c18
      refine lv_aload_n hx hb dL_acts_140 rfl (lv_at hl 7 rfl) ?_
      refine z_get C0 Z in_L rfl 0 (by decide) rfl tm_1_181 (cx_lt C0 (by decide)) rfl rfl dL_acts_141 ?_
      refine lv_iload hx hb dL_acts_144 (lv_at hl 2 rfl) ?_
      refine lv_bipush (v := 6) hx hb dL_acts_146 (by decide) ?_
      refine z_callH C0 Z hl.1 (As := [.ref (gad G 0), .int r11, .int 6]) (rest := []) (k_L_owner l (cx_g C0) hw) (gv_L_owner tm_2_147) ds_L_owner ⟨Nat.le_of_ble_eq_true rfl, Nat.le_of_ble_eq_true rfl⟩ rfl rfl (Nat.le_of_ble_eq_true rfl) ⟨Nat.le_of_ble_eq_true rfl, Nat.le_of_ble_eq_true rfl⟩ dL_acts_148 (fun r20 v19 H locs hw Z => ?_)
      refine lv_istore (lv' := [(8, .int r20), (7, .int r15), (6, .int r13), (5, .int r11), (4, .int r9), (3, .int r7), (2, .int r5), (1, .int r2), (0, .ref (gad G 7))]) hx hb dL_acts_151 hl (by decide) rfl (fun ls hl => ?_)
      refine lv_aload_n hx hb dL_acts_153 rfl (lv_at hl 8 rfl) ?_
      refine z_get C0 Z in_L rfl 0 (by decide) rfl tm_1_181 (cx_lt C0 (by decide)) rfl rfl dL_acts_154 ?_
      refine lv_iload_n hx hb dL_acts_157 rfl (lv_at hl 6 rfl) ?_
      refine z_callH C0 Z hl.1 (As := [.ref (gad G 0), .int r5]) (rest := []) (k_L_arrive l (cx_g C0) hw) (gv_L_arrive tm_3_36) ds_L_arrive ⟨Nat.le_of_ble_eq_true rfl, Nat.le_of_ble_eq_true rfl⟩ rfl rfl (Nat.le_of_ble_eq_true rfl) ⟨Nat.le_of_ble_eq_true rfl, Nat.le_of_ble_eq_true rfl⟩ dL_acts_158 (fun r22 v21 H locs hw Z => ?_)
      refine lv_istore (lv' := [(9, .int r22), (8, .int r20), (7, .int r15), (6, .int r13), (5, .int r11), (4, .int r9), (3, .int r7), (2, .int r5), (1, .int r2), (0, .ref (gad G 7))]) hx hb dL_acts_161 hl (by decide) rfl (fun ls hl => ?_)
      refine lv_iload hx hb dL_acts_163 (lv_at hl 0 rfl) ?_
      refine lv_iload hx hb dL_acts_165 (lv_at hl 5 rfl) ?_
      refine lv_iconst (v := 1) hx hb dL_acts_167 (by decide) ?_
      refine lv_icmp_eq (tgt := 175) hx hb dL_acts_168 (by decide) (fun c23 => ?_) (fun c23 => ?_)
      · replace hw := hw.1 c23
        refine lv_iload hx hb dL_acts_175 (lv_at hl 2 rfl) ?_
        refine lv_iload hx hb dL_acts_177 (lv_at hl 3 rfl) ?_
        refine lv_icmp_ge (tgt := 186) hx hb dL_acts_179 (by decide) (fun c24 => ?_) (fun c24 => ?_)
        · replace hw := hw.1 c24
          refine lv_iconst (v := 0) hx hb dL_acts_186 (by decide) ?_
          exact b_L_acts_187 l hst C0 _ _ _ _ _ _ _ _ _ _ _ hw Z (lv_sub hl [9, 4, 3, 2, 1, 0] rfl)
        · replace hw := hw.2 c24
          refine lv_iconst (v := 2) hx hb dL_acts_182 (by decide) ?_
          refine lv_goto (tgt := 187) hx hb dL_acts_183 (by decide) ?_
          exact b_L_acts_187 l hst C0 _ _ _ _ _ _ _ _ _ _ _ hw Z (lv_sub hl [9, 4, 3, 2, 1, 0] rfl)
      · replace hw := hw.2 c23
        refine lv_iconst (v := 1) hx hb dL_acts_171 (by decide) ?_
        refine lv_goto (tgt := 187) hx hb dL_acts_172 (by decide) ?_
        exact b_L_acts_187 l hst C0 _ _ _ _ _ _ _ _ _ _ _ hw Z (lv_sub hl [9, 4, 3, 2, 1, 0] rfl)
    replace hw := hw.2
    by_cases c31 : r17 = 1
    · refine lv_tableIn (tgt := 140) (off := 43) hx hb dL_acts_97 (by rw [c31]; decide) (by rw [c31]; decide) (by rw [c31]; rfl) (by decide) ?_
      replace hw := hw.1 c31
      refine lv_aload_n hx hb dL_acts_140 rfl (lv_at hl 7 rfl) ?_
      refine z_get C0 Z in_L rfl 0 (by decide) rfl tm_1_181 (cx_lt C0 (by decide)) rfl rfl dL_acts_141 ?_
      refine lv_iload hx hb dL_acts_144 (lv_at hl 2 rfl) ?_
      refine lv_bipush (v := 6) hx hb dL_acts_146 (by decide) ?_
      refine z_callH C0 Z hl.1 (As := [.ref (gad G 0), .int r11, .int 6]) (rest := []) (k_L_owner l (cx_g C0) hw) (gv_L_owner tm_2_147) ds_L_owner ⟨Nat.le_of_ble_eq_true rfl, Nat.le_of_ble_eq_true rfl⟩ rfl rfl (Nat.le_of_ble_eq_true rfl) ⟨Nat.le_of_ble_eq_true rfl, Nat.le_of_ble_eq_true rfl⟩ dL_acts_148 (fun r33 v32 H locs hw Z => ?_)
      refine lv_istore (lv' := [(8, .int r33), (7, .int r15), (6, .int r13), (5, .int r11), (4, .int r9), (3, .int r7), (2, .int r5), (1, .int r2), (0, .ref (gad G 7))]) hx hb dL_acts_151 hl (by decide) rfl (fun ls hl => ?_)
      refine lv_aload_n hx hb dL_acts_153 rfl (lv_at hl 8 rfl) ?_
      refine z_get C0 Z in_L rfl 0 (by decide) rfl tm_1_181 (cx_lt C0 (by decide)) rfl rfl dL_acts_154 ?_
      refine lv_iload_n hx hb dL_acts_157 rfl (lv_at hl 6 rfl) ?_
      refine z_callH C0 Z hl.1 (As := [.ref (gad G 0), .int r5]) (rest := []) (k_L_arrive l (cx_g C0) hw) (gv_L_arrive tm_3_36) ds_L_arrive ⟨Nat.le_of_ble_eq_true rfl, Nat.le_of_ble_eq_true rfl⟩ rfl rfl (Nat.le_of_ble_eq_true rfl) ⟨Nat.le_of_ble_eq_true rfl, Nat.le_of_ble_eq_true rfl⟩ dL_acts_158 (fun r35 v34 H locs hw Z => ?_)
      refine lv_istore (lv' := [(9, .int r35), (8, .int r33), (7, .int r15), (6, .int r13), (5, .int r11), (4, .int r9), (3, .int r7), (2, .int r5), (1, .int r2), (0, .ref (gad G 7))]) hx hb dL_acts_161 hl (by decide) rfl (fun ls hl => ?_)
      refine lv_iload hx hb dL_acts_163 (lv_at hl 0 rfl) ?_
      refine lv_iload hx hb dL_acts_165 (lv_at hl 5 rfl) ?_
      refine lv_iconst (v := 1) hx hb dL_acts_167 (by decide) ?_
      refine lv_icmp_eq (tgt := 175) hx hb dL_acts_168 (by decide) (fun c36 => ?_) (fun c36 => ?_)
      · replace hw := hw.1 c36
        refine lv_iload hx hb dL_acts_175 (lv_at hl 2 rfl) ?_
        refine lv_iload hx hb dL_acts_177 (lv_at hl 3 rfl) ?_
        refine lv_icmp_ge (tgt := 186) hx hb dL_acts_179 (by decide) (fun c37 => ?_) (fun c37 => ?_)
        · replace hw := hw.1 c37
          refine lv_iconst (v := 0) hx hb dL_acts_186 (by decide) ?_
          exact b_L_acts_187 l hst C0 _ _ _ _ _ _ _ _ _ _ _ hw Z (lv_sub hl [9, 4, 3, 2, 1, 0] rfl)
        · replace hw := hw.2 c37
          refine lv_iconst (v := 2) hx hb dL_acts_182 (by decide) ?_
          refine lv_goto (tgt := 187) hx hb dL_acts_183 (by decide) ?_
          exact b_L_acts_187 l hst C0 _ _ _ _ _ _ _ _ _ _ _ hw Z (lv_sub hl [9, 4, 3, 2, 1, 0] rfl)
      · replace hw := hw.2 c36
        refine lv_iconst (v := 1) hx hb dL_acts_171 (by decide) ?_
        refine lv_goto (tgt := 187) hx hb dL_acts_172 (by decide) ?_
        exact b_L_acts_187 l hst C0 _ _ _ _ _ _ _ _ _ _ _ hw Z (lv_sub hl [9, 4, 3, 2, 1, 0] rfl)
    replace hw := hw.2
    by_cases c38 : r17 = 2
    · refine lv_tableIn (tgt := 227) (off := 130) hx hb dL_acts_97 (by rw [c38]; decide) (by rw [c38]; decide) (by rw [c38]; rfl) (by decide) ?_
      replace hw := hw.1 c38
      refine lv_aload_n hx hb dL_acts_227 rfl (lv_at hl 7 rfl) ?_
      refine z_get C0 Z in_L rfl 0 (by decide) rfl tm_1_181 (cx_lt C0 (by decide)) rfl rfl dL_acts_228 ?_
      refine lv_iload hx hb dL_acts_231 (lv_at hl 2 rfl) ?_
      refine lv_iconst (v := 1) hx hb dL_acts_233 (by decide) ?_
      refine z_callH C0 Z hl.1 (As := [.ref (gad G 0), .int r11, .int 1]) (rest := []) (k_L_owner l (cx_g C0) hw) (gv_L_owner tm_2_147) ds_L_owner ⟨Nat.le_of_ble_eq_true rfl, Nat.le_of_ble_eq_true rfl⟩ rfl rfl (Nat.le_of_ble_eq_true rfl) ⟨Nat.le_of_ble_eq_true rfl, Nat.le_of_ble_eq_true rfl⟩ dL_acts_234 (fun r40 v39 H locs hw Z => ?_)
      refine lv_istore (lv' := [(8, .int r40), (7, .int r15), (6, .int r13), (5, .int r11), (4, .int r9), (3, .int r7), (2, .int r5), (1, .int r2), (0, .ref (gad G 7))]) hx hb dL_acts_237 hl (by decide) rfl (fun ls hl => ?_)
      refine lv_aload_n hx hb dL_acts_239 rfl (lv_at hl 8 rfl) ?_
      refine z_get C0 Z in_L rfl 0 (by decide) rfl tm_1_181 (cx_lt C0 (by decide)) rfl rfl dL_acts_240 ?_
      refine lv_iload_n hx hb dL_acts_243 rfl (lv_at hl 6 rfl) ?_
      refine z_callH C0 Z hl.1 (As := [.ref (gad G 0), .int r5]) (rest := []) (k_L_leave l hst (cx_g C0) hw) (gv_L_leave tm_3_21) ds_L_leave ⟨Nat.le_of_ble_eq_true rfl, Nat.le_of_ble_eq_true rfl⟩ rfl rfl (Nat.le_of_ble_eq_true rfl) ⟨Nat.le_of_ble_eq_true rfl, Nat.le_of_ble_eq_true rfl⟩ dL_acts_244 (fun r42 v41 H locs hw Z => ?_)
      refine lv_istore (lv' := [(9, .int r42), (8, .int r40), (7, .int r15), (6, .int r13), (5, .int r11), (4, .int r9), (3, .int r7), (2, .int r5), (1, .int r2), (0, .ref (gad G 7))]) hx hb dL_acts_247 hl (by decide) rfl (fun ls hl => ?_)
      refine lv_iload hx hb dL_acts_249 (lv_at hl 0 rfl) ?_
      refine lv_iload hx hb dL_acts_251 (lv_at hl 5 rfl) ?_
      refine lv_iconst (v := 2) hx hb dL_acts_253 (by decide) ?_
      refine lv_icmp_ne (tgt := 261) hx hb dL_acts_254 (by decide) (fun c43 => ?_) (fun c43 => ?_)
      · replace hw := hw.1 c43
        refine lv_iconst (v := 1) hx hb dL_acts_261 (by decide) ?_
        exact b_L_acts_262 l hst C0 _ _ _ _ _ _ _ _ _ _ _ hw Z (lv_sub hl [9, 7, 4, 2, 1, 0] rfl)
      · replace hw := hw.2 c43
        refine lv_iconst (v := 0) hx hb dL_acts_257 (by decide) ?_
        refine lv_goto (tgt := 262) hx hb dL_acts_258 (by decide) ?_
        exact b_L_acts_262 l hst C0 _ _ _ _ _ _ _ _ _ _ _ hw Z (lv_sub hl [9, 7, 4, 2, 1, 0] rfl)
    replace hw := hw.2
    by_cases c56 : r17 = 3
    · refine lv_tableIn (tgt := 318) (off := 221) hx hb dL_acts_97 (by rw [c56]; decide) (by rw [c56]; decide) (by rw [c56]; rfl) (by decide) ?_
      replace hw := hw.1 c56
      refine lv_aload_n hx hb dL_acts_318 rfl (lv_at hl 7 rfl) ?_
      refine z_get C0 Z in_L rfl 0 (by decide) rfl tm_1_181 (cx_lt C0 (by decide)) rfl rfl dL_acts_319 ?_
      refine lv_iload hx hb dL_acts_322 (lv_at hl 2 rfl) ?_
      refine lv_iconst (v := 3) hx hb dL_acts_324 (by decide) ?_
      refine z_callH C0 Z hl.1 (As := [.ref (gad G 0), .int r11, .int 3]) (rest := []) (k_L_owner l (cx_g C0) hw) (gv_L_owner tm_2_147) ds_L_owner ⟨Nat.le_of_ble_eq_true rfl, Nat.le_of_ble_eq_true rfl⟩ rfl rfl (Nat.le_of_ble_eq_true rfl) ⟨Nat.le_of_ble_eq_true rfl, Nat.le_of_ble_eq_true rfl⟩ dL_acts_325 (fun r58 v57 H locs hw Z => ?_)
      refine lv_istore (lv' := [(8, .int r58), (7, .int r15), (6, .int r13), (5, .int r11), (4, .int r9), (3, .int r7), (2, .int r5), (1, .int r2), (0, .ref (gad G 7))]) hx hb dL_acts_328 hl (by decide) rfl (fun ls hl => ?_)
      refine lv_aload_n hx hb dL_acts_330 rfl (lv_at hl 8 rfl) ?_
      refine z_get C0 Z in_L rfl 0 (by decide) rfl tm_1_181 (cx_lt C0 (by decide)) rfl rfl dL_acts_331 ?_
      refine lv_iload_n hx hb dL_acts_334 rfl (lv_at hl 6 rfl) ?_
      refine z_callH C0 Z hl.1 (As := [.ref (gad G 0), .int r5]) (rest := []) (k_L_cancel l (cx_g C0) hw) (gv_L_cancel tm_3_47) ds_L_cancel ⟨Nat.le_of_ble_eq_true rfl, Nat.le_of_ble_eq_true rfl⟩ rfl rfl (Nat.le_of_ble_eq_true rfl) ⟨Nat.le_of_ble_eq_true rfl, Nat.le_of_ble_eq_true rfl⟩ dL_acts_335 (fun r60 v59 H locs hw Z => ?_)
      refine lv_istore (lv' := [(9, .int r60), (8, .int r58), (7, .int r15), (6, .int r13), (5, .int r11), (4, .int r9), (3, .int r7), (2, .int r5), (1, .int r2), (0, .ref (gad G 7))]) hx hb dL_acts_338 hl (by decide) rfl (fun ls hl => ?_)
      refine lv_iload hx hb dL_acts_340 (lv_at hl 0 rfl) ?_
      refine lv_iload hx hb dL_acts_342 (lv_at hl 5 rfl) ?_
      refine lv_iconst (v := 2) hx hb dL_acts_344 (by decide) ?_
      refine lv_icmp_ge (tgt := 352) hx hb dL_acts_345 (by decide) (fun c61 => ?_) (fun c61 => ?_)
      · replace hw := hw.1 c61
        refine lv_iconst (v := 1) hx hb dL_acts_352 (by decide) ?_
        exact b_L_acts_353 l hst C0 _ _ _ _ _ _ _ _ _ _ _ _ _ hw Z (lv_sub hl [9, 7, 5, 4, 3, 2, 1, 0] rfl)
      · replace hw := hw.2 c61
        refine lv_iconst (v := 0) hx hb dL_acts_348 (by decide) ?_
        refine lv_goto (tgt := 353) hx hb dL_acts_349 (by decide) ?_
        exact b_L_acts_353 l hst C0 _ _ _ _ _ _ _ _ _ _ _ _ _ hw Z (lv_sub hl [9, 7, 5, 4, 3, 2, 1, 0] rfl)
    replace hw := hw.2
    by_cases c78 : r17 = 4
    · refine lv_tableIn (tgt := 431) (off := 334) hx hb dL_acts_97 (by rw [c78]; decide) (by rw [c78]; decide) (by rw [c78]; rfl) (by decide) ?_
      replace hw := hw.1 c78
      refine lv_aload_n hx hb dL_acts_431 rfl (lv_at hl 7 rfl) ?_
      refine z_get C0 Z in_L rfl 0 (by decide) rfl tm_1_181 (cx_lt C0 (by decide)) rfl rfl dL_acts_432 ?_
      refine lv_iload_n hx hb dL_acts_435 rfl (lv_at hl 5 rfl) ?_
      refine lv_bipush (v := 9) hx hb dL_acts_436 (by decide) ?_
      refine z_callH C0 Z hl.1 (As := [.ref (gad G 0), .int r5, .int 9]) (rest := []) (k_L_booking l (cx_g C0) hw) (gv_L_booking tm_2_238) ds_L_booking ⟨Nat.le_of_ble_eq_true rfl, Nat.le_of_ble_eq_true rfl⟩ rfl rfl (Nat.le_of_ble_eq_true rfl) ⟨Nat.le_of_ble_eq_true rfl, Nat.le_of_ble_eq_true rfl⟩ dL_acts_438 (fun r80 v79 H locs hw Z => ?_)
      refine lv_istore (lv' := [(8, .int r80), (7, .int r15), (6, .int r13), (5, .int r11), (4, .int r9), (3, .int r7), (2, .int r5), (1, .int r2), (0, .ref (gad G 7))]) hx hb dL_acts_441 hl (by decide) rfl (fun ls hl => ?_)
      refine lv_iconst (v := 1) hx hb dL_acts_443 (by decide) ?_
      refine lv_aload_n hx hb dL_acts_444 rfl (lv_at hl 8 rfl) ?_
      refine lv_bipush (v := 9) hx hb dL_acts_445 (by decide) ?_
      refine z_callVi C0 Z hl.1 (As := [.int 9]) (rest := [.int 1]) (k_L_draw l (cx_g C0) hw) (gv_L_draw tm_1_204) rfl ds_L_draw ⟨Nat.le_of_ble_eq_true rfl, Nat.le_of_ble_eq_true rfl⟩ (ci := 4) rfl (cx_lt C0 (by decide)) rfl rfl rfl (Nat.le_of_ble_eq_true rfl) ⟨Nat.le_of_ble_eq_true rfl, Nat.le_of_ble_eq_true rfl⟩ dL_acts_447 (fun r82 v81 H locs hw Z => ?_)
      refine lv_iadd hx hb dL_acts_450 ?_
      refine lv_istore (lv' := [(9, .int (1 + r82)), (8, .int r80), (7, .int r15), (6, .int r13), (5, .int r11), (4, .int r9), (3, .int r7), (2, .int r5), (1, .int r2), (0, .ref (gad G 7))]) hx hb dL_acts_451 hl (by decide) rfl (fun ls hl => ?_)
      refine lv_aload_n hx hb dL_acts_453 rfl (lv_at hl 9 rfl) ?_
      refine z_get C0 Z in_L rfl 0 (by decide) rfl tm_1_181 (cx_lt C0 (by decide)) rfl rfl dL_acts_454 ?_
      refine lv_iload_n hx hb dL_acts_457 rfl (lv_at hl 7 rfl) ?_
      refine lv_iload hx hb dL_acts_458 (lv_at hl 0 rfl) ?_
      refine z_callH C0 Z hl.1 (As := [.ref (gad G 0), .int r5, .int (1 + r82)]) (rest := []) (k_L_extend l (cx_g C0) hw) (gv_L_extend tm_3_54) ds_L_extend ⟨Nat.le_of_ble_eq_true rfl, Nat.le_of_ble_eq_true rfl⟩ rfl rfl (Nat.le_of_ble_eq_true rfl) ⟨Nat.le_of_ble_eq_true rfl, Nat.le_of_ble_eq_true rfl⟩ dL_acts_460 (fun r84 v83 H locs hw Z => ?_)
      refine lv_istore (lv' := [(10, .int r84), (9, .int (1 + r82)), (8, .int r80), (7, .int r15), (6, .int r13), (5, .int r11), (4, .int r9), (3, .int r7), (2, .int r5), (1, .int r2), (0, .ref (gad G 7))]) hx hb dL_acts_463 hl (by decide) rfl (fun ls hl => ?_)
      refine lv_iload hx hb dL_acts_465 (lv_at hl 6 rfl) ?_
      refine lv_iconst (v := 1) hx hb dL_acts_467 (by decide) ?_
      refine lv_icmp_eq (tgt := 489) hx hb dL_acts_468 (by decide) (fun c85 => ?_) (fun c85 => ?_)
      · replace hw := hw.1 c85
        exact b_L_acts_489 l hst C0 _ _ _ _ _ _ _ _ hw Z (lv_sub hl [10, 8, 2, 1, 0] rfl)
      · replace hw := hw.2 c85
        refine lv_iload hx hb dL_acts_471 (lv_at hl 6 rfl) ?_
        refine lv_iconst (v := 2) hx hb dL_acts_473 (by decide) ?_
        refine lv_icmp_eq (tgt := 489) hx hb dL_acts_474 (by decide) (fun c93 => ?_) (fun c93 => ?_)
        · replace hw := hw.1 c93
          exact b_L_acts_489 l hst C0 _ _ _ _ _ _ _ _ hw Z (lv_sub hl [10, 8, 2, 1, 0] rfl)
        · replace hw := hw.2 c93
          refine lv_iload hx hb dL_acts_477 (lv_at hl 0 rfl) ?_
          refine lv_iconst (v := 1) hx hb dL_acts_479 (by decide) ?_
          refine lv_icmp_ne (tgt := 487) hx hb dL_acts_480 (by decide) (fun c94 => ?_) (fun c94 => ?_)
          · replace hw := hw.1 c94
            refine lv_iconst (v := 0) hx hb dL_acts_487 (by decide) ?_
            exact b_L_acts_488 l hst C0 _ _ _ _ _ hw Z (lv_sub hl [] rfl)
          · replace hw := hw.2 c94
            refine lv_iconst (v := 1) hx hb dL_acts_483 (by decide) ?_
            refine lv_goto (tgt := 488) hx hb dL_acts_484 (by decide) ?_
            exact b_L_acts_488 l hst C0 _ _ _ _ _ hw Z (lv_sub hl [] rfl)
    replace hw := hw.2
    by_cases c96 : r17 = 5
    · refine lv_tableIn (tgt := 534) (off := 437) hx hb dL_acts_97 (by rw [c96]; decide) (by rw [c96]; decide) (by rw [c96]; rfl) (by decide) ?_
      replace hw := hw.1 c96
      refine lv_aload_n hx hb dL_acts_534 rfl (lv_at hl 7 rfl) ?_
      refine z_get C0 Z in_L rfl 0 (by decide) rfl tm_1_181 (cx_lt C0 (by decide)) rfl rfl dL_acts_535 ?_
      refine lv_iload hx hb dL_acts_538 (lv_at hl 2 rfl) ?_
      refine lv_iconst (v := 4) hx hb dL_acts_540 (by decide) ?_
      refine z_callH C0 Z hl.1 (As := [.ref (gad G 0), .int r11, .int 4]) (rest := []) (k_L_owner l (cx_g C0) hw) (gv_L_owner tm_2_147) ds_L_owner ⟨Nat.le_of_ble_eq_true rfl, Nat.le_of_ble_eq_true rfl⟩ rfl rfl (Nat.le_of_ble_eq_true rfl) ⟨Nat.le_of_ble_eq_true rfl, Nat.le_of_ble_eq_true rfl⟩ dL_acts_541 (fun r98 v97 H locs hw Z => ?_)
      refine lv_istore (lv' := [(8, .int r98), (7, .int r15), (6, .int r13), (5, .int r11), (4, .int r9), (3, .int r7), (2, .int r5), (1, .int r2), (0, .ref (gad G 7))]) hx hb dL_acts_544 hl (by decide) rfl (fun ls hl => ?_)
      refine lv_aload_n hx hb dL_acts_546 rfl (lv_at hl 8 rfl) ?_
      refine z_get C0 Z in_L rfl 0 (by decide) rfl tm_1_181 (cx_lt C0 (by decide)) rfl rfl dL_acts_547 ?_
      refine lv_iload_n hx hb dL_acts_550 rfl (lv_at hl 6 rfl) ?_
      refine z_callH C0 Z hl.1 (As := [.ref (gad G 0), .int r5]) (rest := []) (k_L_evict l (cx_g C0) hw) (gv_L_evict tm_3_65) ds_L_evict ⟨Nat.le_of_ble_eq_true rfl, Nat.le_of_ble_eq_true rfl⟩ rfl rfl (Nat.le_of_ble_eq_true rfl) ⟨Nat.le_of_ble_eq_true rfl, Nat.le_of_ble_eq_true rfl⟩ dL_acts_551 (fun r100 v99 H locs hw Z => ?_)
      refine lv_istore (lv' := [(9, .int r100), (8, .int r98), (7, .int r15), (6, .int r13), (5, .int r11), (4, .int r9), (3, .int r7), (2, .int r5), (1, .int r2), (0, .ref (gad G 7))]) hx hb dL_acts_554 hl (by decide) rfl (fun ls hl => ?_)
      refine lv_iload hx hb dL_acts_556 (lv_at hl 0 rfl) ?_
      refine lv_iload hx hb dL_acts_558 (lv_at hl 5 rfl) ?_
      refine lv_iconst (v := 1) hx hb dL_acts_560 (by decide) ?_
      refine lv_icmp_ne (tgt := 568) hx hb dL_acts_561 (by decide) (fun c101 => ?_) (fun c101 => ?_)
      · replace hw := hw.1 c101
        refine lv_iconst (v := 1) hx hb dL_acts_568 (by decide) ?_
        exact b_L_acts_569 l hst C0 _ _ _ _ _ _ _ _ _ hw Z (lv_sub hl [9, 4, 1, 0] rfl)
      · replace hw := hw.2 c101
        refine lv_iconst (v := 0) hx hb dL_acts_564 (by decide) ?_
        refine lv_goto (tgt := 569) hx hb dL_acts_565 (by decide) ?_
        exact b_L_acts_569 l hst C0 _ _ _ _ _ _ _ _ _ hw Z (lv_sub hl [9, 4, 1, 0] rfl)
    replace hw := hw.2
    by_cases c111 : r17 = 6
    · refine lv_tableIn (tgt := 610) (off := 513) hx hb dL_acts_97 (by rw [c111]; decide) (by rw [c111]; decide) (by rw [c111]; rfl) (by decide) ?_
      replace hw := hw.1 c111
      refine lv_aload_n hx hb dL_acts_610 rfl (lv_at hl 7 rfl) ?_
      refine z_get C0 Z in_L rfl 0 (by decide) rfl tm_1_181 (cx_lt C0 (by decide)) rfl rfl dL_acts_611 ?_
      refine lv_iload_n hx hb dL_acts_614 rfl (lv_at hl 5 rfl) ?_
      refine lv_iload_n hx hb dL_acts_615 rfl (lv_at hl 4 rfl) ?_
      refine z_callH C0 Z hl.1 (As := [.ref (gad G 0), .int r5, .int r7]) (rest := []) (k_L_gain l (cx_g C0) hw) (gv_L_gain tm_3_73) ds_L_gain ⟨Nat.le_of_ble_eq_true rfl, Nat.le_of_ble_eq_true rfl⟩ rfl rfl (Nat.le_of_ble_eq_true rfl) ⟨Nat.le_of_ble_eq_true rfl, Nat.le_of_ble_eq_true rfl⟩ dL_acts_616 (fun r113 v112 H locs hw Z => ?_)
      refine lv_istore (lv' := [(8, .int r113), (7, .int r15), (6, .int r13), (5, .int r11), (4, .int r9), (3, .int r7), (2, .int r5), (1, .int r2), (0, .ref (gad G 7))]) hx hb dL_acts_619 hl (by decide) rfl (fun ls hl => ?_)
      refine lv_aload_n hx hb dL_acts_621 rfl (lv_at hl 8 rfl) ?_
      refine z_get C0 Z in_L rfl 0 (by decide) rfl tm_1_181 (cx_lt C0 (by decide)) rfl rfl dL_acts_622 ?_
      refine lv_iload_n hx hb dL_acts_625 rfl (lv_at hl 6 rfl) ?_
      refine lv_bipush (v := 10) hx hb dL_acts_626 (by decide) ?_
      refine z_callH C0 Z hl.1 (As := [.ref (gad G 0), .int r5, .int 10]) (rest := []) (k_L_booking l (cx_g C0) hw) (gv_L_booking tm_2_238) ds_L_booking ⟨Nat.le_of_ble_eq_true rfl, Nat.le_of_ble_eq_true rfl⟩ rfl rfl (Nat.le_of_ble_eq_true rfl) ⟨Nat.le_of_ble_eq_true rfl, Nat.le_of_ble_eq_true rfl⟩ dL_acts_628 (fun r115 v114 H locs hw Z => ?_)
      refine lv_istore (lv' := [(9, .int r115), (8, .int r113), (7, .int r15), (6, .int r13), (5, .int r11), (4, .int r9), (3, .int r7), (2, .int r5), (1, .int r2), (0, .ref (gad G 7))]) hx hb dL_acts_631 hl (by decide) rfl (fun ls hl => ?_)
      refine lv_aload_n hx hb dL_acts_633 rfl (lv_at hl 9 rfl) ?_
      refine z_get C0 Z in_L rfl 0 (by decide) rfl tm_1_181 (cx_lt C0 (by decide)) rfl rfl dL_acts_634 ?_
      refine lv_iload_n hx hb dL_acts_637 rfl (lv_at hl 6 rfl) ?_
      refine lv_bipush (v := 10) hx hb dL_acts_638 (by decide) ?_
      refine z_callH C0 Z hl.1 (As := [.ref (gad G 0), .int r7, .int 10]) (rest := []) (k_L_booking l (cx_g C0) hw) (gv_L_booking tm_2_238) ds_L_booking ⟨Nat.le_of_ble_eq_true rfl, Nat.le_of_ble_eq_true rfl⟩ rfl rfl (Nat.le_of_ble_eq_true rfl) ⟨Nat.le_of_ble_eq_true rfl, Nat.le_of_ble_eq_true rfl⟩ dL_acts_640 (fun r117 v116 H locs hw Z => ?_)
      refine lv_istore (lv' := [(10, .int r117), (9, .int r115), (8, .int r113), (7, .int r15), (6, .int r13), (5, .int r11), (4, .int r9), (3, .int r7), (2, .int r5), (1, .int r2), (0, .ref (gad G 7))]) hx hb dL_acts_643 hl (by decide) rfl (fun ls hl => ?_)
      refine lv_aload_n hx hb dL_acts_645 rfl (lv_at hl 10 rfl) ?_
      refine z_get C0 Z in_L rfl 0 (by decide) rfl tm_1_181 (cx_lt C0 (by decide)) rfl rfl dL_acts_646 ?_
      refine lv_iconst (v := 4) hx hb dL_acts_649 (by decide) ?_
      refine z_callH C0 Z hl.1 (As := [.ref (gad G 0), .int 4]) (rest := []) (k_L_best l (cx_g C0) hw) (gv_L_best tm_3_95) ds_L_best ⟨Nat.le_of_ble_eq_true rfl, Nat.le_of_ble_eq_true rfl⟩ rfl rfl (Nat.le_of_ble_eq_true rfl) ⟨Nat.le_of_ble_eq_true rfl, Nat.le_of_ble_eq_true rfl⟩ dL_acts_650 (fun r119 v118 H locs hw Z => ?_)
      refine lv_istore (lv' := [(11, .int r119), (10, .int r117), (9, .int r115), (8, .int r113), (7, .int r15), (6, .int r13), (5, .int r11), (4, .int r9), (3, .int r7), (2, .int r5), (1, .int r2), (0, .ref (gad G 7))]) hx hb dL_acts_653 hl (by decide) rfl (fun ls hl => ?_)
      refine lv_aload_n hx hb dL_acts_655 rfl (lv_at hl 11 rfl) ?_
      refine z_get C0 Z in_L rfl 0 (by decide) rfl tm_1_181 (cx_lt C0 (by decide)) rfl rfl dL_acts_656 ?_
      refine lv_bipush (v := 11) hx hb dL_acts_659 (by decide) ?_
      refine z_callH C0 Z hl.1 (As := [.ref (gad G 0), .int 11]) (rest := []) (k_L_count l (cx_g C0) hw) (gv_L_count tm_2_93) ds_L_count ⟨Nat.le_of_ble_eq_true rfl, Nat.le_of_ble_eq_true rfl⟩ rfl rfl (Nat.le_of_ble_eq_true rfl) ⟨Nat.le_of_ble_eq_true rfl, Nat.le_of_ble_eq_true rfl⟩ dL_acts_661 (fun r121 v120 H locs hw Z => ?_)
      refine lv_aload_n hx hb dL_acts_664 rfl (lv_at hl 11 rfl) ?_
      refine z_get C0 Z in_L rfl 0 (by decide) rfl tm_1_181 (cx_lt C0 (by decide)) rfl rfl dL_acts_665 ?_
      refine lv_bipush (v := 12) hx hb dL_acts_668 (by decide) ?_
      refine z_callH C0 Z hl.1 (As := [.ref (gad G 0), .int 12]) (rest := [.int r121]) (k_L_count l (cx_g C0) hw) (gv_L_count tm_2_93) ds_L_count ⟨Nat.le_of_ble_eq_true rfl, Nat.le_of_ble_eq_true rfl⟩ rfl rfl (Nat.le_of_ble_eq_true rfl) ⟨Nat.le_of_ble_eq_true rfl, Nat.le_of_ble_eq_true rfl⟩ dL_acts_670 (fun r123 v122 H locs hw Z => ?_)
      refine lv_iadd hx hb dL_acts_673 ?_
      refine lv_istore (lv' := [(12, .int (r121 + r123)), (11, .int r119), (10, .int r117), (9, .int r115), (8, .int r113), (7, .int r15), (6, .int r13), (5, .int r11), (4, .int r9), (3, .int r7), (2, .int r5), (1, .int r2), (0, .ref (gad G 7))]) hx hb dL_acts_674 hl (by decide) rfl (fun ls hl => ?_)
      refine lv_iload_n hx hb dL_acts_676 rfl (lv_at hl 10 rfl) ?_
      refine lv_iload_n hx hb dL_acts_677 rfl (lv_at hl 9 rfl) ?_
      refine lv_icmp_ne (tgt := 706) hx hb dL_acts_678 (by decide) (fun c124 => ?_) (fun c124 => ?_)
      · replace hw := hw.1 c124
        refine lv_iload hx hb dL_acts_706 (lv_at hl 8 rfl) ?_
        refine lv_if_ne (tgt := 723) hx hb dL_acts_708 (by decide) (fun c125 => ?_) (fun c125 => ?_)
        · replace hw := hw.1 c125
          refine lv_aload_n hx hb dL_acts_723 rfl (lv_at hl 12 rfl) ?_
          refine z_get C0 Z in_L rfl 0 (by decide) rfl tm_1_181 (cx_lt C0 (by decide)) rfl rfl dL_acts_724 ?_
          refine lv_iload_n hx hb dL_acts_727 rfl (lv_at hl 10 rfl) ?_
          refine lv_iload_n hx hb dL_acts_728 rfl (lv_at hl 9 rfl) ?_
          refine z_callH C0 Z hl.1 (As := [.ref (gad G 0), .int r5, .int r7]) (rest := []) (k_L_swap l hst (cx_g C0) hw) (gv_L_swap tm_3_121) ds_L_swap ⟨Nat.le_of_ble_eq_true rfl, Nat.le_of_ble_eq_true rfl⟩ rfl rfl (Nat.le_of_ble_eq_true rfl) ⟨Nat.le_of_ble_eq_true rfl, Nat.le_of_ble_eq_true rfl⟩ dL_acts_729 (fun r127 v126 H locs hw Z => ?_)
          exact b_L_acts_732 l hst C0 _ _ _ _ _ _ _ _ _ _ _ _ _ hw Z (lv_sub hl [12, 10, 9, 8, 4, 3, 2, 1, 0] rfl)
        · replace hw := hw.2 c125
          refine lv_aload_n hx hb dL_acts_711 rfl (lv_at hl 12 rfl) ?_
          refine z_get C0 Z in_L rfl 0 (by decide) rfl tm_1_181 (cx_lt C0 (by decide)) rfl rfl dL_acts_712 ?_
          refine lv_iload_n hx hb dL_acts_715 rfl (lv_at hl 10 rfl) ?_
          refine lv_iload_n hx hb dL_acts_716 rfl (lv_at hl 9 rfl) ?_
          refine z_callH C0 Z hl.1 (As := [.ref (gad G 0), .int r5, .int r7]) (rest := []) (k_L_buy l (cx_g C0) hw) (gv_L_buy tm_3_137) ds_L_buy ⟨Nat.le_of_ble_eq_true rfl, Nat.le_of_ble_eq_true rfl⟩ rfl rfl (Nat.le_of_ble_eq_true rfl) ⟨Nat.le_of_ble_eq_true rfl, Nat.le_of_ble_eq_true rfl⟩ dL_acts_717 (fun r168 v167 H locs hw Z => ?_)
          refine lv_goto (tgt := 732) hx hb dL_acts_720 (by decide) ?_
          refine z_wide (mc := 3) (ms := 18) (by decide) (by decide) ?_
          exact b_L_acts_732 l hst C0 _ _ _ _ _ _ _ _ _ _ _ _ _ hw Z (lv_sub hl [12, 10, 9, 8, 4, 3, 2, 1, 0] rfl)
      · replace hw := hw.2 c124
        refine lv_iload hx hb dL_acts_681 (lv_at hl 4 rfl) ?_
        refine lv_if_ne (tgt := 704) hx hb dL_acts_683 (by decide) (fun c169 => ?_) (fun c169 => ?_)
        · replace hw := hw.1 c169
          refine z_wide (mc := 3) (ms := 18) (by decide) (by decide) ?_
          exact b_L_acts_704 l hst C0 _ _ _ _ hw Z (lv_sub hl [] rfl)
        · replace hw := hw.2 c169
          refine lv_aload_n hx hb dL_acts_686 rfl (lv_at hl 12 rfl) ?_
          refine z_get C0 Z in_L rfl 0 (by decide) rfl tm_1_181 (cx_lt C0 (by decide)) rfl rfl dL_acts_687 ?_
          refine lv_iload_n hx hb dL_acts_690 rfl (lv_at hl 10 rfl) ?_
          refine lv_iload_n hx hb dL_acts_691 rfl (lv_at hl 9 rfl) ?_
          refine z_callH C0 Z hl.1 (As := [.ref (gad G 0), .int r5, .int r7]) (rest := []) (k_L_swap l hst (cx_g C0) hw) (gv_L_swap tm_3_121) ds_L_swap ⟨Nat.le_of_ble_eq_true rfl, Nat.le_of_ble_eq_true rfl⟩ rfl rfl (Nat.le_of_ble_eq_true rfl) ⟨Nat.le_of_ble_eq_true rfl, Nat.le_of_ble_eq_true rfl⟩ dL_acts_692 (fun r172 v171 H locs hw Z => ?_)
          refine lv_bipush (v := (-102)) hx hb dL_acts_695 (by decide) ?_
          refine lv_icmp_ne (tgt := 704) hx hb dL_acts_697 (by decide) (fun c173 => ?_) (fun c173 => ?_)
          · replace hw := hw.1 c173
            exact b_L_acts_704 l hst C0 _ _ _ _ hw Z (lv_sub hl [] rfl)
          · replace hw := hw.2 c173
            refine lv_iconst (v := 1) hx hb dL_acts_700 (by decide) ?_
            refine lv_goto (tgt := 705) hx hb dL_acts_701 (by decide) ?_
            exact b_L_acts_705 l hst C0 _ _ _ _ _ hw Z (lv_sub hl [] rfl)
    replace hw := hw.2
    refine lv_tableOut (tgt := 962) hx hb dL_acts_97 (by have q0 := lv_neT (a := 0) c18 (by decide); have q1 := lv_neT (a := 1) c31 (by decide); have q2 := lv_neT (a := 2) c38 (by decide); have q3 := lv_neT (a := 3) c56 (by decide); have q4 := lv_neT (a := 4) c78 (by decide); have q5 := lv_neT (a := 5) c96 (by decide); have q6 := lv_neT (a := 6) c111 (by decide); omega) (by decide) ?_
    replace hw := hw ⟨c18, c31, c38, c56, c78, c96, c111⟩
    refine lv_aload_n hx hb dL_acts_962 rfl (lv_at hl 7 rfl) ?_
    refine z_get C0 Z in_L rfl 0 (by decide) rfl tm_1_181 (cx_lt C0 (by decide)) rfl rfl dL_acts_963 ?_
    refine lv_iconst (v := 0) hx hb dL_acts_966 (by decide) ?_
    refine z_callH C0 Z hl.1 (As := [.ref (gad G 0), .int 0]) (rest := []) (k_L_best l (cx_g C0) hw) (gv_L_best tm_3_95) ds_L_best ⟨Nat.le_of_ble_eq_true rfl, Nat.le_of_ble_eq_true rfl⟩ rfl rfl (Nat.le_of_ble_eq_true rfl) ⟨Nat.le_of_ble_eq_true rfl, Nat.le_of_ble_eq_true rfl⟩ dL_acts_967 (fun r175 v174 H locs hw Z => ?_)
    refine lv_istore (lv' := [(8, .int r175), (7, .int r15), (6, .int r13), (5, .int r11), (4, .int r9), (3, .int r7), (2, .int r5), (1, .int r2), (0, .ref (gad G 7))]) hx hb dL_acts_970 hl (by decide) rfl (fun ls hl => ?_)
    refine lv_aload_n hx hb dL_acts_972 rfl (lv_at hl 8 rfl) ?_
    refine z_get C0 Z in_L rfl 0 (by decide) rfl tm_1_181 (cx_lt C0 (by decide)) rfl rfl dL_acts_973 ?_
    refine lv_iconst (v := 1) hx hb dL_acts_976 (by decide) ?_
    refine z_callH C0 Z hl.1 (As := [.ref (gad G 0), .int 1]) (rest := []) (k_L_best l (cx_g C0) hw) (gv_L_best tm_3_95) ds_L_best ⟨Nat.le_of_ble_eq_true rfl, Nat.le_of_ble_eq_true rfl⟩ rfl rfl (Nat.le_of_ble_eq_true rfl) ⟨Nat.le_of_ble_eq_true rfl, Nat.le_of_ble_eq_true rfl⟩ dL_acts_977 (fun r177 v176 H locs hw Z => ?_)
    refine lv_istore (lv' := [(9, .int r177), (8, .int r175), (7, .int r15), (6, .int r13), (5, .int r11), (4, .int r9), (3, .int r7), (2, .int r5), (1, .int r2), (0, .ref (gad G 7))]) hx hb dL_acts_980 hl (by decide) rfl (fun ls hl => ?_)
    refine lv_aload_n hx hb dL_acts_982 rfl (lv_at hl 9 rfl) ?_
    refine z_get C0 Z in_L rfl 0 (by decide) rfl tm_1_181 (cx_lt C0 (by decide)) rfl rfl dL_acts_983 ?_
    refine lv_iconst (v := 2) hx hb dL_acts_986 (by decide) ?_
    refine z_callH C0 Z hl.1 (As := [.ref (gad G 0), .int 2]) (rest := []) (k_L_best l (cx_g C0) hw) (gv_L_best tm_3_95) ds_L_best ⟨Nat.le_of_ble_eq_true rfl, Nat.le_of_ble_eq_true rfl⟩ rfl rfl (Nat.le_of_ble_eq_true rfl) ⟨Nat.le_of_ble_eq_true rfl, Nat.le_of_ble_eq_true rfl⟩ dL_acts_987 (fun r179 v178 H locs hw Z => ?_)
    refine lv_istore (lv' := [(10, .int r179), (9, .int r177), (8, .int r175), (7, .int r15), (6, .int r13), (5, .int r11), (4, .int r9), (3, .int r7), (2, .int r5), (1, .int r2), (0, .ref (gad G 7))]) hx hb dL_acts_990 hl (by decide) rfl (fun ls hl => ?_)
    refine lv_aload_n hx hb dL_acts_992 rfl (lv_at hl 10 rfl) ?_
    refine z_get C0 Z in_L rfl 0 (by decide) rfl tm_1_181 (cx_lt C0 (by decide)) rfl rfl dL_acts_993 ?_
    refine lv_iconst (v := 3) hx hb dL_acts_996 (by decide) ?_
    refine z_callH C0 Z hl.1 (As := [.ref (gad G 0), .int 3]) (rest := []) (k_L_best l (cx_g C0) hw) (gv_L_best tm_3_95) ds_L_best ⟨Nat.le_of_ble_eq_true rfl, Nat.le_of_ble_eq_true rfl⟩ rfl rfl (Nat.le_of_ble_eq_true rfl) ⟨Nat.le_of_ble_eq_true rfl, Nat.le_of_ble_eq_true rfl⟩ dL_acts_997 (fun r181 v180 H locs hw Z => ?_)
    refine lv_istore (lv' := [(11, .int r181), (10, .int r179), (9, .int r177), (8, .int r175), (7, .int r15), (6, .int r13), (5, .int r11), (4, .int r9), (3, .int r7), (2, .int r5), (1, .int r2), (0, .ref (gad G 7))]) hx hb dL_acts_1000 hl (by decide) rfl (fun ls hl => ?_)
    refine lv_iload hx hb dL_acts_1002 (lv_at hl 3 rfl) ?_
    refine lv_if_ge (tgt := 1024) hx hb dL_acts_1004 (by decide) (fun c182 => ?_) (fun c182 => ?_)
    · replace hw := hw.1 c182
      refine lv_iload hx hb dL_acts_1024 (lv_at hl 3 rfl) ?_
      refine lv_aload_n hx hb dL_acts_1026 rfl (lv_at hl 11 rfl) ?_
      refine z_get C0 Z in_L rfl 0 (by decide) rfl tm_1_181 (cx_lt C0 (by decide)) rfl rfl dL_acts_1027 ?_
      refine lv_iload hx hb dL_acts_1030 (lv_at hl 1 rfl) ?_
      refine lv_iload hx hb dL_acts_1032 (lv_at hl 0 rfl) ?_
      refine z_callH C0 Z hl.1 (As := [.ref (gad G 0), .int r179, .int r181]) (rest := [.int r175]) (k_L_gain l (cx_g C0) hw) (gv_L_gain tm_3_73) ds_L_gain ⟨Nat.le_of_ble_eq_true rfl, Nat.le_of_ble_eq_true rfl⟩ rfl rfl (Nat.le_of_ble_eq_true rfl) ⟨Nat.le_of_ble_eq_true rfl, Nat.le_of_ble_eq_true rfl⟩ dL_acts_1034 (fun r184 v183 H locs hw Z => ?_)
      refine lv_icmp_ne (tgt := 1087) hx hb dL_acts_1037 (by decide) (fun c185 => ?_) (fun c185 => ?_)
      · replace hw := hw.1 c185
        exact b_L_acts_1087 l hst C0 _ _ _ _ hw Z (lv_sub hl [] rfl)
      · replace hw := hw.2 c185
        refine lv_aload_n hx hb dL_acts_1040 rfl (lv_at hl 11 rfl) ?_
        refine z_get C0 Z in_L rfl 0 (by decide) rfl tm_1_181 (cx_lt C0 (by decide)) rfl rfl dL_acts_1041 ?_
        refine lv_iload_n hx hb dL_acts_1044 rfl (lv_at hl 9 rfl) ?_
        refine lv_iload_n hx hb dL_acts_1045 rfl (lv_at hl 8 rfl) ?_
        refine z_callH C0 Z hl.1 (As := [.ref (gad G 0), .int r5, .int r7]) (rest := []) (k_L_gain l (cx_g C0) hw) (gv_L_gain tm_3_73) ds_L_gain ⟨Nat.le_of_ble_eq_true rfl, Nat.le_of_ble_eq_true rfl⟩ rfl rfl (Nat.le_of_ble_eq_true rfl) ⟨Nat.le_of_ble_eq_true rfl, Nat.le_of_ble_eq_true rfl⟩ dL_acts_1046 (fun r187 v186 H locs hw Z => ?_)
        refine lv_iload hx hb dL_acts_1049 (lv_at hl 3 rfl) ?_
        refine lv_icmp_gt (tgt := 1087) hx hb dL_acts_1051 (by decide) (fun c188 => ?_) (fun c188 => ?_)
        · replace hw := hw.1 c188
          exact b_L_acts_1087 l hst C0 _ _ _ _ hw Z (lv_sub hl [] rfl)
        · replace hw := hw.2 c188
          refine lv_aload_n hx hb dL_acts_1054 rfl (lv_at hl 11 rfl) ?_
          refine z_get C0 Z in_L rfl 0 (by decide) rfl tm_1_181 (cx_lt C0 (by decide)) rfl rfl dL_acts_1055 ?_
          refine lv_iload hx hb dL_acts_1058 (lv_at hl 1 rfl) ?_
          refine lv_bipush (v := 7) hx hb dL_acts_1060 (by decide) ?_
          refine z_callH C0 Z hl.1 (As := [.ref (gad G 0), .int r179, .int 7]) (rest := []) (k_L_booking l (cx_g C0) hw) (gv_L_booking tm_2_238) ds_L_booking ⟨Nat.le_of_ble_eq_true rfl, Nat.le_of_ble_eq_true rfl⟩ rfl rfl (Nat.le_of_ble_eq_true rfl) ⟨Nat.le_of_ble_eq_true rfl, Nat.le_of_ble_eq_true rfl⟩ dL_acts_1062 (fun r190 v189 H locs hw Z => ?_)
          refine lv_iconst (v := 1) hx hb dL_acts_1065 (by decide) ?_
          refine lv_iload hx hb dL_acts_1066 (lv_at hl 2 rfl) ?_
          refine lv_isub hx hb dL_acts_1068 ?_
          refine lv_icmp_ne (tgt := 1087) hx hb dL_acts_1069 (by decide) (fun c191 => ?_) (fun c191 => ?_)
          · replace hw := hw.1 c191
            exact b_L_acts_1087 l hst C0 _ _ _ _ hw Z (lv_sub hl [] rfl)
          · replace hw := hw.2 c191
            refine lv_aload_n hx hb dL_acts_1072 rfl (lv_at hl 11 rfl) ?_
            refine z_get C0 Z in_L rfl 0 (by decide) rfl tm_1_181 (cx_lt C0 (by decide)) rfl rfl dL_acts_1073 ?_
            refine lv_iload hx hb dL_acts_1076 (lv_at hl 0 rfl) ?_
            refine lv_bipush (v := 7) hx hb dL_acts_1078 (by decide) ?_
            refine z_callH C0 Z hl.1 (As := [.ref (gad G 0), .int r181, .int 7]) (rest := []) (k_L_booking l (cx_g C0) hw) (gv_L_booking tm_2_238) ds_L_booking ⟨Nat.le_of_ble_eq_true rfl, Nat.le_of_ble_eq_true rfl⟩ rfl rfl (Nat.le_of_ble_eq_true rfl) ⟨Nat.le_of_ble_eq_true rfl, Nat.le_of_ble_eq_true rfl⟩ dL_acts_1080 (fun r193 v192 H locs hw Z => ?_)
            refine lv_iconst (v := 1) hx hb dL_acts_1083 (by decide) ?_
            refine lv_icmp_eq (tgt := 1089) hx hb dL_acts_1084 (by decide) (fun c194 => ?_) (fun c194 => ?_)
            · replace hw := hw.1 c194
              refine lv_aload_n hx hb dL_acts_1089 rfl (lv_at hl 11 rfl) ?_
              refine z_get C0 Z in_L rfl 0 (by decide) rfl tm_1_181 (cx_lt C0 (by decide)) rfl rfl dL_acts_1090 ?_
              refine z_callVi C0 Z hl.1 (As := []) (rest := []) (k_X3_bargain l (cx_g C0) hw) (gv_X3_bargain tm_3_150) rfl ds_X3_bargain ⟨Nat.le_of_ble_eq_true rfl, Nat.le_of_ble_eq_true rfl⟩ (ci := 3) rfl (cx_lt C0 (by decide)) rfl rfl rfl (Nat.le_of_ble_eq_true rfl) ⟨Nat.le_of_ble_eq_true rfl, Nat.le_of_ble_eq_true rfl⟩ dL_acts_1093 (fun r196 v195 H locs hw Z => ?_)
              refine lv_if_ne (tgt := 1110) hx hb dL_acts_1096 (by decide) (fun c197 => ?_) (fun c197 => ?_)
              · replace hw := hw.1 c197
                exact b_L_acts_1110 l hst C0 _ _ _ _ hw Z (lv_sub hl [] rfl)
              · replace hw := hw.2 c197
                refine lv_aload_n hx hb dL_acts_1099 rfl (lv_at hl 11 rfl) ?_
                refine z_callVi C0 Z hl.1 (As := []) (rest := []) (k_L_nobodyCould l (cx_g C0) hw) (gv_L_nobodyCould tm_3_43) rfl ds_L_nobodyCould ⟨Nat.le_of_ble_eq_true rfl, Nat.le_of_ble_eq_true rfl⟩ (ci := 4) rfl (cx_lt C0 (by decide)) rfl rfl rfl (Nat.le_of_ble_eq_true rfl) ⟨Nat.le_of_ble_eq_true rfl, Nat.le_of_ble_eq_true rfl⟩ dL_acts_1100 (fun r200 v199 H locs hw Z => ?_)
                refine lv_if_eq (tgt := 1110) hx hb dL_acts_1103 (by decide) (fun c201 => ?_) (fun c201 => ?_)
                · replace hw := hw.1 c201
                  exact b_L_acts_1110 l hst C0 _ _ _ _ hw Z (lv_sub hl [] rfl)
                · replace hw := hw.2 c201
                  refine lv_iconst (v := 1) hx hb dL_acts_1106 (by decide) ?_
                  refine lv_goto (tgt := 1111) hx hb dL_acts_1107 (by decide) ?_
                  exact b_L_acts_1111 l hst C0 _ _ _ _ _ hw Z (lv_sub hl [] rfl)
            · replace hw := hw.2 c194
              exact b_L_acts_1087 l hst C0 _ _ _ _ hw Z (lv_sub hl [] rfl)
    · replace hw := hw.2 c182
      refine lv_aload_n hx hb dL_acts_1007 rfl (lv_at hl 11 rfl) ?_
      refine z_get C0 Z in_L rfl 0 (by decide) rfl tm_1_181 (cx_lt C0 (by decide)) rfl rfl dL_acts_1008 ?_
      refine z_callVi C0 Z hl.1 (As := []) (rest := []) (k_X3_bargain l (cx_g C0) hw) (gv_X3_bargain tm_3_150) rfl ds_X3_bargain ⟨Nat.le_of_ble_eq_true rfl, Nat.le_of_ble_eq_true rfl⟩ (ci := 3) rfl (cx_lt C0 (by decide)) rfl rfl rfl (Nat.le_of_ble_eq_true rfl) ⟨Nat.le_of_ble_eq_true rfl, Nat.le_of_ble_eq_true rfl⟩ dL_acts_1011 (fun r203 v202 H locs hw Z => ?_)
      refine lv_iconst (v := 5) hx hb dL_acts_1014 (by decide) ?_
      refine lv_icmp_ne (tgt := 1022) hx hb dL_acts_1015 (by decide) (fun c204 => ?_) (fun c204 => ?_)
      · replace hw := hw.1 c204
        refine lv_iconst (v := 0) hx hb dL_acts_1022 (by decide) ?_
        exact b_L_acts_1023 l hst C0 _ _ _ _ _ hw Z (lv_sub hl [] rfl)
      · replace hw := hw.2 c204
        refine lv_iconst (v := 1) hx hb dL_acts_1018 (by decide) ?_
        refine lv_goto (tgt := 1023) hx hb dL_acts_1019 (by decide) ?_
        exact b_L_acts_1023 l hst C0 _ _ _ _ _ hw Z (lv_sub hl [] rfl)
  · replace hw := hw.2 c3
    refine lv_aload_n hx hb dL_acts_14 rfl (lv_at hl 1 rfl) ?_
    refine z_get C0 Z in_L rfl 0 (by decide) rfl tm_1_181 (cx_lt C0 (by decide)) rfl rfl dL_acts_15 ?_
    refine lv_iconst (v := 0) hx hb dL_acts_18 (by decide) ?_
    refine z_callH C0 Z hl.1 (As := [.ref (gad G 0), .int 0]) (rest := []) (k_L_leave l hst (cx_g C0) hw) (gv_L_leave tm_3_21) ds_L_leave ⟨Nat.le_of_ble_eq_true rfl, Nat.le_of_ble_eq_true rfl⟩ rfl rfl (Nat.le_of_ble_eq_true rfl) ⟨Nat.le_of_ble_eq_true rfl, Nat.le_of_ble_eq_true rfl⟩ dL_acts_19 (fun r207 v206 H locs hw Z => ?_)
    refine lv_bipush (v := (-101)) hx hb dL_acts_22 (by decide) ?_
    refine lv_icmp_ne (tgt := 31) hx hb dL_acts_24 (by decide) (fun c208 => ?_) (fun c208 => ?_)
    · replace hw := hw.1 c208
      refine lv_iconst (v := 0) hx hb dL_acts_31 (by decide) ?_
      exact b_L_acts_32 l hst C0 _ _ _ _ _ hw Z (lv_sub hl [] rfl)
    · replace hw := hw.2 c208
      refine lv_iconst (v := 1) hx hb dL_acts_27 (by decide) ?_
      refine lv_goto (tgt := 32) hx hb dL_acts_28 (by decide) ?_
      exact b_L_acts_32 l hst C0 _ _ _ _ _ hw Z (lv_sub hl [] rfl)
