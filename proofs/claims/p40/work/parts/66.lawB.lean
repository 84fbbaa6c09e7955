-- L_books: room (9, 161) cells (5, 30)
theorem dL_books_0 : decode cL_books 0 = .ok (.aload_n 0, 1) := by decide +kernel
theorem dL_books_1 : decode cL_books 1 = .ok (.getfield 10, 3) := by decide +kernel
theorem dL_books_4 : decode cL_books 4 = .ok (.bipush 6, 2) := by decide +kernel
theorem dL_books_6 : decode cL_books 6 = .ok (.invokestatic 154, 3) := by decide +kernel
theorem dL_books_9 : decode cL_books 9 = .ok (.istore_n 1, 1) := by decide +kernel
theorem dL_books_10 : decode cL_books 10 = .ok (.aload_n 0, 1) := by decide +kernel
theorem dL_books_11 : decode cL_books 11 = .ok (.aload_n 0, 1) := by decide +kernel
theorem dL_books_12 : decode cL_books 12 = .ok (.getfield 10, 3) := by decide +kernel
theorem dL_books_15 : decode cL_books 15 = .ok (.iconst 5, 1) := by decide +kernel
theorem dL_books_16 : decode cL_books 16 = .ok (.invokestatic 154, 3) := by decide +kernel
theorem dL_books_19 : decode cL_books 19 = .ok (.invokevirtual 142, 3) := by decide +kernel
theorem dL_books_22 : decode cL_books 22 = .ok (.istore_n 2, 1) := by decide +kernel
theorem dL_books_23 : decode cL_books 23 = .ok (.aload_n 0, 1) := by decide +kernel
theorem dL_books_24 : decode cL_books 24 = .ok (.bipush 32, 2) := by decide +kernel
theorem dL_books_26 : decode cL_books 26 = .ok (.invokevirtual 142, 3) := by decide +kernel
theorem dL_books_29 : decode cL_books 29 = .ok (.istore_n 3, 1) := by decide +kernel
theorem dL_books_30 : decode cL_books 30 = .ok (.iconst 1, 1) := by decide +kernel
theorem dL_books_31 : decode cL_books 31 = .ok (.aload_n 0, 1) := by decide +kernel
theorem dL_books_32 : decode cL_books 32 = .ok (.aload_n 0, 1) := by decide +kernel
theorem dL_books_33 : decode cL_books 33 = .ok (.iconst 3, 1) := by decide +kernel
theorem dL_books_34 : decode cL_books 34 = .ok (.invokevirtual 142, 3) := by decide +kernel
theorem dL_books_37 : decode cL_books 37 = .ok (.ifCond .ne 10, 3) := by decide +kernel
theorem dL_books_40 : decode cL_books 40 = .ok (.bipush 32, 2) := by decide +kernel
theorem dL_books_42 : decode cL_books 42 = .ok (.iload_n 3, 1) := by decide +kernel
theorem dL_books_43 : decode cL_books 43 = .ok (.isub, 1) := by decide +kernel
theorem dL_books_44 : decode cL_books 44 = .ok (.goto 12, 3) := by decide +kernel
theorem dL_books_47 : decode cL_books 47 = .ok (.bipush 6, 2) := by decide +kernel
theorem dL_books_49 : decode cL_books 49 = .ok (.bipush 32, 2) := by decide +kernel
theorem dL_books_51 : decode cL_books 51 = .ok (.iload_n 3, 1) := by decide +kernel
theorem dL_books_52 : decode cL_books 52 = .ok (.isub, 1) := by decide +kernel
theorem dL_books_53 : decode cL_books 53 = .ok (.invokestatic 156, 3) := by decide +kernel
theorem dL_books_56 : decode cL_books 56 = .ok (.invokevirtual 142, 3) := by decide +kernel
theorem dL_books_59 : decode cL_books 59 = .ok (.iadd, 1) := by decide +kernel
theorem dL_books_60 : decode cL_books 60 = .ok (.istore 4, 2) := by decide +kernel
theorem dL_books_62 : decode cL_books 62 = .ok (.iconst 1, 1) := by decide +kernel
theorem dL_books_63 : decode cL_books 63 = .ok (.aload_n 0, 1) := by decide +kernel
theorem dL_books_64 : decode cL_books 64 = .ok (.bipush 9, 2) := by decide +kernel
theorem dL_books_66 : decode cL_books 66 = .ok (.invokevirtual 142, 3) := by decide +kernel
theorem dL_books_69 : decode cL_books 69 = .ok (.iadd, 1) := by decide +kernel
theorem dL_books_70 : decode cL_books 70 = .ok (.istore 5, 2) := by decide +kernel
theorem dL_books_72 : decode cL_books 72 = .ok (.aload_n 0, 1) := by decide +kernel
theorem dL_books_73 : decode cL_books 73 = .ok (.getfield 10, 3) := by decide +kernel
theorem dL_books_76 : decode cL_books 76 = .ok (.bipush 7, 2) := by decide +kernel
theorem dL_books_78 : decode cL_books 78 = .ok (.invokestatic 154, 3) := by decide +kernel
theorem dL_books_81 : decode cL_books 81 = .ok (.aload_n 0, 1) := by decide +kernel
theorem dL_books_82 : decode cL_books 82 = .ok (.bipush 20, 2) := by decide +kernel
theorem dL_books_84 : decode cL_books 84 = .ok (.invokevirtual 142, 3) := by decide +kernel
theorem dL_books_87 : decode cL_books 87 = .ok (.iadd, 1) := by decide +kernel
theorem dL_books_88 : decode cL_books 88 = .ok (.istore 6, 2) := by decide +kernel
theorem dL_books_90 : decode cL_books 90 = .ok (.aload_n 0, 1) := by decide +kernel
theorem dL_books_91 : decode cL_books 91 = .ok (.bipush 12, 2) := by decide +kernel
theorem dL_books_93 : decode cL_books 93 = .ok (.invokevirtual 142, 3) := by decide +kernel
theorem dL_books_96 : decode cL_books 96 = .ok (.istore 7, 2) := by decide +kernel
theorem dL_books_98 : decode cL_books 98 = .ok (.iconst 1, 1) := by decide +kernel
theorem dL_books_99 : decode cL_books 99 = .ok (.aload_n 0, 1) := by decide +kernel
theorem dL_books_100 : decode cL_books 100 = .ok (.bipush 9, 2) := by decide +kernel
theorem dL_books_102 : decode cL_books 102 = .ok (.invokevirtual 142, 3) := by decide +kernel
theorem dL_books_105 : decode cL_books 105 = .ok (.iadd, 1) := by decide +kernel
theorem dL_books_106 : decode cL_books 106 = .ok (.istore 8, 2) := by decide +kernel
theorem dL_books_108 : decode cL_books 108 = .ok (.aload_n 0, 1) := by decide +kernel
theorem dL_books_109 : decode cL_books 109 = .ok (.getfield 10, 3) := by decide +kernel
theorem dL_books_112 : decode cL_books 112 = .ok (.iload_n 3, 1) := by decide +kernel
theorem dL_books_113 : decode cL_books 113 = .ok (.iload 4, 2) := by decide +kernel
theorem dL_books_115 : decode cL_books 115 = .ok (.iload 5, 2) := by decide +kernel
theorem dL_books_117 : decode cL_books 117 = .ok (.invokestatic 159, 3) := by decide +kernel
theorem dL_books_120 : decode cL_books 120 = .ok (.ifCond .eq 5, 3) := by decide +kernel
theorem dL_books_123 : decode cL_books 123 = .ok (.iconst 0, 1) := by decide +kernel
theorem dL_books_124 : decode cL_books 124 = .ok (.ireturn, 1) := by decide +kernel
theorem dL_books_125 : decode cL_books 125 = .ok (.iload_n 1, 1) := by decide +kernel
theorem dL_books_126 : decode cL_books 126 = .ok (.bipush 40, 2) := by decide +kernel
theorem dL_books_128 : decode cL_books 128 = .ok (.if_icmp .ge 35, 3) := by decide +kernel
theorem dL_books_131 : decode cL_books 131 = .ok (.aload_n 0, 1) := by decide +kernel
theorem dL_books_132 : decode cL_books 132 = .ok (.getfield 10, 3) := by decide +kernel
theorem dL_books_135 : decode cL_books 135 = .ok (.iload_n 2, 1) := by decide +kernel
theorem dL_books_136 : decode cL_books 136 = .ok (.bipush 8, 2) := by decide +kernel
theorem dL_books_138 : decode cL_books 138 = .ok (.invokestatic 162, 3) := by decide +kernel
theorem dL_books_141 : decode cL_books 141 = .ok (.bipush 9, 2) := by decide +kernel
theorem dL_books_143 : decode cL_books 143 = .ok (.if_icmp .ge 20, 3) := by decide +kernel
theorem dL_books_146 : decode cL_books 146 = .ok (.aload_n 0, 1) := by decide +kernel
theorem dL_books_147 : decode cL_books 147 = .ok (.getfield 10, 3) := by decide +kernel
theorem dL_books_150 : decode cL_books 150 = .ok (.iload_n 2, 1) := by decide +kernel
theorem dL_books_151 : decode cL_books 151 = .ok (.bipush 9, 2) := by decide +kernel
theorem dL_books_153 : decode cL_books 153 = .ok (.invokestatic 162, 3) := by decide +kernel
theorem dL_books_156 : decode cL_books 156 = .ok (.ifCond .ne 7, 3) := by decide +kernel
theorem dL_books_159 : decode cL_books 159 = .ok (.iconst 1, 1) := by decide +kernel
theorem dL_books_160 : decode cL_books 160 = .ok (.goto 4, 3) := by decide +kernel
theorem dL_books_163 : decode cL_books 163 = .ok (.iconst 0, 1) := by decide +kernel
theorem dL_books_164 : decode cL_books 164 = .ok (.istore 9, 2) := by decide +kernel
theorem dL_books_166 : decode cL_books 166 = .ok (.aload_n 0, 1) := by decide +kernel
theorem dL_books_167 : decode cL_books 167 = .ok (.getfield 10, 3) := by decide +kernel
theorem dL_books_170 : decode cL_books 170 = .ok (.iload 6, 2) := by decide +kernel
theorem dL_books_172 : decode cL_books 172 = .ok (.invokevirtual 114, 3) := by decide +kernel
theorem dL_books_175 : decode cL_books 175 = .ok (.istore 10, 2) := by decide +kernel
theorem dL_books_177 : decode cL_books 177 = .ok (.aload_n 0, 1) := by decide +kernel
theorem dL_books_178 : decode cL_books 178 = .ok (.getfield 10, 3) := by decide +kernel
theorem dL_books_181 : decode cL_books 181 = .ok (.iload_n 2, 1) := by decide +kernel
theorem dL_books_182 : decode cL_books 182 = .ok (.iload 6, 2) := by decide +kernel
theorem dL_books_184 : decode cL_books 184 = .ok (.iload 7, 2) := by decide +kernel
theorem dL_books_186 : decode cL_books 186 = .ok (.iload 8, 2) := by decide +kernel
theorem dL_books_188 : decode cL_books 188 = .ok (.invokestatic 164, 3) := by decide +kernel
theorem dL_books_191 : decode cL_books 191 = .ok (.istore 11, 2) := by decide +kernel
theorem dL_books_193 : decode cL_books 193 = .ok (.iload 9, 2) := by decide +kernel
theorem dL_books_195 : decode cL_books 195 = .ok (.ifCond .ne 16, 3) := by decide +kernel
theorem dL_books_198 : decode cL_books 198 = .ok (.iload 11, 2) := by decide +kernel
theorem dL_books_200 : decode cL_books 200 = .ok (.bipush (-103), 2) := by decide +kernel
theorem dL_books_202 : decode cL_books 202 = .ok (.if_icmp .ne 7, 3) := by decide +kernel
theorem dL_books_205 : decode cL_books 205 = .ok (.iconst 1, 1) := by decide +kernel
theorem dL_books_206 : decode cL_books 206 = .ok (.goto 4, 3) := by decide +kernel
theorem dL_books_209 : decode cL_books 209 = .ok (.iconst 0, 1) := by decide +kernel
theorem dL_books_210 : decode cL_books 210 = .ok (.ireturn, 1) := by decide +kernel
theorem dL_books_211 : decode cL_books 211 = .ok (.iload 11, 2) := by decide +kernel
theorem dL_books_213 : decode cL_books 213 = .ok (.iload_n 1, 1) := by decide +kernel
theorem dL_books_214 : decode cL_books 214 = .ok (.if_icmp .ne 31, 3) := by decide +kernel
theorem dL_books_217 : decode cL_books 217 = .ok (.aload_n 0, 1) := by decide +kernel
theorem dL_books_218 : decode cL_books 218 = .ok (.getfield 10, 3) := by decide +kernel
theorem dL_books_221 : decode cL_books 221 = .ok (.iload_n 1, 1) := by decide +kernel
theorem dL_books_222 : decode cL_books 222 = .ok (.bipush 7, 2) := by decide +kernel
theorem dL_books_224 : decode cL_books 224 = .ok (.invokestatic 167, 3) := by decide +kernel
theorem dL_books_227 : decode cL_books 227 = .ok (.iconst 1, 1) := by decide +kernel
theorem dL_books_228 : decode cL_books 228 = .ok (.if_icmp .gt 17, 3) := by decide +kernel
theorem dL_books_231 : decode cL_books 231 = .ok (.aload_n 0, 1) := by decide +kernel
theorem dL_books_232 : decode cL_books 232 = .ok (.getfield 10, 3) := by decide +kernel
theorem dL_books_235 : decode cL_books 235 = .ok (.iload_n 1, 1) := by decide +kernel
theorem dL_books_236 : decode cL_books 236 = .ok (.iconst 5, 1) := by decide +kernel
theorem dL_books_237 : decode cL_books 237 = .ok (.invokestatic 167, 3) := by decide +kernel
theorem dL_books_240 : decode cL_books 240 = .ok (.iload 7, 2) := by decide +kernel
theorem dL_books_242 : decode cL_books 242 = .ok (.if_icmp .eq 5, 3) := by decide +kernel
theorem dL_books_245 : decode cL_books 245 = .ok (.iconst 0, 1) := by decide +kernel
theorem dL_books_246 : decode cL_books 246 = .ok (.ireturn, 1) := by decide +kernel
theorem dL_books_247 : decode cL_books 247 = .ok (.aload_n 0, 1) := by decide +kernel
theorem dL_books_248 : decode cL_books 248 = .ok (.getfield 10, 3) := by decide +kernel
theorem dL_books_251 : decode cL_books 251 = .ok (.iload_n 1, 1) := by decide +kernel
theorem dL_books_252 : decode cL_books 252 = .ok (.bipush 8, 2) := by decide +kernel
theorem dL_books_254 : decode cL_books 254 = .ok (.invokestatic 167, 3) := by decide +kernel
theorem dL_books_257 : decode cL_books 257 = .ok (.istore 12, 2) := by decide +kernel
theorem dL_books_259 : decode cL_books 259 = .ok (.iload 12, 2) := by decide +kernel
theorem dL_books_261 : decode cL_books 261 = .ok (.ifCond .ge 37, 3) := by decide +kernel
theorem dL_books_264 : decode cL_books 264 = .ok (.aload_n 0, 1) := by decide +kernel
theorem dL_books_265 : decode cL_books 265 = .ok (.getfield 10, 3) := by decide +kernel
theorem dL_books_268 : decode cL_books 268 = .ok (.iload_n 1, 1) := by decide +kernel
theorem dL_books_269 : decode cL_books 269 = .ok (.bipush 7, 2) := by decide +kernel
theorem dL_books_271 : decode cL_books 271 = .ok (.invokestatic 167, 3) := by decide +kernel
theorem dL_books_274 : decode cL_books 274 = .ok (.ifCond .ne 22, 3) := by decide +kernel
theorem dL_books_277 : decode cL_books 277 = .ok (.iload 10, 2) := by decide +kernel
theorem dL_books_279 : decode cL_books 279 = .ok (.ifCond .lt 13, 3) := by decide +kernel
theorem dL_books_282 : decode cL_books 282 = .ok (.iload 10, 2) := by decide +kernel
theorem dL_books_284 : decode cL_books 284 = .ok (.iload 6, 2) := by decide +kernel
theorem dL_books_286 : decode cL_books 286 = .ok (.iload 7, 2) := by decide +kernel
theorem dL_books_288 : decode cL_books 288 = .ok (.iadd, 1) := by decide +kernel
theorem dL_books_289 : decode cL_books 289 = .ok (.if_icmp .le 7, 3) := by decide +kernel
theorem dL_books_292 : decode cL_books 292 = .ok (.iconst 1, 1) := by decide +kernel
theorem dL_books_293 : decode cL_books 293 = .ok (.goto 4, 3) := by decide +kernel
theorem dL_books_296 : decode cL_books 296 = .ok (.iconst 0, 1) := by decide +kernel
theorem dL_books_297 : decode cL_books 297 = .ok (.ireturn, 1) := by decide +kernel
theorem dL_books_298 : decode cL_books 298 = .ok (.iload 12, 2) := by decide +kernel
theorem dL_books_300 : decode cL_books 300 = .ok (.iload 6, 2) := by decide +kernel
theorem dL_books_302 : decode cL_books 302 = .ok (.isub, 1) := by decide +kernel
theorem dL_books_303 : decode cL_books 303 = .ok (.invokestatic 169, 3) := by decide +kernel
theorem dL_books_306 : decode cL_books 306 = .ok (.iload 7, 2) := by decide +kernel
theorem dL_books_308 : decode cL_books 308 = .ok (.if_icmp .gt 66, 3) := by decide +kernel
theorem dL_books_311 : decode cL_books 311 = .ok (.iload 12, 2) := by decide +kernel
theorem dL_books_313 : decode cL_books 313 = .ok (.aload_n 0, 1) := by decide +kernel
theorem dL_books_314 : decode cL_books 314 = .ok (.getfield 10, 3) := by decide +kernel
theorem dL_books_317 : decode cL_books 317 = .ok (.bipush 7, 2) := by decide +kernel
theorem dL_books_319 : decode cL_books 319 = .ok (.invokestatic 154, 3) := by decide +kernel
theorem dL_books_322 : decode cL_books 322 = .ok (.if_icmp .lt 52, 3) := by decide +kernel
theorem dL_books_325 : decode cL_books 325 = .ok (.aload_n 0, 1) := by decide +kernel
theorem dL_books_326 : decode cL_books 326 = .ok (.getfield 10, 3) := by decide +kernel
theorem dL_books_329 : decode cL_books 329 = .ok (.iload_n 1, 1) := by decide +kernel
theorem dL_books_330 : decode cL_books 330 = .ok (.bipush 9, 2) := by decide +kernel
theorem dL_books_332 : decode cL_books 332 = .ok (.invokestatic 167, 3) := by decide +kernel
theorem dL_books_335 : decode cL_books 335 = .ok (.iload 12, 2) := by decide +kernel
theorem dL_books_337 : decode cL_books 337 = .ok (.iload 5, 2) := by decide +kernel
theorem dL_books_339 : decode cL_books 339 = .ok (.iadd, 1) := by decide +kernel
theorem dL_books_340 : decode cL_books 340 = .ok (.if_icmp .ne 34, 3) := by decide +kernel
theorem dL_books_343 : decode cL_books 343 = .ok (.aload_n 0, 1) := by decide +kernel
theorem dL_books_344 : decode cL_books 344 = .ok (.getfield 10, 3) := by decide +kernel
theorem dL_books_347 : decode cL_books 347 = .ok (.iload_n 1, 1) := by decide +kernel
theorem dL_books_348 : decode cL_books 348 = .ok (.bipush 10, 2) := by decide +kernel
theorem dL_books_350 : decode cL_books 350 = .ok (.invokestatic 167, 3) := by decide +kernel
theorem dL_books_353 : decode cL_books 353 = .ok (.iload 8, 2) := by decide +kernel
theorem dL_books_355 : decode cL_books 355 = .ok (.iconst 0, 1) := by decide +kernel
theorem dL_books_356 : decode cL_books 356 = .ok (.bipush 20, 2) := by decide +kernel
theorem dL_books_358 : decode cL_books 358 = .ok (.iload 12, 2) := by decide +kernel
theorem dL_books_360 : decode cL_books 360 = .ok (.iload 6, 2) := by decide +kernel
theorem dL_books_362 : decode cL_books 362 = .ok (.isub, 1) := by decide +kernel
theorem dL_books_363 : decode cL_books 363 = .ok (.invokestatic 169, 3) := by decide +kernel
theorem dL_books_366 : decode cL_books 366 = .ok (.isub, 1) := by decide +kernel
theorem dL_books_367 : decode cL_books 367 = .ok (.invokestatic 26, 3) := by decide +kernel
theorem dL_books_370 : decode cL_books 370 = .ok (.imul, 1) := by decide +kernel
theorem dL_books_371 : decode cL_books 371 = .ok (.if_icmp .eq 5, 3) := by decide +kernel
theorem dL_books_374 : decode cL_books 374 = .ok (.iconst 0, 1) := by decide +kernel
theorem dL_books_375 : decode cL_books 375 = .ok (.ireturn, 1) := by decide +kernel
theorem dL_books_376 : decode cL_books 376 = .ok (.iload 10, 2) := by decide +kernel
theorem dL_books_378 : decode cL_books 378 = .ok (.ifCond .lt 13, 3) := by decide +kernel
theorem dL_books_381 : decode cL_books 381 = .ok (.iload 10, 2) := by decide +kernel
theorem dL_books_383 : decode cL_books 383 = .ok (.iload 6, 2) := by decide +kernel
theorem dL_books_385 : decode cL_books 385 = .ok (.iload 7, 2) := by decide +kernel
theorem dL_books_387 : decode cL_books 387 = .ok (.iadd, 1) := by decide +kernel
theorem dL_books_388 : decode cL_books 388 = .ok (.if_icmp .le 18, 3) := by decide +kernel
theorem dL_books_391 : decode cL_books 391 = .ok (.iload 12, 2) := by decide +kernel
theorem dL_books_393 : decode cL_books 393 = .ok (.iload 6, 2) := by decide +kernel
theorem dL_books_395 : decode cL_books 395 = .ok (.if_icmp .ge 7, 3) := by decide +kernel
theorem dL_books_398 : decode cL_books 398 = .ok (.iconst 1, 1) := by decide +kernel
theorem dL_books_399 : decode cL_books 399 = .ok (.goto 32, 3) := by decide +kernel
theorem dL_books_402 : decode cL_books 402 = .ok (.iconst 0, 1) := by decide +kernel
theorem dL_books_403 : decode cL_books 403 = .ok (.goto 28, 3) := by decide +kernel
theorem dL_books_406 : decode cL_books 406 = .ok (.iload 12, 2) := by decide +kernel
theorem dL_books_408 : decode cL_books 408 = .ok (.iload 10, 2) := by decide +kernel
theorem dL_books_410 : decode cL_books 410 = .ok (.if_icmp .gt 20, 3) := by decide +kernel
theorem dL_books_413 : decode cL_books 413 = .ok (.iload 6, 2) := by decide +kernel
theorem dL_books_415 : decode cL_books 415 = .ok (.iload 12, 2) := by decide +kernel
theorem dL_books_417 : decode cL_books 417 = .ok (.isub, 1) := by decide +kernel
theorem dL_books_418 : decode cL_books 418 = .ok (.iload 10, 2) := by decide +kernel
theorem dL_books_420 : decode cL_books 420 = .ok (.iload 6, 2) := by decide +kernel
theorem dL_books_422 : decode cL_books 422 = .ok (.isub, 1) := by decide +kernel
theorem dL_books_423 : decode cL_books 423 = .ok (.if_icmp .gt 7, 3) := by decide +kernel
theorem dL_books_426 : decode cL_books 426 = .ok (.iconst 1, 1) := by decide +kernel
theorem dL_books_427 : decode cL_books 427 = .ok (.goto 4, 3) := by decide +kernel
theorem dL_books_430 : decode cL_books 430 = .ok (.iconst 0, 1) := by decide +kernel
theorem dL_books_431 : decode cL_books 431 = .ok (.ireturn, 1) := by decide +kernel
def w_L_books_245  (Q : Int32 → V3 → Prop) (v : V3) : Prop := Q 0 v
def w_L_books_374  (Q : Int32 → V3 → Prop) (v : V3) : Prop := Q 0 v
def w_L_books_431  (Q : Int32 → V3 → Prop) (s0 : Int32) (v : V3) : Prop := (s0 = 0 ∨ s0 = 1) ∧ Q s0 v
def w_L_books_391  (Q : Int32 → V3 → Prop) (x6 : Int32) (x12 : Int32) (v : V3) : Prop := ((x6 ≤ x12 → w_L_books_431 Q 0 v) ∧ (¬ x6 ≤ x12 → w_L_books_431 Q 1 v))
def w_L_books_430  (Q : Int32 → V3 → Prop) (v : V3) : Prop := w_L_books_431 Q 0 v
def w_L_books_297  (Q : Int32 → V3 → Prop) (s0 : Int32) (v : V3) : Prop := (s0 = 0 ∨ s0 = 1) ∧ Q s0 v
def w_L_books_296  (Q : Int32 → V3 → Prop) (v : V3) : Prop := w_L_books_297 Q 0 v
def w_L_books_292  (Q : Int32 → V3 → Prop) (v : V3) : Prop := w_L_books_297 Q 1 v
def w_L_books_210  (Q : Int32 → V3 → Prop) (s0 : Int32) (v : V3) : Prop := (s0 = 0 ∨ s0 = 1) ∧ Q s0 v
def w_L_books_164  (Q : Int32 → V3 → Prop) (x1 : Int32) (x2 : Int32) (x5 : Int32) (x6 : Int32) (x7 : Int32) (x8 : Int32) (s0 : Int32) (v : V3) : Prop := w_X3_nextFree x6 v (fun r29 v28 => w_L_book x2 x6 x7 x8 v28 (fun r31 v30 => ((¬ s0 = 0 → ((¬ r31 = x1 → w_L_books_245 Q v30) ∧ (r31 = x1 → w_L_booking x1 7 v30 (fun r35 v34 => ((1 < r35 → w_L_books_245 Q v34) ∧ (¬ 1 < r35 → w_L_booking x1 5 v34 (fun r38 v37 => ((r38 = x7 → w_L_booking x1 8 v37 (fun r41 v40 => ((0 ≤ r41 → ((x7 < (zabs (r41 - x6)) → w_L_books_374 Q v40) ∧ (¬ x7 < (zabs (r41 - x6)) → w_L_count 7 v40 (fun r45 v44 => ((r41 < r45 → w_L_books_374 Q v44) ∧ (¬ r41 < r45 → w_L_booking x1 9 v44 (fun r48 v47 => ((¬ r48 = (r41 + x5) → w_L_books_374 Q v47) ∧ (r48 = (r41 + x5) → w_L_booking x1 10 v47 (fun r51 v50 => ((r51 = (x8 * (zmax 0 (20 - (zabs (r41 - x6))))) → ((r29 < 0 → w_L_books_391 Q x6 r41 v50) ∧ (¬ r29 < 0 → ((r29 ≤ (x6 + x7) → ((r29 < r41 → w_L_books_430 Q v50) ∧ (¬ r29 < r41 → (((r29 - x6) < (x6 - r41) → w_L_books_430 Q v50) ∧ (¬ (r29 - x6) < (x6 - r41) → w_L_books_431 Q 1 v50))))) ∧ (¬ r29 ≤ (x6 + x7) → w_L_books_391 Q x6 r41 v50))))) ∧ (¬ r51 = (x8 * (zmax 0 (20 - (zabs (r41 - x6))))) → w_L_books_374 Q v50)))))))))))) ∧ (¬ 0 ≤ r41 → w_L_booking x1 7 v40 (fun r60 v59 => ((¬ r60 = 0 → w_L_books_296 Q v59) ∧ (r60 = 0 → ((r29 < 0 → w_L_books_292 Q v59) ∧ (¬ r29 < 0 → ((r29 ≤ (x6 + x7) → w_L_books_296 Q v59) ∧ (¬ r29 ≤ (x6 + x7) → w_L_books_292 Q v59))))))))))) ∧ (¬ r38 = x7 → w_L_books_245 Q v37))))))))) ∧ (s0 = 0 → ((¬ r31 = (-103) → w_L_books_210 Q 0 v30) ∧ (r31 = (-103) → w_L_books_210 Q 1 v30))))))
def w_L_books_163  (Q : Int32 → V3 → Prop) (x1 : Int32) (x2 : Int32) (x5 : Int32) (x6 : Int32) (x7 : Int32) (x8 : Int32) (v : V3) : Prop := w_L_books_164 Q x1 x2 x5 x6 x7 x8 0 v
def w_L_books_56  (Q : Int32 → V3 → Prop) (x1 : Int32) (x2 : Int32) (x3 : Int32) (s0 : Int32) (s2 : Int32) (v : V3) : Prop := w_L_draw s2 v (fun r13 v12 => w_L_draw 9 v12 (fun r15 v14 => w_L_count 7 v14 (fun r17 v16 => w_L_draw 20 v16 (fun r19 v18 => w_L_draw 12 v18 (fun r21 v20 => w_L_draw 9 v20 (fun r23 v22 => w_L_draft x3 (s0 + r13) (1 + r15) v22 (fun r25 v24 => ((r25 = 0 → ((40 ≤ x1 → w_L_books_163 Q x1 x2 (1 + r15) (r17 + r19) r21 (1 + r23) v24) ∧ (¬ 40 ≤ x1 → w_L_owner x2 8 v24 (fun r68 v67 => ((9 ≤ r68 → w_L_books_163 Q x1 x2 (1 + r15) (r17 + r19) r21 (1 + r23) v67) ∧ (¬ 9 ≤ r68 → w_L_owner x2 9 v67 (fun r71 v70 => ((¬ r71 = 0 → w_L_books_163 Q x1 x2 (1 + r15) (r17 + r19) r21 (1 + r23) v70) ∧ (r71 = 0 → w_L_books_164 Q x1 x2 (1 + r15) (r17 + r19) r21 (1 + r23) 1 v70))))))))) ∧ (¬ r25 = 0 → Q 0 v24)))))))))
def w_L_books  (v : V3) (Q : Int32 → V3 → Prop) : Prop := w_L_count 6 v (fun r2 v1 => w_L_count 5 v1 (fun r4 v3 => w_L_draw r4 v3 (fun r6 v5 => w_L_draw 32 v5 (fun r8 v7 => w_L_draw 3 v7 (fun r10 v9 => ((¬ r10 = 0 → w_L_books_56 Q r2 r6 r8 1 (zmin 6 (32 - r8)) v9) ∧ (r10 = 0 → w_L_books_56 Q r2 r6 r8 1 (32 - r8) v9)))))))
set_option maxRecDepth 100000 in
set_option maxHeartbeats 4000000 in
theorem b_L_books_245 {p : Program} (l : Launch) {e : Env} {s : State} {m : MethodId} {args : Array Value} {below : List Frame} {meth : Method} {c : Code} {G : zG}   (hst : l.stackTraces = false) (C0 : Cx G RL cL_books 13 (some .boolean) p s m args meth c) {Q : Int32 → V3 → Prop} : ∀ (v : V3) (H : Heap) (locs : List Loc) (ls : Array Slot), w_L_books_245 Q v → Zs G s v H locs → lv_has ls 13 [] → W p l e { frames := 9, cells := 5, slots := 30, locals := 161 } s m args below meth c H locs 5 30 (MQ below (QiZ G Q) args s 5 30 (zA G)) (F0 m 245 ls []) := by
  have hx := C0.1
  have hb := C0.2.1
  intro v H locs ls hw Z hl
  rw [w_L_books_245] at hw
  refine lv_iconst (v := 0) hx hb dL_books_245 (by decide) ?_
  refine z_wide (mc := 5) (ms := 30) (by decide) (by decide) ?_
  exact z_zret C0 Z (by decide) hw dL_books_246
set_option maxRecDepth 100000 in
set_option maxHeartbeats 4000000 in
theorem b_L_books_374 {p : Program} (l : Launch) {e : Env} {s : State} {m : MethodId} {args : Array Value} {below : List Frame} {meth : Method} {c : Code} {G : zG}   (hst : l.stackTraces = false) (C0 : Cx G RL cL_books 13 (some .boolean) p s m args meth c) {Q : Int32 → V3 → Prop} : ∀ (v : V3) (H : Heap) (locs : List Loc) (ls : Array Slot), w_L_books_374 Q v → Zs G s v H locs → lv_has ls 13 [] → W p l e { frames := 9, cells := 5, slots := 30, locals := 161 } s m args below meth c H locs 5 30 (MQ below (QiZ G Q) args s 5 30 (zA G)) (F0 m 374 ls []) := by
  have hx := C0.1
  have hb := C0.2.1
  intro v H locs ls hw Z hl
  rw [w_L_books_374] at hw
  refine lv_iconst (v := 0) hx hb dL_books_374 (by decide) ?_
  refine z_wide (mc := 5) (ms := 30) (by decide) (by decide) ?_
  exact z_zret C0 Z (by decide) hw dL_books_375
set_option maxRecDepth 100000 in
set_option maxHeartbeats 4000000 in
theorem b_L_books_431 {p : Program} (l : Launch) {e : Env} {s : State} {m : MethodId} {args : Array Value} {below : List Frame} {meth : Method} {c : Code} {G : zG}   (hst : l.stackTraces = false) (C0 : Cx G RL cL_books 13 (some .boolean) p s m args meth c) {Q : Int32 → V3 → Prop} : ∀ (s0 : Int32) (v : V3) (H : Heap) (locs : List Loc) (ls : Array Slot), w_L_books_431 Q s0 v → Zs G s v H locs → lv_has ls 13 [] → W p l e { frames := 9, cells := 5, slots := 30, locals := 161 } s m args below meth c H locs 5 30 (MQ below (QiZ G Q) args s 5 30 (zA G)) (F0 m 431 ls [.int s0]) := by
  have hx := C0.1
  have hb := C0.2.1
  intro s0 v H locs ls hw Z hl
  rw [w_L_books_431] at hw
  obtain ⟨h55, hw⟩ := hw
  refine z_wide (mc := 5) (ms := 30) (by decide) (by decide) ?_
  exact z_zret C0 Z h55 hw dL_books_431
set_option maxRecDepth 100000 in
set_option maxHeartbeats 4000000 in
theorem b_L_books_391 {p : Program} (l : Launch) {e : Env} {s : State} {m : MethodId} {args : Array Value} {below : List Frame} {meth : Method} {c : Code} {G : zG}   (hst : l.stackTraces = false) (C0 : Cx G RL cL_books 13 (some .boolean) p s m args meth c) {Q : Int32 → V3 → Prop} : ∀ (x6 : Int32) (x12 : Int32) (v : V3) (H : Heap) (locs : List Loc) (ls : Array Slot), w_L_books_391 Q x6 x12 v → Zs G s v H locs → lv_has ls 13 [(6, .int x6), (12, .int x12)] → W p l e { frames := 9, cells := 5, slots := 30, locals := 161 } s m args below meth c H locs 5 30 (MQ below (QiZ G Q) args s 5 30 (zA G)) (F0 m 391 ls []) := by
  have hx := C0.1
  have hb := C0.2.1
  intro x6 x12 v H locs ls hw Z hl
  rw [w_L_books_391] at hw
  refine lv_iload hx hb dL_books_391 (lv_at hl 1 rfl) ?_
  refine lv_iload hx hb dL_books_393 (lv_at hl 0 rfl) ?_
  refine lv_icmp_ge (tgt := 402) hx hb dL_books_395 (by decide) (fun c54 => ?_) (fun c54 => ?_)
  · replace hw := hw.1 c54
    refine lv_iconst (v := 0) hx hb dL_books_402 (by decide) ?_
    refine lv_goto (tgt := 431) hx hb dL_books_403 (by decide) ?_
    exact b_L_books_431 l hst C0 _ _ _ _ _ hw Z (lv_sub hl [] rfl)
  · replace hw := hw.2 c54
    refine lv_iconst (v := 1) hx hb dL_books_398 (by decide) ?_
    refine lv_goto (tgt := 431) hx hb dL_books_399 (by decide) ?_
    exact b_L_books_431 l hst C0 _ _ _ _ _ hw Z (lv_sub hl [] rfl)
set_option maxRecDepth 100000 in
set_option maxHeartbeats 4000000 in
theorem b_L_books_430 {p : Program} (l : Launch) {e : Env} {s : State} {m : MethodId} {args : Array Value} {below : List Frame} {meth : Method} {c : Code} {G : zG}   (hst : l.stackTraces = false) (C0 : Cx G RL cL_books 13 (some .boolean) p s m args meth c) {Q : Int32 → V3 → Prop} : ∀ (v : V3) (H : Heap) (locs : List Loc) (ls : Array Slot), w_L_books_430 Q v → Zs G s v H locs → lv_has ls 13 [] → W p l e { frames := 9, cells := 5, slots := 30, locals := 161 } s m args below meth c H locs 5 30 (MQ below (QiZ G Q) args s 5 30 (zA G)) (F0 m 430 ls []) := by
  have hx := C0.1
  have hb := C0.2.1
  intro v H locs ls hw Z hl
  rw [w_L_books_430] at hw
  refine lv_iconst (v := 0) hx hb dL_books_430 (by decide) ?_
  exact b_L_books_431 l hst C0 _ _ _ _ _ hw Z (lv_sub hl [] rfl)
set_option maxRecDepth 100000 in
set_option maxHeartbeats 4000000 in
theorem b_L_books_297 {p : Program} (l : Launch) {e : Env} {s : State} {m : MethodId} {args : Array Value} {below : List Frame} {meth : Method} {c : Code} {G : zG}   (hst : l.stackTraces = false) (C0 : Cx G RL cL_books 13 (some .boolean) p s m args meth c) {Q : Int32 → V3 → Prop} : ∀ (s0 : Int32) (v : V3) (H : Heap) (locs : List Loc) (ls : Array Slot), w_L_books_297 Q s0 v → Zs G s v H locs → lv_has ls 13 [] → W p l e { frames := 9, cells := 5, slots := 30, locals := 161 } s m args below meth c H locs 5 30 (MQ below (QiZ G Q) args s 5 30 (zA G)) (F0 m 297 ls [.int s0]) := by
  have hx := C0.1
  have hb := C0.2.1
  intro s0 v H locs ls hw Z hl
  rw [w_L_books_297] at hw
  obtain ⟨h62, hw⟩ := hw
  refine z_wide (mc := 5) (ms := 30) (by decide) (by decide) ?_
  exact z_zret C0 Z h62 hw dL_books_297
set_option maxRecDepth 100000 in
set_option maxHeartbeats 4000000 in
theorem b_L_books_296 {p : Program} (l : Launch) {e : Env} {s : State} {m : MethodId} {args : Array Value} {below : List Frame} {meth : Method} {c : Code} {G : zG}   (hst : l.stackTraces = false) (C0 : Cx G RL cL_books 13 (some .boolean) p s m args meth c) {Q : Int32 → V3 → Prop} : ∀ (v : V3) (H : Heap) (locs : List Loc) (ls : Array Slot), w_L_books_296 Q v → Zs G s v H locs → lv_has ls 13 [] → W p l e { frames := 9, cells := 5, slots := 30, locals := 161 } s m args below meth c H locs 5 30 (MQ below (QiZ G Q) args s 5 30 (zA G)) (F0 m 296 ls []) := by
  have hx := C0.1
  have hb := C0.2.1
  intro v H locs ls hw Z hl
  rw [w_L_books_296] at hw
  refine lv_iconst (v := 0) hx hb dL_books_296 (by decide) ?_
  exact b_L_books_297 l hst C0 _ _ _ _ _ hw Z (lv_sub hl [] rfl)
set_option maxRecDepth 100000 in
set_option maxHeartbeats 4000000 in
theorem b_L_books_292 {p : Program} (l : Launch) {e : Env} {s : State} {m : MethodId} {args : Array Value} {below : List Frame} {meth : Method} {c : Code} {G : zG}   (hst : l.stackTraces = false) (C0 : Cx G RL cL_books 13 (some .boolean) p s m args meth c) {Q : Int32 → V3 → Prop} : ∀ (v : V3) (H : Heap) (locs : List Loc) (ls : Array Slot), w_L_books_292 Q v → Zs G s v H locs → lv_has ls 13 [] → W p l e { frames := 9, cells := 5, slots := 30, locals := 161 } s m args below meth c H locs 5 30 (MQ below (QiZ G Q) args s 5 30 (zA G)) (F0 m 292 ls []) := by
  have hx := C0.1
  have hb := C0.2.1
  intro v H locs ls hw Z hl
  rw [w_L_books_292] at hw
  refine lv_iconst (v := 1) hx hb dL_books_292 (by decide) ?_
  refine lv_goto (tgt := 297) hx hb dL_books_293 (by decide) ?_
  exact b_L_books_297 l hst C0 _ _ _ _ _ hw Z (lv_sub hl [] rfl)
set_option maxRecDepth 100000 in
set_option maxHeartbeats 4000000 in
theorem b_L_books_210 {p : Program} (l : Launch) {e : Env} {s : State} {m : MethodId} {args : Array Value} {below : List Frame} {meth : Method} {c : Code} {G : zG}   (hst : l.stackTraces = false) (C0 : Cx G RL cL_books 13 (some .boolean) p s m args meth c) {Q : Int32 → V3 → Prop} : ∀ (s0 : Int32) (v : V3) (H : Heap) (locs : List Loc) (ls : Array Slot), w_L_books_210 Q s0 v → Zs G s v H locs → lv_has ls 13 [] → W p l e { frames := 9, cells := 5, slots := 30, locals := 161 } s m args below meth c H locs 5 30 (MQ below (QiZ G Q) args s 5 30 (zA G)) (F0 m 210 ls [.int s0]) := by
  have hx := C0.1
  have hb := C0.2.1
  intro s0 v H locs ls hw Z hl
  rw [w_L_books_210] at hw
  obtain ⟨h66, hw⟩ := hw
  refine z_wide (mc := 5) (ms := 30) (by decide) (by decide) ?_
  exact z_zret C0 Z h66 hw dL_books_210
set_option maxRecDepth 100000 in
set_option maxHeartbeats 4000000 in
theorem b_L_books_164 {p : Program} (l : Launch) {e : Env} {s : State} {m : MethodId} {args : Array Value} {below : List Frame} {meth : Method} {c : Code} {G : zG}   (hst : l.stackTraces = false) (C0 : Cx G RL cL_books 13 (some .boolean) p s m args meth c) {Q : Int32 → V3 → Prop} : ∀ (x1 : Int32) (x2 : Int32) (x5 : Int32) (x6 : Int32) (x7 : Int32) (x8 : Int32) (s0 : Int32) (v : V3) (H : Heap) (locs : List Loc) (ls : Array Slot), w_L_books_164 Q x1 x2 x5 x6 x7 x8 s0 v → Zs G s v H locs → lv_has ls 13 [(0, .ref (gad G 7)), (1, .int x1), (2, .int x2), (5, .int x5), (6, .int x6), (7, .int x7), (8, .int x8)] → W p l e { frames := 9, cells := 5, slots := 30, locals := 161 } s m args below meth c H locs 0 0 (MQ below (QiZ G Q) args s 5 30 (zA G)) (F0 m 164 ls [.int s0]) := by
  have hx := C0.1
  have hb := C0.2.1
  intro x1 x2 x5 x6 x7 x8 s0 v H locs ls hw Z hl
  rw [w_L_books_164] at hw
  refine lv_istore (lv' := [(9, .int s0), (0, .ref (gad G 7)), (1, .int x1), (2, .int x2), (5, .int x5), (6, .int x6), (7, .int x7), (8, .int x8)]) hx hb dL_books_164 hl (by decide) rfl (fun ls hl => ?_)
  refine lv_aload_n hx hb dL_books_166 rfl (lv_at hl 1 rfl) ?_
  refine z_get C0 Z in_L rfl 0 (by decide) rfl tm_1_181 (cx_lt C0 (by decide)) rfl rfl dL_books_167 ?_
  refine lv_iload hx hb dL_books_170 (lv_at hl 5 rfl) ?_
  refine z_callVi C0 Z hl.1 (As := [.int x6]) (rest := []) (k_X3_nextFree l (cx_g C0) hw) (gv_X3_nextFree tm_2_190) rfl ds_X3_nextFree ⟨Nat.le_of_ble_eq_true rfl, Nat.le_of_ble_eq_true rfl⟩ (ci := 3) rfl (cx_lt C0 (by decide)) rfl rfl rfl (Nat.le_of_ble_eq_true rfl) ⟨Nat.le_of_ble_eq_true rfl, Nat.le_of_ble_eq_true rfl⟩ dL_books_172 (fun r29 v28 H locs hw Z => ?_)
  refine lv_istore (lv' := [(10, .int r29), (9, .int s0), (0, .ref (gad G 7)), (1, .int x1), (2, .int x2), (5, .int x5), (6, .int x6), (7, .int x7), (8, .int x8)]) hx hb dL_books_175 hl (by decide) rfl (fun ls hl => ?_)
  refine lv_aload_n hx hb dL_books_177 rfl (lv_at hl 2 rfl) ?_
  refine z_get C0 Z in_L rfl 0 (by decide) rfl tm_1_181 (cx_lt C0 (by decide)) rfl rfl dL_books_178 ?_
  refine lv_iload_n hx hb dL_books_181 rfl (lv_at hl 4 rfl) ?_
  refine lv_iload hx hb dL_books_182 (lv_at hl 6 rfl) ?_
  refine lv_iload hx hb dL_books_184 (lv_at hl 7 rfl) ?_
  refine lv_iload hx hb dL_books_186 (lv_at hl 8 rfl) ?_
  refine z_callH C0 Z hl.1 (As := [.ref (gad G 0), .int x2, .int x6, .int x7, .int x8]) (rest := []) (k_L_book l hst (cx_g C0) hw) (gv_L_book tm_2_202) ds_L_book ⟨Nat.le_of_ble_eq_true rfl, Nat.le_of_ble_eq_true rfl⟩ rfl rfl (Nat.le_of_ble_eq_true rfl) ⟨Nat.le_of_ble_eq_true rfl, Nat.le_of_ble_eq_true rfl⟩ dL_books_188 (fun r31 v30 H locs hw Z => ?_)
  refine lv_istore (lv' := [(11, .int r31), (10, .int r29), (9, .int s0), (0, .ref (gad G 7)), (1, .int x1), (2, .int x2), (5, .int x5), (6, .int x6), (7, .int x7), (8, .int x8)]) hx hb dL_books_191 hl (by decide) rfl (fun ls hl => ?_)
  refine lv_iload hx hb dL_books_193 (lv_at hl 2 rfl) ?_
  refine lv_if_ne (tgt := 211) hx hb dL_books_195 (by decide) (fun c32 => ?_) (fun c32 => ?_)
  · replace hw := hw.1 c32
    refine lv_iload hx hb dL_books_211 (lv_at hl 0 rfl) ?_
    refine lv_iload_n hx hb dL_books_213 rfl (lv_at hl 4 rfl) ?_
    refine lv_icmp_ne (tgt := 245) hx hb dL_books_214 (by decide) (fun c33 => ?_) (fun c33 => ?_)
    · replace hw := hw.1 c33
      exact b_L_books_245 l hst C0 _ _ _ _ hw Z (lv_sub hl [] rfl)
    · replace hw := hw.2 c33
      refine lv_aload_n hx hb dL_books_217 rfl (lv_at hl 3 rfl) ?_
      refine z_get C0 Z in_L rfl 0 (by decide) rfl tm_1_181 (cx_lt C0 (by decide)) rfl rfl dL_books_218 ?_
      refine lv_iload_n hx hb dL_books_221 rfl (lv_at hl 4 rfl) ?_
      refine lv_bipush (v := 7) hx hb dL_books_222 (by decide) ?_
      refine z_callH C0 Z hl.1 (As := [.ref (gad G 0), .int x1, .int 7]) (rest := []) (k_L_booking l (cx_g C0) hw) (gv_L_booking tm_2_238) ds_L_booking ⟨Nat.le_of_ble_eq_true rfl, Nat.le_of_ble_eq_true rfl⟩ rfl rfl (Nat.le_of_ble_eq_true rfl) ⟨Nat.le_of_ble_eq_true rfl, Nat.le_of_ble_eq_true rfl⟩ dL_books_224 (fun r35 v34 H locs hw Z => ?_)
      refine lv_iconst (v := 1) hx hb dL_books_227 (by decide) ?_
      refine lv_icmp_gt (tgt := 245) hx hb dL_books_228 (by decide) (fun c36 => ?_) (fun c36 => ?_)
      · replace hw := hw.1 c36
        exact b_L_books_245 l hst C0 _ _ _ _ hw Z (lv_sub hl [] rfl)
      · replace hw := hw.2 c36
        refine lv_aload_n hx hb dL_books_231 rfl (lv_at hl 3 rfl) ?_
        refine z_get C0 Z in_L rfl 0 (by decide) rfl tm_1_181 (cx_lt C0 (by decide)) rfl rfl dL_books_232 ?_
        refine lv_iload_n hx hb dL_books_235 rfl (lv_at hl 4 rfl) ?_
        refine lv_iconst (v := 5) hx hb dL_books_236 (by decide) ?_
        refine z_callH C0 Z hl.1 (As := [.ref (gad G 0), .int x1, .int 5]) (rest := []) (k_L_booking l (cx_g C0) hw) (gv_L_booking tm_2_238) ds_L_booking ⟨Nat.le_of_ble_eq_true rfl, Nat.le_of_ble_eq_true rfl⟩ rfl rfl (Nat.le_of_ble_eq_true rfl) ⟨Nat.le_of_ble_eq_true rfl, Nat.le_of_ble_eq_true rfl⟩ dL_books_237 (fun r38 v37 H locs hw Z => ?_)
        refine lv_iload hx hb dL_books_240 (lv_at hl 8 rfl) ?_
        refine lv_icmp_eq (tgt := 247) hx hb dL_books_242 (by decide) (fun c39 => ?_) (fun c39 => ?_)
        · replace hw := hw.1 c39
          refine lv_aload_n hx hb dL_books_247 rfl (lv_at hl 3 rfl) ?_
          refine z_get C0 Z in_L rfl 0 (by decide) rfl tm_1_181 (cx_lt C0 (by decide)) rfl rfl dL_books_248 ?_
          refine lv_iload_n hx hb dL_books_251 rfl (lv_at hl 4 rfl) ?_
          refine lv_bipush (v := 8) hx hb dL_books_252 (by decide) ?_
          refine z_callH C0 Z hl.1 (As := [.ref (gad G 0), .int x1, .int 8]) (rest := []) (k_L_booking l (cx_g C0) hw) (gv_L_booking tm_2_238) ds_L_booking ⟨Nat.le_of_ble_eq_true rfl, Nat.le_of_ble_eq_true rfl⟩ rfl rfl (Nat.le_of_ble_eq_true rfl) ⟨Nat.le_of_ble_eq_true rfl, Nat.le_of_ble_eq_true rfl⟩ dL_books_254 (fun r41 v40 H locs hw Z => ?_)
          refine lv_istore (lv' := [(12, .int r41), (11, .int r31), (10, .int r29), (9, .int s0), (0, .ref (gad G 7)), (1, .int x1), (2, .int x2), (5, .int x5), (6, .int x6), (7, .int x7), (8, .int x8)]) hx hb dL_books_257 hl (by decide) rfl (fun ls hl => ?_)
          refine lv_iload hx hb dL_books_259 (lv_at hl 0 rfl) ?_
          refine lv_if_ge (tgt := 298) hx hb dL_books_261 (by decide) (fun c42 => ?_) (fun c42 => ?_)
          · replace hw := hw.1 c42
            refine lv_iload hx hb dL_books_298 (lv_at hl 0 rfl) ?_
            refine lv_iload hx hb dL_books_300 (lv_at hl 8 rfl) ?_
            refine lv_isub hx hb dL_books_302 ?_
            refine z_abs C0 hl.1 tm_3_16 (Nat.le_of_ble_eq_true rfl) (Nat.le_of_ble_eq_true rfl) (Nat.le_of_ble_eq_true rfl) (Nat.le_of_ble_eq_true rfl) dL_books_303 ?_
            refine lv_iload hx hb dL_books_306 (lv_at hl 9 rfl) ?_
            refine lv_icmp_gt (tgt := 374) hx hb dL_books_308 (by decide) (fun c43 => ?_) (fun c43 => ?_)
            · replace hw := hw.1 c43
              exact b_L_books_374 l hst C0 _ _ _ _ hw Z (lv_sub hl [] rfl)
            · replace hw := hw.2 c43
              refine lv_iload hx hb dL_books_311 (lv_at hl 0 rfl) ?_
              refine lv_aload_n hx hb dL_books_313 rfl (lv_at hl 4 rfl) ?_
              refine z_get C0 Z in_L rfl 0 (by decide) rfl tm_1_181 (cx_lt C0 (by decide)) rfl rfl dL_books_314 ?_
              refine lv_bipush (v := 7) hx hb dL_books_317 (by decide) ?_
              refine z_callH C0 Z hl.1 (As := [.ref (gad G 0), .int 7]) (rest := [.int r41]) (k_L_count l (cx_g C0) hw) (gv_L_count tm_2_93) ds_L_count ⟨Nat.le_of_ble_eq_true rfl, Nat.le_of_ble_eq_true rfl⟩ rfl rfl (Nat.le_of_ble_eq_true rfl) ⟨Nat.le_of_ble_eq_true rfl, Nat.le_of_ble_eq_true rfl⟩ dL_books_319 (fun r45 v44 H locs hw Z => ?_)
              refine lv_icmp_lt (tgt := 374) hx hb dL_books_322 (by decide) (fun c46 => ?_) (fun c46 => ?_)
              · replace hw := hw.1 c46
                exact b_L_books_374 l hst C0 _ _ _ _ hw Z (lv_sub hl [] rfl)
              · replace hw := hw.2 c46
                refine lv_aload_n hx hb dL_books_325 rfl (lv_at hl 4 rfl) ?_
                refine z_get C0 Z in_L rfl 0 (by decide) rfl tm_1_181 (cx_lt C0 (by decide)) rfl rfl dL_books_326 ?_
                refine lv_iload_n hx hb dL_books_329 rfl (lv_at hl 5 rfl) ?_
                refine lv_bipush (v := 9) hx hb dL_books_330 (by decide) ?_
                refine z_callH C0 Z hl.1 (As := [.ref (gad G 0), .int x1, .int 9]) (rest := []) (k_L_booking l (cx_g C0) hw) (gv_L_booking tm_2_238) ds_L_booking ⟨Nat.le_of_ble_eq_true rfl, Nat.le_of_ble_eq_true rfl⟩ rfl rfl (Nat.le_of_ble_eq_true rfl) ⟨Nat.le_of_ble_eq_true rfl, Nat.le_of_ble_eq_true rfl⟩ dL_books_332 (fun r48 v47 H locs hw Z => ?_)
                refine lv_iload hx hb dL_books_335 (lv_at hl 0 rfl) ?_
                refine lv_iload hx hb dL_books_337 (lv_at hl 7 rfl) ?_
                refine lv_iadd hx hb dL_books_339 ?_
                refine lv_icmp_ne (tgt := 374) hx hb dL_books_340 (by decide) (fun c49 => ?_) (fun c49 => ?_)
                · replace hw := hw.1 c49
                  exact b_L_books_374 l hst C0 _ _ _ _ hw Z (lv_sub hl [] rfl)
                · replace hw := hw.2 c49
                  refine lv_aload_n hx hb dL_books_343 rfl (lv_at hl 4 rfl) ?_
                  refine z_get C0 Z in_L rfl 0 (by decide) rfl tm_1_181 (cx_lt C0 (by decide)) rfl rfl dL_books_344 ?_
                  refine lv_iload_n hx hb dL_books_347 rfl (lv_at hl 5 rfl) ?_
                  refine lv_bipush (v := 10) hx hb dL_books_348 (by decide) ?_
                  refine z_callH C0 Z hl.1 (As := [.ref (gad G 0), .int x1, .int 10]) (rest := []) (k_L_booking l (cx_g C0) hw) (gv_L_booking tm_2_238) ds_L_booking ⟨Nat.le_of_ble_eq_true rfl, Nat.le_of_ble_eq_true rfl⟩ rfl rfl (Nat.le_of_ble_eq_true rfl) ⟨Nat.le_of_ble_eq_true rfl, Nat.le_of_ble_eq_true rfl⟩ dL_books_350 (fun r51 v50 H locs hw Z => ?_)
                  refine lv_iload hx hb dL_books_353 (lv_at hl 10 rfl) ?_
                  refine lv_iconst (v := 0) hx hb dL_books_355 (by decide) ?_
                  refine lv_bipush (v := 20) hx hb dL_books_356 (by decide) ?_
                  refine lv_iload hx hb dL_books_358 (lv_at hl 0 rfl) ?_
                  refine lv_iload hx hb dL_books_360 (lv_at hl 8 rfl) ?_
                  refine lv_isub hx hb dL_books_362 ?_
                  refine z_abs C0 hl.1 tm_3_16 (Nat.le_of_ble_eq_true rfl) (Nat.le_of_ble_eq_true rfl) (Nat.le_of_ble_eq_true rfl) (Nat.le_of_ble_eq_true rfl) dL_books_363 ?_
                  refine lv_isub hx hb dL_books_366 ?_
                  refine z_max C0 hl.1 tm_1_208 (Nat.le_of_ble_eq_true rfl) (Nat.le_of_ble_eq_true rfl) (Nat.le_of_ble_eq_true rfl) (Nat.le_of_ble_eq_true rfl) dL_books_367 ?_
                  refine lv_imul hx hb dL_books_370 ?_
                  refine lv_icmp_eq (tgt := 376) hx hb dL_books_371 (by decide) (fun c52 => ?_) (fun c52 => ?_)
                  · replace hw := hw.1 c52
                    refine lv_iload hx hb dL_books_376 (lv_at hl 2 rfl) ?_
                    refine lv_if_lt (tgt := 391) hx hb dL_books_378 (by decide) (fun c53 => ?_) (fun c53 => ?_)
                    · replace hw := hw.1 c53
                      exact b_L_books_391 l hst C0 _ _ _ _ _ _ hw Z (lv_sub hl [8, 0] rfl)
                    · replace hw := hw.2 c53
                      refine lv_iload hx hb dL_books_381 (lv_at hl 2 rfl) ?_
                      refine lv_iload hx hb dL_books_383 (lv_at hl 8 rfl) ?_
                      refine lv_iload hx hb dL_books_385 (lv_at hl 9 rfl) ?_
                      refine lv_iadd hx hb dL_books_387 ?_
                      refine lv_icmp_le (tgt := 406) hx hb dL_books_388 (by decide) (fun c56 => ?_) (fun c56 => ?_)
                      · replace hw := hw.1 c56
                        refine lv_iload hx hb dL_books_406 (lv_at hl 0 rfl) ?_
                        refine lv_iload hx hb dL_books_408 (lv_at hl 2 rfl) ?_
                        refine lv_icmp_gt (tgt := 430) hx hb dL_books_410 (by decide) (fun c57 => ?_) (fun c57 => ?_)
                        · replace hw := hw.1 c57
                          exact b_L_books_430 l hst C0 _ _ _ _ hw Z (lv_sub hl [] rfl)
                        · replace hw := hw.2 c57
                          refine lv_iload hx hb dL_books_413 (lv_at hl 8 rfl) ?_
                          refine lv_iload hx hb dL_books_415 (lv_at hl 0 rfl) ?_
                          refine lv_isub hx hb dL_books_417 ?_
                          refine lv_iload hx hb dL_books_418 (lv_at hl 2 rfl) ?_
                          refine lv_iload hx hb dL_books_420 (lv_at hl 8 rfl) ?_
                          refine lv_isub hx hb dL_books_422 ?_
                          refine lv_icmp_gt (tgt := 430) hx hb dL_books_423 (by decide) (fun c58 => ?_) (fun c58 => ?_)
                          · replace hw := hw.1 c58
                            exact b_L_books_430 l hst C0 _ _ _ _ hw Z (lv_sub hl [] rfl)
                          · replace hw := hw.2 c58
                            refine lv_iconst (v := 1) hx hb dL_books_426 (by decide) ?_
                            refine lv_goto (tgt := 431) hx hb dL_books_427 (by decide) ?_
                            exact b_L_books_431 l hst C0 _ _ _ _ _ hw Z (lv_sub hl [] rfl)
                      · replace hw := hw.2 c56
                        exact b_L_books_391 l hst C0 _ _ _ _ _ _ hw Z (lv_sub hl [8, 0] rfl)
                  · replace hw := hw.2 c52
                    exact b_L_books_374 l hst C0 _ _ _ _ hw Z (lv_sub hl [] rfl)
          · replace hw := hw.2 c42
            refine lv_aload_n hx hb dL_books_264 rfl (lv_at hl 4 rfl) ?_
            refine z_get C0 Z in_L rfl 0 (by decide) rfl tm_1_181 (cx_lt C0 (by decide)) rfl rfl dL_books_265 ?_
            refine lv_iload_n hx hb dL_books_268 rfl (lv_at hl 5 rfl) ?_
            refine lv_bipush (v := 7) hx hb dL_books_269 (by decide) ?_
            refine z_callH C0 Z hl.1 (As := [.ref (gad G 0), .int x1, .int 7]) (rest := []) (k_L_booking l (cx_g C0) hw) (gv_L_booking tm_2_238) ds_L_booking ⟨Nat.le_of_ble_eq_true rfl, Nat.le_of_ble_eq_true rfl⟩ rfl rfl (Nat.le_of_ble_eq_true rfl) ⟨Nat.le_of_ble_eq_true rfl, Nat.le_of_ble_eq_true rfl⟩ dL_books_271 (fun r60 v59 H locs hw Z => ?_)
            refine lv_if_ne (tgt := 296) hx hb dL_books_274 (by decide) (fun c61 => ?_) (fun c61 => ?_)
            · replace hw := hw.1 c61
              exact b_L_books_296 l hst C0 _ _ _ _ hw Z (lv_sub hl [] rfl)
            · replace hw := hw.2 c61
              refine lv_iload hx hb dL_books_277 (lv_at hl 2 rfl) ?_
              refine lv_if_lt (tgt := 292) hx hb dL_books_279 (by decide) (fun c63 => ?_) (fun c63 => ?_)
              · replace hw := hw.1 c63
                exact b_L_books_292 l hst C0 _ _ _ _ hw Z (lv_sub hl [] rfl)
              · replace hw := hw.2 c63
                refine lv_iload hx hb dL_books_282 (lv_at hl 2 rfl) ?_
                refine lv_iload hx hb dL_books_284 (lv_at hl 8 rfl) ?_
                refine lv_iload hx hb dL_books_286 (lv_at hl 9 rfl) ?_
                refine lv_iadd hx hb dL_books_288 ?_
                refine lv_icmp_le (tgt := 296) hx hb dL_books_289 (by decide) (fun c64 => ?_) (fun c64 => ?_)
                · replace hw := hw.1 c64
                  exact b_L_books_296 l hst C0 _ _ _ _ hw Z (lv_sub hl [] rfl)
                · replace hw := hw.2 c64
                  exact b_L_books_292 l hst C0 _ _ _ _ hw Z (lv_sub hl [] rfl)
        · replace hw := hw.2 c39
          exact b_L_books_245 l hst C0 _ _ _ _ hw Z (lv_sub hl [] rfl)
  · replace hw := hw.2 c32
    refine lv_iload hx hb dL_books_198 (lv_at hl 0 rfl) ?_
    refine lv_bipush (v := (-103)) hx hb dL_books_200 (by decide) ?_
    refine lv_icmp_ne (tgt := 209) hx hb dL_books_202 (by decide) (fun c65 => ?_) (fun c65 => ?_)
    · replace hw := hw.1 c65
      refine lv_iconst (v := 0) hx hb dL_books_209 (by decide) ?_
      exact b_L_books_210 l hst C0 _ _ _ _ _ hw Z (lv_sub hl [] rfl)
    · replace hw := hw.2 c65
      refine lv_iconst (v := 1) hx hb dL_books_205 (by decide) ?_
      refine lv_goto (tgt := 210) hx hb dL_books_206 (by decide) ?_
      exact b_L_books_210 l hst C0 _ _ _ _ _ hw Z (lv_sub hl [] rfl)
set_option maxRecDepth 100000 in
set_option maxHeartbeats 4000000 in
theorem b_L_books_163 {p : Program} (l : Launch) {e : Env} {s : State} {m : MethodId} {args : Array Value} {below : List Frame} {meth : Method} {c : Code} {G : zG}   (hst : l.stackTraces = false) (C0 : Cx G RL cL_books 13 (some .boolean) p s m args meth c) {Q : Int32 → V3 → Prop} : ∀ (x1 : Int32) (x2 : Int32) (x5 : Int32) (x6 : Int32) (x7 : Int32) (x8 : Int32) (v : V3) (H : Heap) (locs : List Loc) (ls : Array Slot), w_L_books_163 Q x1 x2 x5 x6 x7 x8 v → Zs G s v H locs → lv_has ls 13 [(0, .ref (gad G 7)), (1, .int x1), (2, .int x2), (5, .int x5), (6, .int x6), (7, .int x7), (8, .int x8)] → W p l e { frames := 9, cells := 5, slots := 30, locals := 161 } s m args below meth c H locs 0 0 (MQ below (QiZ G Q) args s 5 30 (zA G)) (F0 m 163 ls []) := by
  have hx := C0.1
  have hb := C0.2.1
  intro x1 x2 x5 x6 x7 x8 v H locs ls hw Z hl
  rw [w_L_books_163] at hw
  refine lv_iconst (v := 0) hx hb dL_books_163 (by decide) ?_
  exact b_L_books_164 l hst C0 _ _ _ _ _ _ _ _ _ _ _ hw Z (lv_sub hl [0, 1, 2, 3, 4, 5, 6] rfl)
set_option maxRecDepth 100000 in
set_option maxHeartbeats 4000000 in
theorem b_L_books_56 {p : Program} (l : Launch) {e : Env} {s : State} {m : MethodId} {args : Array Value} {below : List Frame} {meth : Method} {c : Code} {G : zG}   (hst : l.stackTraces = false) (C0 : Cx G RL cL_books 13 (some .boolean) p s m args meth c) {Q : Int32 → V3 → Prop} : ∀ (x1 : Int32) (x2 : Int32) (x3 : Int32) (s0 : Int32) (s2 : Int32) (v : V3) (H : Heap) (locs : List Loc) (ls : Array Slot), w_L_books_56 Q x1 x2 x3 s0 s2 v → Zs G s v H locs → lv_has ls 13 [(0, .ref (gad G 7)), (1, .int x1), (2, .int x2), (3, .int x3)] → W p l e { frames := 9, cells := 5, slots := 30, locals := 161 } s m args below meth c H locs 0 0 (MQ below (QiZ G Q) args s 5 30 (zA G)) (F0 m 56 ls [.int s2, .ref (gad G 7), .int s0]) := by
  have hx := C0.1
  have hb := C0.2.1
  intro x1 x2 x3 s0 s2 v H locs ls hw Z hl
  rw [w_L_books_56] at hw
  refine z_callVi C0 Z hl.1 (As := [.int s2]) (rest := [.int s0]) (k_L_draw l (cx_g C0) hw) (gv_L_draw tm_1_204) rfl ds_L_draw ⟨Nat.le_of_ble_eq_true rfl, Nat.le_of_ble_eq_true rfl⟩ (ci := 4) rfl (cx_lt C0 (by decide)) rfl rfl rfl (Nat.le_of_ble_eq_true rfl) ⟨Nat.le_of_ble_eq_true rfl, Nat.le_of_ble_eq_true rfl⟩ dL_books_56 (fun r13 v12 H locs hw Z => ?_)
  refine lv_iadd hx hb dL_books_59 ?_
  refine lv_istore (lv' := [(4, .int (s0 + r13)), (0, .ref (gad G 7)), (1, .int x1), (2, .int x2), (3, .int x3)]) hx hb dL_books_60 hl (by decide) rfl (fun ls hl => ?_)
  refine lv_iconst (v := 1) hx hb dL_books_62 (by decide) ?_
  refine lv_aload_n hx hb dL_books_63 rfl (lv_at hl 1 rfl) ?_
  refine lv_bipush (v := 9) hx hb dL_books_64 (by decide) ?_
  refine z_callVi C0 Z hl.1 (As := [.int 9]) (rest := [.int 1]) (k_L_draw l (cx_g C0) hw) (gv_L_draw tm_1_204) rfl ds_L_draw ⟨Nat.le_of_ble_eq_true rfl, Nat.le_of_ble_eq_true rfl⟩ (ci := 4) rfl (cx_lt C0 (by decide)) rfl rfl rfl (Nat.le_of_ble_eq_true rfl) ⟨Nat.le_of_ble_eq_true rfl, Nat.le_of_ble_eq_true rfl⟩ dL_books_66 (fun r15 v14 H locs hw Z => ?_)
  refine lv_iadd hx hb dL_books_69 ?_
  refine lv_istore (lv' := [(5, .int (1 + r15)), (4, .int (s0 + r13)), (0, .ref (gad G 7)), (1, .int x1), (2, .int x2), (3, .int x3)]) hx hb dL_books_70 hl (by decide) rfl (fun ls hl => ?_)
  refine lv_aload_n hx hb dL_books_72 rfl (lv_at hl 2 rfl) ?_
  refine z_get C0 Z in_L rfl 0 (by decide) rfl tm_1_181 (cx_lt C0 (by decide)) rfl rfl dL_books_73 ?_
  refine lv_bipush (v := 7) hx hb dL_books_76 (by decide) ?_
  refine z_callH C0 Z hl.1 (As := [.ref (gad G 0), .int 7]) (rest := []) (k_L_count l (cx_g C0) hw) (gv_L_count tm_2_93) ds_L_count ⟨Nat.le_of_ble_eq_true rfl, Nat.le_of_ble_eq_true rfl⟩ rfl rfl (Nat.le_of_ble_eq_true rfl) ⟨Nat.le_of_ble_eq_true rfl, Nat.le_of_ble_eq_true rfl⟩ dL_books_78 (fun r17 v16 H locs hw Z => ?_)
  refine lv_aload_n hx hb dL_books_81 rfl (lv_at hl 2 rfl) ?_
  refine lv_bipush (v := 20) hx hb dL_books_82 (by decide) ?_
  refine z_callVi C0 Z hl.1 (As := [.int 20]) (rest := [.int r17]) (k_L_draw l (cx_g C0) hw) (gv_L_draw tm_1_204) rfl ds_L_draw ⟨Nat.le_of_ble_eq_true rfl, Nat.le_of_ble_eq_true rfl⟩ (ci := 4) rfl (cx_lt C0 (by decide)) rfl rfl rfl (Nat.le_of_ble_eq_true rfl) ⟨Nat.le_of_ble_eq_true rfl, Nat.le_of_ble_eq_true rfl⟩ dL_books_84 (fun r19 v18 H locs hw Z => ?_)
  refine lv_iadd hx hb dL_books_87 ?_
  refine lv_istore (lv' := [(6, .int (r17 + r19)), (5, .int (1 + r15)), (4, .int (s0 + r13)), (0, .ref (gad G 7)), (1, .int x1), (2, .int x2), (3, .int x3)]) hx hb dL_books_88 hl (by decide) rfl (fun ls hl => ?_)
  refine lv_aload_n hx hb dL_books_90 rfl (lv_at hl 3 rfl) ?_
  refine lv_bipush (v := 12) hx hb dL_books_91 (by decide) ?_
  refine z_callVi C0 Z hl.1 (As := [.int 12]) (rest := []) (k_L_draw l (cx_g C0) hw) (gv_L_draw tm_1_204) rfl ds_L_draw ⟨Nat.le_of_ble_eq_true rfl, Nat.le_of_ble_eq_true rfl⟩ (ci := 4) rfl (cx_lt C0 (by decide)) rfl rfl rfl (Nat.le_of_ble_eq_true rfl) ⟨Nat.le_of_ble_eq_true rfl, Nat.le_of_ble_eq_true rfl⟩ dL_books_93 (fun r21 v20 H locs hw Z => ?_)
  refine lv_istore (lv' := [(7, .int r21), (6, .int (r17 + r19)), (5, .int (1 + r15)), (4, .int (s0 + r13)), (0, .ref (gad G 7)), (1, .int x1), (2, .int x2), (3, .int x3)]) hx hb dL_books_96 hl (by decide) rfl (fun ls hl => ?_)
  refine lv_iconst (v := 1) hx hb dL_books_98 (by decide) ?_
  refine lv_aload_n hx hb dL_books_99 rfl (lv_at hl 4 rfl) ?_
  refine lv_bipush (v := 9) hx hb dL_books_100 (by decide) ?_
  refine z_callVi C0 Z hl.1 (As := [.int 9]) (rest := [.int 1]) (k_L_draw l (cx_g C0) hw) (gv_L_draw tm_1_204) rfl ds_L_draw ⟨Nat.le_of_ble_eq_true rfl, Nat.le_of_ble_eq_true rfl⟩ (ci := 4) rfl (cx_lt C0 (by decide)) rfl rfl rfl (Nat.le_of_ble_eq_true rfl) ⟨Nat.le_of_ble_eq_true rfl, Nat.le_of_ble_eq_true rfl⟩ dL_books_102 (fun r23 v22 H locs hw Z => ?_)
  refine lv_iadd hx hb dL_books_105 ?_
  refine lv_istore (lv' := [(8, .int (1 + r23)), (7, .int r21), (6, .int (r17 + r19)), (5, .int (1 + r15)), (4, .int (s0 + r13)), (0, .ref (gad G 7)), (1, .int x1), (2, .int x2), (3, .int x3)]) hx hb dL_books_106 hl (by decide) rfl (fun ls hl => ?_)
  refine lv_aload_n hx hb dL_books_108 rfl (lv_at hl 5 rfl) ?_
  refine z_get C0 Z in_L rfl 0 (by decide) rfl tm_1_181 (cx_lt C0 (by decide)) rfl rfl dL_books_109 ?_
  refine lv_iload_n hx hb dL_books_112 rfl (lv_at hl 8 rfl) ?_
  refine lv_iload hx hb dL_books_113 (lv_at hl 4 rfl) ?_
  refine lv_iload hx hb dL_books_115 (lv_at hl 3 rfl) ?_
  refine z_callH C0 Z hl.1 (As := [.ref (gad G 0), .int x3, .int (s0 + r13), .int (1 + r15)]) (rest := []) (k_L_draft l (cx_g C0) hw) (gv_L_draft tm_2_113) ds_L_draft ⟨Nat.le_of_ble_eq_true rfl, Nat.le_of_ble_eq_true rfl⟩ rfl rfl (Nat.le_of_ble_eq_true rfl) ⟨Nat.le_of_ble_eq_true rfl, Nat.le_of_ble_eq_true rfl⟩ dL_books_117 (fun r25 v24 H locs hw Z => ?_)
  refine lv_if_eq (tgt := 125) hx hb dL_books_120 (by decide) (fun c26 => ?_) (fun c26 => ?_)
  · replace hw := hw.1 c26
    refine lv_iload_n hx hb dL_books_125 rfl (lv_at hl 6 rfl) ?_
    refine lv_bipush (v := 40) hx hb dL_books_126 (by decide) ?_
    refine lv_icmp_ge (tgt := 163) hx hb dL_books_128 (by decide) (fun c27 => ?_) (fun c27 => ?_)
    · replace hw := hw.1 c27
      exact b_L_books_163 l hst C0 _ _ _ _ _ _ _ _ _ _ hw Z (lv_sub hl [5, 6, 7, 3, 2, 1, 0] rfl)
    · replace hw := hw.2 c27
      refine lv_aload_n hx hb dL_books_131 rfl (lv_at hl 5 rfl) ?_
      refine z_get C0 Z in_L rfl 0 (by decide) rfl tm_1_181 (cx_lt C0 (by decide)) rfl rfl dL_books_132 ?_
      refine lv_iload_n hx hb dL_books_135 rfl (lv_at hl 7 rfl) ?_
      refine lv_bipush (v := 8) hx hb dL_books_136 (by decide) ?_
      refine z_callH C0 Z hl.1 (As := [.ref (gad G 0), .int x2, .int 8]) (rest := []) (k_L_owner l (cx_g C0) hw) (gv_L_owner tm_2_147) ds_L_owner ⟨Nat.le_of_ble_eq_true rfl, Nat.le_of_ble_eq_true rfl⟩ rfl rfl (Nat.le_of_ble_eq_true rfl) ⟨Nat.le_of_ble_eq_true rfl, Nat.le_of_ble_eq_true rfl⟩ dL_books_138 (fun r68 v67 H locs hw Z => ?_)
      refine lv_bipush (v := 9) hx hb dL_books_141 (by decide) ?_
      refine lv_icmp_ge (tgt := 163) hx hb dL_books_143 (by decide) (fun c69 => ?_) (fun c69 => ?_)
      · replace hw := hw.1 c69
        exact b_L_books_163 l hst C0 _ _ _ _ _ _ _ _ _ _ hw Z (lv_sub hl [5, 6, 7, 3, 2, 1, 0] rfl)
      · replace hw := hw.2 c69
        refine lv_aload_n hx hb dL_books_146 rfl (lv_at hl 5 rfl) ?_
        refine z_get C0 Z in_L rfl 0 (by decide) rfl tm_1_181 (cx_lt C0 (by decide)) rfl rfl dL_books_147 ?_
        refine lv_iload_n hx hb dL_books_150 rfl (lv_at hl 7 rfl) ?_
        refine lv_bipush (v := 9) hx hb dL_books_151 (by decide) ?_
        refine z_callH C0 Z hl.1 (As := [.ref (gad G 0), .int x2, .int 9]) (rest := []) (k_L_owner l (cx_g C0) hw) (gv_L_owner tm_2_147) ds_L_owner ⟨Nat.le_of_ble_eq_true rfl, Nat.le_of_ble_eq_true rfl⟩ rfl rfl (Nat.le_of_ble_eq_true rfl) ⟨Nat.le_of_ble_eq_true rfl, Nat.le_of_ble_eq_true rfl⟩ dL_books_153 (fun r71 v70 H locs hw Z => ?_)
        refine lv_if_ne (tgt := 163) hx hb dL_books_156 (by decide) (fun c72 => ?_) (fun c72 => ?_)
        · replace hw := hw.1 c72
          exact b_L_books_163 l hst C0 _ _ _ _ _ _ _ _ _ _ hw Z (lv_sub hl [5, 6, 7, 3, 2, 1, 0] rfl)
        · replace hw := hw.2 c72
          refine lv_iconst (v := 1) hx hb dL_books_159 (by decide) ?_
          refine lv_goto (tgt := 164) hx hb dL_books_160 (by decide) ?_
          exact b_L_books_164 l hst C0 _ _ _ _ _ _ _ _ _ _ _ hw Z (lv_sub hl [5, 6, 7, 3, 2, 1, 0] rfl)
  · replace hw := hw.2 c26
    refine lv_iconst (v := 0) hx hb dL_books_123 (by decide) ?_
    refine z_wide (mc := 5) (ms := 30) (by decide) (by decide) ?_
    exact z_zret C0 Z (by decide) hw dL_books_124
set_option maxRecDepth 100000 in
set_option maxHeartbeats 4000000 in
theorem k_L_books (l : Launch) (hst : l.stackTraces = false) {G : zG} (hg : 116 ≤ gn G)  {v : V3} {Q : Int32 → V3 → Prop} (hw : w_L_books v Q) : My l yL_books cL_books 13 (some .boolean) 9 161 5 30 G [.ref (gad G 7)] v (QiZ G Q) := by
  rw [w_L_books] at hw
  refine z_yofW hg (by decide) (Nat.le_of_ble_eq_true rfl) ?_
  intro p e s m args below meth c ls C0 Z hl
  have hx := C0.1
  have hb := C0.2.1
  replace hl : lv_has ls 13 [(0, .ref (gad G 7))] := hl
  generalize s.heap = H at Z ⊢
  generalize ([] : List Loc) = locs at Z ⊢
  refine lv_aload_n hx hb dL_books_0 rfl (lv_at hl 0 rfl) ?_
  refine z_get C0 Z in_L rfl 0 (by decide) rfl tm_1_181 (cx_lt C0 (by decide)) rfl rfl dL_books_1 ?_
  refine lv_bipush (v := 6) hx hb dL_books_4 (by decide) ?_
  refine z_callH C0 Z hl.1 (As := [.ref (gad G 0), .int 6]) (rest := []) (k_L_count l (cx_g C0) hw) (gv_L_count tm_2_93) ds_L_count ⟨Nat.le_of_ble_eq_true rfl, Nat.le_of_ble_eq_true rfl⟩ rfl rfl (Nat.le_of_ble_eq_true rfl) ⟨Nat.le_of_ble_eq_true rfl, Nat.le_of_ble_eq_true rfl⟩ dL_books_6 (fun r2 v1 H locs hw Z => ?_)
  refine lv_istore_n (lv' := [(1, .int r2), (0, .ref (gad G 7))]) hx hb dL_books_9 rfl hl (by decide) rfl (fun ls hl => ?_)
  refine lv_aload_n hx hb dL_books_10 rfl (lv_at hl 1 rfl) ?_
  refine lv_aload_n hx hb dL_books_11 rfl (lv_at hl 1 rfl) ?_
  refine z_get C0 Z in_L rfl 0 (by decide) rfl tm_1_181 (cx_lt C0 (by decide)) rfl rfl dL_books_12 ?_
  refine lv_iconst (v := 5) hx hb dL_books_15 (by decide) ?_
  refine z_callH C0 Z hl.1 (As := [.ref (gad G 0), .int 5]) (rest := [.ref (gad G 7)]) (k_L_count l (cx_g C0) hw) (gv_L_count tm_2_93) ds_L_count ⟨Nat.le_of_ble_eq_true rfl, Nat.le_of_ble_eq_true rfl⟩ rfl rfl (Nat.le_of_ble_eq_true rfl) ⟨Nat.le_of_ble_eq_true rfl, Nat.le_of_ble_eq_true rfl⟩ dL_books_16 (fun r4 v3 H locs hw Z => ?_)
  refine z_callVi C0 Z hl.1 (As := [.int r4]) (rest := []) (k_L_draw l (cx_g C0) hw) (gv_L_draw tm_1_204) rfl ds_L_draw ⟨Nat.le_of_ble_eq_true rfl, Nat.le_of_ble_eq_true rfl⟩ (ci := 4) rfl (cx_lt C0 (by decide)) rfl rfl rfl (Nat.le_of_ble_eq_true rfl) ⟨Nat.le_of_ble_eq_true rfl, Nat.le_of_ble_eq_true rfl⟩ dL_books_19 (fun r6 v5 H locs hw Z => ?_)
  refine lv_istore_n (lv' := [(2, .int r6), (1, .int r2), (0, .ref (gad G 7))]) hx hb dL_books_22 rfl hl (by decide) rfl (fun ls hl => ?_)
  refine lv_aload_n hx hb dL_books_23 rfl (lv_at hl 2 rfl) ?_
  refine lv_bipush (v := 32) hx hb dL_books_24 (by decide) ?_
  refine z_callVi C0 Z hl.1 (As := [.int 32]) (rest := []) (k_L_draw l (cx_g C0) hw) (gv_L_draw tm_1_204) rfl ds_L_draw ⟨Nat.le_of_ble_eq_true rfl, Nat.le_of_ble_eq_true rfl⟩ (ci := 4) rfl (cx_lt C0 (by decide)) rfl rfl rfl (Nat.le_of_ble_eq_true rfl) ⟨Nat.le_of_ble_eq_true rfl, Nat.le_of_ble_eq_true rfl⟩ dL_books_26 (fun r8 v7 H locs hw Z => ?_)
  refine lv_istore_n (lv' := [(3, .int r8), (2, .int r6), (1, .int r2), (0, .ref (gad G 7))]) hx hb dL_books_29 rfl hl (by decide) rfl (fun ls hl => ?_)
  refine lv_iconst (v := 1) hx hb dL_books_30 (by decide) ?_
  refine lv_aload_n hx hb dL_books_31 rfl (lv_at hl 3 rfl) ?_
  refine lv_aload_n hx hb dL_books_32 rfl (lv_at hl 3 rfl) ?_
  refine lv_iconst (v := 3) hx hb dL_books_33 (by decide) ?_
  refine z_callVi C0 Z hl.1 (As := [.int 3]) (rest := [.ref (gad G 7), .int 1]) (k_L_draw l (cx_g C0) hw) (gv_L_draw tm_1_204) rfl ds_L_draw ⟨Nat.le_of_ble_eq_true rfl, Nat.le_of_ble_eq_true rfl⟩ (ci := 4) rfl (cx_lt C0 (by decide)) rfl rfl rfl (Nat.le_of_ble_eq_true rfl) ⟨Nat.le_of_ble_eq_true rfl, Nat.le_of_ble_eq_true rfl⟩ dL_books_34 (fun r10 v9 H locs hw Z => ?_)
  refine lv_if_ne (tgt := 47) hx hb dL_books_37 (by decide) (fun c11 => ?_) (fun c11 => ?_)
  · replace hw := hw.1 c11
    refine lv_bipush (v := 6) hx hb dL_books_47 (by decide) ?_
    refine lv_bipush (v := 32) hx hb dL_books_49 (by decide) ?_
    refine lv_iload_n hx hb dL_books_51 rfl (lv_at hl 0 rfl) ?_
    refine lv_isub hx hb dL_books_52 ?_
    refine z_min C0 hl.1 tm_2_112 (Nat.le_of_ble_eq_true rfl) (Nat.le_of_ble_eq_true rfl) (Nat.le_of_ble_eq_true rfl) (Nat.le_of_ble_eq_true rfl) dL_books_53 ?_
    exact b_L_books_56 l hst C0 _ _ _ _ _ _ _ _ _ hw Z (lv_sub hl [3, 2, 1, 0] rfl)
  · replace hw := hw.2 c11
    refine lv_bipush (v := 32) hx hb dL_books_40 (by decide) ?_
    refine lv_iload_n hx hb dL_books_42 rfl (lv_at hl 0 rfl) ?_
    refine lv_isub hx hb dL_books_43 ?_
    refine lv_goto (tgt := 56) hx hb dL_books_44 (by decide) ?_
    exact b_L_books_56 l hst C0 _ _ _ _ _ _ _ _ _ hw Z (lv_sub hl [3, 2, 1, 0] rfl)
-- L_sums: room (6, 138) cells (0, 0)
theorem dL_sums_0 : decode cL_sums 0 = .ok (.iconst 0, 1) := by decide +kernel
theorem dL_sums_1 : decode cL_sums 1 = .ok (.istore_n 1, 1) := by decide +kernel
theorem dL_sums_2 : decode cL_sums 2 = .ok (.iconst 0, 1) := by decide +kernel
theorem dL_sums_3 : decode cL_sums 3 = .ok (.istore_n 2, 1) := by decide +kernel
theorem dL_sums_4 : decode cL_sums 4 = .ok (.iconst 0, 1) := by decide +kernel
theorem dL_sums_5 : decode cL_sums 5 = .ok (.istore_n 3, 1) := by decide +kernel
theorem dL_sums_6 : decode cL_sums 6 = .ok (.iconst 0, 1) := by decide +kernel
theorem dL_sums_7 : decode cL_sums 7 = .ok (.istore 4, 2) := by decide +kernel
theorem dL_sums_9 : decode cL_sums 9 = .ok (.iconst 0, 1) := by decide +kernel
theorem dL_sums_10 : decode cL_sums 10 = .ok (.istore 5, 2) := by decide +kernel
theorem dL_sums_12 : decode cL_sums 12 = .ok (.iconst (-1), 1) := by decide +kernel
theorem dL_sums_13 : decode cL_sums 13 = .ok (.istore 6, 2) := by decide +kernel
theorem dL_sums_15 : decode cL_sums 15 = .ok (.iconst 0, 1) := by decide +kernel
theorem dL_sums_16 : decode cL_sums 16 = .ok (.istore 7, 2) := by decide +kernel
theorem dL_sums_18 : decode cL_sums 18 = .ok (.iload 7, 2) := by decide +kernel
theorem dL_sums_20 : decode cL_sums 20 = .ok (.aload_n 0, 1) := by decide +kernel
theorem dL_sums_21 : decode cL_sums 21 = .ok (.getfield 10, 3) := by decide +kernel
theorem dL_sums_24 : decode cL_sums 24 = .ok (.iconst 5, 1) := by decide +kernel
theorem dL_sums_25 : decode cL_sums 25 = .ok (.invokestatic 154, 3) := by decide +kernel
theorem dL_sums_28 : decode cL_sums 28 = .ok (.if_icmp .ge 136, 3) := by decide +kernel
theorem dL_sums_31 : decode cL_sums 31 = .ok (.iload_n 1, 1) := by decide +kernel
theorem dL_sums_32 : decode cL_sums 32 = .ok (.aload_n 0, 1) := by decide +kernel
theorem dL_sums_33 : decode cL_sums 33 = .ok (.getfield 10, 3) := by decide +kernel
theorem dL_sums_36 : decode cL_sums 36 = .ok (.iload 7, 2) := by decide +kernel
theorem dL_sums_38 : decode cL_sums 38 = .ok (.iconst 0, 1) := by decide +kernel
theorem dL_sums_39 : decode cL_sums 39 = .ok (.invokestatic 162, 3) := by decide +kernel
theorem dL_sums_42 : decode cL_sums 42 = .ok (.iadd, 1) := by decide +kernel
theorem dL_sums_43 : decode cL_sums 43 = .ok (.istore_n 1, 1) := by decide +kernel
theorem dL_sums_44 : decode cL_sums 44 = .ok (.iload 5, 2) := by decide +kernel
theorem dL_sums_46 : decode cL_sums 46 = .ok (.aload_n 0, 1) := by decide +kernel
theorem dL_sums_47 : decode cL_sums 47 = .ok (.getfield 10, 3) := by decide +kernel
theorem dL_sums_50 : decode cL_sums 50 = .ok (.iload 7, 2) := by decide +kernel
theorem dL_sums_52 : decode cL_sums 52 = .ok (.bipush 8, 2) := by decide +kernel
theorem dL_sums_54 : decode cL_sums 54 = .ok (.invokestatic 162, 3) := by decide +kernel
theorem dL_sums_57 : decode cL_sums 57 = .ok (.iadd, 1) := by decide +kernel
theorem dL_sums_58 : decode cL_sums 58 = .ok (.istore 5, 2) := by decide +kernel
theorem dL_sums_60 : decode cL_sums 60 = .ok (.aload_n 0, 1) := by decide +kernel
theorem dL_sums_61 : decode cL_sums 61 = .ok (.getfield 10, 3) := by decide +kernel
theorem dL_sums_64 : decode cL_sums 64 = .ok (.iload 7, 2) := by decide +kernel
theorem dL_sums_66 : decode cL_sums 66 = .ok (.iconst 1, 1) := by decide +kernel
theorem dL_sums_67 : decode cL_sums 67 = .ok (.invokestatic 162, 3) := by decide +kernel
theorem dL_sums_70 : decode cL_sums 70 = .ok (.istore 8, 2) := by decide +kernel
theorem dL_sums_72 : decode cL_sums 72 = .ok (.aload_n 0, 1) := by decide +kernel
theorem dL_sums_73 : decode cL_sums 73 = .ok (.getfield 10, 3) := by decide +kernel
theorem dL_sums_76 : decode cL_sums 76 = .ok (.iload 7, 2) := by decide +kernel
theorem dL_sums_78 : decode cL_sums 78 = .ok (.iconst 2, 1) := by decide +kernel
theorem dL_sums_79 : decode cL_sums 79 = .ok (.invokestatic 162, 3) := by decide +kernel
theorem dL_sums_82 : decode cL_sums 82 = .ok (.aload_n 0, 1) := by decide +kernel
theorem dL_sums_83 : decode cL_sums 83 = .ok (.getfield 10, 3) := by decide +kernel
theorem dL_sums_86 : decode cL_sums 86 = .ok (.iload 7, 2) := by decide +kernel
theorem dL_sums_88 : decode cL_sums 88 = .ok (.iconst 3, 1) := by decide +kernel
theorem dL_sums_89 : decode cL_sums 89 = .ok (.invokestatic 162, 3) := by decide +kernel
theorem dL_sums_92 : decode cL_sums 92 = .ok (.iadd, 1) := by decide +kernel
theorem dL_sums_93 : decode cL_sums 93 = .ok (.istore 9, 2) := by decide +kernel
theorem dL_sums_95 : decode cL_sums 95 = .ok (.aload_n 0, 1) := by decide +kernel
theorem dL_sums_96 : decode cL_sums 96 = .ok (.getfield 10, 3) := by decide +kernel
theorem dL_sums_99 : decode cL_sums 99 = .ok (.iload 7, 2) := by decide +kernel
theorem dL_sums_101 : decode cL_sums 101 = .ok (.bipush 9, 2) := by decide +kernel
theorem dL_sums_103 : decode cL_sums 103 = .ok (.invokestatic 162, 3) := by decide +kernel
theorem dL_sums_106 : decode cL_sums 106 = .ok (.iload 9, 2) := by decide +kernel
theorem dL_sums_108 : decode cL_sums 108 = .ok (.bipush 9, 2) := by decide +kernel
theorem dL_sums_110 : decode cL_sums 110 = .ok (.if_icmp .lt 7, 3) := by decide +kernel
theorem dL_sums_113 : decode cL_sums 113 = .ok (.iconst 1, 1) := by decide +kernel
theorem dL_sums_114 : decode cL_sums 114 = .ok (.goto 4, 3) := by decide +kernel
theorem dL_sums_117 : decode cL_sums 117 = .ok (.iconst 0, 1) := by decide +kernel
theorem dL_sums_118 : decode cL_sums 118 = .ok (.if_icmp .ne 38, 3) := by decide +kernel
theorem dL_sums_121 : decode cL_sums 121 = .ok (.aload_n 0, 1) := by decide +kernel
theorem dL_sums_122 : decode cL_sums 122 = .ok (.getfield 10, 3) := by decide +kernel
theorem dL_sums_125 : decode cL_sums 125 = .ok (.iload 7, 2) := by decide +kernel
theorem dL_sums_127 : decode cL_sums 127 = .ok (.invokestatic 172, 3) := by decide +kernel
theorem dL_sums_130 : decode cL_sums 130 = .ok (.iload 8, 2) := by decide +kernel
theorem dL_sums_132 : decode cL_sums 132 = .ok (.iload 9, 2) := by decide +kernel
theorem dL_sums_134 : decode cL_sums 134 = .ok (.iadd, 1) := by decide +kernel
theorem dL_sums_135 : decode cL_sums 135 = .ok (.ifCond .ne 7, 3) := by decide +kernel
theorem dL_sums_138 : decode cL_sums 138 = .ok (.dconst 1, 1) := by decide +kernel
theorem dL_sums_139 : decode cL_sums 139 = .ok (.goto 13, 3) := by decide +kernel
theorem dL_sums_142 : decode cL_sums 142 = .ok (.iload 8, 2) := by decide +kernel
theorem dL_sums_144 : decode cL_sums 144 = .ok (.i2d, 1) := by decide +kernel
theorem dL_sums_145 : decode cL_sums 145 = .ok (.iload 8, 2) := by decide +kernel
theorem dL_sums_147 : decode cL_sums 147 = .ok (.iload 9, 2) := by decide +kernel
theorem dL_sums_149 : decode cL_sums 149 = .ok (.iadd, 1) := by decide +kernel
theorem dL_sums_150 : decode cL_sums 150 = .ok (.i2d, 1) := by decide +kernel
theorem dL_sums_151 : decode cL_sums 151 = .ok (.ddiv, 1) := by decide +kernel
theorem dL_sums_152 : decode cL_sums 152 = .ok (.dcmp .l, 1) := by decide +kernel
theorem dL_sums_153 : decode cL_sums 153 = .ok (.ifCond .eq 5, 3) := by decide +kernel
theorem dL_sums_156 : decode cL_sums 156 = .ok (.iconst 0, 1) := by decide +kernel
theorem dL_sums_157 : decode cL_sums 157 = .ok (.ireturn, 1) := by decide +kernel
theorem dL_sums_158 : decode cL_sums 158 = .ok (.iinc 7 1, 3) := by decide +kernel
theorem dL_sums_161 : decode cL_sums 161 = .ok (.goto (-143), 3) := by decide +kernel
theorem dL_sums_164 : decode cL_sums 164 = .ok (.iconst 0, 1) := by decide +kernel
theorem dL_sums_165 : decode cL_sums 165 = .ok (.istore 7, 2) := by decide +kernel
theorem dL_sums_167 : decode cL_sums 167 = .ok (.iload 7, 2) := by decide +kernel
theorem dL_sums_169 : decode cL_sums 169 = .ok (.aload_n 0, 1) := by decide +kernel
theorem dL_sums_170 : decode cL_sums 170 = .ok (.getfield 10, 3) := by decide +kernel
theorem dL_sums_173 : decode cL_sums 173 = .ok (.bipush 6, 2) := by decide +kernel
theorem dL_sums_175 : decode cL_sums 175 = .ok (.invokestatic 154, 3) := by decide +kernel
theorem dL_sums_178 : decode cL_sums 178 = .ok (.if_icmp .ge 136, 3) := by decide +kernel
theorem dL_sums_181 : decode cL_sums 181 = .ok (.aload_n 0, 1) := by decide +kernel
theorem dL_sums_182 : decode cL_sums 182 = .ok (.getfield 10, 3) := by decide +kernel
theorem dL_sums_185 : decode cL_sums 185 = .ok (.iload 7, 2) := by decide +kernel
theorem dL_sums_187 : decode cL_sums 187 = .ok (.bipush 7, 2) := by decide +kernel
theorem dL_sums_189 : decode cL_sums 189 = .ok (.invokestatic 167, 3) := by decide +kernel
theorem dL_sums_192 : decode cL_sums 192 = .ok (.istore 8, 2) := by decide +kernel
theorem dL_sums_194 : decode cL_sums 194 = .ok (.iload_n 2, 1) := by decide +kernel
theorem dL_sums_195 : decode cL_sums 195 = .ok (.iload 8, 2) := by decide +kernel
theorem dL_sums_197 : decode cL_sums 197 = .ok (.ifCond .ne 7, 3) := by decide +kernel
theorem dL_sums_200 : decode cL_sums 200 = .ok (.iconst 1, 1) := by decide +kernel
theorem dL_sums_201 : decode cL_sums 201 = .ok (.goto 4, 3) := by decide +kernel
theorem dL_sums_204 : decode cL_sums 204 = .ok (.iconst 0, 1) := by decide +kernel
theorem dL_sums_205 : decode cL_sums 205 = .ok (.iadd, 1) := by decide +kernel
theorem dL_sums_206 : decode cL_sums 206 = .ok (.istore_n 2, 1) := by decide +kernel
theorem dL_sums_207 : decode cL_sums 207 = .ok (.iload_n 3, 1) := by decide +kernel
theorem dL_sums_208 : decode cL_sums 208 = .ok (.iload 8, 2) := by decide +kernel
theorem dL_sums_210 : decode cL_sums 210 = .ok (.iconst 1, 1) := by decide +kernel
theorem dL_sums_211 : decode cL_sums 211 = .ok (.if_icmp .ne 7, 3) := by decide +kernel
theorem dL_sums_214 : decode cL_sums 214 = .ok (.iconst 1, 1) := by decide +kernel
theorem dL_sums_215 : decode cL_sums 215 = .ok (.goto 4, 3) := by decide +kernel
theorem dL_sums_218 : decode cL_sums 218 = .ok (.iconst 0, 1) := by decide +kernel
theorem dL_sums_219 : decode cL_sums 219 = .ok (.iadd, 1) := by decide +kernel
theorem dL_sums_220 : decode cL_sums 220 = .ok (.istore_n 3, 1) := by decide +kernel
theorem dL_sums_221 : decode cL_sums 221 = .ok (.iload 4, 2) := by decide +kernel
theorem dL_sums_223 : decode cL_sums 223 = .ok (.iload 8, 2) := by decide +kernel
theorem dL_sums_225 : decode cL_sums 225 = .ok (.iconst 2, 1) := by decide +kernel
theorem dL_sums_226 : decode cL_sums 226 = .ok (.if_icmp .ne 7, 3) := by decide +kernel
theorem dL_sums_229 : decode cL_sums 229 = .ok (.iconst 1, 1) := by decide +kernel
theorem dL_sums_230 : decode cL_sums 230 = .ok (.goto 4, 3) := by decide +kernel
theorem dL_sums_233 : decode cL_sums 233 = .ok (.iconst 0, 1) := by decide +kernel
theorem dL_sums_234 : decode cL_sums 234 = .ok (.iadd, 1) := by decide +kernel
theorem dL_sums_235 : decode cL_sums 235 = .ok (.istore 4, 2) := by decide +kernel
theorem dL_sums_237 : decode cL_sums 237 = .ok (.iload 8, 2) := by decide +kernel
theorem dL_sums_239 : decode cL_sums 239 = .ok (.ifCond .ne 47, 3) := by decide +kernel
theorem dL_sums_242 : decode cL_sums 242 = .ok (.aload_n 0, 1) := by decide +kernel
theorem dL_sums_243 : decode cL_sums 243 = .ok (.getfield 10, 3) := by decide +kernel
theorem dL_sums_246 : decode cL_sums 246 = .ok (.iload 7, 2) := by decide +kernel
theorem dL_sums_248 : decode cL_sums 248 = .ok (.bipush 8, 2) := by decide +kernel
theorem dL_sums_250 : decode cL_sums 250 = .ok (.invokestatic 167, 3) := by decide +kernel
theorem dL_sums_253 : decode cL_sums 253 = .ok (.iconst (-1), 1) := by decide +kernel
theorem dL_sums_254 : decode cL_sums 254 = .ok (.if_icmp .ne 52, 3) := by decide +kernel
theorem dL_sums_257 : decode cL_sums 257 = .ok (.aload_n 0, 1) := by decide +kernel
theorem dL_sums_258 : decode cL_sums 258 = .ok (.getfield 10, 3) := by decide +kernel
theorem dL_sums_261 : decode cL_sums 261 = .ok (.iload 7, 2) := by decide +kernel
theorem dL_sums_263 : decode cL_sums 263 = .ok (.bipush 9, 2) := by decide +kernel
theorem dL_sums_265 : decode cL_sums 265 = .ok (.invokestatic 167, 3) := by decide +kernel
theorem dL_sums_268 : decode cL_sums 268 = .ok (.iconst (-1), 1) := by decide +kernel
theorem dL_sums_269 : decode cL_sums 269 = .ok (.if_icmp .ne 37, 3) := by decide +kernel
theorem dL_sums_272 : decode cL_sums 272 = .ok (.aload_n 0, 1) := by decide +kernel
theorem dL_sums_273 : decode cL_sums 273 = .ok (.getfield 10, 3) := by decide +kernel
theorem dL_sums_276 : decode cL_sums 276 = .ok (.iload 7, 2) := by decide +kernel
theorem dL_sums_278 : decode cL_sums 278 = .ok (.bipush 10, 2) := by decide +kernel
theorem dL_sums_280 : decode cL_sums 280 = .ok (.invokestatic 167, 3) := by decide +kernel
theorem dL_sums_283 : decode cL_sums 283 = .ok (.ifCond .ne 23, 3) := by decide +kernel
theorem dL_sums_286 : decode cL_sums 286 = .ok (.iload 8, 2) := by decide +kernel
theorem dL_sums_288 : decode cL_sums 288 = .ok (.ifCond .eq 20, 3) := by decide +kernel
theorem dL_sums_291 : decode cL_sums 291 = .ok (.aload_n 0, 1) := by decide +kernel
theorem dL_sums_292 : decode cL_sums 292 = .ok (.getfield 10, 3) := by decide +kernel
theorem dL_sums_295 : decode cL_sums 295 = .ok (.iload 7, 2) := by decide +kernel
theorem dL_sums_297 : decode cL_sums 297 = .ok (.bipush 11, 2) := by decide +kernel
theorem dL_sums_299 : decode cL_sums 299 = .ok (.invokestatic 167, 3) := by decide +kernel
theorem dL_sums_302 : decode cL_sums 302 = .ok (.iconst (-1), 1) := by decide +kernel
theorem dL_sums_303 : decode cL_sums 303 = .ok (.if_icmp .eq 5, 3) := by decide +kernel
theorem dL_sums_306 : decode cL_sums 306 = .ok (.iconst 0, 1) := by decide +kernel
theorem dL_sums_307 : decode cL_sums 307 = .ok (.ireturn, 1) := by decide +kernel
theorem dL_sums_308 : decode cL_sums 308 = .ok (.iinc 7 1, 3) := by decide +kernel
theorem dL_sums_311 : decode cL_sums 311 = .ok (.goto (-144), 3) := by decide +kernel
theorem dL_sums_314 : decode cL_sums 314 = .ok (.iconst 0, 1) := by decide +kernel
theorem dL_sums_315 : decode cL_sums 315 = .ok (.istore 7, 2) := by decide +kernel
theorem dL_sums_317 : decode cL_sums 317 = .ok (.iload 7, 2) := by decide +kernel
theorem dL_sums_319 : decode cL_sums 319 = .ok (.iload_n 2, 1) := by decide +kernel
theorem dL_sums_320 : decode cL_sums 320 = .ok (.if_icmp .ge 96, 3) := by decide +kernel
theorem dL_sums_323 : decode cL_sums 323 = .ok (.aload_n 0, 1) := by decide +kernel
theorem dL_sums_324 : decode cL_sums 324 = .ok (.getfield 10, 3) := by decide +kernel
theorem dL_sums_327 : decode cL_sums 327 = .ok (.iload 7, 2) := by decide +kernel
theorem dL_sums_329 : decode cL_sums 329 = .ok (.invokestatic 175, 3) := by decide +kernel
theorem dL_sums_332 : decode cL_sums 332 = .ok (.istore 8, 2) := by decide +kernel
theorem dL_sums_334 : decode cL_sums 334 = .ok (.iload 8, 2) := by decide +kernel
theorem dL_sums_336 : decode cL_sums 336 = .ok (.ifCond .ge 7, 3) := by decide +kernel
theorem dL_sums_339 : decode cL_sums 339 = .ok (.iconst 0, 1) := by decide +kernel
theorem dL_sums_340 : decode cL_sums 340 = .ok (.goto 13, 3) := by decide +kernel
theorem dL_sums_343 : decode cL_sums 343 = .ok (.aload_n 0, 1) := by decide +kernel
theorem dL_sums_344 : decode cL_sums 344 = .ok (.getfield 10, 3) := by decide +kernel
theorem dL_sums_347 : decode cL_sums 347 = .ok (.iload 8, 2) := by decide +kernel
theorem dL_sums_349 : decode cL_sums 349 = .ok (.iconst 0, 1) := by decide +kernel
theorem dL_sums_350 : decode cL_sums 350 = .ok (.invokestatic 167, 3) := by decide +kernel
theorem dL_sums_353 : decode cL_sums 353 = .ok (.istore 9, 2) := by decide +kernel
theorem dL_sums_355 : decode cL_sums 355 = .ok (.aload_n 0, 1) := by decide +kernel
theorem dL_sums_356 : decode cL_sums 356 = .ok (.getfield 10, 3) := by decide +kernel
theorem dL_sums_359 : decode cL_sums 359 = .ok (.iload 9, 2) := by decide +kernel
theorem dL_sums_361 : decode cL_sums 361 = .ok (.iconst 2, 1) := by decide +kernel
theorem dL_sums_362 : decode cL_sums 362 = .ok (.invokestatic 162, 3) := by decide +kernel
theorem dL_sums_365 : decode cL_sums 365 = .ok (.aload_n 0, 1) := by decide +kernel
theorem dL_sums_366 : decode cL_sums 366 = .ok (.getfield 10, 3) := by decide +kernel
theorem dL_sums_369 : decode cL_sums 369 = .ok (.iload 9, 2) := by decide +kernel
theorem dL_sums_371 : decode cL_sums 371 = .ok (.iconst 3, 1) := by decide +kernel
theorem dL_sums_372 : decode cL_sums 372 = .ok (.invokestatic 162, 3) := by decide +kernel
theorem dL_sums_375 : decode cL_sums 375 = .ok (.iadd, 1) := by decide +kernel
theorem dL_sums_376 : decode cL_sums 376 = .ok (.istore 10, 2) := by decide +kernel
theorem dL_sums_378 : decode cL_sums 378 = .ok (.iload 8, 2) := by decide +kernel
theorem dL_sums_380 : decode cL_sums 380 = .ok (.ifCond .lt 24, 3) := by decide +kernel
theorem dL_sums_383 : decode cL_sums 383 = .ok (.aload_n 0, 1) := by decide +kernel
theorem dL_sums_384 : decode cL_sums 384 = .ok (.getfield 10, 3) := by decide +kernel
theorem dL_sums_387 : decode cL_sums 387 = .ok (.iload 8, 2) := by decide +kernel
theorem dL_sums_389 : decode cL_sums 389 = .ok (.bipush 7, 2) := by decide +kernel
theorem dL_sums_391 : decode cL_sums 391 = .ok (.invokestatic 167, 3) := by decide +kernel
theorem dL_sums_394 : decode cL_sums 394 = .ok (.ifCond .ne 10, 3) := by decide +kernel
theorem dL_sums_397 : decode cL_sums 397 = .ok (.iload 10, 2) := by decide +kernel
theorem dL_sums_399 : decode cL_sums 399 = .ok (.iload 6, 2) := by decide +kernel
theorem dL_sums_401 : decode cL_sums 401 = .ok (.if_icmp .ge 5, 3) := by decide +kernel
theorem dL_sums_404 : decode cL_sums 404 = .ok (.iconst 0, 1) := by decide +kernel
theorem dL_sums_405 : decode cL_sums 405 = .ok (.ireturn, 1) := by decide +kernel
theorem dL_sums_406 : decode cL_sums 406 = .ok (.iload 10, 2) := by decide +kernel
theorem dL_sums_408 : decode cL_sums 408 = .ok (.istore 6, 2) := by decide +kernel
theorem dL_sums_410 : decode cL_sums 410 = .ok (.iinc 7 1, 3) := by decide +kernel
theorem dL_sums_413 : decode cL_sums 413 = .ok (.goto (-96), 3) := by decide +kernel
theorem dL_sums_416 : decode cL_sums 416 = .ok (.iload_n 1, 1) := by decide +kernel
theorem dL_sums_417 : decode cL_sums 417 = .ok (.aload_n 0, 1) := by decide +kernel
theorem dL_sums_418 : decode cL_sums 418 = .ok (.getfield 145, 3) := by decide +kernel
theorem dL_sums_421 : decode cL_sums 421 = .ok (.if_icmp .ne 70, 3) := by decide +kernel
theorem dL_sums_424 : decode cL_sums 424 = .ok (.iload_n 2, 1) := by decide +kernel
theorem dL_sums_425 : decode cL_sums 425 = .ok (.aload_n 0, 1) := by decide +kernel
theorem dL_sums_426 : decode cL_sums 426 = .ok (.getfield 10, 3) := by decide +kernel
theorem dL_sums_429 : decode cL_sums 429 = .ok (.bipush 8, 2) := by decide +kernel
theorem dL_sums_431 : decode cL_sums 431 = .ok (.invokestatic 154, 3) := by decide +kernel
theorem dL_sums_434 : decode cL_sums 434 = .ok (.if_icmp .ne 57, 3) := by decide +kernel
theorem dL_sums_437 : decode cL_sums 437 = .ok (.iload_n 3, 1) := by decide +kernel
theorem dL_sums_438 : decode cL_sums 438 = .ok (.aload_n 0, 1) := by decide +kernel
theorem dL_sums_439 : decode cL_sums 439 = .ok (.getfield 10, 3) := by decide +kernel
theorem dL_sums_442 : decode cL_sums 442 = .ok (.bipush 9, 2) := by decide +kernel
theorem dL_sums_444 : decode cL_sums 444 = .ok (.invokestatic 154, 3) := by decide +kernel
theorem dL_sums_447 : decode cL_sums 447 = .ok (.if_icmp .ne 44, 3) := by decide +kernel
theorem dL_sums_450 : decode cL_sums 450 = .ok (.iload 4, 2) := by decide +kernel
theorem dL_sums_452 : decode cL_sums 452 = .ok (.aload_n 0, 1) := by decide +kernel
theorem dL_sums_453 : decode cL_sums 453 = .ok (.getfield 10, 3) := by decide +kernel
theorem dL_sums_456 : decode cL_sums 456 = .ok (.bipush 10, 2) := by decide +kernel
theorem dL_sums_458 : decode cL_sums 458 = .ok (.invokestatic 154, 3) := by decide +kernel
theorem dL_sums_461 : decode cL_sums 461 = .ok (.if_icmp .ne 30, 3) := by decide +kernel
theorem dL_sums_464 : decode cL_sums 464 = .ok (.iload 5, 2) := by decide +kernel
theorem dL_sums_466 : decode cL_sums 466 = .ok (.iload_n 2, 1) := by decide +kernel
theorem dL_sums_467 : decode cL_sums 467 = .ok (.iload_n 3, 1) := by decide +kernel
theorem dL_sums_468 : decode cL_sums 468 = .ok (.iadd, 1) := by decide +kernel
theorem dL_sums_469 : decode cL_sums 469 = .ok (.iload 4, 2) := by decide +kernel
theorem dL_sums_471 : decode cL_sums 471 = .ok (.iadd, 1) := by decide +kernel
theorem dL_sums_472 : decode cL_sums 472 = .ok (.if_icmp .ne 19, 3) := by decide +kernel
theorem dL_sums_475 : decode cL_sums 475 = .ok (.aload_n 0, 1) := by decide +kernel
theorem dL_sums_476 : decode cL_sums 476 = .ok (.getfield 10, 3) := by decide +kernel
theorem dL_sums_479 : decode cL_sums 479 = .ok (.iload_n 2, 1) := by decide +kernel
theorem dL_sums_480 : decode cL_sums 480 = .ok (.invokestatic 175, 3) := by decide +kernel
theorem dL_sums_483 : decode cL_sums 483 = .ok (.iconst (-1), 1) := by decide +kernel
theorem dL_sums_484 : decode cL_sums 484 = .ok (.if_icmp .ne 7, 3) := by decide +kernel
theorem dL_sums_487 : decode cL_sums 487 = .ok (.iconst 1, 1) := by decide +kernel
theorem dL_sums_488 : decode cL_sums 488 = .ok (.goto 4, 3) := by decide +kernel
theorem dL_sums_491 : decode cL_sums 491 = .ok (.iconst 0, 1) := by decide +kernel
theorem dL_sums_492 : decode cL_sums 492 = .ok (.ireturn, 1) := by decide +kernel
def w_L_sums_492  (Q : Int32 → V3 → Prop) (s0 : Int32) (v : V3) : Prop := (s0 = 0 ∨ s0 = 1) ∧ Q s0 v
def w_L_sums_491  (Q : Int32 → V3 → Prop) (v : V3) : Prop := w_L_sums_492 Q 0 v
def w_L_sums_404  (Q : Int32 → V3 → Prop) (v : V3) : Prop := Q 0 v
def w_L_sums_353  (Q : Int32 → V3 → Prop) (K317 : Int32 → Int32 → Int32 → Int32 → Int32 → Int32 → Int32 → V3 → Prop) (x1 : Int32) (x2 : Int32) (x3 : Int32) (x4 : Int32) (x5 : Int32) (x6 : Int32) (x7 : Int32) (x8 : Int32) (s0 : Int32) (v : V3) : Prop := w_L_owner s0 2 v (fun r29 v28 => w_L_owner s0 3 v28 (fun r31 v30 => ((x8 < 0 → w_L_sums_404 Q v30) ∧ (¬ x8 < 0 → w_L_booking x8 7 v30 (fun r34 v33 => ((¬ r34 = 0 → w_L_sums_404 Q v33) ∧ (r34 = 0 → ((x6 ≤ (r29 + r31) → K317 x1 x2 x3 x4 x5 (r29 + r31) (x7 + 1) v33) ∧ (¬ x6 ≤ (r29 + r31) → w_L_sums_404 Q v33)))))))))
def w_L_sums_317  (Q : Int32 → V3 → Prop) : Nat → Int32 → Int32 → Int32 → Int32 → Int32 → Int32 → Int32 → V3 → Prop
  | 0, _, _, _, _, _, _, _, _ => False
  | n317 + 1, x1, x2, x3, x4, x5, x6, x7, v => ((x2 ≤ x7 → ((¬ x1 = (v 7 3) → w_L_sums_491 Q v) ∧ (x1 = (v 7 3) → w_L_count 8 v (fun r11 v10 => ((¬ x2 = r11 → w_L_sums_491 Q v10) ∧ (x2 = r11 → w_L_count 9 v10 (fun r14 v13 => ((¬ x3 = r14 → w_L_sums_491 Q v13) ∧ (x3 = r14 → w_L_count 10 v13 (fun r17 v16 => ((¬ x4 = r17 → w_L_sums_491 Q v16) ∧ (x4 = r17 → ((¬ x5 = ((x2 + x3) + x4) → w_L_sums_491 Q v16) ∧ (x5 = ((x2 + x3) + x4) → w_L_waiter x2 v16 (fun r21 v20 => ((¬ r21 = (-1) → w_L_sums_491 Q v20) ∧ (r21 = (-1) → w_L_sums_492 Q 1 v20))))))))))))))))) ∧ (¬ x2 ≤ x7 → w_L_waiter x7 v (fun r24 v23 => ((0 ≤ r24 → w_L_booking r24 0 v23 (fun r27 v26 => w_L_sums_353 Q (w_L_sums_317 Q n317) x1 x2 x3 x4 x5 x6 x7 r24 r27 v26)) ∧ (¬ 0 ≤ r24 → w_L_sums_353 Q (w_L_sums_317 Q n317) x1 x2 x3 x4 x5 x6 x7 r24 0 v23)))))
def w_L_sums_308  (Q : Int32 → V3 → Prop) (K167 : Int32 → Int32 → Int32 → Int32 → Int32 → Int32 → Int32 → V3 → Prop) (x1 : Int32) (x2 : Int32) (x3 : Int32) (x4 : Int32) (x5 : Int32) (x6 : Int32) (x7 : Int32) (v : V3) : Prop := K167 x1 x2 x3 x4 x5 x6 (x7 + 1) v
def w_L_sums_306  (Q : Int32 → V3 → Prop) (v : V3) : Prop := Q 0 v
def w_L_sums_286  (Q : Int32 → V3 → Prop) (K167 : Int32 → Int32 → Int32 → Int32 → Int32 → Int32 → Int32 → V3 → Prop) (x1 : Int32) (x2 : Int32) (x3 : Int32) (x4 : Int32) (x5 : Int32) (x6 : Int32) (x7 : Int32) (x8 : Int32) (v : V3) : Prop := ((x8 = 0 → w_L_sums_308 Q K167 x1 x2 x3 x4 x5 x6 x7 v) ∧ (¬ x8 = 0 → w_L_booking x7 11 v (fun r45 v44 => ((r45 = (-1) → w_L_sums_308 Q K167 x1 x2 x3 x4 x5 x6 x7 v44) ∧ (¬ r45 = (-1) → w_L_sums_306 Q v44)))))
def w_L_sums_234  (Q : Int32 → V3 → Prop) (K167 : Int32 → Int32 → Int32 → Int32 → Int32 → Int32 → Int32 → V3 → Prop) (x1 : Int32) (x2 : Int32) (x3 : Int32) (x5 : Int32) (x6 : Int32) (x7 : Int32) (x8 : Int32) (s0 : Int32) (s1 : Int32) (v : V3) : Prop := ((¬ x8 = 0 → w_L_sums_286 Q K167 x1 x2 x3 (s0 + s1) x5 x6 x7 x8 v) ∧ (x8 = 0 → w_L_booking x7 8 v (fun r48 v47 => ((¬ r48 = (-1) → w_L_sums_306 Q v47) ∧ (r48 = (-1) → w_L_booking x7 9 v47 (fun r51 v50 => ((¬ r51 = (-1) → w_L_sums_306 Q v50) ∧ (r51 = (-1) → w_L_booking x7 10 v50 (fun r54 v53 => ((¬ r54 = 0 → w_L_sums_306 Q v53) ∧ (r54 = 0 → w_L_sums_286 Q K167 x1 x2 x3 (s0 + s1) x5 x6 x7 x8 v53)))))))))))
def w_L_sums_219  (Q : Int32 → V3 → Prop) (K167 : Int32 → Int32 → Int32 → Int32 → Int32 → Int32 → Int32 → V3 → Prop) (x1 : Int32) (x2 : Int32) (x4 : Int32) (x5 : Int32) (x6 : Int32) (x7 : Int32) (x8 : Int32) (s0 : Int32) (s1 : Int32) (v : V3) : Prop := ((¬ x8 = 2 → w_L_sums_234 Q K167 x1 x2 (s0 + s1) x5 x6 x7 x8 x4 0 v) ∧ (x8 = 2 → w_L_sums_234 Q K167 x1 x2 (s0 + s1) x5 x6 x7 x8 x4 1 v))
def w_L_sums_205  (Q : Int32 → V3 → Prop) (K167 : Int32 → Int32 → Int32 → Int32 → Int32 → Int32 → Int32 → V3 → Prop) (x1 : Int32) (x3 : Int32) (x4 : Int32) (x5 : Int32) (x6 : Int32) (x7 : Int32) (x8 : Int32) (s0 : Int32) (s1 : Int32) (v : V3) : Prop := ((¬ x8 = 1 → w_L_sums_219 Q K167 x1 (s0 + s1) x4 x5 x6 x7 x8 x3 0 v) ∧ (x8 = 1 → w_L_sums_219 Q K167 x1 (s0 + s1) x4 x5 x6 x7 x8 x3 1 v))
def w_L_sums_167  (Q : Int32 → V3 → Prop) : Nat → Int32 → Int32 → Int32 → Int32 → Int32 → Int32 → Int32 → V3 → Prop
  | 0, _, _, _, _, _, _, _, _ => False
  | n167 + 1, x1, x2, x3, x4, x5, x6, x7, v => w_L_count 6 v (fun r5 v4 => ((r5 ≤ x7 → ∃ m317 : Nat, w_L_sums_317 Q m317 x1 x2 x3 x4 x5 x6 0 v4) ∧ (¬ r5 ≤ x7 → w_L_booking x7 7 v4 (fun r38 v37 => ((¬ r38 = 0 → w_L_sums_205 Q (w_L_sums_167 Q n167) x1 x3 x4 x5 x6 x7 r38 x2 0 v37) ∧ (r38 = 0 → w_L_sums_205 Q (w_L_sums_167 Q n167) x1 x3 x4 x5 x6 x7 r38 x2 1 v37))))))
def w_L_sums_156  (Q : Int32 → V3 → Prop) (v : V3) : Prop := Q 0 v
def w_L_sums_152  (Q : Int32 → V3 → Prop) (K18 : Int32 → Int32 → Int32 → Int32 → Int32 → Int32 → Int32 → V3 → Prop) (x1 : Int32) (x2 : Int32) (x3 : Int32) (x4 : Int32) (x5 : Int32) (x6 : Int32) (x7 : Int32) (s0 : UInt64) (s1 : UInt64) (v : V3) : Prop := (((Op.cmpValue (FP.dcmp s0 s1) .l) = 0 → K18 x1 x2 x3 x4 x5 x6 (x7 + 1) v) ∧ (¬ (Op.cmpValue (FP.dcmp s0 s1) .l) = 0 → w_L_sums_156 Q v))
def w_L_sums_118  (Q : Int32 → V3 → Prop) (K18 : Int32 → Int32 → Int32 → Int32 → Int32 → Int32 → Int32 → V3 → Prop) (x1 : Int32) (x2 : Int32) (x3 : Int32) (x4 : Int32) (x5 : Int32) (x6 : Int32) (x7 : Int32) (x8 : Int32) (x9 : Int32) (s0 : Int32) (s1 : Int32) (v : V3) : Prop := ((¬ s0 = s1 → w_L_sums_156 Q v) ∧ (s0 = s1 → w_L_trust x7 v (fun r71 v70 => ((¬ (x8 + x9) = 0 → vf_n64 (FP.ddiv (FP.i2d x8) (FP.i2d (x8 + x9))) ∧ w_L_sums_152 Q K18 x1 x2 x3 x4 x5 x6 x7 r71 (FP.ddiv (FP.i2d x8) (FP.i2d (x8 + x9))) v70) ∧ ((x8 + x9) = 0 → w_L_sums_152 Q K18 x1 x2 x3 x4 x5 x6 x7 r71 FP.dconst1 v70)))))
def w_L_sums_18  (Q : Int32 → V3 → Prop) : Nat → Int32 → Int32 → Int32 → Int32 → Int32 → Int32 → Int32 → V3 → Prop
  | 0, _, _, _, _, _, _, _, _ => False
  | n18 + 1, x1, x2, x3, x4, x5, x6, x7, v => w_L_count 5 v (fun r2 v1 => ((r2 ≤ x7 → ∃ m167 : Nat, w_L_sums_167 Q m167 x1 x2 x3 x4 x5 x6 0 v1) ∧ (¬ r2 ≤ x7 → w_L_owner x7 0 v1 (fun r57 v56 => w_L_owner x7 8 v56 (fun r59 v58 => w_L_owner x7 1 v58 (fun r61 v60 => w_L_owner x7 2 v60 (fun r63 v62 => w_L_owner x7 3 v62 (fun r65 v64 => w_L_owner x7 9 v64 (fun r67 v66 => (((r63 + r65) < 9 → w_L_sums_118 Q (w_L_sums_18 Q n18) (x1 + r57) x2 x3 x4 (x5 + r59) x6 x7 r61 (r63 + r65) r67 0 v66) ∧ (¬ (r63 + r65) < 9 → w_L_sums_118 Q (w_L_sums_18 Q n18) (x1 + r57) x2 x3 x4 (x5 + r59) x6 x7 r61 (r63 + r65) r67 1 v66)))))))))))
def w_L_sums  (v : V3) (Q : Int32 → V3 → Prop) : Prop := ∃ m18 : Nat, w_L_sums_18 Q m18 0 0 0 0 0 (-1) 0 v
set_option maxRecDepth 100000 in
set_option maxHeartbeats 4000000 in
theorem b_L_sums_492 {p : Program} (l : Launch) {e : Env} {s : State} {m : MethodId} {args : Array Value} {below : List Frame} {meth : Method} {c : Code} {G : zG}   (C0 : Cx G RL cL_sums 11 (some .boolean) p s m args meth c) {Q : Int32 → V3 → Prop} : ∀ (s0 : Int32) (v : V3) (H : Heap) (locs : List Loc) (ls : Array Slot), w_L_sums_492 Q s0 v → Zs G s v H locs → lv_has ls 11 [] → W p l e { frames := 6, cells := 0, slots := 0, locals := 138 } s m args below meth c H locs 0 0 (MQ below (QiZ G Q) args s 0 0 (zA G)) (F0 m 492 ls [.int s0]) := by
  have hx := C0.1
  have hb := C0.2.1
  intro s0 v H locs ls hw Z hl
  rw [w_L_sums_492] at hw
  obtain ⟨h9, hw⟩ := hw
  exact z_zret C0 Z h9 hw dL_sums_492
set_option maxRecDepth 100000 in
set_option maxHeartbeats 4000000 in
theorem b_L_sums_491 {p : Program} (l : Launch) {e : Env} {s : State} {m : MethodId} {args : Array Value} {below : List Frame} {meth : Method} {c : Code} {G : zG}   (C0 : Cx G RL cL_sums 11 (some .boolean) p s m args meth c) {Q : Int32 → V3 → Prop} : ∀ (v : V3) (H : Heap) (locs : List Loc) (ls : Array Slot), w_L_sums_491 Q v → Zs G s v H locs → lv_has ls 11 [] → W p l e { frames := 6, cells := 0, slots := 0, locals := 138 } s m args below meth c H locs 0 0 (MQ below (QiZ G Q) args s 0 0 (zA G)) (F0 m 491 ls []) := by
  have hx := C0.1
  have hb := C0.2.1
  intro v H locs ls hw Z hl
  rw [w_L_sums_491] at hw
  refine lv_iconst (v := 0) hx hb dL_sums_491 (by decide) ?_
  exact b_L_sums_492 l C0 _ _ _ _ _ hw Z (lv_sub hl [] rfl)
set_option maxRecDepth 100000 in
set_option maxHeartbeats 4000000 in
theorem b_L_sums_404 {p : Program} (l : Launch) {e : Env} {s : State} {m : MethodId} {args : Array Value} {below : List Frame} {meth : Method} {c : Code} {G : zG}   (C0 : Cx G RL cL_sums 11 (some .boolean) p s m args meth c) {Q : Int32 → V3 → Prop} : ∀ (v : V3) (H : Heap) (locs : List Loc) (ls : Array Slot), w_L_sums_404 Q v → Zs G s v H locs → lv_has ls 11 [] → W p l e { frames := 6, cells := 0, slots := 0, locals := 138 } s m args below meth c H locs 0 0 (MQ below (QiZ G Q) args s 0 0 (zA G)) (F0 m 404 ls []) := by
  have hx := C0.1
  have hb := C0.2.1
  intro v H locs ls hw Z hl
  rw [w_L_sums_404] at hw
  refine lv_iconst (v := 0) hx hb dL_sums_404 (by decide) ?_
  exact z_zret C0 Z (by decide) hw dL_sums_405
set_option maxRecDepth 100000 in
set_option maxHeartbeats 4000000 in
theorem b_L_sums_353 {p : Program} (l : Launch) {e : Env} {s : State} {m : MethodId} {args : Array Value} {below : List Frame} {meth : Method} {c : Code} {G : zG}   (C0 : Cx G RL cL_sums 11 (some .boolean) p s m args meth c) {Q : Int32 → V3 → Prop} {K317 : Int32 → Int32 → Int32 → Int32 → Int32 → Int32 → Int32 → V3 → Prop} (hK317 : ∀ (x1 : Int32) (x2 : Int32) (x3 : Int32) (x4 : Int32) (x5 : Int32) (x6 : Int32) (x7 : Int32) (v : V3) (H : Heap) (locs : List Loc) (ls : Array Slot), K317 x1 x2 x3 x4 x5 x6 x7 v → Zs G s v H locs → lv_has ls 11 [(0, .ref (gad G 7)), (1, .int x1), (2, .int x2), (3, .int x3), (4, .int x4), (5, .int x5), (6, .int x6), (7, .int x7)] → W p l e { frames := 6, cells := 0, slots := 0, locals := 138 } s m args below meth c H locs 0 0 (MQ below (QiZ G Q) args s 0 0 (zA G)) (F0 m 317 ls [])) : ∀ (x1 : Int32) (x2 : Int32) (x3 : Int32) (x4 : Int32) (x5 : Int32) (x6 : Int32) (x7 : Int32) (x8 : Int32) (s0 : Int32) (v : V3) (H : Heap) (locs : List Loc) (ls : Array Slot), w_L_sums_353 Q K317 x1 x2 x3 x4 x5 x6 x7 x8 s0 v → Zs G s v H locs → lv_has ls 11 [(0, .ref (gad G 7)), (1, .int x1), (2, .int x2), (3, .int x3), (4, .int x4), (5, .int x5), (6, .int x6), (7, .int x7), (8, .int x8)] → W p l e { frames := 6, cells := 0, slots := 0, locals := 138 } s m args below meth c H locs 0 0 (MQ below (QiZ G Q) args s 0 0 (zA G)) (F0 m 353 ls [.int s0]) := by
  have hx := C0.1
  have hb := C0.2.1
  intro x1 x2 x3 x4 x5 x6 x7 x8 s0 v H locs ls hw Z hl
  rw [w_L_sums_353] at hw
  refine lv_istore (lv' := [(9, .int s0), (0, .ref (gad G 7)), (1, .int x1), (2, .int x2), (3, .int x3), (4, .int x4), (5, .int x5), (6, .int x6), (7, .int x7), (8, .int x8)]) hx hb dL_sums_353 hl (by decide) rfl (fun ls hl => ?_)
  refine lv_aload_n hx hb dL_sums_355 rfl (lv_at hl 1 rfl) ?_
  refine z_get C0 Z in_L rfl 0 (by decide) rfl tm_1_181 (cx_lt C0 (by decide)) rfl rfl dL_sums_356 ?_
  refine lv_iload hx hb dL_sums_359 (lv_at hl 0 rfl) ?_
  refine lv_iconst (v := 2) hx hb dL_sums_361 (by decide) ?_
  refine z_callH C0 Z hl.1 (As := [.ref (gad G 0), .int s0, .int 2]) (rest := []) (k_L_owner l (cx_g C0) hw) (gv_L_owner tm_2_147) ds_L_owner ⟨Nat.le_of_ble_eq_true rfl, Nat.le_of_ble_eq_true rfl⟩ rfl rfl (Nat.le_of_ble_eq_true rfl) ⟨Nat.le_of_ble_eq_true rfl, Nat.le_of_ble_eq_true rfl⟩ dL_sums_362 (fun r29 v28 H locs hw Z => ?_)
  refine lv_aload_n hx hb dL_sums_365 rfl (lv_at hl 1 rfl) ?_
  refine z_get C0 Z in_L rfl 0 (by decide) rfl tm_1_181 (cx_lt C0 (by decide)) rfl rfl dL_sums_366 ?_
  refine lv_iload hx hb dL_sums_369 (lv_at hl 0 rfl) ?_
  refine lv_iconst (v := 3) hx hb dL_sums_371 (by decide) ?_
  refine z_callH C0 Z hl.1 (As := [.ref (gad G 0), .int s0, .int 3]) (rest := [.int r29]) (k_L_owner l (cx_g C0) hw) (gv_L_owner tm_2_147) ds_L_owner ⟨Nat.le_of_ble_eq_true rfl, Nat.le_of_ble_eq_true rfl⟩ rfl rfl (Nat.le_of_ble_eq_true rfl) ⟨Nat.le_of_ble_eq_true rfl, Nat.le_of_ble_eq_true rfl⟩ dL_sums_372 (fun r31 v30 H locs hw Z => ?_)
  refine lv_iadd hx hb dL_sums_375 ?_
  refine lv_istore (lv' := [(10, .int (r29 + r31)), (9, .int s0), (0, .ref (gad G 7)), (1, .int x1), (2, .int x2), (3, .int x3), (4, .int x4), (5, .int x5), (6, .int x6), (7, .int x7), (8, .int x8)]) hx hb dL_sums_376 hl (by decide) rfl (fun ls hl => ?_)
  refine lv_iload hx hb dL_sums_378 (lv_at hl 10 rfl) ?_
  refine lv_if_lt (tgt := 404) hx hb dL_sums_380 (by decide) (fun c32 => ?_) (fun c32 => ?_)
  · replace hw := hw.1 c32
    exact b_L_sums_404 l C0 _ _ _ _ hw Z (lv_sub hl [] rfl)
  · replace hw := hw.2 c32
    refine lv_aload_n hx hb dL_sums_383 rfl (lv_at hl 2 rfl) ?_
    refine z_get C0 Z in_L rfl 0 (by decide) rfl tm_1_181 (cx_lt C0 (by decide)) rfl rfl dL_sums_384 ?_
    refine lv_iload hx hb dL_sums_387 (lv_at hl 10 rfl) ?_
    refine lv_bipush (v := 7) hx hb dL_sums_389 (by decide) ?_
    refine z_callH C0 Z hl.1 (As := [.ref (gad G 0), .int x8, .int 7]) (rest := []) (k_L_booking l (cx_g C0) hw) (gv_L_booking tm_2_238) ds_L_booking ⟨Nat.le_of_ble_eq_true rfl, Nat.le_of_ble_eq_true rfl⟩ rfl rfl (Nat.le_of_ble_eq_true rfl) ⟨Nat.le_of_ble_eq_true rfl, Nat.le_of_ble_eq_true rfl⟩ dL_sums_391 (fun r34 v33 H locs hw Z => ?_)
    refine lv_if_ne (tgt := 404) hx hb dL_sums_394 (by decide) (fun c35 => ?_) (fun c35 => ?_)
    · replace hw := hw.1 c35
      exact b_L_sums_404 l C0 _ _ _ _ hw Z (lv_sub hl [] rfl)
    · replace hw := hw.2 c35
      refine lv_iload hx hb dL_sums_397 (lv_at hl 0 rfl) ?_
      refine lv_iload hx hb dL_sums_399 (lv_at hl 8 rfl) ?_
      refine lv_icmp_ge (tgt := 406) hx hb dL_sums_401 (by decide) (fun c36 => ?_) (fun c36 => ?_)
      · replace hw := hw.1 c36
        refine lv_iload hx hb dL_sums_406 (lv_at hl 0 rfl) ?_
        refine lv_istore (lv' := [(6, .int (r29 + r31)), (10, .int (r29 + r31)), (9, .int s0), (0, .ref (gad G 7)), (1, .int x1), (2, .int x2), (3, .int x3), (4, .int x4), (5, .int x5), (7, .int x7), (8, .int x8)]) hx hb dL_sums_408 hl (by decide) rfl (fun ls hl => ?_)
        refine lv_iinc (v := x7 + 1) (lv' := [(7, .int (x7 + 1)), (6, .int (r29 + r31)), (10, .int (r29 + r31)), (9, .int s0), (0, .ref (gad G 7)), (1, .int x1), (2, .int x2), (3, .int x3), (4, .int x4), (5, .int x5), (8, .int x8)]) hx hb dL_sums_410 hl (k := 9) rfl rfl (by decide) rfl (fun ls hl => ?_)
        refine lv_goto (tgt := 317) hx hb dL_sums_413 (by decide) ?_
        exact hK317 _ _ _ _ _ _ _ _ _ _ _ hw Z (lv_sub hl [4, 5, 6, 7, 8, 9, 1, 0] rfl)
      · replace hw := hw.2 c36
        exact b_L_sums_404 l C0 _ _ _ _ hw Z (lv_sub hl [] rfl)
set_option maxRecDepth 100000 in
set_option maxHeartbeats 4000000 in
theorem b_L_sums_317 {p : Program} (l : Launch) {e : Env} {s : State} {m : MethodId} {args : Array Value} {below : List Frame} {meth : Method} {c : Code} {G : zG}   (C0 : Cx G RL cL_sums 11 (some .boolean) p s m args meth c) {Q : Int32 → V3 → Prop} : ∀ (n : Nat) (x1 : Int32) (x2 : Int32) (x3 : Int32) (x4 : Int32) (x5 : Int32) (x6 : Int32) (x7 : Int32) (v : V3) (H : Heap) (locs : List Loc) (ls : Array Slot), w_L_sums_317 Q n x1 x2 x3 x4 x5 x6 x7 v → Zs G s v H locs → lv_has ls 11 [(0, .ref (gad G 7)), (1, .int x1), (2, .int x2), (3, .int x3), (4, .int x4), (5, .int x5), (6, .int x6), (7, .int x7)] → W p l e { frames := 6, cells := 0, slots := 0, locals := 138 } s m args below meth c H locs 0 0 (MQ below (QiZ G Q) args s 0 0 (zA G)) (F0 m 317 ls []) := by
  have hx := C0.1
  have hb := C0.2.1
  intro n
  induction n with
  | zero =>
    intro x1 x2 x3 x4 x5 x6 x7 v H locs ls hw Z hl
    exact hw.elim
  | succ n hK317 =>
    intro x1 x2 x3 x4 x5 x6 x7 v H locs ls hw Z hl
    rw [w_L_sums_317] at hw
    refine lv_iload hx hb dL_sums_317 (lv_at hl 7 rfl) ?_
    refine lv_iload_n hx hb dL_sums_319 rfl (lv_at hl 2 rfl) ?_
    refine lv_icmp_ge (tgt := 416) hx hb dL_sums_320 (by decide) (fun c7 => ?_) (fun c7 => ?_)
    · replace hw := hw.1 c7
      refine lv_iload_n hx hb dL_sums_416 rfl (lv_at hl 1 rfl) ?_
      refine lv_aload_n hx hb dL_sums_417 rfl (lv_at hl 0 rfl) ?_
      refine z_get C0 Z in_L rfl 3 (by decide) rfl tm_1_184 (cx_lt C0 (by decide)) rfl rfl dL_sums_418 ?_
      refine lv_icmp_ne (tgt := 491) hx hb dL_sums_421 (by decide) (fun c8 => ?_) (fun c8 => ?_)
      · replace hw := hw.1 c8
        exact b_L_sums_491 l C0 _ _ _ _ hw Z (lv_sub hl [] rfl)
      · replace hw := hw.2 c8
        refine lv_iload_n hx hb dL_sums_424 rfl (lv_at hl 2 rfl) ?_
        refine lv_aload_n hx hb dL_sums_425 rfl (lv_at hl 0 rfl) ?_
        refine z_get C0 Z in_L rfl 0 (by decide) rfl tm_1_181 (cx_lt C0 (by decide)) rfl rfl dL_sums_426 ?_
        refine lv_bipush (v := 8) hx hb dL_sums_429 (by decide) ?_
        refine z_callH C0 Z hl.1 (As := [.ref (gad G 0), .int 8]) (rest := [.int x2]) (k_L_count l (cx_g C0) hw) (gv_L_count tm_2_93) ds_L_count ⟨Nat.le_of_ble_eq_true rfl, Nat.le_of_ble_eq_true rfl⟩ rfl rfl (Nat.le_of_ble_eq_true rfl) ⟨Nat.le_of_ble_eq_true rfl, Nat.le_of_ble_eq_true rfl⟩ dL_sums_431 (fun r11 v10 H locs hw Z => ?_)
        refine lv_icmp_ne (tgt := 491) hx hb dL_sums_434 (by decide) (fun c12 => ?_) (fun c12 => ?_)
        · replace hw := hw.1 c12
          exact b_L_sums_491 l C0 _ _ _ _ hw Z (lv_sub hl [] rfl)
        · replace hw := hw.2 c12
          refine lv_iload_n hx hb dL_sums_437 rfl (lv_at hl 3 rfl) ?_
          refine lv_aload_n hx hb dL_sums_438 rfl (lv_at hl 0 rfl) ?_
          refine z_get C0 Z in_L rfl 0 (by decide) rfl tm_1_181 (cx_lt C0 (by decide)) rfl rfl dL_sums_439 ?_
          refine lv_bipush (v := 9) hx hb dL_sums_442 (by decide) ?_
          refine z_callH C0 Z hl.1 (As := [.ref (gad G 0), .int 9]) (rest := [.int x3]) (k_L_count l (cx_g C0) hw) (gv_L_count tm_2_93) ds_L_count ⟨Nat.le_of_ble_eq_true rfl, Nat.le_of_ble_eq_true rfl⟩ rfl rfl (Nat.le_of_ble_eq_true rfl) ⟨Nat.le_of_ble_eq_true rfl, Nat.le_of_ble_eq_true rfl⟩ dL_sums_444 (fun r14 v13 H locs hw Z => ?_)
          refine lv_icmp_ne (tgt := 491) hx hb dL_sums_447 (by decide) (fun c15 => ?_) (fun c15 => ?_)
          · replace hw := hw.1 c15
            exact b_L_sums_491 l C0 _ _ _ _ hw Z (lv_sub hl [] rfl)
          · replace hw := hw.2 c15
            refine lv_iload hx hb dL_sums_450 (lv_at hl 4 rfl) ?_
            refine lv_aload_n hx hb dL_sums_452 rfl (lv_at hl 0 rfl) ?_
            refine z_get C0 Z in_L rfl 0 (by decide) rfl tm_1_181 (cx_lt C0 (by decide)) rfl rfl dL_sums_453 ?_
            refine lv_bipush (v := 10) hx hb dL_sums_456 (by decide) ?_
            refine z_callH C0 Z hl.1 (As := [.ref (gad G 0), .int 10]) (rest := [.int x4]) (k_L_count l (cx_g C0) hw) (gv_L_count tm_2_93) ds_L_count ⟨Nat.le_of_ble_eq_true rfl, Nat.le_of_ble_eq_true rfl⟩ rfl rfl (Nat.le_of_ble_eq_true rfl) ⟨Nat.le_of_ble_eq_true rfl, Nat.le_of_ble_eq_true rfl⟩ dL_sums_458 (fun r17 v16 H locs hw Z => ?_)
            refine lv_icmp_ne (tgt := 491) hx hb dL_sums_461 (by decide) (fun c18 => ?_) (fun c18 => ?_)
            · replace hw := hw.1 c18
              exact b_L_sums_491 l C0 _ _ _ _ hw Z (lv_sub hl [] rfl)
            · replace hw := hw.2 c18
              refine lv_iload hx hb dL_sums_464 (lv_at hl 5 rfl) ?_
              refine lv_iload_n hx hb dL_sums_466 rfl (lv_at hl 2 rfl) ?_
              refine lv_iload_n hx hb dL_sums_467 rfl (lv_at hl 3 rfl) ?_
              refine lv_iadd hx hb dL_sums_468 ?_
              refine lv_iload hx hb dL_sums_469 (lv_at hl 4 rfl) ?_
              refine lv_iadd hx hb dL_sums_471 ?_
              refine lv_icmp_ne (tgt := 491) hx hb dL_sums_472 (by decide) (fun c19 => ?_) (fun c19 => ?_)
              · replace hw := hw.1 c19
                exact b_L_sums_491 l C0 _ _ _ _ hw Z (lv_sub hl [] rfl)
              · replace hw := hw.2 c19
                refine lv_aload_n hx hb dL_sums_475 rfl (lv_at hl 0 rfl) ?_
                refine z_get C0 Z in_L rfl 0 (by decide) rfl tm_1_181 (cx_lt C0 (by decide)) rfl rfl dL_sums_476 ?_
                refine lv_iload_n hx hb dL_sums_479 rfl (lv_at hl 2 rfl) ?_
                refine z_callH C0 Z hl.1 (As := [.ref (gad G 0), .int x2]) (rest := []) (k_L_waiter l (cx_g C0) hw) (gv_L_waiter tm_3_224) ds_L_waiter ⟨Nat.le_of_ble_eq_true rfl, Nat.le_of_ble_eq_true rfl⟩ rfl rfl (Nat.le_of_ble_eq_true rfl) ⟨Nat.le_of_ble_eq_true rfl, Nat.le_of_ble_eq_true rfl⟩ dL_sums_480 (fun r21 v20 H locs hw Z => ?_)
                refine lv_iconst (v := (-1)) hx hb dL_sums_483 (by decide) ?_
                refine lv_icmp_ne (tgt := 491) hx hb dL_sums_484 (by decide) (fun c22 => ?_) (fun c22 => ?_)
                · replace hw := hw.1 c22
                  exact b_L_sums_491 l C0 _ _ _ _ hw Z (lv_sub hl [] rfl)
                · replace hw := hw.2 c22
                  refine lv_iconst (v := 1) hx hb dL_sums_487 (by decide) ?_
                  refine lv_goto (tgt := 492) hx hb dL_sums_488 (by decide) ?_
                  exact b_L_sums_492 l C0 _ _ _ _ _ hw Z (lv_sub hl [] rfl)
    · replace hw := hw.2 c7
      refine lv_aload_n hx hb dL_sums_323 rfl (lv_at hl 0 rfl) ?_
      refine z_get C0 Z in_L rfl 0 (by decide) rfl tm_1_181 (cx_lt C0 (by decide)) rfl rfl dL_sums_324 ?_
      refine lv_iload hx hb dL_sums_327 (lv_at hl 7 rfl) ?_
      refine z_callH C0 Z hl.1 (As := [.ref (gad G 0), .int x7]) (rest := []) (k_L_waiter l (cx_g C0) hw) (gv_L_waiter tm_3_224) ds_L_waiter ⟨Nat.le_of_ble_eq_true rfl, Nat.le_of_ble_eq_true rfl⟩ rfl rfl (Nat.le_of_ble_eq_true rfl) ⟨Nat.le_of_ble_eq_true rfl, Nat.le_of_ble_eq_true rfl⟩ dL_sums_329 (fun r24 v23 H locs hw Z => ?_)
      refine lv_istore (lv' := [(8, .int r24), (0, .ref (gad G 7)), (1, .int x1), (2, .int x2), (3, .int x3), (4, .int x4), (5, .int x5), (6, .int x6), (7, .int x7)]) hx hb dL_sums_332 hl (by decide) rfl (fun ls hl => ?_)
      refine lv_iload hx hb dL_sums_334 (lv_at hl 0 rfl) ?_
      refine lv_if_ge (tgt := 343) hx hb dL_sums_336 (by decide) (fun c25 => ?_) (fun c25 => ?_)
      · replace hw := hw.1 c25
        refine lv_aload_n hx hb dL_sums_343 rfl (lv_at hl 1 rfl) ?_
        refine z_get C0 Z in_L rfl 0 (by decide) rfl tm_1_181 (cx_lt C0 (by decide)) rfl rfl dL_sums_344 ?_
        refine lv_iload hx hb dL_sums_347 (lv_at hl 0 rfl) ?_
        refine lv_iconst (v := 0) hx hb dL_sums_349 (by decide) ?_
        refine z_callH C0 Z hl.1 (As := [.ref (gad G 0), .int r24, .int 0]) (rest := []) (k_L_booking l (cx_g C0) hw) (gv_L_booking tm_2_238) ds_L_booking ⟨Nat.le_of_ble_eq_true rfl, Nat.le_of_ble_eq_true rfl⟩ rfl rfl (Nat.le_of_ble_eq_true rfl) ⟨Nat.le_of_ble_eq_true rfl, Nat.le_of_ble_eq_true rfl⟩ dL_sums_350 (fun r27 v26 H locs hw Z => ?_)
        exact b_L_sums_353 l C0 hK317 _ _ _ _ _ _ _ _ _ _ _ _ _ hw Z (lv_sub hl [1, 2, 3, 4, 5, 6, 7, 8, 0] rfl)
      · replace hw := hw.2 c25
        refine lv_iconst (v := 0) hx hb dL_sums_339 (by decide) ?_
        refine lv_goto (tgt := 353) hx hb dL_sums_340 (by decide) ?_
        exact b_L_sums_353 l C0 hK317 _ _ _ _ _ _ _ _ _ _ _ _ _ hw Z (lv_sub hl [1, 2, 3, 4, 5, 6, 7, 8, 0] rfl)
set_option maxRecDepth 100000 in
set_option maxHeartbeats 4000000 in
theorem b_L_sums_308 {p : Program} (l : Launch) {e : Env} {s : State} {m : MethodId} {args : Array Value} {below : List Frame} {meth : Method} {c : Code} {G : zG}   (C0 : Cx G RL cL_sums 11 (some .boolean) p s m args meth c) {Q : Int32 → V3 → Prop} {K167 : Int32 → Int32 → Int32 → Int32 → Int32 → Int32 → Int32 → V3 → Prop} (hK167 : ∀ (x1 : Int32) (x2 : Int32) (x3 : Int32) (x4 : Int32) (x5 : Int32) (x6 : Int32) (x7 : Int32) (v : V3) (H : Heap) (locs : List Loc) (ls : Array Slot), K167 x1 x2 x3 x4 x5 x6 x7 v → Zs G s v H locs → lv_has ls 11 [(0, .ref (gad G 7)), (1, .int x1), (2, .int x2), (3, .int x3), (4, .int x4), (5, .int x5), (6, .int x6), (7, .int x7)] → W p l e { frames := 6, cells := 0, slots := 0, locals := 138 } s m args below meth c H locs 0 0 (MQ below (QiZ G Q) args s 0 0 (zA G)) (F0 m 167 ls [])) : ∀ (x1 : Int32) (x2 : Int32) (x3 : Int32) (x4 : Int32) (x5 : Int32) (x6 : Int32) (x7 : Int32) (v : V3) (H : Heap) (locs : List Loc) (ls : Array Slot), w_L_sums_308 Q K167 x1 x2 x3 x4 x5 x6 x7 v → Zs G s v H locs → lv_has ls 11 [(0, .ref (gad G 7)), (1, .int x1), (2, .int x2), (3, .int x3), (4, .int x4), (5, .int x5), (6, .int x6), (7, .int x7)] → W p l e { frames := 6, cells := 0, slots := 0, locals := 138 } s m args below meth c H locs 0 0 (MQ below (QiZ G Q) args s 0 0 (zA G)) (F0 m 308 ls []) := by
  have hx := C0.1
  have hb := C0.2.1
  intro x1 x2 x3 x4 x5 x6 x7 v H locs ls hw Z hl
  rw [w_L_sums_308] at hw
  refine lv_iinc (v := x7 + 1) (lv' := [(7, .int (x7 + 1)), (0, .ref (gad G 7)), (1, .int x1), (2, .int x2), (3, .int x3), (4, .int x4), (5, .int x5), (6, .int x6)]) hx hb dL_sums_308 hl (k := 7) rfl rfl (by decide) rfl (fun ls hl => ?_)
  refine lv_goto (tgt := 167) hx hb dL_sums_311 (by decide) ?_
  exact hK167 _ _ _ _ _ _ _ _ _ _ _ hw Z (lv_sub hl [1, 2, 3, 4, 5, 6, 7, 0] rfl)
set_option maxRecDepth 100000 in
set_option maxHeartbeats 4000000 in
theorem b_L_sums_306 {p : Program} (l : Launch) {e : Env} {s : State} {m : MethodId} {args : Array Value} {below : List Frame} {meth : Method} {c : Code} {G : zG}   (C0 : Cx G RL cL_sums 11 (some .boolean) p s m args meth c) {Q : Int32 → V3 → Prop} : ∀ (v : V3) (H : Heap) (locs : List Loc) (ls : Array Slot), w_L_sums_306 Q v → Zs G s v H locs → lv_has ls 11 [] → W p l e { frames := 6, cells := 0, slots := 0, locals := 138 } s m args below meth c H locs 0 0 (MQ below (QiZ G Q) args s 0 0 (zA G)) (F0 m 306 ls []) := by
  have hx := C0.1
  have hb := C0.2.1
  intro v H locs ls hw Z hl
  rw [w_L_sums_306] at hw
  refine lv_iconst (v := 0) hx hb dL_sums_306 (by decide) ?_
  exact z_zret C0 Z (by decide) hw dL_sums_307
set_option maxRecDepth 100000 in
set_option maxHeartbeats 4000000 in
theorem b_L_sums_286 {p : Program} (l : Launch) {e : Env} {s : State} {m : MethodId} {args : Array Value} {below : List Frame} {meth : Method} {c : Code} {G : zG}   (C0 : Cx G RL cL_sums 11 (some .boolean) p s m args meth c) {Q : Int32 → V3 → Prop} {K167 : Int32 → Int32 → Int32 → Int32 → Int32 → Int32 → Int32 → V3 → Prop} (hK167 : ∀ (x1 : Int32) (x2 : Int32) (x3 : Int32) (x4 : Int32) (x5 : Int32) (x6 : Int32) (x7 : Int32) (v : V3) (H : Heap) (locs : List Loc) (ls : Array Slot), K167 x1 x2 x3 x4 x5 x6 x7 v → Zs G s v H locs → lv_has ls 11 [(0, .ref (gad G 7)), (1, .int x1), (2, .int x2), (3, .int x3), (4, .int x4), (5, .int x5), (6, .int x6), (7, .int x7)] → W p l e { frames := 6, cells := 0, slots := 0, locals := 138 } s m args below meth c H locs 0 0 (MQ below (QiZ G Q) args s 0 0 (zA G)) (F0 m 167 ls [])) : ∀ (x1 : Int32) (x2 : Int32) (x3 : Int32) (x4 : Int32) (x5 : Int32) (x6 : Int32) (x7 : Int32) (x8 : Int32) (v : V3) (H : Heap) (locs : List Loc) (ls : Array Slot), w_L_sums_286 Q K167 x1 x2 x3 x4 x5 x6 x7 x8 v → Zs G s v H locs → lv_has ls 11 [(0, .ref (gad G 7)), (1, .int x1), (2, .int x2), (3, .int x3), (4, .int x4), (5, .int x5), (6, .int x6), (7, .int x7), (8, .int x8)] → W p l e { frames := 6, cells := 0, slots := 0, locals := 138 } s m args below meth c H locs 0 0 (MQ below (QiZ G Q) args s 0 0 (zA G)) (F0 m 286 ls []) := by
  have hx := C0.1
  have hb := C0.2.1
  intro x1 x2 x3 x4 x5 x6 x7 x8 v H locs ls hw Z hl
  rw [w_L_sums_286] at hw
  refine lv_iload hx hb dL_sums_286 (lv_at hl 8 rfl) ?_
  refine lv_if_eq (tgt := 308) hx hb dL_sums_288 (by decide) (fun c43 => ?_) (fun c43 => ?_)
  · replace hw := hw.1 c43
    exact b_L_sums_308 l C0 hK167 _ _ _ _ _ _ _ _ _ _ _ hw Z (lv_sub hl [0, 1, 2, 3, 4, 5, 6, 7] rfl)
  · replace hw := hw.2 c43
    refine lv_aload_n hx hb dL_sums_291 rfl (lv_at hl 0 rfl) ?_
    refine z_get C0 Z in_L rfl 0 (by decide) rfl tm_1_181 (cx_lt C0 (by decide)) rfl rfl dL_sums_292 ?_
    refine lv_iload hx hb dL_sums_295 (lv_at hl 7 rfl) ?_
    refine lv_bipush (v := 11) hx hb dL_sums_297 (by decide) ?_
    refine z_callH C0 Z hl.1 (As := [.ref (gad G 0), .int x7, .int 11]) (rest := []) (k_L_booking l (cx_g C0) hw) (gv_L_booking tm_2_238) ds_L_booking ⟨Nat.le_of_ble_eq_true rfl, Nat.le_of_ble_eq_true rfl⟩ rfl rfl (Nat.le_of_ble_eq_true rfl) ⟨Nat.le_of_ble_eq_true rfl, Nat.le_of_ble_eq_true rfl⟩ dL_sums_299 (fun r45 v44 H locs hw Z => ?_)
    refine lv_iconst (v := (-1)) hx hb dL_sums_302 (by decide) ?_
    refine lv_icmp_eq (tgt := 308) hx hb dL_sums_303 (by decide) (fun c46 => ?_) (fun c46 => ?_)
    · replace hw := hw.1 c46
      exact b_L_sums_308 l C0 hK167 _ _ _ _ _ _ _ _ _ _ _ hw Z (lv_sub hl [0, 1, 2, 3, 4, 5, 6, 7] rfl)
    · replace hw := hw.2 c46
      exact b_L_sums_306 l C0 _ _ _ _ hw Z (lv_sub hl [] rfl)
set_option maxRecDepth 100000 in
set_option maxHeartbeats 4000000 in
theorem b_L_sums_234 {p : Program} (l : Launch) {e : Env} {s : State} {m : MethodId} {args : Array Value} {below : List Frame} {meth : Method} {c : Code} {G : zG}   (C0 : Cx G RL cL_sums 11 (some .boolean) p s m args meth c) {Q : Int32 → V3 → Prop} {K167 : Int32 → Int32 → Int32 → Int32 → Int32 → Int32 → Int32 → V3 → Prop} (hK167 : ∀ (x1 : Int32) (x2 : Int32) (x3 : Int32) (x4 : Int32) (x5 : Int32) (x6 : Int32) (x7 : Int32) (v : V3) (H : Heap) (locs : List Loc) (ls : Array Slot), K167 x1 x2 x3 x4 x5 x6 x7 v → Zs G s v H locs → lv_has ls 11 [(0, .ref (gad G 7)), (1, .int x1), (2, .int x2), (3, .int x3), (4, .int x4), (5, .int x5), (6, .int x6), (7, .int x7)] → W p l e { frames := 6, cells := 0, slots := 0, locals := 138 } s m args below meth c H locs 0 0 (MQ below (QiZ G Q) args s 0 0 (zA G)) (F0 m 167 ls [])) : ∀ (x1 : Int32) (x2 : Int32) (x3 : Int32) (x5 : Int32) (x6 : Int32) (x7 : Int32) (x8 : Int32) (s0 : Int32) (s1 : Int32) (v : V3) (H : Heap) (locs : List Loc) (ls : Array Slot), w_L_sums_234 Q K167 x1 x2 x3 x5 x6 x7 x8 s0 s1 v → Zs G s v H locs → lv_has ls 11 [(0, .ref (gad G 7)), (1, .int x1), (2, .int x2), (3, .int x3), (5, .int x5), (6, .int x6), (7, .int x7), (8, .int x8)] → W p l e { frames := 6, cells := 0, slots := 0, locals := 138 } s m args below meth c H locs 0 0 (MQ below (QiZ G Q) args s 0 0 (zA G)) (F0 m 234 ls [.int s1, .int s0]) := by
  have hx := C0.1
  have hb := C0.2.1
  intro x1 x2 x3 x5 x6 x7 x8 s0 s1 v H locs ls hw Z hl
  rw [w_L_sums_234] at hw
  refine lv_iadd hx hb dL_sums_234 ?_
  refine lv_istore (lv' := [(4, .int (s0 + s1)), (0, .ref (gad G 7)), (1, .int x1), (2, .int x2), (3, .int x3), (5, .int x5), (6, .int x6), (7, .int x7), (8, .int x8)]) hx hb dL_sums_235 hl (by decide) rfl (fun ls hl => ?_)
  refine lv_iload hx hb dL_sums_237 (lv_at hl 8 rfl) ?_
  refine lv_if_ne (tgt := 286) hx hb dL_sums_239 (by decide) (fun c42 => ?_) (fun c42 => ?_)
  · replace hw := hw.1 c42
    exact b_L_sums_286 l C0 hK167 _ _ _ _ _ _ _ _ _ _ _ _ hw Z (lv_sub hl [1, 2, 3, 4, 0, 5, 6, 7, 8] rfl)
  · replace hw := hw.2 c42
    refine lv_aload_n hx hb dL_sums_242 rfl (lv_at hl 1 rfl) ?_
    refine z_get C0 Z in_L rfl 0 (by decide) rfl tm_1_181 (cx_lt C0 (by decide)) rfl rfl dL_sums_243 ?_
    refine lv_iload hx hb dL_sums_246 (lv_at hl 7 rfl) ?_
    refine lv_bipush (v := 8) hx hb dL_sums_248 (by decide) ?_
    refine z_callH C0 Z hl.1 (As := [.ref (gad G 0), .int x7, .int 8]) (rest := []) (k_L_booking l (cx_g C0) hw) (gv_L_booking tm_2_238) ds_L_booking ⟨Nat.le_of_ble_eq_true rfl, Nat.le_of_ble_eq_true rfl⟩ rfl rfl (Nat.le_of_ble_eq_true rfl) ⟨Nat.le_of_ble_eq_true rfl, Nat.le_of_ble_eq_true rfl⟩ dL_sums_250 (fun r48 v47 H locs hw Z => ?_)
    refine lv_iconst (v := (-1)) hx hb dL_sums_253 (by decide) ?_
    refine lv_icmp_ne (tgt := 306) hx hb dL_sums_254 (by decide) (fun c49 => ?_) (fun c49 => ?_)
    · replace hw := hw.1 c49
      exact b_L_sums_306 l C0 _ _ _ _ hw Z (lv_sub hl [] rfl)
    · replace hw := hw.2 c49
      refine lv_aload_n hx hb dL_sums_257 rfl (lv_at hl 1 rfl) ?_
      refine z_get C0 Z in_L rfl 0 (by decide) rfl tm_1_181 (cx_lt C0 (by decide)) rfl rfl dL_sums_258 ?_
      refine lv_iload hx hb dL_sums_261 (lv_at hl 7 rfl) ?_
      refine lv_bipush (v := 9) hx hb dL_sums_263 (by decide) ?_
      refine z_callH C0 Z hl.1 (As := [.ref (gad G 0), .int x7, .int 9]) (rest := []) (k_L_booking l (cx_g C0) hw) (gv_L_booking tm_2_238) ds_L_booking ⟨Nat.le_of_ble_eq_true rfl, Nat.le_of_ble_eq_true rfl⟩ rfl rfl (Nat.le_of_ble_eq_true rfl) ⟨Nat.le_of_ble_eq_true rfl, Nat.le_of_ble_eq_true rfl⟩ dL_sums_265 (fun r51 v50 H locs hw Z => ?_)
      refine lv_iconst (v := (-1)) hx hb dL_sums_268 (by decide) ?_
      refine lv_icmp_ne (tgt := 306) hx hb dL_sums_269 (by decide) (fun c52 => ?_) (fun c52 => ?_)
      · replace hw := hw.1 c52
        exact b_L_sums_306 l C0 _ _ _ _ hw Z (lv_sub hl [] rfl)
      · replace hw := hw.2 c52
        refine lv_aload_n hx hb dL_sums_272 rfl (lv_at hl 1 rfl) ?_
        refine z_get C0 Z in_L rfl 0 (by decide) rfl tm_1_181 (cx_lt C0 (by decide)) rfl rfl dL_sums_273 ?_
        refine lv_iload hx hb dL_sums_276 (lv_at hl 7 rfl) ?_
        refine lv_bipush (v := 10) hx hb dL_sums_278 (by decide) ?_
        refine z_callH C0 Z hl.1 (As := [.ref (gad G 0), .int x7, .int 10]) (rest := []) (k_L_booking l (cx_g C0) hw) (gv_L_booking tm_2_238) ds_L_booking ⟨Nat.le_of_ble_eq_true rfl, Nat.le_of_ble_eq_true rfl⟩ rfl rfl (Nat.le_of_ble_eq_true rfl) ⟨Nat.le_of_ble_eq_true rfl, Nat.le_of_ble_eq_true rfl⟩ dL_sums_280 (fun r54 v53 H locs hw Z => ?_)
        refine lv_if_ne (tgt := 306) hx hb dL_sums_283 (by decide) (fun c55 => ?_) (fun c55 => ?_)
        · replace hw := hw.1 c55
          exact b_L_sums_306 l C0 _ _ _ _ hw Z (lv_sub hl [] rfl)
        · replace hw := hw.2 c55
          exact b_L_sums_286 l C0 hK167 _ _ _ _ _ _ _ _ _ _ _ _ hw Z (lv_sub hl [1, 2, 3, 4, 0, 5, 6, 7, 8] rfl)
set_option maxRecDepth 100000 in
set_option maxHeartbeats 4000000 in
theorem b_L_sums_219 {p : Program} (l : Launch) {e : Env} {s : State} {m : MethodId} {args : Array Value} {below : List Frame} {meth : Method} {c : Code} {G : zG}   (C0 : Cx G RL cL_sums 11 (some .boolean) p s m args meth c) {Q : Int32 → V3 → Prop} {K167 : Int32 → Int32 → Int32 → Int32 → Int32 → Int32 → Int32 → V3 → Prop} (hK167 : ∀ (x1 : Int32) (x2 : Int32) (x3 : Int32) (x4 : Int32) (x5 : Int32) (x6 : Int32) (x7 : Int32) (v : V3) (H : Heap) (locs : List Loc) (ls : Array Slot), K167 x1 x2 x3 x4 x5 x6 x7 v → Zs G s v H locs → lv_has ls 11 [(0, .ref (gad G 7)), (1, .int x1), (2, .int x2), (3, .int x3), (4, .int x4), (5, .int x5), (6, .int x6), (7, .int x7)] → W p l e { frames := 6, cells := 0, slots := 0, locals := 138 } s m args below meth c H locs 0 0 (MQ below (QiZ G Q) args s 0 0 (zA G)) (F0 m 167 ls [])) : ∀ (x1 : Int32) (x2 : Int32) (x4 : Int32) (x5 : Int32) (x6 : Int32) (x7 : Int32) (x8 : Int32) (s0 : Int32) (s1 : Int32) (v : V3) (H : Heap) (locs : List Loc) (ls : Array Slot), w_L_sums_219 Q K167 x1 x2 x4 x5 x6 x7 x8 s0 s1 v → Zs G s v H locs → lv_has ls 11 [(0, .ref (gad G 7)), (1, .int x1), (2, .int x2), (4, .int x4), (5, .int x5), (6, .int x6), (7, .int x7), (8, .int x8)] → W p l e { frames := 6, cells := 0, slots := 0, locals := 138 } s m args below meth c H locs 0 0 (MQ below (QiZ G Q) args s 0 0 (zA G)) (F0 m 219 ls [.int s1, .int s0]) := by
  have hx := C0.1
  have hb := C0.2.1
  intro x1 x2 x4 x5 x6 x7 x8 s0 s1 v H locs ls hw Z hl
  rw [w_L_sums_219] at hw
  refine lv_iadd hx hb dL_sums_219 ?_
  refine lv_istore_n (lv' := [(3, .int (s0 + s1)), (0, .ref (gad G 7)), (1, .int x1), (2, .int x2), (4, .int x4), (5, .int x5), (6, .int x6), (7, .int x7), (8, .int x8)]) hx hb dL_sums_220 rfl hl (by decide) rfl (fun ls hl => ?_)
  refine lv_iload hx hb dL_sums_221 (lv_at hl 4 rfl) ?_
  refine lv_iload hx hb dL_sums_223 (lv_at hl 8 rfl) ?_
  refine lv_iconst (v := 2) hx hb dL_sums_225 (by decide) ?_
  refine lv_icmp_ne (tgt := 233) hx hb dL_sums_226 (by decide) (fun c41 => ?_) (fun c41 => ?_)
  · replace hw := hw.1 c41
    refine lv_iconst (v := 0) hx hb dL_sums_233 (by decide) ?_
    exact b_L_sums_234 l C0 hK167 _ _ _ _ _ _ _ _ _ _ _ _ _ hw Z (lv_sub hl [1, 2, 3, 0, 5, 6, 7, 8] rfl)
  · replace hw := hw.2 c41
    refine lv_iconst (v := 1) hx hb dL_sums_229 (by decide) ?_
    refine lv_goto (tgt := 234) hx hb dL_sums_230 (by decide) ?_
    exact b_L_sums_234 l C0 hK167 _ _ _ _ _ _ _ _ _ _ _ _ _ hw Z (lv_sub hl [1, 2, 3, 0, 5, 6, 7, 8] rfl)
set_option maxRecDepth 100000 in
set_option maxHeartbeats 4000000 in
theorem b_L_sums_205 {p : Program} (l : Launch) {e : Env} {s : State} {m : MethodId} {args : Array Value} {below : List Frame} {meth : Method} {c : Code} {G : zG}   (C0 : Cx G RL cL_sums 11 (some .boolean) p s m args meth c) {Q : Int32 → V3 → Prop} {K167 : Int32 → Int32 → Int32 → Int32 → Int32 → Int32 → Int32 → V3 → Prop} (hK167 : ∀ (x1 : Int32) (x2 : Int32) (x3 : Int32) (x4 : Int32) (x5 : Int32) (x6 : Int32) (x7 : Int32) (v : V3) (H : Heap) (locs : List Loc) (ls : Array Slot), K167 x1 x2 x3 x4 x5 x6 x7 v → Zs G s v H locs → lv_has ls 11 [(0, .ref (gad G 7)), (1, .int x1), (2, .int x2), (3, .int x3), (4, .int x4), (5, .int x5), (6, .int x6), (7, .int x7)] → W p l e { frames := 6, cells := 0, slots := 0, locals := 138 } s m args below meth c H locs 0 0 (MQ below (QiZ G Q) args s 0 0 (zA G)) (F0 m 167 ls [])) : ∀ (x1 : Int32) (x3 : Int32) (x4 : Int32) (x5 : Int32) (x6 : Int32) (x7 : Int32) (x8 : Int32) (s0 : Int32) (s1 : Int32) (v : V3) (H : Heap) (locs : List Loc) (ls : Array Slot), w_L_sums_205 Q K167 x1 x3 x4 x5 x6 x7 x8 s0 s1 v → Zs G s v H locs → lv_has ls 11 [(0, .ref (gad G 7)), (1, .int x1), (3, .int x3), (4, .int x4), (5, .int x5), (6, .int x6), (7, .int x7), (8, .int x8)] → W p l e { frames := 6, cells := 0, slots := 0, locals := 138 } s m args below meth c H locs 0 0 (MQ below (QiZ G Q) args s 0 0 (zA G)) (F0 m 205 ls [.int s1, .int s0]) := by
  have hx := C0.1
  have hb := C0.2.1
  intro x1 x3 x4 x5 x6 x7 x8 s0 s1 v H locs ls hw Z hl
  rw [w_L_sums_205] at hw
  refine lv_iadd hx hb dL_sums_205 ?_
  refine lv_istore_n (lv' := [(2, .int (s0 + s1)), (0, .ref (gad G 7)), (1, .int x1), (3, .int x3), (4, .int x4), (5, .int x5), (6, .int x6), (7, .int x7), (8, .int x8)]) hx hb dL_sums_206 rfl hl (by decide) rfl (fun ls hl => ?_)
  refine lv_iload_n hx hb dL_sums_207 rfl (lv_at hl 3 rfl) ?_
  refine lv_iload hx hb dL_sums_208 (lv_at hl 8 rfl) ?_
  refine lv_iconst (v := 1) hx hb dL_sums_210 (by decide) ?_
  refine lv_icmp_ne (tgt := 218) hx hb dL_sums_211 (by decide) (fun c40 => ?_) (fun c40 => ?_)
  · replace hw := hw.1 c40
    refine lv_iconst (v := 0) hx hb dL_sums_218 (by decide) ?_
    exact b_L_sums_219 l C0 hK167 _ _ _ _ _ _ _ _ _ _ _ _ _ hw Z (lv_sub hl [1, 2, 0, 4, 5, 6, 7, 8] rfl)
  · replace hw := hw.2 c40
    refine lv_iconst (v := 1) hx hb dL_sums_214 (by decide) ?_
    refine lv_goto (tgt := 219) hx hb dL_sums_215 (by decide) ?_
    exact b_L_sums_219 l C0 hK167 _ _ _ _ _ _ _ _ _ _ _ _ _ hw Z (lv_sub hl [1, 2, 0, 4, 5, 6, 7, 8] rfl)
set_option maxRecDepth 100000 in
set_option maxHeartbeats 4000000 in
theorem b_L_sums_167 {p : Program} (l : Launch) {e : Env} {s : State} {m : MethodId} {args : Array Value} {below : List Frame} {meth : Method} {c : Code} {G : zG}   (C0 : Cx G RL cL_sums 11 (some .boolean) p s m args meth c) {Q : Int32 → V3 → Prop} : ∀ (n : Nat) (x1 : Int32) (x2 : Int32) (x3 : Int32) (x4 : Int32) (x5 : Int32) (x6 : Int32) (x7 : Int32) (v : V3) (H : Heap) (locs : List Loc) (ls : Array Slot), w_L_sums_167 Q n x1 x2 x3 x4 x5 x6 x7 v → Zs G s v H locs → lv_has ls 11 [(0, .ref (gad G 7)), (1, .int x1), (2, .int x2), (3, .int x3), (4, .int x4), (5, .int x5), (6, .int x6), (7, .int x7)] → W p l e { frames := 6, cells := 0, slots := 0, locals := 138 } s m args below meth c H locs 0 0 (MQ below (QiZ G Q) args s 0 0 (zA G)) (F0 m 167 ls []) := by
  have hx := C0.1
  have hb := C0.2.1
  intro n
  induction n with
  | zero =>
    intro x1 x2 x3 x4 x5 x6 x7 v H locs ls hw Z hl
    exact hw.elim
  | succ n hK167 =>
    intro x1 x2 x3 x4 x5 x6 x7 v H locs ls hw Z hl
    rw [w_L_sums_167] at hw
    refine lv_iload hx hb dL_sums_167 (lv_at hl 7 rfl) ?_
    refine lv_aload_n hx hb dL_sums_169 rfl (lv_at hl 0 rfl) ?_
    refine z_get C0 Z in_L rfl 0 (by decide) rfl tm_1_181 (cx_lt C0 (by decide)) rfl rfl dL_sums_170 ?_
    refine lv_bipush (v := 6) hx hb dL_sums_173 (by decide) ?_
    refine z_callH C0 Z hl.1 (As := [.ref (gad G 0), .int 6]) (rest := [.int x7]) (k_L_count l (cx_g C0) hw) (gv_L_count tm_2_93) ds_L_count ⟨Nat.le_of_ble_eq_true rfl, Nat.le_of_ble_eq_true rfl⟩ rfl rfl (Nat.le_of_ble_eq_true rfl) ⟨Nat.le_of_ble_eq_true rfl, Nat.le_of_ble_eq_true rfl⟩ dL_sums_175 (fun r5 v4 H locs hw Z => ?_)
    refine lv_icmp_ge (tgt := 314) hx hb dL_sums_178 (by decide) (fun c6 => ?_) (fun c6 => ?_)
    · replace hw := hw.1 c6
      refine lv_iconst (v := 0) hx hb dL_sums_314 (by decide) ?_
      refine lv_istore (lv' := [(7, .int 0), (0, .ref (gad G 7)), (1, .int x1), (2, .int x2), (3, .int x3), (4, .int x4), (5, .int x5), (6, .int x6)]) hx hb dL_sums_315 hl (by decide) rfl (fun ls hl => ?_)
      obtain ⟨m317, hw⟩ := hw
      exact b_L_sums_317 l C0 m317 _ _ _ _ _ _ _ _ _ _ _ hw Z (lv_sub hl [1, 2, 3, 4, 5, 6, 7, 0] rfl)
    · replace hw := hw.2 c6
      refine lv_aload_n hx hb dL_sums_181 rfl (lv_at hl 0 rfl) ?_
      refine z_get C0 Z in_L rfl 0 (by decide) rfl tm_1_181 (cx_lt C0 (by decide)) rfl rfl dL_sums_182 ?_
      refine lv_iload hx hb dL_sums_185 (lv_at hl 7 rfl) ?_
      refine lv_bipush (v := 7) hx hb dL_sums_187 (by decide) ?_
      refine z_callH C0 Z hl.1 (As := [.ref (gad G 0), .int x7, .int 7]) (rest := []) (k_L_booking l (cx_g C0) hw) (gv_L_booking tm_2_238) ds_L_booking ⟨Nat.le_of_ble_eq_true rfl, Nat.le_of_ble_eq_true rfl⟩ rfl rfl (Nat.le_of_ble_eq_true rfl) ⟨Nat.le_of_ble_eq_true rfl, Nat.le_of_ble_eq_true rfl⟩ dL_sums_189 (fun r38 v37 H locs hw Z => ?_)
      refine lv_istore (lv' := [(8, .int r38), (0, .ref (gad G 7)), (1, .int x1), (2, .int x2), (3, .int x3), (4, .int x4), (5, .int x5), (6, .int x6), (7, .int x7)]) hx hb dL_sums_192 hl (by decide) rfl (fun ls hl => ?_)
      refine lv_iload_n hx hb dL_sums_194 rfl (lv_at hl 3 rfl) ?_
      refine lv_iload hx hb dL_sums_195 (lv_at hl 0 rfl) ?_
      refine lv_if_ne (tgt := 204) hx hb dL_sums_197 (by decide) (fun c39 => ?_) (fun c39 => ?_)
      · replace hw := hw.1 c39
        refine lv_iconst (v := 0) hx hb dL_sums_204 (by decide) ?_
        exact b_L_sums_205 l C0 hK167 _ _ _ _ _ _ _ _ _ _ _ _ _ hw Z (lv_sub hl [1, 2, 4, 5, 6, 7, 8, 0] rfl)
      · replace hw := hw.2 c39
        refine lv_iconst (v := 1) hx hb dL_sums_200 (by decide) ?_
        refine lv_goto (tgt := 205) hx hb dL_sums_201 (by decide) ?_
        exact b_L_sums_205 l C0 hK167 _ _ _ _ _ _ _ _ _ _ _ _ _ hw Z (lv_sub hl [1, 2, 4, 5, 6, 7, 8, 0] rfl)
set_option maxRecDepth 100000 in
set_option maxHeartbeats 4000000 in
theorem b_L_sums_156 {p : Program} (l : Launch) {e : Env} {s : State} {m : MethodId} {args : Array Value} {below : List Frame} {meth : Method} {c : Code} {G : zG}   (C0 : Cx G RL cL_sums 11 (some .boolean) p s m args meth c) {Q : Int32 → V3 → Prop} : ∀ (v : V3) (H : Heap) (locs : List Loc) (ls : Array Slot), w_L_sums_156 Q v → Zs G s v H locs → lv_has ls 11 [] → W p l e { frames := 6, cells := 0, slots := 0, locals := 138 } s m args below meth c H locs 0 0 (MQ below (QiZ G Q) args s 0 0 (zA G)) (F0 m 156 ls []) := by
  have hx := C0.1
  have hb := C0.2.1
  intro v H locs ls hw Z hl
  rw [w_L_sums_156] at hw
  refine lv_iconst (v := 0) hx hb dL_sums_156 (by decide) ?_
  exact z_zret C0 Z (by decide) hw dL_sums_157
set_option maxRecDepth 100000 in
set_option maxHeartbeats 4000000 in
theorem b_L_sums_152 {p : Program} (l : Launch) {e : Env} {s : State} {m : MethodId} {args : Array Value} {below : List Frame} {meth : Method} {c : Code} {G : zG}   (C0 : Cx G RL cL_sums 11 (some .boolean) p s m args meth c) {Q : Int32 → V3 → Prop} {K18 : Int32 → Int32 → Int32 → Int32 → Int32 → Int32 → Int32 → V3 → Prop} (hK18 : ∀ (x1 : Int32) (x2 : Int32) (x3 : Int32) (x4 : Int32) (x5 : Int32) (x6 : Int32) (x7 : Int32) (v : V3) (H : Heap) (locs : List Loc) (ls : Array Slot), K18 x1 x2 x3 x4 x5 x6 x7 v → Zs G s v H locs → lv_has ls 11 [(0, .ref (gad G 7)), (1, .int x1), (2, .int x2), (3, .int x3), (4, .int x4), (5, .int x5), (6, .int x6), (7, .int x7)] → W p l e { frames := 6, cells := 0, slots := 0, locals := 138 } s m args below meth c H locs 0 0 (MQ below (QiZ G Q) args s 0 0 (zA G)) (F0 m 18 ls [])) : ∀ (x1 : Int32) (x2 : Int32) (x3 : Int32) (x4 : Int32) (x5 : Int32) (x6 : Int32) (x7 : Int32) (s0 : UInt64) (s1 : UInt64) (v : V3) (H : Heap) (locs : List Loc) (ls : Array Slot), w_L_sums_152 Q K18 x1 x2 x3 x4 x5 x6 x7 s0 s1 v → Zs G s v H locs → lv_has ls 11 [(0, .ref (gad G 7)), (1, .int x1), (2, .int x2), (3, .int x3), (4, .int x4), (5, .int x5), (6, .int x6), (7, .int x7)] → W p l e { frames := 6, cells := 0, slots := 0, locals := 138 } s m args below meth c H locs 0 0 (MQ below (QiZ G Q) args s 0 0 (zA G)) (F0 m 152 ls [.double s1, .double s0]) := by
  have hx := C0.1
  have hb := C0.2.1
  intro x1 x2 x3 x4 x5 x6 x7 s0 s1 v H locs ls hw Z hl
  rw [w_L_sums_152] at hw
  refine lv_dcmp hx hb dL_sums_152 ?_
  refine lv_if_eq (tgt := 158) hx hb dL_sums_153 (by decide) (fun c74 => ?_) (fun c74 => ?_)
  · replace hw := hw.1 c74
    refine lv_iinc (v := x7 + 1) (lv' := [(7, .int (x7 + 1)), (0, .ref (gad G 7)), (1, .int x1), (2, .int x2), (3, .int x3), (4, .int x4), (5, .int x5), (6, .int x6)]) hx hb dL_sums_158 hl (k := 7) rfl rfl (by decide) rfl (fun ls hl => ?_)
    refine lv_goto (tgt := 18) hx hb dL_sums_161 (by decide) ?_
    exact hK18 _ _ _ _ _ _ _ _ _ _ _ hw Z (lv_sub hl [1, 2, 3, 4, 5, 6, 7, 0] rfl)
  · replace hw := hw.2 c74
    exact b_L_sums_156 l C0 _ _ _ _ hw Z (lv_sub hl [] rfl)
set_option maxRecDepth 100000 in
set_option maxHeartbeats 4000000 in
theorem b_L_sums_118 {p : Program} (l : Launch) {e : Env} {s : State} {m : MethodId} {args : Array Value} {below : List Frame} {meth : Method} {c : Code} {G : zG}   (C0 : Cx G RL cL_sums 11 (some .boolean) p s m args meth c) {Q : Int32 → V3 → Prop} {K18 : Int32 → Int32 → Int32 → Int32 → Int32 → Int32 → Int32 → V3 → Prop} (hK18 : ∀ (x1 : Int32) (x2 : Int32) (x3 : Int32) (x4 : Int32) (x5 : Int32) (x6 : Int32) (x7 : Int32) (v : V3) (H : Heap) (locs : List Loc) (ls : Array Slot), K18 x1 x2 x3 x4 x5 x6 x7 v → Zs G s v H locs → lv_has ls 11 [(0, .ref (gad G 7)), (1, .int x1), (2, .int x2), (3, .int x3), (4, .int x4), (5, .int x5), (6, .int x6), (7, .int x7)] → W p l e { frames := 6, cells := 0, slots := 0, locals := 138 } s m args below meth c H locs 0 0 (MQ below (QiZ G Q) args s 0 0 (zA G)) (F0 m 18 ls [])) : ∀ (x1 : Int32) (x2 : Int32) (x3 : Int32) (x4 : Int32) (x5 : Int32) (x6 : Int32) (x7 : Int32) (x8 : Int32) (x9 : Int32) (s0 : Int32) (s1 : Int32) (v : V3) (H : Heap) (locs : List Loc) (ls : Array Slot), w_L_sums_118 Q K18 x1 x2 x3 x4 x5 x6 x7 x8 x9 s0 s1 v → Zs G s v H locs → lv_has ls 11 [(0, .ref (gad G 7)), (1, .int x1), (2, .int x2), (3, .int x3), (4, .int x4), (5, .int x5), (6, .int x6), (7, .int x7), (8, .int x8), (9, .int x9)] → W p l e { frames := 6, cells := 0, slots := 0, locals := 138 } s m args below meth c H locs 0 0 (MQ below (QiZ G Q) args s 0 0 (zA G)) (F0 m 118 ls [.int s1, .int s0]) := by
  have hx := C0.1
  have hb := C0.2.1
  intro x1 x2 x3 x4 x5 x6 x7 x8 x9 s0 s1 v H locs ls hw Z hl
  rw [w_L_sums_118] at hw
  refine lv_icmp_ne (tgt := 156) hx hb dL_sums_118 (by decide) (fun c69 => ?_) (fun c69 => ?_)
  · replace hw := hw.1 c69
    exact b_L_sums_156 l C0 _ _ _ _ hw Z (lv_sub hl [] rfl)
  · replace hw := hw.2 c69
    refine lv_aload_n hx hb dL_sums_121 rfl (lv_at hl 0 rfl) ?_
    refine z_get C0 Z in_L rfl 0 (by decide) rfl tm_1_181 (cx_lt C0 (by decide)) rfl rfl dL_sums_122 ?_
    refine lv_iload hx hb dL_sums_125 (lv_at hl 7 rfl) ?_
    refine z_callHd C0 Z hl.1 (As := [.ref (gad G 0), .int x7]) (rest := []) (k_L_trust l (cx_g C0) hw) (gv_L_trust tm_3_215) ds_L_trust ⟨Nat.le_of_ble_eq_true rfl, Nat.le_of_ble_eq_true rfl⟩ rfl rfl (Nat.le_of_ble_eq_true rfl) ⟨Nat.le_of_ble_eq_true rfl, Nat.le_of_ble_eq_true rfl⟩ dL_sums_127 (fun r71 v70 H locs hw Z => ?_)
    refine lv_iload hx hb dL_sums_130 (lv_at hl 8 rfl) ?_
    refine lv_iload hx hb dL_sums_132 (lv_at hl 9 rfl) ?_
    refine lv_iadd hx hb dL_sums_134 ?_
    refine lv_if_ne (tgt := 142) hx hb dL_sums_135 (by decide) (fun c72 => ?_) (fun c72 => ?_)
    · replace hw := hw.1 c72
      refine lv_iload hx hb dL_sums_142 (lv_at hl 8 rfl) ?_
      refine lv_i2d hx hb dL_sums_144 ?_
      refine lv_iload hx hb dL_sums_145 (lv_at hl 8 rfl) ?_
      refine lv_iload hx hb dL_sums_147 (lv_at hl 9 rfl) ?_
      refine lv_iadd hx hb dL_sums_149 ?_
      refine lv_i2d hx hb dL_sums_150 ?_
      obtain ⟨h73, hw⟩ := hw
      refine lv_ddiv hx hb dL_sums_151 h73 ?_
      exact b_L_sums_152 l C0 hK18 _ _ _ _ _ _ _ _ _ _ _ _ _ hw Z (lv_sub hl [0, 1, 2, 3, 4, 5, 6, 7] rfl)
    · replace hw := hw.2 c72
      refine lv_dconst1 hx hb dL_sums_138 ?_
      refine lv_goto (tgt := 152) hx hb dL_sums_139 (by decide) ?_
      exact b_L_sums_152 l C0 hK18 _ _ _ _ _ _ _ _ _ _ _ _ _ hw Z (lv_sub hl [0, 1, 2, 3, 4, 5, 6, 7] rfl)
set_option maxRecDepth 100000 in
set_option maxHeartbeats 4000000 in
theorem b_L_sums_18 {p : Program} (l : Launch) {e : Env} {s : State} {m : MethodId} {args : Array Value} {below : List Frame} {meth : Method} {c : Code} {G : zG}   (C0 : Cx G RL cL_sums 11 (some .boolean) p s m args meth c) {Q : Int32 → V3 → Prop} : ∀ (n : Nat) (x1 : Int32) (x2 : Int32) (x3 : Int32) (x4 : Int32) (x5 : Int32) (x6 : Int32) (x7 : Int32) (v : V3) (H : Heap) (locs : List Loc) (ls : Array Slot), w_L_sums_18 Q n x1 x2 x3 x4 x5 x6 x7 v → Zs G s v H locs → lv_has ls 11 [(0, .ref (gad G 7)), (1, .int x1), (2, .int x2), (3, .int x3), (4, .int x4), (5, .int x5), (6, .int x6), (7, .int x7)] → W p l e { frames := 6, cells := 0, slots := 0, locals := 138 } s m args below meth c H locs 0 0 (MQ below (QiZ G Q) args s 0 0 (zA G)) (F0 m 18 ls []) := by
  have hx := C0.1
  have hb := C0.2.1
  intro n
  induction n with
  | zero =>
    intro x1 x2 x3 x4 x5 x6 x7 v H locs ls hw Z hl
    exact hw.elim
  | succ n hK18 =>
    intro x1 x2 x3 x4 x5 x6 x7 v H locs ls hw Z hl
    rw [w_L_sums_18] at hw
    refine lv_iload hx hb dL_sums_18 (lv_at hl 7 rfl) ?_
    refine lv_aload_n hx hb dL_sums_20 rfl (lv_at hl 0 rfl) ?_
    refine z_get C0 Z in_L rfl 0 (by decide) rfl tm_1_181 (cx_lt C0 (by decide)) rfl rfl dL_sums_21 ?_
    refine lv_iconst (v := 5) hx hb dL_sums_24 (by decide) ?_
    refine z_callH C0 Z hl.1 (As := [.ref (gad G 0), .int 5]) (rest := [.int x7]) (k_L_count l (cx_g C0) hw) (gv_L_count tm_2_93) ds_L_count ⟨Nat.le_of_ble_eq_true rfl, Nat.le_of_ble_eq_true rfl⟩ rfl rfl (Nat.le_of_ble_eq_true rfl) ⟨Nat.le_of_ble_eq_true rfl, Nat.le_of_ble_eq_true rfl⟩ dL_sums_25 (fun r2 v1 H locs hw Z => ?_)
    refine lv_icmp_ge (tgt := 164) hx hb dL_sums_28 (by decide) (fun c3 => ?_) (fun c3 => ?_)
    · replace hw := hw.1 c3
      refine lv_iconst (v := 0) hx hb dL_sums_164 (by decide) ?_
      refine lv_istore (lv' := [(7, .int 0), (0, .ref (gad G 7)), (1, .int x1), (2, .int x2), (3, .int x3), (4, .int x4), (5, .int x5), (6, .int x6)]) hx hb dL_sums_165 hl (by decide) rfl (fun ls hl => ?_)
      obtain ⟨m167, hw⟩ := hw
      exact b_L_sums_167 l C0 m167 _ _ _ _ _ _ _ _ _ _ _ hw Z (lv_sub hl [1, 2, 3, 4, 5, 6, 7, 0] rfl)
    · replace hw := hw.2 c3
      refine lv_iload_n hx hb dL_sums_31 rfl (lv_at hl 1 rfl) ?_
      refine lv_aload_n hx hb dL_sums_32 rfl (lv_at hl 0 rfl) ?_
      refine z_get C0 Z in_L rfl 0 (by decide) rfl tm_1_181 (cx_lt C0 (by decide)) rfl rfl dL_sums_33 ?_
      refine lv_iload hx hb dL_sums_36 (lv_at hl 7 rfl) ?_
      refine lv_iconst (v := 0) hx hb dL_sums_38 (by decide) ?_
      refine z_callH C0 Z hl.1 (As := [.ref (gad G 0), .int x7, .int 0]) (rest := [.int x1]) (k_L_owner l (cx_g C0) hw) (gv_L_owner tm_2_147) ds_L_owner ⟨Nat.le_of_ble_eq_true rfl, Nat.le_of_ble_eq_true rfl⟩ rfl rfl (Nat.le_of_ble_eq_true rfl) ⟨Nat.le_of_ble_eq_true rfl, Nat.le_of_ble_eq_true rfl⟩ dL_sums_39 (fun r57 v56 H locs hw Z => ?_)
      refine lv_iadd hx hb dL_sums_42 ?_
      refine lv_istore_n (lv' := [(1, .int (x1 + r57)), (0, .ref (gad G 7)), (2, .int x2), (3, .int x3), (4, .int x4), (5, .int x5), (6, .int x6), (7, .int x7)]) hx hb dL_sums_43 rfl hl (by decide) rfl (fun ls hl => ?_)
      refine lv_iload hx hb dL_sums_44 (lv_at hl 5 rfl) ?_
      refine lv_aload_n hx hb dL_sums_46 rfl (lv_at hl 1 rfl) ?_
      refine z_get C0 Z in_L rfl 0 (by decide) rfl tm_1_181 (cx_lt C0 (by decide)) rfl rfl dL_sums_47 ?_
      refine lv_iload hx hb dL_sums_50 (lv_at hl 7 rfl) ?_
      refine lv_bipush (v := 8) hx hb dL_sums_52 (by decide) ?_
      refine z_callH C0 Z hl.1 (As := [.ref (gad G 0), .int x7, .int 8]) (rest := [.int x5]) (k_L_owner l (cx_g C0) hw) (gv_L_owner tm_2_147) ds_L_owner ⟨Nat.le_of_ble_eq_true rfl, Nat.le_of_ble_eq_true rfl⟩ rfl rfl (Nat.le_of_ble_eq_true rfl) ⟨Nat.le_of_ble_eq_true rfl, Nat.le_of_ble_eq_true rfl⟩ dL_sums_54 (fun r59 v58 H locs hw Z => ?_)
      refine lv_iadd hx hb dL_sums_57 ?_
      refine lv_istore (lv' := [(5, .int (x5 + r59)), (1, .int (x1 + r57)), (0, .ref (gad G 7)), (2, .int x2), (3, .int x3), (4, .int x4), (6, .int x6), (7, .int x7)]) hx hb dL_sums_58 hl (by decide) rfl (fun ls hl => ?_)
      refine lv_aload_n hx hb dL_sums_60 rfl (lv_at hl 2 rfl) ?_
      refine z_get C0 Z in_L rfl 0 (by decide) rfl tm_1_181 (cx_lt C0 (by decide)) rfl rfl dL_sums_61 ?_
      refine lv_iload hx hb dL_sums_64 (lv_at hl 7 rfl) ?_
      refine lv_iconst (v := 1) hx hb dL_sums_66 (by decide) ?_
      refine z_callH C0 Z hl.1 (As := [.ref (gad G 0), .int x7, .int 1]) (rest := []) (k_L_owner l (cx_g C0) hw) (gv_L_owner tm_2_147) ds_L_owner ⟨Nat.le_of_ble_eq_true rfl, Nat.le_of_ble_eq_true rfl⟩ rfl rfl (Nat.le_of_ble_eq_true rfl) ⟨Nat.le_of_ble_eq_true rfl, Nat.le_of_ble_eq_true rfl⟩ dL_sums_67 (fun r61 v60 H locs hw Z => ?_)
      refine lv_istore (lv' := [(8, .int r61), (5, .int (x5 + r59)), (1, .int (x1 + r57)), (0, .ref (gad G 7)), (2, .int x2), (3, .int x3), (4, .int x4), (6, .int x6), (7, .int x7)]) hx hb dL_sums_70 hl (by decide) rfl (fun ls hl => ?_)
      refine lv_aload_n hx hb dL_sums_72 rfl (lv_at hl 3 rfl) ?_
      refine z_get C0 Z in_L rfl 0 (by decide) rfl tm_1_181 (cx_lt C0 (by decide)) rfl rfl dL_sums_73 ?_
      refine lv_iload hx hb dL_sums_76 (lv_at hl 8 rfl) ?_
      refine lv_iconst (v := 2) hx hb dL_sums_78 (by decide) ?_
      refine z_callH C0 Z hl.1 (As := [.ref (gad G 0), .int x7, .int 2]) (rest := []) (k_L_owner l (cx_g C0) hw) (gv_L_owner tm_2_147) ds_L_owner ⟨Nat.le_of_ble_eq_true rfl, Nat.le_of_ble_eq_true rfl⟩ rfl rfl (Nat.le_of_ble_eq_true rfl) ⟨Nat.le_of_ble_eq_true rfl, Nat.le_of_ble_eq_true rfl⟩ dL_sums_79 (fun r63 v62 H locs hw Z => ?_)
      refine lv_aload_n hx hb dL_sums_82 rfl (lv_at hl 3 rfl) ?_
      refine z_get C0 Z in_L rfl 0 (by decide) rfl tm_1_181 (cx_lt C0 (by decide)) rfl rfl dL_sums_83 ?_
      refine lv_iload hx hb dL_sums_86 (lv_at hl 8 rfl) ?_
      refine lv_iconst (v := 3) hx hb dL_sums_88 (by decide) ?_
      refine z_callH C0 Z hl.1 (As := [.ref (gad G 0), .int x7, .int 3]) (rest := [.int r63]) (k_L_owner l (cx_g C0) hw) (gv_L_owner tm_2_147) ds_L_owner ⟨Nat.le_of_ble_eq_true rfl, Nat.le_of_ble_eq_true rfl⟩ rfl rfl (Nat.le_of_ble_eq_true rfl) ⟨Nat.le_of_ble_eq_true rfl, Nat.le_of_ble_eq_true rfl⟩ dL_sums_89 (fun r65 v64 H locs hw Z => ?_)
      refine lv_iadd hx hb dL_sums_92 ?_
      refine lv_istore (lv' := [(9, .int (r63 + r65)), (8, .int r61), (5, .int (x5 + r59)), (1, .int (x1 + r57)), (0, .ref (gad G 7)), (2, .int x2), (3, .int x3), (4, .int x4), (6, .int x6), (7, .int x7)]) hx hb dL_sums_93 hl (by decide) rfl (fun ls hl => ?_)
      refine lv_aload_n hx hb dL_sums_95 rfl (lv_at hl 4 rfl) ?_
      refine z_get C0 Z in_L rfl 0 (by decide) rfl tm_1_181 (cx_lt C0 (by decide)) rfl rfl dL_sums_96 ?_
      refine lv_iload hx hb dL_sums_99 (lv_at hl 9 rfl) ?_
      refine lv_bipush (v := 9) hx hb dL_sums_101 (by decide) ?_
      refine z_callH C0 Z hl.1 (As := [.ref (gad G 0), .int x7, .int 9]) (rest := []) (k_L_owner l (cx_g C0) hw) (gv_L_owner tm_2_147) ds_L_owner ⟨Nat.le_of_ble_eq_true rfl, Nat.le_of_ble_eq_true rfl⟩ rfl rfl (Nat.le_of_ble_eq_true rfl) ⟨Nat.le_of_ble_eq_true rfl, Nat.le_of_ble_eq_true rfl⟩ dL_sums_103 (fun r67 v66 H locs hw Z => ?_)
      refine lv_iload hx hb dL_sums_106 (lv_at hl 0 rfl) ?_
      refine lv_bipush (v := 9) hx hb dL_sums_108 (by decide) ?_
      refine lv_icmp_lt (tgt := 117) hx hb dL_sums_110 (by decide) (fun c68 => ?_) (fun c68 => ?_)
      · replace hw := hw.1 c68
        refine lv_iconst (v := 0) hx hb dL_sums_117 (by decide) ?_
        exact b_L_sums_118 l C0 hK18 _ _ _ _ _ _ _ _ _ _ _ _ _ _ _ hw Z (lv_sub hl [4, 3, 5, 6, 7, 2, 8, 9, 1, 0] rfl)
      · replace hw := hw.2 c68
        refine lv_iconst (v := 1) hx hb dL_sums_113 (by decide) ?_
        refine lv_goto (tgt := 118) hx hb dL_sums_114 (by decide) ?_
        exact b_L_sums_118 l C0 hK18 _ _ _ _ _ _ _ _ _ _ _ _ _ _ _ hw Z (lv_sub hl [4, 3, 5, 6, 7, 2, 8, 9, 1, 0] rfl)
set_option maxRecDepth 100000 in
set_option maxHeartbeats 4000000 in
theorem k_L_sums (l : Launch) {G : zG} (hg : 116 ≤ gn G)  {v : V3} {Q : Int32 → V3 → Prop} (hw : w_L_sums v Q) : Mz l yL_sums cL_sums 11 (some .boolean) 6 138 G [.ref (gad G 7)] v (QiZ G Q) := by
  rw [w_L_sums] at hw
  refine z_ofW hg (by decide) (Nat.le_of_ble_eq_true rfl) ?_
  intro p e s m args below meth c ls C0 Z hl
  have hx := C0.1
  have hb := C0.2.1
  replace hl : lv_has ls 11 [(0, .ref (gad G 7))] := hl
  generalize s.heap = H at Z ⊢
  generalize ([] : List Loc) = locs at Z ⊢
  refine lv_iconst (v := 0) hx hb dL_sums_0 (by decide) ?_
  refine lv_istore_n (lv' := [(1, .int 0), (0, .ref (gad G 7))]) hx hb dL_sums_1 rfl hl (by decide) rfl (fun ls hl => ?_)
  refine lv_iconst (v := 0) hx hb dL_sums_2 (by decide) ?_
  refine lv_istore_n (lv' := [(2, .int 0), (1, .int 0), (0, .ref (gad G 7))]) hx hb dL_sums_3 rfl hl (by decide) rfl (fun ls hl => ?_)
  refine lv_iconst (v := 0) hx hb dL_sums_4 (by decide) ?_
  refine lv_istore_n (lv' := [(3, .int 0), (2, .int 0), (1, .int 0), (0, .ref (gad G 7))]) hx hb dL_sums_5 rfl hl (by decide) rfl (fun ls hl => ?_)
  refine lv_iconst (v := 0) hx hb dL_sums_6 (by decide) ?_
  refine lv_istore (lv' := [(4, .int 0), (3, .int 0), (2, .int 0), (1, .int 0), (0, .ref (gad G 7))]) hx hb dL_sums_7 hl (by decide) rfl (fun ls hl => ?_)
  refine lv_iconst (v := 0) hx hb dL_sums_9 (by decide) ?_
  refine lv_istore (lv' := [(5, .int 0), (4, .int 0), (3, .int 0), (2, .int 0), (1, .int 0), (0, .ref (gad G 7))]) hx hb dL_sums_10 hl (by decide) rfl (fun ls hl => ?_)
  refine lv_iconst (v := (-1)) hx hb dL_sums_12 (by decide) ?_
  refine lv_istore (lv' := [(6, .int (-1)), (5, .int 0), (4, .int 0), (3, .int 0), (2, .int 0), (1, .int 0), (0, .ref (gad G 7))]) hx hb dL_sums_13 hl (by decide) rfl (fun ls hl => ?_)
  refine lv_iconst (v := 0) hx hb dL_sums_15 (by decide) ?_
  refine lv_istore (lv' := [(7, .int 0), (6, .int (-1)), (5, .int 0), (4, .int 0), (3, .int 0), (2, .int 0), (1, .int 0), (0, .ref (gad G 7))]) hx hb dL_sums_16 hl (by decide) rfl (fun ls hl => ?_)
  obtain ⟨m18, hw⟩ := hw
  exact b_L_sums_18 l C0 m18 _ _ _ _ _ _ _ _ _ _ _ hw Z (lv_sub hl [7, 6, 5, 4, 3, 2, 1, 0] rfl)
