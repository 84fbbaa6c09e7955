-- L_passes: room (8, 193) cells (0, 0)
theorem dL_passes_0 : decode cL_passes 0 = .ok (.iconst 1, 1) := by decide +kernel
theorem dL_passes_1 : decode cL_passes 1 = .ok (.aload_n 0, 1) := by decide +kernel
theorem dL_passes_2 : decode cL_passes 2 = .ok (.bipush 12, 2) := by decide +kernel
theorem dL_passes_4 : decode cL_passes 4 = .ok (.invokevirtual 142, 3) := by decide +kernel
theorem dL_passes_7 : decode cL_passes 7 = .ok (.iadd, 1) := by decide +kernel
theorem dL_passes_8 : decode cL_passes 8 = .ok (.istore_n 1, 1) := by decide +kernel
theorem dL_passes_9 : decode cL_passes 9 = .ok (.aload_n 0, 1) := by decide +kernel
theorem dL_passes_10 : decode cL_passes 10 = .ok (.getfield 10, 3) := by decide +kernel
theorem dL_passes_13 : decode cL_passes 13 = .ok (.bipush 7, 2) := by decide +kernel
theorem dL_passes_15 : decode cL_passes 15 = .ok (.invokestatic 154, 3) := by decide +kernel
theorem dL_passes_18 : decode cL_passes 18 = .ok (.istore_n 2, 1) := by decide +kernel
theorem dL_passes_19 : decode cL_passes 19 = .ok (.iconst 0, 1) := by decide +kernel
theorem dL_passes_20 : decode cL_passes 20 = .ok (.istore_n 3, 1) := by decide +kernel
theorem dL_passes_21 : decode cL_passes 21 = .ok (.iconst 0, 1) := by decide +kernel
theorem dL_passes_22 : decode cL_passes 22 = .ok (.istore 4, 2) := by decide +kernel
theorem dL_passes_24 : decode cL_passes 24 = .ok (.iconst 0, 1) := by decide +kernel
theorem dL_passes_25 : decode cL_passes 25 = .ok (.istore 5, 2) := by decide +kernel
theorem dL_passes_27 : decode cL_passes 27 = .ok (.iload 5, 2) := by decide +kernel
theorem dL_passes_29 : decode cL_passes 29 = .ok (.aload_n 0, 1) := by decide +kernel
theorem dL_passes_30 : decode cL_passes 30 = .ok (.getfield 10, 3) := by decide +kernel
theorem dL_passes_33 : decode cL_passes 33 = .ok (.iconst 5, 1) := by decide +kernel
theorem dL_passes_34 : decode cL_passes 34 = .ok (.invokestatic 154, 3) := by decide +kernel
theorem dL_passes_37 : decode cL_passes 37 = .ok (.if_icmp .ge 37, 3) := by decide +kernel
theorem dL_passes_40 : decode cL_passes 40 = .ok (.iload_n 3, 1) := by decide +kernel
theorem dL_passes_41 : decode cL_passes 41 = .ok (.aload_n 0, 1) := by decide +kernel
theorem dL_passes_42 : decode cL_passes 42 = .ok (.getfield 10, 3) := by decide +kernel
theorem dL_passes_45 : decode cL_passes 45 = .ok (.iload 5, 2) := by decide +kernel
theorem dL_passes_47 : decode cL_passes 47 = .ok (.iconst 2, 1) := by decide +kernel
theorem dL_passes_48 : decode cL_passes 48 = .ok (.invokestatic 162, 3) := by decide +kernel
theorem dL_passes_51 : decode cL_passes 51 = .ok (.iadd, 1) := by decide +kernel
theorem dL_passes_52 : decode cL_passes 52 = .ok (.istore_n 3, 1) := by decide +kernel
theorem dL_passes_53 : decode cL_passes 53 = .ok (.iload 4, 2) := by decide +kernel
theorem dL_passes_55 : decode cL_passes 55 = .ok (.aload_n 0, 1) := by decide +kernel
theorem dL_passes_56 : decode cL_passes 56 = .ok (.getfield 10, 3) := by decide +kernel
theorem dL_passes_59 : decode cL_passes 59 = .ok (.iload 5, 2) := by decide +kernel
theorem dL_passes_61 : decode cL_passes 61 = .ok (.iconst 1, 1) := by decide +kernel
theorem dL_passes_62 : decode cL_passes 62 = .ok (.invokestatic 162, 3) := by decide +kernel
theorem dL_passes_65 : decode cL_passes 65 = .ok (.iadd, 1) := by decide +kernel
theorem dL_passes_66 : decode cL_passes 66 = .ok (.istore 4, 2) := by decide +kernel
theorem dL_passes_68 : decode cL_passes 68 = .ok (.iinc 5 1, 3) := by decide +kernel
theorem dL_passes_71 : decode cL_passes 71 = .ok (.goto (-44), 3) := by decide +kernel
theorem dL_passes_74 : decode cL_passes 74 = .ok (.aload_n 0, 1) := by decide +kernel
theorem dL_passes_75 : decode cL_passes 75 = .ok (.getfield 10, 3) := by decide +kernel
theorem dL_passes_78 : decode cL_passes 78 = .ok (.iload_n 1, 1) := by decide +kernel
theorem dL_passes_79 : decode cL_passes 79 = .ok (.iconst 0, 1) := by decide +kernel
theorem dL_passes_80 : decode cL_passes 80 = .ok (.invokestatic 203, 3) := by decide +kernel
theorem dL_passes_83 : decode cL_passes 83 = .ok (.istore 5, 2) := by decide +kernel
theorem dL_passes_85 : decode cL_passes 85 = .ok (.aload_n 0, 1) := by decide +kernel
theorem dL_passes_86 : decode cL_passes 86 = .ok (.getfield 10, 3) := by decide +kernel
theorem dL_passes_89 : decode cL_passes 89 = .ok (.iload_n 1, 1) := by decide +kernel
theorem dL_passes_90 : decode cL_passes 90 = .ok (.iconst 3, 1) := by decide +kernel
theorem dL_passes_91 : decode cL_passes 91 = .ok (.invokestatic 203, 3) := by decide +kernel
theorem dL_passes_94 : decode cL_passes 94 = .ok (.istore 6, 2) := by decide +kernel
theorem dL_passes_96 : decode cL_passes 96 = .ok (.aload_n 0, 1) := by decide +kernel
theorem dL_passes_97 : decode cL_passes 97 = .ok (.getfield 10, 3) := by decide +kernel
theorem dL_passes_100 : decode cL_passes 100 = .ok (.iload_n 1, 1) := by decide +kernel
theorem dL_passes_101 : decode cL_passes 101 = .ok (.invokestatic 205, 3) := by decide +kernel
theorem dL_passes_104 : decode cL_passes 104 = .ok (.istore 7, 2) := by decide +kernel
theorem dL_passes_106 : decode cL_passes 106 = .ok (.iconst 0, 1) := by decide +kernel
theorem dL_passes_107 : decode cL_passes 107 = .ok (.istore 8, 2) := by decide +kernel
theorem dL_passes_109 : decode cL_passes 109 = .ok (.iload 8, 2) := by decide +kernel
theorem dL_passes_111 : decode cL_passes 111 = .ok (.aload_n 0, 1) := by decide +kernel
theorem dL_passes_112 : decode cL_passes 112 = .ok (.getfield 10, 3) := by decide +kernel
theorem dL_passes_115 : decode cL_passes 115 = .ok (.iconst 5, 1) := by decide +kernel
theorem dL_passes_116 : decode cL_passes 116 = .ok (.invokestatic 154, 3) := by decide +kernel
theorem dL_passes_119 : decode cL_passes 119 = .ok (.if_icmp .ge 37, 3) := by decide +kernel
theorem dL_passes_122 : decode cL_passes 122 = .ok (.iload_n 3, 1) := by decide +kernel
theorem dL_passes_123 : decode cL_passes 123 = .ok (.aload_n 0, 1) := by decide +kernel
theorem dL_passes_124 : decode cL_passes 124 = .ok (.getfield 10, 3) := by decide +kernel
theorem dL_passes_127 : decode cL_passes 127 = .ok (.iload 8, 2) := by decide +kernel
theorem dL_passes_129 : decode cL_passes 129 = .ok (.iconst 2, 1) := by decide +kernel
theorem dL_passes_130 : decode cL_passes 130 = .ok (.invokestatic 162, 3) := by decide +kernel
theorem dL_passes_133 : decode cL_passes 133 = .ok (.isub, 1) := by decide +kernel
theorem dL_passes_134 : decode cL_passes 134 = .ok (.istore_n 3, 1) := by decide +kernel
theorem dL_passes_135 : decode cL_passes 135 = .ok (.iload 4, 2) := by decide +kernel
theorem dL_passes_137 : decode cL_passes 137 = .ok (.aload_n 0, 1) := by decide +kernel
theorem dL_passes_138 : decode cL_passes 138 = .ok (.getfield 10, 3) := by decide +kernel
theorem dL_passes_141 : decode cL_passes 141 = .ok (.iload 8, 2) := by decide +kernel
theorem dL_passes_143 : decode cL_passes 143 = .ok (.iconst 1, 1) := by decide +kernel
theorem dL_passes_144 : decode cL_passes 144 = .ok (.invokestatic 162, 3) := by decide +kernel
theorem dL_passes_147 : decode cL_passes 147 = .ok (.isub, 1) := by decide +kernel
theorem dL_passes_148 : decode cL_passes 148 = .ok (.istore 4, 2) := by decide +kernel
theorem dL_passes_150 : decode cL_passes 150 = .ok (.iinc 8 1, 3) := by decide +kernel
theorem dL_passes_153 : decode cL_passes 153 = .ok (.goto (-44), 3) := by decide +kernel
theorem dL_passes_156 : decode cL_passes 156 = .ok (.iconst 0, 1) := by decide +kernel
theorem dL_passes_157 : decode cL_passes 157 = .ok (.istore 8, 2) := by decide +kernel
theorem dL_passes_159 : decode cL_passes 159 = .ok (.iload 8, 2) := by decide +kernel
theorem dL_passes_161 : decode cL_passes 161 = .ok (.aload_n 0, 1) := by decide +kernel
theorem dL_passes_162 : decode cL_passes 162 = .ok (.getfield 10, 3) := by decide +kernel
theorem dL_passes_165 : decode cL_passes 165 = .ok (.bipush 6, 2) := by decide +kernel
theorem dL_passes_167 : decode cL_passes 167 = .ok (.invokestatic 154, 3) := by decide +kernel
theorem dL_passes_170 : decode cL_passes 170 = .ok (.if_icmp .ge 111, 3) := by decide +kernel
theorem dL_passes_173 : decode cL_passes 173 = .ok (.aload_n 0, 1) := by decide +kernel
theorem dL_passes_174 : decode cL_passes 174 = .ok (.getfield 10, 3) := by decide +kernel
theorem dL_passes_177 : decode cL_passes 177 = .ok (.iload 8, 2) := by decide +kernel
theorem dL_passes_179 : decode cL_passes 179 = .ok (.bipush 7, 2) := by decide +kernel
theorem dL_passes_181 : decode cL_passes 181 = .ok (.invokestatic 167, 3) := by decide +kernel
theorem dL_passes_184 : decode cL_passes 184 = .ok (.istore 9, 2) := by decide +kernel
theorem dL_passes_186 : decode cL_passes 186 = .ok (.iload 9, 2) := by decide +kernel
theorem dL_passes_188 : decode cL_passes 188 = .ok (.iconst 2, 1) := by decide +kernel
theorem dL_passes_189 : decode cL_passes 189 = .ok (.if_icmp .ne 20, 3) := by decide +kernel
theorem dL_passes_192 : decode cL_passes 192 = .ok (.aload_n 0, 1) := by decide +kernel
theorem dL_passes_193 : decode cL_passes 193 = .ok (.getfield 10, 3) := by decide +kernel
theorem dL_passes_196 : decode cL_passes 196 = .ok (.iload 8, 2) := by decide +kernel
theorem dL_passes_198 : decode cL_passes 198 = .ok (.bipush 9, 2) := by decide +kernel
theorem dL_passes_200 : decode cL_passes 200 = .ok (.invokestatic 167, 3) := by decide +kernel
theorem dL_passes_203 : decode cL_passes 203 = .ok (.iload_n 2, 1) := by decide +kernel
theorem dL_passes_204 : decode cL_passes 204 = .ok (.iload_n 1, 1) := by decide +kernel
theorem dL_passes_205 : decode cL_passes 205 = .ok (.iadd, 1) := by decide +kernel
theorem dL_passes_206 : decode cL_passes 206 = .ok (.if_icmp .le 67, 3) := by decide +kernel
theorem dL_passes_209 : decode cL_passes 209 = .ok (.iload 9, 2) := by decide +kernel
theorem dL_passes_211 : decode cL_passes 211 = .ok (.iconst 1, 1) := by decide +kernel
theorem dL_passes_212 : decode cL_passes 212 = .ok (.if_icmp .ne 29, 3) := by decide +kernel
theorem dL_passes_215 : decode cL_passes 215 = .ok (.aload_n 0, 1) := by decide +kernel
theorem dL_passes_216 : decode cL_passes 216 = .ok (.getfield 10, 3) := by decide +kernel
theorem dL_passes_219 : decode cL_passes 219 = .ok (.iload 8, 2) := by decide +kernel
theorem dL_passes_221 : decode cL_passes 221 = .ok (.bipush 8, 2) := by decide +kernel
theorem dL_passes_223 : decode cL_passes 223 = .ok (.invokestatic 167, 3) := by decide +kernel
theorem dL_passes_226 : decode cL_passes 226 = .ok (.aload_n 0, 1) := by decide +kernel
theorem dL_passes_227 : decode cL_passes 227 = .ok (.getfield 10, 3) := by decide +kernel
theorem dL_passes_230 : decode cL_passes 230 = .ok (.iconst 0, 1) := by decide +kernel
theorem dL_passes_231 : decode cL_passes 231 = .ok (.invokestatic 154, 3) := by decide +kernel
theorem dL_passes_234 : decode cL_passes 234 = .ok (.iadd, 1) := by decide +kernel
theorem dL_passes_235 : decode cL_passes 235 = .ok (.iload_n 2, 1) := by decide +kernel
theorem dL_passes_236 : decode cL_passes 236 = .ok (.iload_n 1, 1) := by decide +kernel
theorem dL_passes_237 : decode cL_passes 237 = .ok (.iadd, 1) := by decide +kernel
theorem dL_passes_238 : decode cL_passes 238 = .ok (.if_icmp .lt 35, 3) := by decide +kernel
theorem dL_passes_241 : decode cL_passes 241 = .ok (.iload 9, 2) := by decide +kernel
theorem dL_passes_243 : decode cL_passes 243 = .ok (.ifCond .ne 32, 3) := by decide +kernel
theorem dL_passes_246 : decode cL_passes 246 = .ok (.aload_n 0, 1) := by decide +kernel
theorem dL_passes_247 : decode cL_passes 247 = .ok (.getfield 10, 3) := by decide +kernel
theorem dL_passes_250 : decode cL_passes 250 = .ok (.iload 8, 2) := by decide +kernel
theorem dL_passes_252 : decode cL_passes 252 = .ok (.iconst 4, 1) := by decide +kernel
theorem dL_passes_253 : decode cL_passes 253 = .ok (.invokestatic 167, 3) := by decide +kernel
theorem dL_passes_256 : decode cL_passes 256 = .ok (.aload_n 0, 1) := by decide +kernel
theorem dL_passes_257 : decode cL_passes 257 = .ok (.getfield 10, 3) := by decide +kernel
theorem dL_passes_260 : decode cL_passes 260 = .ok (.iload 8, 2) := by decide +kernel
theorem dL_passes_262 : decode cL_passes 262 = .ok (.iconst 5, 1) := by decide +kernel
theorem dL_passes_263 : decode cL_passes 263 = .ok (.invokestatic 167, 3) := by decide +kernel
theorem dL_passes_266 : decode cL_passes 266 = .ok (.iadd, 1) := by decide +kernel
theorem dL_passes_267 : decode cL_passes 267 = .ok (.iload_n 2, 1) := by decide +kernel
theorem dL_passes_268 : decode cL_passes 268 = .ok (.iload_n 1, 1) := by decide +kernel
theorem dL_passes_269 : decode cL_passes 269 = .ok (.iadd, 1) := by decide +kernel
theorem dL_passes_270 : decode cL_passes 270 = .ok (.if_icmp .ge 5, 3) := by decide +kernel
theorem dL_passes_273 : decode cL_passes 273 = .ok (.iconst 0, 1) := by decide +kernel
theorem dL_passes_274 : decode cL_passes 274 = .ok (.ireturn, 1) := by decide +kernel
theorem dL_passes_275 : decode cL_passes 275 = .ok (.iinc 8 1, 3) := by decide +kernel
theorem dL_passes_278 : decode cL_passes 278 = .ok (.goto (-119), 3) := by decide +kernel
theorem dL_passes_281 : decode cL_passes 281 = .ok (.iload 7, 2) := by decide +kernel
theorem dL_passes_283 : decode cL_passes 283 = .ok (.iload 5, 2) := by decide +kernel
theorem dL_passes_285 : decode cL_passes 285 = .ok (.if_icmp .ne 44, 3) := by decide +kernel
theorem dL_passes_288 : decode cL_passes 288 = .ok (.iload_n 3, 1) := by decide +kernel
theorem dL_passes_289 : decode cL_passes 289 = .ok (.iload 7, 2) := by decide +kernel
theorem dL_passes_291 : decode cL_passes 291 = .ok (.ineg, 1) := by decide +kernel
theorem dL_passes_292 : decode cL_passes 292 = .ok (.if_icmp .ne 37, 3) := by decide +kernel
theorem dL_passes_295 : decode cL_passes 295 = .ok (.iload 4, 2) := by decide +kernel
theorem dL_passes_297 : decode cL_passes 297 = .ok (.iload 6, 2) := by decide +kernel
theorem dL_passes_299 : decode cL_passes 299 = .ok (.ineg, 1) := by decide +kernel
theorem dL_passes_300 : decode cL_passes 300 = .ok (.if_icmp .ne 29, 3) := by decide +kernel
theorem dL_passes_303 : decode cL_passes 303 = .ok (.aload_n 0, 1) := by decide +kernel
theorem dL_passes_304 : decode cL_passes 304 = .ok (.getfield 10, 3) := by decide +kernel
theorem dL_passes_307 : decode cL_passes 307 = .ok (.bipush 7, 2) := by decide +kernel
theorem dL_passes_309 : decode cL_passes 309 = .ok (.invokestatic 154, 3) := by decide +kernel
theorem dL_passes_312 : decode cL_passes 312 = .ok (.iload_n 2, 1) := by decide +kernel
theorem dL_passes_313 : decode cL_passes 313 = .ok (.iload_n 1, 1) := by decide +kernel
theorem dL_passes_314 : decode cL_passes 314 = .ok (.iadd, 1) := by decide +kernel
theorem dL_passes_315 : decode cL_passes 315 = .ok (.if_icmp .ne 14, 3) := by decide +kernel
theorem dL_passes_318 : decode cL_passes 318 = .ok (.aload_n 0, 1) := by decide +kernel
theorem dL_passes_319 : decode cL_passes 319 = .ok (.invokevirtual 181, 3) := by decide +kernel
theorem dL_passes_322 : decode cL_passes 322 = .ok (.ifCond .eq 7, 3) := by decide +kernel
theorem dL_passes_325 : decode cL_passes 325 = .ok (.iconst 1, 1) := by decide +kernel
theorem dL_passes_326 : decode cL_passes 326 = .ok (.goto 4, 3) := by decide +kernel
theorem dL_passes_329 : decode cL_passes 329 = .ok (.iconst 0, 1) := by decide +kernel
theorem dL_passes_330 : decode cL_passes 330 = .ok (.ireturn, 1) := by decide +kernel
def w_L_passes_330  (Q : Int32 → V3 → Prop) (s0 : Int32) (v : V3) : Prop := (s0 = 0 ∨ s0 = 1) ∧ Q s0 v
def w_L_passes_329  (Q : Int32 → V3 → Prop) (v : V3) : Prop := w_L_passes_330 Q 0 v
def w_L_passes_275  (Q : Int32 → V3 → Prop) (K159 : Int32 → Int32 → Int32 → Int32 → Int32 → Int32 → Int32 → Int32 → V3 → Prop) (x1 : Int32) (x2 : Int32) (x3 : Int32) (x4 : Int32) (x5 : Int32) (x6 : Int32) (x7 : Int32) (x8 : Int32) (v : V3) : Prop := K159 x1 x2 x3 x4 x5 x6 x7 (x8 + 1) v
def w_L_passes_273  (Q : Int32 → V3 → Prop) (v : V3) : Prop := Q 0 v
def w_L_passes_241  (Q : Int32 → V3 → Prop) (K159 : Int32 → Int32 → Int32 → Int32 → Int32 → Int32 → Int32 → Int32 → V3 → Prop) (x1 : Int32) (x2 : Int32) (x3 : Int32) (x4 : Int32) (x5 : Int32) (x6 : Int32) (x7 : Int32) (x8 : Int32) (x9 : Int32) (v : V3) : Prop := ((¬ x9 = 0 → w_L_passes_275 Q K159 x1 x2 x3 x4 x5 x6 x7 x8 v) ∧ (x9 = 0 → w_L_booking x8 4 v (fun r36 v35 => w_L_booking x8 5 v35 (fun r38 v37 => (((x2 + x1) ≤ (r36 + r38) → w_L_passes_275 Q K159 x1 x2 x3 x4 x5 x6 x7 x8 v37) ∧ (¬ (x2 + x1) ≤ (r36 + r38) → w_L_passes_273 Q v37))))))
def w_L_passes_209  (Q : Int32 → V3 → Prop) (K159 : Int32 → Int32 → Int32 → Int32 → Int32 → Int32 → Int32 → Int32 → V3 → Prop) (x1 : Int32) (x2 : Int32) (x3 : Int32) (x4 : Int32) (x5 : Int32) (x6 : Int32) (x7 : Int32) (x8 : Int32) (x9 : Int32) (v : V3) : Prop := ((¬ x9 = 1 → w_L_passes_241 Q K159 x1 x2 x3 x4 x5 x6 x7 x8 x9 v) ∧ (x9 = 1 → w_L_booking x8 8 v (fun r41 v40 => w_L_count 0 v40 (fun r43 v42 => (((r41 + r43) < (x2 + x1) → w_L_passes_273 Q v42) ∧ (¬ (r41 + r43) < (x2 + x1) → w_L_passes_241 Q K159 x1 x2 x3 x4 x5 x6 x7 x8 x9 v42))))))
def w_L_passes_159  (Q : Int32 → V3 → Prop) : Nat → Int32 → Int32 → Int32 → Int32 → Int32 → Int32 → Int32 → Int32 → V3 → Prop
  | 0, _, _, _, _, _, _, _, _, _ => False
  | n159 + 1, x1, x2, x3, x4, x5, x6, x7, x8, v => w_L_count 6 v (fun r18 v17 => ((r18 ≤ x8 → ((¬ x7 = x5 → w_L_passes_329 Q v17) ∧ (x7 = x5 → ((¬ x3 = (-x7) → w_L_passes_329 Q v17) ∧ (x3 = (-x7) → ((¬ x4 = (-x6) → w_L_passes_329 Q v17) ∧ (x4 = (-x6) → w_L_count 7 v17 (fun r25 v24 => ((¬ r25 = (x2 + x1) → w_L_passes_329 Q v24) ∧ (r25 = (x2 + x1) → w_L_nobodyCould v24 (fun r28 v27 => ((r28 = 0 → w_L_passes_329 Q v27) ∧ (¬ r28 = 0 → w_L_passes_330 Q 1 v27))))))))))))) ∧ (¬ r18 ≤ x8 → w_L_booking x8 7 v17 (fun r31 v30 => ((¬ r31 = 2 → w_L_passes_209 Q (w_L_passes_159 Q n159) x1 x2 x3 x4 x5 x6 x7 x8 r31 v30) ∧ (r31 = 2 → w_L_booking x8 9 v30 (fun r46 v45 => ((r46 ≤ (x2 + x1) → w_L_passes_273 Q v45) ∧ (¬ r46 ≤ (x2 + x1) → w_L_passes_209 Q (w_L_passes_159 Q n159) x1 x2 x3 x4 x5 x6 x7 x8 r31 v45)))))))))
def w_L_passes_109  (Q : Int32 → V3 → Prop) : Nat → Int32 → Int32 → Int32 → Int32 → Int32 → Int32 → Int32 → Int32 → V3 → Prop
  | 0, _, _, _, _, _, _, _, _, _ => False
  | n109 + 1, x1, x2, x3, x4, x5, x6, x7, x8, v => w_L_count 5 v (fun r15 v14 => ((r15 ≤ x8 → ∃ m159 : Nat, w_L_passes_159 Q m159 x1 x2 x3 x4 x5 x6 x7 0 v14) ∧ (¬ r15 ≤ x8 → w_L_owner x8 2 v14 (fun r49 v48 => w_L_owner x8 1 v48 (fun r51 v50 => (w_L_passes_109 Q n109) x1 x2 (x3 - r49) (x4 - r51) x5 x6 x7 (x8 + 1) v50)))))
def w_L_passes_27  (Q : Int32 → V3 → Prop) : Nat → Int32 → Int32 → Int32 → Int32 → Int32 → V3 → Prop
  | 0, _, _, _, _, _, _ => False
  | n27 + 1, x1, x2, x3, x4, x5, v => w_L_count 5 v (fun r6 v5 => ((r6 ≤ x5 → w_L_ahead x1 0 v5 (fun r9 v8 => w_L_ahead x1 3 v8 (fun r11 v10 => w_L_pass x1 v10 (fun r13 v12 => ∃ m109 : Nat, w_L_passes_109 Q m109 x1 x2 x3 x4 r9 r11 r13 0 v12)))) ∧ (¬ r6 ≤ x5 → w_L_owner x5 2 v5 (fun r53 v52 => w_L_owner x5 1 v52 (fun r55 v54 => (w_L_passes_27 Q n27) x1 x2 (x3 + r53) (x4 + r55) (x5 + 1) v54)))))
def w_L_passes  (v : V3) (Q : Int32 → V3 → Prop) : Prop := w_L_draw 12 v (fun r2 v1 => w_L_count 7 v1 (fun r4 v3 => ∃ m27 : Nat, w_L_passes_27 Q m27 (1 + r2) r4 0 0 0 v3))
set_option maxRecDepth 100000 in
set_option maxHeartbeats 4000000 in
theorem b_L_passes_330 {p : Program} (l : Launch) {e : Env} {s : State} {m : MethodId} {args : Array Value} {below : List Frame} {meth : Method} {c : Code} {G : zG}   (C0 : Cx G RL cL_passes 10 (some .boolean) p s m args meth c) {Q : Int32 → V3 → Prop} : ∀ (s0 : Int32) (v : V3) (H : Heap) (locs : List Loc) (ls : Array Slot), w_L_passes_330 Q s0 v → Zs G s v H locs → lv_has ls 10 [] → W p l e { frames := 8, cells := 0, slots := 0, locals := 193 } s m args below meth c H locs 0 0 (MQ below (QiZ G Q) args s 0 0 (zA G)) (F0 m 330 ls [.int s0]) := by
  have hx := C0.1
  have hb := C0.2.1
  intro s0 v H locs ls hw Z hl
  rw [w_L_passes_330] at hw
  obtain ⟨h21, hw⟩ := hw
  exact z_zret C0 Z h21 hw dL_passes_330
set_option maxRecDepth 100000 in
set_option maxHeartbeats 4000000 in
theorem b_L_passes_329 {p : Program} (l : Launch) {e : Env} {s : State} {m : MethodId} {args : Array Value} {below : List Frame} {meth : Method} {c : Code} {G : zG}   (C0 : Cx G RL cL_passes 10 (some .boolean) p s m args meth c) {Q : Int32 → V3 → Prop} : ∀ (v : V3) (H : Heap) (locs : List Loc) (ls : Array Slot), w_L_passes_329 Q v → Zs G s v H locs → lv_has ls 10 [] → W p l e { frames := 8, cells := 0, slots := 0, locals := 193 } s m args below meth c H locs 0 0 (MQ below (QiZ G Q) args s 0 0 (zA G)) (F0 m 329 ls []) := by
  have hx := C0.1
  have hb := C0.2.1
  intro v H locs ls hw Z hl
  rw [w_L_passes_329] at hw
  refine lv_iconst (v := 0) hx hb dL_passes_329 (by decide) ?_
  exact b_L_passes_330 l C0 _ _ _ _ _ hw Z (lv_sub hl [] rfl)
set_option maxRecDepth 100000 in
set_option maxHeartbeats 4000000 in
theorem b_L_passes_275 {p : Program} (l : Launch) {e : Env} {s : State} {m : MethodId} {args : Array Value} {below : List Frame} {meth : Method} {c : Code} {G : zG}   (C0 : Cx G RL cL_passes 10 (some .boolean) p s m args meth c) {Q : Int32 → V3 → Prop} {K159 : Int32 → Int32 → Int32 → Int32 → Int32 → Int32 → Int32 → Int32 → V3 → Prop} (hK159 : ∀ (x1 : Int32) (x2 : Int32) (x3 : Int32) (x4 : Int32) (x5 : Int32) (x6 : Int32) (x7 : Int32) (x8 : Int32) (v : V3) (H : Heap) (locs : List Loc) (ls : Array Slot), K159 x1 x2 x3 x4 x5 x6 x7 x8 v → Zs G s v H locs → lv_has ls 10 [(0, .ref (gad G 7)), (1, .int x1), (2, .int x2), (3, .int x3), (4, .int x4), (5, .int x5), (6, .int x6), (7, .int x7), (8, .int x8)] → W p l e { frames := 8, cells := 0, slots := 0, locals := 193 } s m args below meth c H locs 0 0 (MQ below (QiZ G Q) args s 0 0 (zA G)) (F0 m 159 ls [])) : ∀ (x1 : Int32) (x2 : Int32) (x3 : Int32) (x4 : Int32) (x5 : Int32) (x6 : Int32) (x7 : Int32) (x8 : Int32) (v : V3) (H : Heap) (locs : List Loc) (ls : Array Slot), w_L_passes_275 Q K159 x1 x2 x3 x4 x5 x6 x7 x8 v → Zs G s v H locs → lv_has ls 10 [(0, .ref (gad G 7)), (1, .int x1), (2, .int x2), (3, .int x3), (4, .int x4), (5, .int x5), (6, .int x6), (7, .int x7), (8, .int x8)] → W p l e { frames := 8, cells := 0, slots := 0, locals := 193 } s m args below meth c H locs 0 0 (MQ below (QiZ G Q) args s 0 0 (zA G)) (F0 m 275 ls []) := by
  have hx := C0.1
  have hb := C0.2.1
  intro x1 x2 x3 x4 x5 x6 x7 x8 v H locs ls hw Z hl
  rw [w_L_passes_275] at hw
  refine lv_iinc (v := x8 + 1) (lv' := [(8, .int (x8 + 1)), (0, .ref (gad G 7)), (1, .int x1), (2, .int x2), (3, .int x3), (4, .int x4), (5, .int x5), (6, .int x6), (7, .int x7)]) hx hb dL_passes_275 hl (k := 8) rfl rfl (by decide) rfl (fun ls hl => ?_)
  refine lv_goto (tgt := 159) hx hb dL_passes_278 (by decide) ?_
  exact hK159 _ _ _ _ _ _ _ _ _ _ _ _ hw Z (lv_sub hl [1, 2, 3, 4, 5, 6, 7, 8, 0] rfl)
set_option maxRecDepth 100000 in
set_option maxHeartbeats 4000000 in
theorem b_L_passes_273 {p : Program} (l : Launch) {e : Env} {s : State} {m : MethodId} {args : Array Value} {below : List Frame} {meth : Method} {c : Code} {G : zG}   (C0 : Cx G RL cL_passes 10 (some .boolean) p s m args meth c) {Q : Int32 → V3 → Prop} : ∀ (v : V3) (H : Heap) (locs : List Loc) (ls : Array Slot), w_L_passes_273 Q v → Zs G s v H locs → lv_has ls 10 [] → W p l e { frames := 8, cells := 0, slots := 0, locals := 193 } s m args below meth c H locs 0 0 (MQ below (QiZ G Q) args s 0 0 (zA G)) (F0 m 273 ls []) := by
  have hx := C0.1
  have hb := C0.2.1
  intro v H locs ls hw Z hl
  rw [w_L_passes_273] at hw
  refine lv_iconst (v := 0) hx hb dL_passes_273 (by decide) ?_
  exact z_zret C0 Z (by decide) hw dL_passes_274
set_option maxRecDepth 100000 in
set_option maxHeartbeats 4000000 in
theorem b_L_passes_241 {p : Program} (l : Launch) {e : Env} {s : State} {m : MethodId} {args : Array Value} {below : List Frame} {meth : Method} {c : Code} {G : zG}   (C0 : Cx G RL cL_passes 10 (some .boolean) p s m args meth c) {Q : Int32 → V3 → Prop} {K159 : Int32 → Int32 → Int32 → Int32 → Int32 → Int32 → Int32 → Int32 → V3 → Prop} (hK159 : ∀ (x1 : Int32) (x2 : Int32) (x3 : Int32) (x4 : Int32) (x5 : Int32) (x6 : Int32) (x7 : Int32) (x8 : Int32) (v : V3) (H : Heap) (locs : List Loc) (ls : Array Slot), K159 x1 x2 x3 x4 x5 x6 x7 x8 v → Zs G s v H locs → lv_has ls 10 [(0, .ref (gad G 7)), (1, .int x1), (2, .int x2), (3, .int x3), (4, .int x4), (5, .int x5), (6, .int x6), (7, .int x7), (8, .int x8)] → W p l e { frames := 8, cells := 0, slots := 0, locals := 193 } s m args below meth c H locs 0 0 (MQ below (QiZ G Q) args s 0 0 (zA G)) (F0 m 159 ls [])) : ∀ (x1 : Int32) (x2 : Int32) (x3 : Int32) (x4 : Int32) (x5 : Int32) (x6 : Int32) (x7 : Int32) (x8 : Int32) (x9 : Int32) (v : V3) (H : Heap) (locs : List Loc) (ls : Array Slot), w_L_passes_241 Q K159 x1 x2 x3 x4 x5 x6 x7 x8 x9 v → Zs G s v H locs → lv_has ls 10 [(0, .ref (gad G 7)), (1, .int x1), (2, .int x2), (3, .int x3), (4, .int x4), (5, .int x5), (6, .int x6), (7, .int x7), (8, .int x8), (9, .int x9)] → W p l e { frames := 8, cells := 0, slots := 0, locals := 193 } s m args below meth c H locs 0 0 (MQ below (QiZ G Q) args s 0 0 (zA G)) (F0 m 241 ls []) := by
  have hx := C0.1
  have hb := C0.2.1
  intro x1 x2 x3 x4 x5 x6 x7 x8 x9 v H locs ls hw Z hl
  rw [w_L_passes_241] at hw
  refine lv_iload hx hb dL_passes_241 (lv_at hl 9 rfl) ?_
  refine lv_if_ne (tgt := 275) hx hb dL_passes_243 (by decide) (fun c34 => ?_) (fun c34 => ?_)
  · replace hw := hw.1 c34
    exact b_L_passes_275 l C0 hK159 _ _ _ _ _ _ _ _ _ _ _ _ hw Z (lv_sub hl [0, 1, 2, 3, 4, 5, 6, 7, 8] rfl)
  · replace hw := hw.2 c34
    refine lv_aload_n hx hb dL_passes_246 rfl (lv_at hl 0 rfl) ?_
    refine z_get C0 Z in_L rfl 0 (by decide) rfl tm_1_181 (cx_lt C0 (by decide)) rfl rfl dL_passes_247 ?_
    refine lv_iload hx hb dL_passes_250 (lv_at hl 8 rfl) ?_
    refine lv_iconst (v := 4) hx hb dL_passes_252 (by decide) ?_
    refine z_callH C0 Z hl.1 (As := [.ref (gad G 0), .int x8, .int 4]) (rest := []) (k_L_booking l (cx_g C0) hw) (gv_L_booking tm_2_238) ds_L_booking ⟨Nat.le_of_ble_eq_true rfl, Nat.le_of_ble_eq_true rfl⟩ rfl rfl (Nat.le_of_ble_eq_true rfl) ⟨Nat.le_of_ble_eq_true rfl, Nat.le_of_ble_eq_true rfl⟩ dL_passes_253 (fun r36 v35 H locs hw Z => ?_)
    refine lv_aload_n hx hb dL_passes_256 rfl (lv_at hl 0 rfl) ?_
    refine z_get C0 Z in_L rfl 0 (by decide) rfl tm_1_181 (cx_lt C0 (by decide)) rfl rfl dL_passes_257 ?_
    refine lv_iload hx hb dL_passes_260 (lv_at hl 8 rfl) ?_
    refine lv_iconst (v := 5) hx hb dL_passes_262 (by decide) ?_
    refine z_callH C0 Z hl.1 (As := [.ref (gad G 0), .int x8, .int 5]) (rest := [.int r36]) (k_L_booking l (cx_g C0) hw) (gv_L_booking tm_2_238) ds_L_booking ⟨Nat.le_of_ble_eq_true rfl, Nat.le_of_ble_eq_true rfl⟩ rfl rfl (Nat.le_of_ble_eq_true rfl) ⟨Nat.le_of_ble_eq_true rfl, Nat.le_of_ble_eq_true rfl⟩ dL_passes_263 (fun r38 v37 H locs hw Z => ?_)
    refine lv_iadd hx hb dL_passes_266 ?_
    refine lv_iload_n hx hb dL_passes_267 rfl (lv_at hl 2 rfl) ?_
    refine lv_iload_n hx hb dL_passes_268 rfl (lv_at hl 1 rfl) ?_
    refine lv_iadd hx hb dL_passes_269 ?_
    refine lv_icmp_ge (tgt := 275) hx hb dL_passes_270 (by decide) (fun c39 => ?_) (fun c39 => ?_)
    · replace hw := hw.1 c39
      exact b_L_passes_275 l C0 hK159 _ _ _ _ _ _ _ _ _ _ _ _ hw Z (lv_sub hl [0, 1, 2, 3, 4, 5, 6, 7, 8] rfl)
    · replace hw := hw.2 c39
      exact b_L_passes_273 l C0 _ _ _ _ hw Z (lv_sub hl [] rfl)
set_option maxRecDepth 100000 in
set_option maxHeartbeats 4000000 in
theorem b_L_passes_209 {p : Program} (l : Launch) {e : Env} {s : State} {m : MethodId} {args : Array Value} {below : List Frame} {meth : Method} {c : Code} {G : zG}   (C0 : Cx G RL cL_passes 10 (some .boolean) p s m args meth c) {Q : Int32 → V3 → Prop} {K159 : Int32 → Int32 → Int32 → Int32 → Int32 → Int32 → Int32 → Int32 → V3 → Prop} (hK159 : ∀ (x1 : Int32) (x2 : Int32) (x3 : Int32) (x4 : Int32) (x5 : Int32) (x6 : Int32) (x7 : Int32) (x8 : Int32) (v : V3) (H : Heap) (locs : List Loc) (ls : Array Slot), K159 x1 x2 x3 x4 x5 x6 x7 x8 v → Zs G s v H locs → lv_has ls 10 [(0, .ref (gad G 7)), (1, .int x1), (2, .int x2), (3, .int x3), (4, .int x4), (5, .int x5), (6, .int x6), (7, .int x7), (8, .int x8)] → W p l e { frames := 8, cells := 0, slots := 0, locals := 193 } s m args below meth c H locs 0 0 (MQ below (QiZ G Q) args s 0 0 (zA G)) (F0 m 159 ls [])) : ∀ (x1 : Int32) (x2 : Int32) (x3 : Int32) (x4 : Int32) (x5 : Int32) (x6 : Int32) (x7 : Int32) (x8 : Int32) (x9 : Int32) (v : V3) (H : Heap) (locs : List Loc) (ls : Array Slot), w_L_passes_209 Q K159 x1 x2 x3 x4 x5 x6 x7 x8 x9 v → Zs G s v H locs → lv_has ls 10 [(0, .ref (gad G 7)), (1, .int x1), (2, .int x2), (3, .int x3), (4, .int x4), (5, .int x5), (6, .int x6), (7, .int x7), (8, .int x8), (9, .int x9)] → W p l e { frames := 8, cells := 0, slots := 0, locals := 193 } s m args below meth c H locs 0 0 (MQ below (QiZ G Q) args s 0 0 (zA G)) (F0 m 209 ls []) := by
  have hx := C0.1
  have hb := C0.2.1
  intro x1 x2 x3 x4 x5 x6 x7 x8 x9 v H locs ls hw Z hl
  rw [w_L_passes_209] at hw
  refine lv_iload hx hb dL_passes_209 (lv_at hl 9 rfl) ?_
  refine lv_iconst (v := 1) hx hb dL_passes_211 (by decide) ?_
  refine lv_icmp_ne (tgt := 241) hx hb dL_passes_212 (by decide) (fun c33 => ?_) (fun c33 => ?_)
  · replace hw := hw.1 c33
    exact b_L_passes_241 l C0 hK159 _ _ _ _ _ _ _ _ _ _ _ _ _ hw Z (lv_sub hl [0, 1, 2, 3, 4, 5, 6, 7, 8, 9] rfl)
  · replace hw := hw.2 c33
    refine lv_aload_n hx hb dL_passes_215 rfl (lv_at hl 0 rfl) ?_
    refine z_get C0 Z in_L rfl 0 (by decide) rfl tm_1_181 (cx_lt C0 (by decide)) rfl rfl dL_passes_216 ?_
    refine lv_iload hx hb dL_passes_219 (lv_at hl 8 rfl) ?_
    refine lv_bipush (v := 8) hx hb dL_passes_221 (by decide) ?_
    refine z_callH C0 Z hl.1 (As := [.ref (gad G 0), .int x8, .int 8]) (rest := []) (k_L_booking l (cx_g C0) hw) (gv_L_booking tm_2_238) ds_L_booking ⟨Nat.le_of_ble_eq_true rfl, Nat.le_of_ble_eq_true rfl⟩ rfl rfl (Nat.le_of_ble_eq_true rfl) ⟨Nat.le_of_ble_eq_true rfl, Nat.le_of_ble_eq_true rfl⟩ dL_passes_223 (fun r41 v40 H locs hw Z => ?_)
    refine lv_aload_n hx hb dL_passes_226 rfl (lv_at hl 0 rfl) ?_
    refine z_get C0 Z in_L rfl 0 (by decide) rfl tm_1_181 (cx_lt C0 (by decide)) rfl rfl dL_passes_227 ?_
    refine lv_iconst (v := 0) hx hb dL_passes_230 (by decide) ?_
    refine z_callH C0 Z hl.1 (As := [.ref (gad G 0), .int 0]) (rest := [.int r41]) (k_L_count l (cx_g C0) hw) (gv_L_count tm_2_93) ds_L_count ⟨Nat.le_of_ble_eq_true rfl, Nat.le_of_ble_eq_true rfl⟩ rfl rfl (Nat.le_of_ble_eq_true rfl) ⟨Nat.le_of_ble_eq_true rfl, Nat.le_of_ble_eq_true rfl⟩ dL_passes_231 (fun r43 v42 H locs hw Z => ?_)
    refine lv_iadd hx hb dL_passes_234 ?_
    refine lv_iload_n hx hb dL_passes_235 rfl (lv_at hl 2 rfl) ?_
    refine lv_iload_n hx hb dL_passes_236 rfl (lv_at hl 1 rfl) ?_
    refine lv_iadd hx hb dL_passes_237 ?_
    refine lv_icmp_lt (tgt := 273) hx hb dL_passes_238 (by decide) (fun c44 => ?_) (fun c44 => ?_)
    · replace hw := hw.1 c44
      exact b_L_passes_273 l C0 _ _ _ _ hw Z (lv_sub hl [] rfl)
    · replace hw := hw.2 c44
      exact b_L_passes_241 l C0 hK159 _ _ _ _ _ _ _ _ _ _ _ _ _ hw Z (lv_sub hl [0, 1, 2, 3, 4, 5, 6, 7, 8, 9] rfl)
set_option maxRecDepth 100000 in
set_option maxHeartbeats 4000000 in
theorem b_L_passes_159 {p : Program} (l : Launch) {e : Env} {s : State} {m : MethodId} {args : Array Value} {below : List Frame} {meth : Method} {c : Code} {G : zG}   (C0 : Cx G RL cL_passes 10 (some .boolean) p s m args meth c) {Q : Int32 → V3 → Prop} : ∀ (n : Nat) (x1 : Int32) (x2 : Int32) (x3 : Int32) (x4 : Int32) (x5 : Int32) (x6 : Int32) (x7 : Int32) (x8 : Int32) (v : V3) (H : Heap) (locs : List Loc) (ls : Array Slot), w_L_passes_159 Q n x1 x2 x3 x4 x5 x6 x7 x8 v → Zs G s v H locs → lv_has ls 10 [(0, .ref (gad G 7)), (1, .int x1), (2, .int x2), (3, .int x3), (4, .int x4), (5, .int x5), (6, .int x6), (7, .int x7), (8, .int x8)] → W p l e { frames := 8, cells := 0, slots := 0, locals := 193 } s m args below meth c H locs 0 0 (MQ below (QiZ G Q) args s 0 0 (zA G)) (F0 m 159 ls []) := by
  have hx := C0.1
  have hb := C0.2.1
  intro n
  induction n with
  | zero =>
    intro x1 x2 x3 x4 x5 x6 x7 x8 v H locs ls hw Z hl
    exact hw.elim
  | succ n hK159 =>
    intro x1 x2 x3 x4 x5 x6 x7 x8 v H locs ls hw Z hl
    rw [w_L_passes_159] at hw
    refine lv_iload hx hb dL_passes_159 (lv_at hl 8 rfl) ?_
    refine lv_aload_n hx hb dL_passes_161 rfl (lv_at hl 0 rfl) ?_
    refine z_get C0 Z in_L rfl 0 (by decide) rfl tm_1_181 (cx_lt C0 (by decide)) rfl rfl dL_passes_162 ?_
    refine lv_bipush (v := 6) hx hb dL_passes_165 (by decide) ?_
    refine z_callH C0 Z hl.1 (As := [.ref (gad G 0), .int 6]) (rest := [.int x8]) (k_L_count l (cx_g C0) hw) (gv_L_count tm_2_93) ds_L_count ⟨Nat.le_of_ble_eq_true rfl, Nat.le_of_ble_eq_true rfl⟩ rfl rfl (Nat.le_of_ble_eq_true rfl) ⟨Nat.le_of_ble_eq_true rfl, Nat.le_of_ble_eq_true rfl⟩ dL_passes_167 (fun r18 v17 H locs hw Z => ?_)
    refine lv_icmp_ge (tgt := 281) hx hb dL_passes_170 (by decide) (fun c19 => ?_) (fun c19 => ?_)
    · replace hw := hw.1 c19
      refine lv_iload hx hb dL_passes_281 (lv_at hl 7 rfl) ?_
      refine lv_iload hx hb dL_passes_283 (lv_at hl 5 rfl) ?_
      refine lv_icmp_ne (tgt := 329) hx hb dL_passes_285 (by decide) (fun c20 => ?_) (fun c20 => ?_)
      · replace hw := hw.1 c20
        exact b_L_passes_329 l C0 _ _ _ _ hw Z (lv_sub hl [] rfl)
      · replace hw := hw.2 c20
        refine lv_iload_n hx hb dL_passes_288 rfl (lv_at hl 3 rfl) ?_
        refine lv_iload hx hb dL_passes_289 (lv_at hl 7 rfl) ?_
        refine lv_ineg hx hb dL_passes_291 ?_
        refine lv_icmp_ne (tgt := 329) hx hb dL_passes_292 (by decide) (fun c22 => ?_) (fun c22 => ?_)
        · replace hw := hw.1 c22
          exact b_L_passes_329 l C0 _ _ _ _ hw Z (lv_sub hl [] rfl)
        · replace hw := hw.2 c22
          refine lv_iload hx hb dL_passes_295 (lv_at hl 4 rfl) ?_
          refine lv_iload hx hb dL_passes_297 (lv_at hl 6 rfl) ?_
          refine lv_ineg hx hb dL_passes_299 ?_
          refine lv_icmp_ne (tgt := 329) hx hb dL_passes_300 (by decide) (fun c23 => ?_) (fun c23 => ?_)
          · replace hw := hw.1 c23
            exact b_L_passes_329 l C0 _ _ _ _ hw Z (lv_sub hl [] rfl)
          · replace hw := hw.2 c23
            refine lv_aload_n hx hb dL_passes_303 rfl (lv_at hl 0 rfl) ?_
            refine z_get C0 Z in_L rfl 0 (by decide) rfl tm_1_181 (cx_lt C0 (by decide)) rfl rfl dL_passes_304 ?_
            refine lv_bipush (v := 7) hx hb dL_passes_307 (by decide) ?_
            refine z_callH C0 Z hl.1 (As := [.ref (gad G 0), .int 7]) (rest := []) (k_L_count l (cx_g C0) hw) (gv_L_count tm_2_93) ds_L_count ⟨Nat.le_of_ble_eq_true rfl, Nat.le_of_ble_eq_true rfl⟩ rfl rfl (Nat.le_of_ble_eq_true rfl) ⟨Nat.le_of_ble_eq_true rfl, Nat.le_of_ble_eq_true rfl⟩ dL_passes_309 (fun r25 v24 H locs hw Z => ?_)
            refine lv_iload_n hx hb dL_passes_312 rfl (lv_at hl 2 rfl) ?_
            refine lv_iload_n hx hb dL_passes_313 rfl (lv_at hl 1 rfl) ?_
            refine lv_iadd hx hb dL_passes_314 ?_
            refine lv_icmp_ne (tgt := 329) hx hb dL_passes_315 (by decide) (fun c26 => ?_) (fun c26 => ?_)
            · replace hw := hw.1 c26
              exact b_L_passes_329 l C0 _ _ _ _ hw Z (lv_sub hl [] rfl)
            · replace hw := hw.2 c26
              refine lv_aload_n hx hb dL_passes_318 rfl (lv_at hl 0 rfl) ?_
              refine z_callVi C0 Z hl.1 (As := []) (rest := []) (k_L_nobodyCould l (cx_g C0) hw) (gv_L_nobodyCould tm_3_43) rfl ds_L_nobodyCould ⟨Nat.le_of_ble_eq_true rfl, Nat.le_of_ble_eq_true rfl⟩ (ci := 4) rfl (cx_lt C0 (by decide)) rfl rfl rfl (Nat.le_of_ble_eq_true rfl) ⟨Nat.le_of_ble_eq_true rfl, Nat.le_of_ble_eq_true rfl⟩ dL_passes_319 (fun r28 v27 H locs hw Z => ?_)
              refine lv_if_eq (tgt := 329) hx hb dL_passes_322 (by decide) (fun c29 => ?_) (fun c29 => ?_)
              · replace hw := hw.1 c29
                exact b_L_passes_329 l C0 _ _ _ _ hw Z (lv_sub hl [] rfl)
              · replace hw := hw.2 c29
                refine lv_iconst (v := 1) hx hb dL_passes_325 (by decide) ?_
                refine lv_goto (tgt := 330) hx hb dL_passes_326 (by decide) ?_
                exact b_L_passes_330 l C0 _ _ _ _ _ hw Z (lv_sub hl [] rfl)
    · replace hw := hw.2 c19
      refine lv_aload_n hx hb dL_passes_173 rfl (lv_at hl 0 rfl) ?_
      refine z_get C0 Z in_L rfl 0 (by decide) rfl tm_1_181 (cx_lt C0 (by decide)) rfl rfl dL_passes_174 ?_
      refine lv_iload hx hb dL_passes_177 (lv_at hl 8 rfl) ?_
      refine lv_bipush (v := 7) hx hb dL_passes_179 (by decide) ?_
      refine z_callH C0 Z hl.1 (As := [.ref (gad G 0), .int x8, .int 7]) (rest := []) (k_L_booking l (cx_g C0) hw) (gv_L_booking tm_2_238) ds_L_booking ⟨Nat.le_of_ble_eq_true rfl, Nat.le_of_ble_eq_true rfl⟩ rfl rfl (Nat.le_of_ble_eq_true rfl) ⟨Nat.le_of_ble_eq_true rfl, Nat.le_of_ble_eq_true rfl⟩ dL_passes_181 (fun r31 v30 H locs hw Z => ?_)
      refine lv_istore (lv' := [(9, .int r31), (0, .ref (gad G 7)), (1, .int x1), (2, .int x2), (3, .int x3), (4, .int x4), (5, .int x5), (6, .int x6), (7, .int x7), (8, .int x8)]) hx hb dL_passes_184 hl (by decide) rfl (fun ls hl => ?_)
      refine lv_iload hx hb dL_passes_186 (lv_at hl 0 rfl) ?_
      refine lv_iconst (v := 2) hx hb dL_passes_188 (by decide) ?_
      refine lv_icmp_ne (tgt := 209) hx hb dL_passes_189 (by decide) (fun c32 => ?_) (fun c32 => ?_)
      · replace hw := hw.1 c32
        exact b_L_passes_209 l C0 hK159 _ _ _ _ _ _ _ _ _ _ _ _ _ hw Z (lv_sub hl [1, 2, 3, 4, 5, 6, 7, 8, 9, 0] rfl)
      · replace hw := hw.2 c32
        refine lv_aload_n hx hb dL_passes_192 rfl (lv_at hl 1 rfl) ?_
        refine z_get C0 Z in_L rfl 0 (by decide) rfl tm_1_181 (cx_lt C0 (by decide)) rfl rfl dL_passes_193 ?_
        refine lv_iload hx hb dL_passes_196 (lv_at hl 9 rfl) ?_
        refine lv_bipush (v := 9) hx hb dL_passes_198 (by decide) ?_
        refine z_callH C0 Z hl.1 (As := [.ref (gad G 0), .int x8, .int 9]) (rest := []) (k_L_booking l (cx_g C0) hw) (gv_L_booking tm_2_238) ds_L_booking ⟨Nat.le_of_ble_eq_true rfl, Nat.le_of_ble_eq_true rfl⟩ rfl rfl (Nat.le_of_ble_eq_true rfl) ⟨Nat.le_of_ble_eq_true rfl, Nat.le_of_ble_eq_true rfl⟩ dL_passes_200 (fun r46 v45 H locs hw Z => ?_)
        refine lv_iload_n hx hb dL_passes_203 rfl (lv_at hl 3 rfl) ?_
        refine lv_iload_n hx hb dL_passes_204 rfl (lv_at hl 2 rfl) ?_
        refine lv_iadd hx hb dL_passes_205 ?_
        refine lv_icmp_le (tgt := 273) hx hb dL_passes_206 (by decide) (fun c47 => ?_) (fun c47 => ?_)
        · replace hw := hw.1 c47
          exact b_L_passes_273 l C0 _ _ _ _ hw Z (lv_sub hl [] rfl)
        · replace hw := hw.2 c47
          exact b_L_passes_209 l C0 hK159 _ _ _ _ _ _ _ _ _ _ _ _ _ hw Z (lv_sub hl [1, 2, 3, 4, 5, 6, 7, 8, 9, 0] rfl)
set_option maxRecDepth 100000 in
set_option maxHeartbeats 4000000 in
theorem b_L_passes_109 {p : Program} (l : Launch) {e : Env} {s : State} {m : MethodId} {args : Array Value} {below : List Frame} {meth : Method} {c : Code} {G : zG}   (C0 : Cx G RL cL_passes 10 (some .boolean) p s m args meth c) {Q : Int32 → V3 → Prop} : ∀ (n : Nat) (x1 : Int32) (x2 : Int32) (x3 : Int32) (x4 : Int32) (x5 : Int32) (x6 : Int32) (x7 : Int32) (x8 : Int32) (v : V3) (H : Heap) (locs : List Loc) (ls : Array Slot), w_L_passes_109 Q n x1 x2 x3 x4 x5 x6 x7 x8 v → Zs G s v H locs → lv_has ls 10 [(0, .ref (gad G 7)), (1, .int x1), (2, .int x2), (3, .int x3), (4, .int x4), (5, .int x5), (6, .int x6), (7, .int x7), (8, .int x8)] → W p l e { frames := 8, cells := 0, slots := 0, locals := 193 } s m args below meth c H locs 0 0 (MQ below (QiZ G Q) args s 0 0 (zA G)) (F0 m 109 ls []) := by
  have hx := C0.1
  have hb := C0.2.1
  intro n
  induction n with
  | zero =>
    intro x1 x2 x3 x4 x5 x6 x7 x8 v H locs ls hw Z hl
    exact hw.elim
  | succ n hK109 =>
    intro x1 x2 x3 x4 x5 x6 x7 x8 v H locs ls hw Z hl
    rw [w_L_passes_109] at hw
    refine lv_iload hx hb dL_passes_109 (lv_at hl 8 rfl) ?_
    refine lv_aload_n hx hb dL_passes_111 rfl (lv_at hl 0 rfl) ?_
    refine z_get C0 Z in_L rfl 0 (by decide) rfl tm_1_181 (cx_lt C0 (by decide)) rfl rfl dL_passes_112 ?_
    refine lv_iconst (v := 5) hx hb dL_passes_115 (by decide) ?_
    refine z_callH C0 Z hl.1 (As := [.ref (gad G 0), .int 5]) (rest := [.int x8]) (k_L_count l (cx_g C0) hw) (gv_L_count tm_2_93) ds_L_count ⟨Nat.le_of_ble_eq_true rfl, Nat.le_of_ble_eq_true rfl⟩ rfl rfl (Nat.le_of_ble_eq_true rfl) ⟨Nat.le_of_ble_eq_true rfl, Nat.le_of_ble_eq_true rfl⟩ dL_passes_116 (fun r15 v14 H locs hw Z => ?_)
    refine lv_icmp_ge (tgt := 156) hx hb dL_passes_119 (by decide) (fun c16 => ?_) (fun c16 => ?_)
    · replace hw := hw.1 c16
      refine lv_iconst (v := 0) hx hb dL_passes_156 (by decide) ?_
      refine lv_istore (lv' := [(8, .int 0), (0, .ref (gad G 7)), (1, .int x1), (2, .int x2), (3, .int x3), (4, .int x4), (5, .int x5), (6, .int x6), (7, .int x7)]) hx hb dL_passes_157 hl (by decide) rfl (fun ls hl => ?_)
      obtain ⟨m159, hw⟩ := hw
      exact b_L_passes_159 l C0 m159 _ _ _ _ _ _ _ _ _ _ _ _ hw Z (lv_sub hl [1, 2, 3, 4, 5, 6, 7, 8, 0] rfl)
    · replace hw := hw.2 c16
      refine lv_iload_n hx hb dL_passes_122 rfl (lv_at hl 3 rfl) ?_
      refine lv_aload_n hx hb dL_passes_123 rfl (lv_at hl 0 rfl) ?_
      refine z_get C0 Z in_L rfl 0 (by decide) rfl tm_1_181 (cx_lt C0 (by decide)) rfl rfl dL_passes_124 ?_
      refine lv_iload hx hb dL_passes_127 (lv_at hl 8 rfl) ?_
      refine lv_iconst (v := 2) hx hb dL_passes_129 (by decide) ?_
      refine z_callH C0 Z hl.1 (As := [.ref (gad G 0), .int x8, .int 2]) (rest := [.int x3]) (k_L_owner l (cx_g C0) hw) (gv_L_owner tm_2_147) ds_L_owner ⟨Nat.le_of_ble_eq_true rfl, Nat.le_of_ble_eq_true rfl⟩ rfl rfl (Nat.le_of_ble_eq_true rfl) ⟨Nat.le_of_ble_eq_true rfl, Nat.le_of_ble_eq_true rfl⟩ dL_passes_130 (fun r49 v48 H locs hw Z => ?_)
      refine lv_isub hx hb dL_passes_133 ?_
      refine lv_istore_n (lv' := [(3, .int (x3 - r49)), (0, .ref (gad G 7)), (1, .int x1), (2, .int x2), (4, .int x4), (5, .int x5), (6, .int x6), (7, .int x7), (8, .int x8)]) hx hb dL_passes_134 rfl hl (by decide) rfl (fun ls hl => ?_)
      refine lv_iload hx hb dL_passes_135 (lv_at hl 4 rfl) ?_
      refine lv_aload_n hx hb dL_passes_137 rfl (lv_at hl 1 rfl) ?_
      refine z_get C0 Z in_L rfl 0 (by decide) rfl tm_1_181 (cx_lt C0 (by decide)) rfl rfl dL_passes_138 ?_
      refine lv_iload hx hb dL_passes_141 (lv_at hl 8 rfl) ?_
      refine lv_iconst (v := 1) hx hb dL_passes_143 (by decide) ?_
      refine z_callH C0 Z hl.1 (As := [.ref (gad G 0), .int x8, .int 1]) (rest := [.int x4]) (k_L_owner l (cx_g C0) hw) (gv_L_owner tm_2_147) ds_L_owner ⟨Nat.le_of_ble_eq_true rfl, Nat.le_of_ble_eq_true rfl⟩ rfl rfl (Nat.le_of_ble_eq_true rfl) ⟨Nat.le_of_ble_eq_true rfl, Nat.le_of_ble_eq_true rfl⟩ dL_passes_144 (fun r51 v50 H locs hw Z => ?_)
      refine lv_isub hx hb dL_passes_147 ?_
      refine lv_istore (lv' := [(4, .int (x4 - r51)), (3, .int (x3 - r49)), (0, .ref (gad G 7)), (1, .int x1), (2, .int x2), (5, .int x5), (6, .int x6), (7, .int x7), (8, .int x8)]) hx hb dL_passes_148 hl (by decide) rfl (fun ls hl => ?_)
      refine lv_iinc (v := x8 + 1) (lv' := [(8, .int (x8 + 1)), (4, .int (x4 - r51)), (3, .int (x3 - r49)), (0, .ref (gad G 7)), (1, .int x1), (2, .int x2), (5, .int x5), (6, .int x6), (7, .int x7)]) hx hb dL_passes_150 hl (k := 8) rfl rfl (by decide) rfl (fun ls hl => ?_)
      refine lv_goto (tgt := 109) hx hb dL_passes_153 (by decide) ?_
      exact hK109 _ _ _ _ _ _ _ _ _ _ _ _ hw Z (lv_sub hl [3, 4, 5, 2, 1, 6, 7, 8, 0] rfl)
set_option maxRecDepth 100000 in
set_option maxHeartbeats 4000000 in
theorem b_L_passes_27 {p : Program} (l : Launch) {e : Env} {s : State} {m : MethodId} {args : Array Value} {below : List Frame} {meth : Method} {c : Code} {G : zG}   (C0 : Cx G RL cL_passes 10 (some .boolean) p s m args meth c) {Q : Int32 → V3 → Prop} : ∀ (n : Nat) (x1 : Int32) (x2 : Int32) (x3 : Int32) (x4 : Int32) (x5 : Int32) (v : V3) (H : Heap) (locs : List Loc) (ls : Array Slot), w_L_passes_27 Q n x1 x2 x3 x4 x5 v → Zs G s v H locs → lv_has ls 10 [(0, .ref (gad G 7)), (1, .int x1), (2, .int x2), (3, .int x3), (4, .int x4), (5, .int x5)] → W p l e { frames := 8, cells := 0, slots := 0, locals := 193 } s m args below meth c H locs 0 0 (MQ below (QiZ G Q) args s 0 0 (zA G)) (F0 m 27 ls []) := by
  have hx := C0.1
  have hb := C0.2.1
  intro n
  induction n with
  | zero =>
    intro x1 x2 x3 x4 x5 v H locs ls hw Z hl
    exact hw.elim
  | succ n hK27 =>
    intro x1 x2 x3 x4 x5 v H locs ls hw Z hl
    rw [w_L_passes_27] at hw
    refine lv_iload hx hb dL_passes_27 (lv_at hl 5 rfl) ?_
    refine lv_aload_n hx hb dL_passes_29 rfl (lv_at hl 0 rfl) ?_
    refine z_get C0 Z in_L rfl 0 (by decide) rfl tm_1_181 (cx_lt C0 (by decide)) rfl rfl dL_passes_30 ?_
    refine lv_iconst (v := 5) hx hb dL_passes_33 (by decide) ?_
    refine z_callH C0 Z hl.1 (As := [.ref (gad G 0), .int 5]) (rest := [.int x5]) (k_L_count l (cx_g C0) hw) (gv_L_count tm_2_93) ds_L_count ⟨Nat.le_of_ble_eq_true rfl, Nat.le_of_ble_eq_true rfl⟩ rfl rfl (Nat.le_of_ble_eq_true rfl) ⟨Nat.le_of_ble_eq_true rfl, Nat.le_of_ble_eq_true rfl⟩ dL_passes_34 (fun r6 v5 H locs hw Z => ?_)
    refine lv_icmp_ge (tgt := 74) hx hb dL_passes_37 (by decide) (fun c7 => ?_) (fun c7 => ?_)
    · replace hw := hw.1 c7
      refine lv_aload_n hx hb dL_passes_74 rfl (lv_at hl 0 rfl) ?_
      refine z_get C0 Z in_L rfl 0 (by decide) rfl tm_1_181 (cx_lt C0 (by decide)) rfl rfl dL_passes_75 ?_
      refine lv_iload_n hx hb dL_passes_78 rfl (lv_at hl 1 rfl) ?_
      refine lv_iconst (v := 0) hx hb dL_passes_79 (by decide) ?_
      refine z_callH C0 Z hl.1 (As := [.ref (gad G 0), .int x1, .int 0]) (rest := []) (k_L_ahead l (cx_g C0) hw) (gv_L_ahead tm_3_168) ds_L_ahead ⟨Nat.le_of_ble_eq_true rfl, Nat.le_of_ble_eq_true rfl⟩ rfl rfl (Nat.le_of_ble_eq_true rfl) ⟨Nat.le_of_ble_eq_true rfl, Nat.le_of_ble_eq_true rfl⟩ dL_passes_80 (fun r9 v8 H locs hw Z => ?_)
      refine lv_istore (lv' := [(5, .int r9), (0, .ref (gad G 7)), (1, .int x1), (2, .int x2), (3, .int x3), (4, .int x4)]) hx hb dL_passes_83 hl (by decide) rfl (fun ls hl => ?_)
      refine lv_aload_n hx hb dL_passes_85 rfl (lv_at hl 1 rfl) ?_
      refine z_get C0 Z in_L rfl 0 (by decide) rfl tm_1_181 (cx_lt C0 (by decide)) rfl rfl dL_passes_86 ?_
      refine lv_iload_n hx hb dL_passes_89 rfl (lv_at hl 2 rfl) ?_
      refine lv_iconst (v := 3) hx hb dL_passes_90 (by decide) ?_
      refine z_callH C0 Z hl.1 (As := [.ref (gad G 0), .int x1, .int 3]) (rest := []) (k_L_ahead l (cx_g C0) hw) (gv_L_ahead tm_3_168) ds_L_ahead ⟨Nat.le_of_ble_eq_true rfl, Nat.le_of_ble_eq_true rfl⟩ rfl rfl (Nat.le_of_ble_eq_true rfl) ⟨Nat.le_of_ble_eq_true rfl, Nat.le_of_ble_eq_true rfl⟩ dL_passes_91 (fun r11 v10 H locs hw Z => ?_)
      refine lv_istore (lv' := [(6, .int r11), (5, .int r9), (0, .ref (gad G 7)), (1, .int x1), (2, .int x2), (3, .int x3), (4, .int x4)]) hx hb dL_passes_94 hl (by decide) rfl (fun ls hl => ?_)
      refine lv_aload_n hx hb dL_passes_96 rfl (lv_at hl 2 rfl) ?_
      refine z_get C0 Z in_L rfl 0 (by decide) rfl tm_1_181 (cx_lt C0 (by decide)) rfl rfl dL_passes_97 ?_
      refine lv_iload_n hx hb dL_passes_100 rfl (lv_at hl 3 rfl) ?_
      refine z_callH C0 Z hl.1 (As := [.ref (gad G 0), .int x1]) (rest := []) (k_L_pass l (cx_g C0) hw) (gv_L_pass tm_3_203) ds_L_pass ⟨Nat.le_of_ble_eq_true rfl, Nat.le_of_ble_eq_true rfl⟩ rfl rfl (Nat.le_of_ble_eq_true rfl) ⟨Nat.le_of_ble_eq_true rfl, Nat.le_of_ble_eq_true rfl⟩ dL_passes_101 (fun r13 v12 H locs hw Z => ?_)
      refine lv_istore (lv' := [(7, .int r13), (6, .int r11), (5, .int r9), (0, .ref (gad G 7)), (1, .int x1), (2, .int x2), (3, .int x3), (4, .int x4)]) hx hb dL_passes_104 hl (by decide) rfl (fun ls hl => ?_)
      refine lv_iconst (v := 0) hx hb dL_passes_106 (by decide) ?_
      refine lv_istore (lv' := [(8, .int 0), (7, .int r13), (6, .int r11), (5, .int r9), (0, .ref (gad G 7)), (1, .int x1), (2, .int x2), (3, .int x3), (4, .int x4)]) hx hb dL_passes_107 hl (by decide) rfl (fun ls hl => ?_)
      obtain ⟨m109, hw⟩ := hw
      exact b_L_passes_109 l C0 m109 _ _ _ _ _ _ _ _ _ _ _ _ hw Z (lv_sub hl [4, 5, 6, 7, 8, 3, 2, 1, 0] rfl)
    · replace hw := hw.2 c7
      refine lv_iload_n hx hb dL_passes_40 rfl (lv_at hl 3 rfl) ?_
      refine lv_aload_n hx hb dL_passes_41 rfl (lv_at hl 0 rfl) ?_
      refine z_get C0 Z in_L rfl 0 (by decide) rfl tm_1_181 (cx_lt C0 (by decide)) rfl rfl dL_passes_42 ?_
      refine lv_iload hx hb dL_passes_45 (lv_at hl 5 rfl) ?_
      refine lv_iconst (v := 2) hx hb dL_passes_47 (by decide) ?_
      refine z_callH C0 Z hl.1 (As := [.ref (gad G 0), .int x5, .int 2]) (rest := [.int x3]) (k_L_owner l (cx_g C0) hw) (gv_L_owner tm_2_147) ds_L_owner ⟨Nat.le_of_ble_eq_true rfl, Nat.le_of_ble_eq_true rfl⟩ rfl rfl (Nat.le_of_ble_eq_true rfl) ⟨Nat.le_of_ble_eq_true rfl, Nat.le_of_ble_eq_true rfl⟩ dL_passes_48 (fun r53 v52 H locs hw Z => ?_)
      refine lv_iadd hx hb dL_passes_51 ?_
      refine lv_istore_n (lv' := [(3, .int (x3 + r53)), (0, .ref (gad G 7)), (1, .int x1), (2, .int x2), (4, .int x4), (5, .int x5)]) hx hb dL_passes_52 rfl hl (by decide) rfl (fun ls hl => ?_)
      refine lv_iload hx hb dL_passes_53 (lv_at hl 4 rfl) ?_
      refine lv_aload_n hx hb dL_passes_55 rfl (lv_at hl 1 rfl) ?_
      refine z_get C0 Z in_L rfl 0 (by decide) rfl tm_1_181 (cx_lt C0 (by decide)) rfl rfl dL_passes_56 ?_
      refine lv_iload hx hb dL_passes_59 (lv_at hl 5 rfl) ?_
      refine lv_iconst (v := 1) hx hb dL_passes_61 (by decide) ?_
      refine z_callH C0 Z hl.1 (As := [.ref (gad G 0), .int x5, .int 1]) (rest := [.int x4]) (k_L_owner l (cx_g C0) hw) (gv_L_owner tm_2_147) ds_L_owner ⟨Nat.le_of_ble_eq_true rfl, Nat.le_of_ble_eq_true rfl⟩ rfl rfl (Nat.le_of_ble_eq_true rfl) ⟨Nat.le_of_ble_eq_true rfl, Nat.le_of_ble_eq_true rfl⟩ dL_passes_62 (fun r55 v54 H locs hw Z => ?_)
      refine lv_iadd hx hb dL_passes_65 ?_
      refine lv_istore (lv' := [(4, .int (x4 + r55)), (3, .int (x3 + r53)), (0, .ref (gad G 7)), (1, .int x1), (2, .int x2), (5, .int x5)]) hx hb dL_passes_66 hl (by decide) rfl (fun ls hl => ?_)
      refine lv_iinc (v := x5 + 1) (lv' := [(5, .int (x5 + 1)), (4, .int (x4 + r55)), (3, .int (x3 + r53)), (0, .ref (gad G 7)), (1, .int x1), (2, .int x2)]) hx hb dL_passes_68 hl (k := 5) rfl rfl (by decide) rfl (fun ls hl => ?_)
      refine lv_goto (tgt := 27) hx hb dL_passes_71 (by decide) ?_
      exact hK27 _ _ _ _ _ _ _ _ _ hw Z (lv_sub hl [3, 4, 5, 2, 1, 0] rfl)
set_option maxRecDepth 100000 in
set_option maxHeartbeats 4000000 in
theorem k_L_passes (l : Launch) {G : zG} (hg : 116 ≤ gn G)  {v : V3} {Q : Int32 → V3 → Prop} (hw : w_L_passes v Q) : Mz l yL_passes cL_passes 10 (some .boolean) 8 193 G [.ref (gad G 7)] v (QiZ G Q) := by
  rw [w_L_passes] at hw
  refine z_ofW hg (by decide) (Nat.le_of_ble_eq_true rfl) ?_
  intro p e s m args below meth c ls C0 Z hl
  have hx := C0.1
  have hb := C0.2.1
  replace hl : lv_has ls 10 [(0, .ref (gad G 7))] := hl
  generalize s.heap = H at Z ⊢
  generalize ([] : List Loc) = locs at Z ⊢
  refine lv_iconst (v := 1) hx hb dL_passes_0 (by decide) ?_
  refine lv_aload_n hx hb dL_passes_1 rfl (lv_at hl 0 rfl) ?_
  refine lv_bipush (v := 12) hx hb dL_passes_2 (by decide) ?_
  refine z_callVi C0 Z hl.1 (As := [.int 12]) (rest := [.int 1]) (k_L_draw l (cx_g C0) hw) (gv_L_draw tm_1_204) rfl ds_L_draw ⟨Nat.le_of_ble_eq_true rfl, Nat.le_of_ble_eq_true rfl⟩ (ci := 4) rfl (cx_lt C0 (by decide)) rfl rfl rfl (Nat.le_of_ble_eq_true rfl) ⟨Nat.le_of_ble_eq_true rfl, Nat.le_of_ble_eq_true rfl⟩ dL_passes_4 (fun r2 v1 H locs hw Z => ?_)
  refine lv_iadd hx hb dL_passes_7 ?_
  refine lv_istore_n (lv' := [(1, .int (1 + r2)), (0, .ref (gad G 7))]) hx hb dL_passes_8 rfl hl (by decide) rfl (fun ls hl => ?_)
  refine lv_aload_n hx hb dL_passes_9 rfl (lv_at hl 1 rfl) ?_
  refine z_get C0 Z in_L rfl 0 (by decide) rfl tm_1_181 (cx_lt C0 (by decide)) rfl rfl dL_passes_10 ?_
  refine lv_bipush (v := 7) hx hb dL_passes_13 (by decide) ?_
  refine z_callH C0 Z hl.1 (As := [.ref (gad G 0), .int 7]) (rest := []) (k_L_count l (cx_g C0) hw) (gv_L_count tm_2_93) ds_L_count ⟨Nat.le_of_ble_eq_true rfl, Nat.le_of_ble_eq_true rfl⟩ rfl rfl (Nat.le_of_ble_eq_true rfl) ⟨Nat.le_of_ble_eq_true rfl, Nat.le_of_ble_eq_true rfl⟩ dL_passes_15 (fun r4 v3 H locs hw Z => ?_)
  refine lv_istore_n (lv' := [(2, .int r4), (1, .int (1 + r2)), (0, .ref (gad G 7))]) hx hb dL_passes_18 rfl hl (by decide) rfl (fun ls hl => ?_)
  refine lv_iconst (v := 0) hx hb dL_passes_19 (by decide) ?_
  refine lv_istore_n (lv' := [(3, .int 0), (2, .int r4), (1, .int (1 + r2)), (0, .ref (gad G 7))]) hx hb dL_passes_20 rfl hl (by decide) rfl (fun ls hl => ?_)
  refine lv_iconst (v := 0) hx hb dL_passes_21 (by decide) ?_
  refine lv_istore (lv' := [(4, .int 0), (3, .int 0), (2, .int r4), (1, .int (1 + r2)), (0, .ref (gad G 7))]) hx hb dL_passes_22 hl (by decide) rfl (fun ls hl => ?_)
  refine lv_iconst (v := 0) hx hb dL_passes_24 (by decide) ?_
  refine lv_istore (lv' := [(5, .int 0), (4, .int 0), (3, .int 0), (2, .int r4), (1, .int (1 + r2)), (0, .ref (gad G 7))]) hx hb dL_passes_25 hl (by decide) rfl (fun ls hl => ?_)
  obtain ⟨m27, hw⟩ := hw
  exact b_L_passes_27 l C0 m27 _ _ _ _ _ _ _ _ _ hw Z (lv_sub hl [5, 4, 3, 2, 1, 0] rfl)
-- L_lines: room (5, 127) cells (0, 0)
theorem dL_lines_0 : decode cL_lines 0 = .ok (.aload_n 0, 1) := by decide +kernel
theorem dL_lines_1 : decode cL_lines 1 = .ok (.getfield 10, 3) := by decide +kernel
theorem dL_lines_4 : decode cL_lines 4 = .ok (.bipush 7, 2) := by decide +kernel
theorem dL_lines_6 : decode cL_lines 6 = .ok (.invokestatic 154, 3) := by decide +kernel
theorem dL_lines_9 : decode cL_lines 9 = .ok (.aload_n 0, 1) := by decide +kernel
theorem dL_lines_10 : decode cL_lines 10 = .ok (.bipush 20, 2) := by decide +kernel
theorem dL_lines_12 : decode cL_lines 12 = .ok (.invokevirtual 142, 3) := by decide +kernel
theorem dL_lines_15 : decode cL_lines 15 = .ok (.iadd, 1) := by decide +kernel
theorem dL_lines_16 : decode cL_lines 16 = .ok (.istore_n 1, 1) := by decide +kernel
theorem dL_lines_17 : decode cL_lines 17 = .ok (.aload_n 0, 1) := by decide +kernel
theorem dL_lines_18 : decode cL_lines 18 = .ok (.getfield 10, 3) := by decide +kernel
theorem dL_lines_21 : decode cL_lines 21 = .ok (.iload_n 1, 1) := by decide +kernel
theorem dL_lines_22 : decode cL_lines 22 = .ok (.invokestatic 213, 3) := by decide +kernel
theorem dL_lines_25 : decode cL_lines 25 = .ok (.bipush 32, 2) := by decide +kernel
theorem dL_lines_27 : decode cL_lines 27 = .ok (.if_icmp .eq 5, 3) := by decide +kernel
theorem dL_lines_30 : decode cL_lines 30 = .ok (.iconst 0, 1) := by decide +kernel
theorem dL_lines_31 : decode cL_lines 31 = .ok (.ireturn, 1) := by decide +kernel
theorem dL_lines_32 : decode cL_lines 32 = .ok (.iconst 0, 1) := by decide +kernel
theorem dL_lines_33 : decode cL_lines 33 = .ok (.istore_n 2, 1) := by decide +kernel
theorem dL_lines_34 : decode cL_lines 34 = .ok (.iload_n 2, 1) := by decide +kernel
theorem dL_lines_35 : decode cL_lines 35 = .ok (.bipush 32, 2) := by decide +kernel
theorem dL_lines_37 : decode cL_lines 37 = .ok (.if_icmp .ge 123, 3) := by decide +kernel
theorem dL_lines_40 : decode cL_lines 40 = .ok (.aload_n 0, 1) := by decide +kernel
theorem dL_lines_41 : decode cL_lines 41 = .ok (.getfield 10, 3) := by decide +kernel
theorem dL_lines_44 : decode cL_lines 44 = .ok (.iload_n 2, 1) := by decide +kernel
theorem dL_lines_45 : decode cL_lines 45 = .ok (.iload_n 1, 1) := by decide +kernel
theorem dL_lines_46 : decode cL_lines 46 = .ok (.invokestatic 215, 3) := by decide +kernel
theorem dL_lines_49 : decode cL_lines 49 = .ok (.istore_n 3, 1) := by decide +kernel
theorem dL_lines_50 : decode cL_lines 50 = .ok (.aload_n 0, 1) := by decide +kernel
theorem dL_lines_51 : decode cL_lines 51 = .ok (.getfield 10, 3) := by decide +kernel
theorem dL_lines_54 : decode cL_lines 54 = .ok (.iload_n 2, 1) := by decide +kernel
theorem dL_lines_55 : decode cL_lines 55 = .ok (.invokevirtual 217, 3) := by decide +kernel
theorem dL_lines_58 : decode cL_lines 58 = .ok (.iload_n 3, 1) := by decide +kernel
theorem dL_lines_59 : decode cL_lines 59 = .ok (.ifCond .ge 8, 3) := by decide +kernel
theorem dL_lines_62 : decode cL_lines 62 = .ok (.bipush 46, 2) := by decide +kernel
theorem dL_lines_64 : decode cL_lines 64 = .ok (.goto 15, 3) := by decide +kernel
theorem dL_lines_67 : decode cL_lines 67 = .ok (.bipush 48, 2) := by decide +kernel
theorem dL_lines_69 : decode cL_lines 69 = .ok (.aload_n 0, 1) := by decide +kernel
theorem dL_lines_70 : decode cL_lines 70 = .ok (.getfield 10, 3) := by decide +kernel
theorem dL_lines_73 : decode cL_lines 73 = .ok (.iload_n 3, 1) := by decide +kernel
theorem dL_lines_74 : decode cL_lines 74 = .ok (.iconst 0, 1) := by decide +kernel
theorem dL_lines_75 : decode cL_lines 75 = .ok (.invokestatic 167, 3) := by decide +kernel
theorem dL_lines_78 : decode cL_lines 78 = .ok (.iadd, 1) := by decide +kernel
theorem dL_lines_79 : decode cL_lines 79 = .ok (.if_icmp .eq 5, 3) := by decide +kernel
theorem dL_lines_82 : decode cL_lines 82 = .ok (.iconst 0, 1) := by decide +kernel
theorem dL_lines_83 : decode cL_lines 83 = .ok (.ireturn, 1) := by decide +kernel
theorem dL_lines_84 : decode cL_lines 84 = .ok (.iload_n 3, 1) := by decide +kernel
theorem dL_lines_85 : decode cL_lines 85 = .ok (.ifCond .lt 69, 3) := by decide +kernel
theorem dL_lines_88 : decode cL_lines 88 = .ok (.aload_n 0, 1) := by decide +kernel
theorem dL_lines_89 : decode cL_lines 89 = .ok (.getfield 10, 3) := by decide +kernel
theorem dL_lines_92 : decode cL_lines 92 = .ok (.iload_n 3, 1) := by decide +kernel
theorem dL_lines_93 : decode cL_lines 93 = .ok (.bipush 8, 2) := by decide +kernel
theorem dL_lines_95 : decode cL_lines 95 = .ok (.invokestatic 167, 3) := by decide +kernel
theorem dL_lines_98 : decode cL_lines 98 = .ok (.iload_n 1, 1) := by decide +kernel
theorem dL_lines_99 : decode cL_lines 99 = .ok (.if_icmp .gt 53, 3) := by decide +kernel
theorem dL_lines_102 : decode cL_lines 102 = .ok (.aload_n 0, 1) := by decide +kernel
theorem dL_lines_103 : decode cL_lines 103 = .ok (.getfield 10, 3) := by decide +kernel
theorem dL_lines_106 : decode cL_lines 106 = .ok (.iload_n 3, 1) := by decide +kernel
theorem dL_lines_107 : decode cL_lines 107 = .ok (.bipush 9, 2) := by decide +kernel
theorem dL_lines_109 : decode cL_lines 109 = .ok (.invokestatic 167, 3) := by decide +kernel
theorem dL_lines_112 : decode cL_lines 112 = .ok (.iload_n 1, 1) := by decide +kernel
theorem dL_lines_113 : decode cL_lines 113 = .ok (.if_icmp .le 39, 3) := by decide +kernel
theorem dL_lines_116 : decode cL_lines 116 = .ok (.aload_n 0, 1) := by decide +kernel
theorem dL_lines_117 : decode cL_lines 117 = .ok (.getfield 10, 3) := by decide +kernel
theorem dL_lines_120 : decode cL_lines 120 = .ok (.iload_n 3, 1) := by decide +kernel
theorem dL_lines_121 : decode cL_lines 121 = .ok (.iconst 1, 1) := by decide +kernel
theorem dL_lines_122 : decode cL_lines 122 = .ok (.invokestatic 167, 3) := by decide +kernel
theorem dL_lines_125 : decode cL_lines 125 = .ok (.iload_n 2, 1) := by decide +kernel
theorem dL_lines_126 : decode cL_lines 126 = .ok (.if_icmp .gt 26, 3) := by decide +kernel
theorem dL_lines_129 : decode cL_lines 129 = .ok (.aload_n 0, 1) := by decide +kernel
theorem dL_lines_130 : decode cL_lines 130 = .ok (.getfield 10, 3) := by decide +kernel
theorem dL_lines_133 : decode cL_lines 133 = .ok (.iload_n 3, 1) := by decide +kernel
theorem dL_lines_134 : decode cL_lines 134 = .ok (.iconst 1, 1) := by decide +kernel
theorem dL_lines_135 : decode cL_lines 135 = .ok (.invokestatic 167, 3) := by decide +kernel
theorem dL_lines_138 : decode cL_lines 138 = .ok (.aload_n 0, 1) := by decide +kernel
theorem dL_lines_139 : decode cL_lines 139 = .ok (.getfield 10, 3) := by decide +kernel
theorem dL_lines_142 : decode cL_lines 142 = .ok (.iload_n 3, 1) := by decide +kernel
theorem dL_lines_143 : decode cL_lines 143 = .ok (.iconst 2, 1) := by decide +kernel
theorem dL_lines_144 : decode cL_lines 144 = .ok (.invokestatic 167, 3) := by decide +kernel
theorem dL_lines_147 : decode cL_lines 147 = .ok (.iadd, 1) := by decide +kernel
theorem dL_lines_148 : decode cL_lines 148 = .ok (.iload_n 2, 1) := by decide +kernel
theorem dL_lines_149 : decode cL_lines 149 = .ok (.if_icmp .gt 5, 3) := by decide +kernel
theorem dL_lines_152 : decode cL_lines 152 = .ok (.iconst 0, 1) := by decide +kernel
theorem dL_lines_153 : decode cL_lines 153 = .ok (.ireturn, 1) := by decide +kernel
theorem dL_lines_154 : decode cL_lines 154 = .ok (.iinc 2 1, 3) := by decide +kernel
theorem dL_lines_157 : decode cL_lines 157 = .ok (.goto (-123), 3) := by decide +kernel
theorem dL_lines_160 : decode cL_lines 160 = .ok (.aload_n 0, 1) := by decide +kernel
theorem dL_lines_161 : decode cL_lines 161 = .ok (.getfield 10, 3) := by decide +kernel
theorem dL_lines_164 : decode cL_lines 164 = .ok (.bipush 32, 2) := by decide +kernel
theorem dL_lines_166 : decode cL_lines 166 = .ok (.invokevirtual 217, 3) := by decide +kernel
theorem dL_lines_169 : decode cL_lines 169 = .ok (.iconst (-1), 1) := by decide +kernel
theorem dL_lines_170 : decode cL_lines 170 = .ok (.if_icmp .ne 7, 3) := by decide +kernel
theorem dL_lines_173 : decode cL_lines 173 = .ok (.iconst 1, 1) := by decide +kernel
theorem dL_lines_174 : decode cL_lines 174 = .ok (.goto 4, 3) := by decide +kernel
theorem dL_lines_177 : decode cL_lines 177 = .ok (.iconst 0, 1) := by decide +kernel
theorem dL_lines_178 : decode cL_lines 178 = .ok (.ireturn, 1) := by decide +kernel
def w_L_lines_178  (Q : Int32 → V3 → Prop) (s0 : Int32) (v : V3) : Prop := (s0 = 0 ∨ s0 = 1) ∧ Q s0 v
def w_L_lines_154  (Q : Int32 → V3 → Prop) (K34 : Int32 → Int32 → V3 → Prop) (x1 : Int32) (x2 : Int32) (v : V3) : Prop := K34 x1 (x2 + 1) v
def w_L_lines_152  (Q : Int32 → V3 → Prop) (v : V3) : Prop := Q 0 v
def w_L_lines_79  (Q : Int32 → V3 → Prop) (K34 : Int32 → Int32 → V3 → Prop) (x1 : Int32) (x2 : Int32) (x3 : Int32) (s0 : Int32) (s1 : Int32) (v : V3) : Prop := ((s0 = s1 → ((x3 < 0 → w_L_lines_154 Q K34 x1 x2 v) ∧ (¬ x3 < 0 → w_L_booking x3 8 v (fun r23 v22 => ((x1 < r23 → w_L_lines_152 Q v22) ∧ (¬ x1 < r23 → w_L_booking x3 9 v22 (fun r26 v25 => ((r26 ≤ x1 → w_L_lines_152 Q v25) ∧ (¬ r26 ≤ x1 → w_L_booking x3 1 v25 (fun r29 v28 => ((x2 < r29 → w_L_lines_152 Q v28) ∧ (¬ x2 < r29 → w_L_booking x3 1 v28 (fun r32 v31 => w_L_booking x3 2 v31 (fun r34 v33 => ((x2 < (r32 + r34) → w_L_lines_154 Q K34 x1 x2 v33) ∧ (¬ x2 < (r32 + r34) → w_L_lines_152 Q v33)))))))))))))))) ∧ (¬ s0 = s1 → Q 0 v))
def w_L_lines_34  (Q : Int32 → V3 → Prop) : Nat → Int32 → Int32 → V3 → Prop
  | 0, _, _, _ => False
  | n34 + 1, x1, x2, v => ((32 ≤ x2 → w_X3_shown 32 v (fun r10 v9 => ((¬ r10 = (-1) → w_L_lines_178 Q 0 v9) ∧ (r10 = (-1) → w_L_lines_178 Q 1 v9)))) ∧ (¬ 32 ≤ x2 → w_L_holder x2 x1 v (fun r14 v13 => w_X3_shown x2 v13 (fun r16 v15 => ((0 ≤ r14 → w_L_booking r14 0 v15 (fun r19 v18 => w_L_lines_79 Q (w_L_lines_34 Q n34) x1 x2 r14 r16 (48 + r19) v18)) ∧ (¬ 0 ≤ r14 → w_L_lines_79 Q (w_L_lines_34 Q n34) x1 x2 r14 r16 46 v15))))))
def w_L_lines  (v : V3) (Q : Int32 → V3 → Prop) : Prop := w_L_count 7 v (fun r2 v1 => w_L_draw 20 v1 (fun r4 v3 => w_L_show (r2 + r4) v3 (fun r6 v5 => ((r6 = 32 → ∃ m34 : Nat, w_L_lines_34 Q m34 (r2 + r4) 0 v5) ∧ (¬ r6 = 32 → Q 0 v5)))))
set_option maxRecDepth 100000 in
set_option maxHeartbeats 4000000 in
theorem b_L_lines_178 {p : Program} (l : Launch) {e : Env} {s : State} {m : MethodId} {args : Array Value} {below : List Frame} {meth : Method} {c : Code} {G : zG}   (C0 : Cx G RL cL_lines 4 (some .boolean) p s m args meth c) {Q : Int32 → V3 → Prop} : ∀ (s0 : Int32) (v : V3) (H : Heap) (locs : List Loc) (ls : Array Slot), w_L_lines_178 Q s0 v → Zs G s v H locs → lv_has ls 4 [] → W p l e { frames := 5, cells := 0, slots := 0, locals := 127 } s m args below meth c H locs 0 0 (MQ below (QiZ G Q) args s 0 0 (zA G)) (F0 m 178 ls [.int s0]) := by
  have hx := C0.1
  have hb := C0.2.1
  intro s0 v H locs ls hw Z hl
  rw [w_L_lines_178] at hw
  obtain ⟨h12, hw⟩ := hw
  exact z_zret C0 Z h12 hw dL_lines_178
set_option maxRecDepth 100000 in
set_option maxHeartbeats 4000000 in
theorem b_L_lines_154 {p : Program} (l : Launch) {e : Env} {s : State} {m : MethodId} {args : Array Value} {below : List Frame} {meth : Method} {c : Code} {G : zG}   (C0 : Cx G RL cL_lines 4 (some .boolean) p s m args meth c) {Q : Int32 → V3 → Prop} {K34 : Int32 → Int32 → V3 → Prop} (hK34 : ∀ (x1 : Int32) (x2 : Int32) (v : V3) (H : Heap) (locs : List Loc) (ls : Array Slot), K34 x1 x2 v → Zs G s v H locs → lv_has ls 4 [(0, .ref (gad G 7)), (1, .int x1), (2, .int x2)] → W p l e { frames := 5, cells := 0, slots := 0, locals := 127 } s m args below meth c H locs 0 0 (MQ below (QiZ G Q) args s 0 0 (zA G)) (F0 m 34 ls [])) : ∀ (x1 : Int32) (x2 : Int32) (v : V3) (H : Heap) (locs : List Loc) (ls : Array Slot), w_L_lines_154 Q K34 x1 x2 v → Zs G s v H locs → lv_has ls 4 [(0, .ref (gad G 7)), (1, .int x1), (2, .int x2)] → W p l e { frames := 5, cells := 0, slots := 0, locals := 127 } s m args below meth c H locs 0 0 (MQ below (QiZ G Q) args s 0 0 (zA G)) (F0 m 154 ls []) := by
  have hx := C0.1
  have hb := C0.2.1
  intro x1 x2 v H locs ls hw Z hl
  rw [w_L_lines_154] at hw
  refine lv_iinc (v := x2 + 1) (lv' := [(2, .int (x2 + 1)), (0, .ref (gad G 7)), (1, .int x1)]) hx hb dL_lines_154 hl (k := 2) rfl rfl (by decide) rfl (fun ls hl => ?_)
  refine lv_goto (tgt := 34) hx hb dL_lines_157 (by decide) ?_
  exact hK34 _ _ _ _ _ _ hw Z (lv_sub hl [1, 2, 0] rfl)
set_option maxRecDepth 100000 in
set_option maxHeartbeats 4000000 in
theorem b_L_lines_152 {p : Program} (l : Launch) {e : Env} {s : State} {m : MethodId} {args : Array Value} {below : List Frame} {meth : Method} {c : Code} {G : zG}   (C0 : Cx G RL cL_lines 4 (some .boolean) p s m args meth c) {Q : Int32 → V3 → Prop} : ∀ (v : V3) (H : Heap) (locs : List Loc) (ls : Array Slot), w_L_lines_152 Q v → Zs G s v H locs → lv_has ls 4 [] → W p l e { frames := 5, cells := 0, slots := 0, locals := 127 } s m args below meth c H locs 0 0 (MQ below (QiZ G Q) args s 0 0 (zA G)) (F0 m 152 ls []) := by
  have hx := C0.1
  have hb := C0.2.1
  intro v H locs ls hw Z hl
  rw [w_L_lines_152] at hw
  refine lv_iconst (v := 0) hx hb dL_lines_152 (by decide) ?_
  exact z_zret C0 Z (by decide) hw dL_lines_153
set_option maxRecDepth 100000 in
set_option maxHeartbeats 4000000 in
theorem b_L_lines_79 {p : Program} (l : Launch) {e : Env} {s : State} {m : MethodId} {args : Array Value} {below : List Frame} {meth : Method} {c : Code} {G : zG}   (C0 : Cx G RL cL_lines 4 (some .boolean) p s m args meth c) {Q : Int32 → V3 → Prop} {K34 : Int32 → Int32 → V3 → Prop} (hK34 : ∀ (x1 : Int32) (x2 : Int32) (v : V3) (H : Heap) (locs : List Loc) (ls : Array Slot), K34 x1 x2 v → Zs G s v H locs → lv_has ls 4 [(0, .ref (gad G 7)), (1, .int x1), (2, .int x2)] → W p l e { frames := 5, cells := 0, slots := 0, locals := 127 } s m args below meth c H locs 0 0 (MQ below (QiZ G Q) args s 0 0 (zA G)) (F0 m 34 ls [])) : ∀ (x1 : Int32) (x2 : Int32) (x3 : Int32) (s0 : Int32) (s1 : Int32) (v : V3) (H : Heap) (locs : List Loc) (ls : Array Slot), w_L_lines_79 Q K34 x1 x2 x3 s0 s1 v → Zs G s v H locs → lv_has ls 4 [(0, .ref (gad G 7)), (1, .int x1), (2, .int x2), (3, .int x3)] → W p l e { frames := 5, cells := 0, slots := 0, locals := 127 } s m args below meth c H locs 0 0 (MQ below (QiZ G Q) args s 0 0 (zA G)) (F0 m 79 ls [.int s1, .int s0]) := by
  have hx := C0.1
  have hb := C0.2.1
  intro x1 x2 x3 s0 s1 v H locs ls hw Z hl
  rw [w_L_lines_79] at hw
  refine lv_icmp_eq (tgt := 84) hx hb dL_lines_79 (by decide) (fun c20 => ?_) (fun c20 => ?_)
  · replace hw := hw.1 c20
    refine lv_iload_n hx hb dL_lines_84 rfl (lv_at hl 3 rfl) ?_
    refine lv_if_lt (tgt := 154) hx hb dL_lines_85 (by decide) (fun c21 => ?_) (fun c21 => ?_)
    · replace hw := hw.1 c21
      exact b_L_lines_154 l C0 hK34 _ _ _ _ _ _ hw Z (lv_sub hl [0, 1, 2] rfl)
    · replace hw := hw.2 c21
      refine lv_aload_n hx hb dL_lines_88 rfl (lv_at hl 0 rfl) ?_
      refine z_get C0 Z in_L rfl 0 (by decide) rfl tm_1_181 (cx_lt C0 (by decide)) rfl rfl dL_lines_89 ?_
      refine lv_iload_n hx hb dL_lines_92 rfl (lv_at hl 3 rfl) ?_
      refine lv_bipush (v := 8) hx hb dL_lines_93 (by decide) ?_
      refine z_callH C0 Z hl.1 (As := [.ref (gad G 0), .int x3, .int 8]) (rest := []) (k_L_booking l (cx_g C0) hw) (gv_L_booking tm_2_238) ds_L_booking ⟨Nat.le_of_ble_eq_true rfl, Nat.le_of_ble_eq_true rfl⟩ rfl rfl (Nat.le_of_ble_eq_true rfl) ⟨Nat.le_of_ble_eq_true rfl, Nat.le_of_ble_eq_true rfl⟩ dL_lines_95 (fun r23 v22 H locs hw Z => ?_)
      refine lv_iload_n hx hb dL_lines_98 rfl (lv_at hl 1 rfl) ?_
      refine lv_icmp_gt (tgt := 152) hx hb dL_lines_99 (by decide) (fun c24 => ?_) (fun c24 => ?_)
      · replace hw := hw.1 c24
        exact b_L_lines_152 l C0 _ _ _ _ hw Z (lv_sub hl [] rfl)
      · replace hw := hw.2 c24
        refine lv_aload_n hx hb dL_lines_102 rfl (lv_at hl 0 rfl) ?_
        refine z_get C0 Z in_L rfl 0 (by decide) rfl tm_1_181 (cx_lt C0 (by decide)) rfl rfl dL_lines_103 ?_
        refine lv_iload_n hx hb dL_lines_106 rfl (lv_at hl 3 rfl) ?_
        refine lv_bipush (v := 9) hx hb dL_lines_107 (by decide) ?_
        refine z_callH C0 Z hl.1 (As := [.ref (gad G 0), .int x3, .int 9]) (rest := []) (k_L_booking l (cx_g C0) hw) (gv_L_booking tm_2_238) ds_L_booking ⟨Nat.le_of_ble_eq_true rfl, Nat.le_of_ble_eq_true rfl⟩ rfl rfl (Nat.le_of_ble_eq_true rfl) ⟨Nat.le_of_ble_eq_true rfl, Nat.le_of_ble_eq_true rfl⟩ dL_lines_109 (fun r26 v25 H locs hw Z => ?_)
        refine lv_iload_n hx hb dL_lines_112 rfl (lv_at hl 1 rfl) ?_
        refine lv_icmp_le (tgt := 152) hx hb dL_lines_113 (by decide) (fun c27 => ?_) (fun c27 => ?_)
        · replace hw := hw.1 c27
          exact b_L_lines_152 l C0 _ _ _ _ hw Z (lv_sub hl [] rfl)
        · replace hw := hw.2 c27
          refine lv_aload_n hx hb dL_lines_116 rfl (lv_at hl 0 rfl) ?_
          refine z_get C0 Z in_L rfl 0 (by decide) rfl tm_1_181 (cx_lt C0 (by decide)) rfl rfl dL_lines_117 ?_
          refine lv_iload_n hx hb dL_lines_120 rfl (lv_at hl 3 rfl) ?_
          refine lv_iconst (v := 1) hx hb dL_lines_121 (by decide) ?_
          refine z_callH C0 Z hl.1 (As := [.ref (gad G 0), .int x3, .int 1]) (rest := []) (k_L_booking l (cx_g C0) hw) (gv_L_booking tm_2_238) ds_L_booking ⟨Nat.le_of_ble_eq_true rfl, Nat.le_of_ble_eq_true rfl⟩ rfl rfl (Nat.le_of_ble_eq_true rfl) ⟨Nat.le_of_ble_eq_true rfl, Nat.le_of_ble_eq_true rfl⟩ dL_lines_122 (fun r29 v28 H locs hw Z => ?_)
          refine lv_iload_n hx hb dL_lines_125 rfl (lv_at hl 2 rfl) ?_
          refine lv_icmp_gt (tgt := 152) hx hb dL_lines_126 (by decide) (fun c30 => ?_) (fun c30 => ?_)
          · replace hw := hw.1 c30
            exact b_L_lines_152 l C0 _ _ _ _ hw Z (lv_sub hl [] rfl)
          · replace hw := hw.2 c30
            refine lv_aload_n hx hb dL_lines_129 rfl (lv_at hl 0 rfl) ?_
            refine z_get C0 Z in_L rfl 0 (by decide) rfl tm_1_181 (cx_lt C0 (by decide)) rfl rfl dL_lines_130 ?_
            refine lv_iload_n hx hb dL_lines_133 rfl (lv_at hl 3 rfl) ?_
            refine lv_iconst (v := 1) hx hb dL_lines_134 (by decide) ?_
            refine z_callH C0 Z hl.1 (As := [.ref (gad G 0), .int x3, .int 1]) (rest := []) (k_L_booking l (cx_g C0) hw) (gv_L_booking tm_2_238) ds_L_booking ⟨Nat.le_of_ble_eq_true rfl, Nat.le_of_ble_eq_true rfl⟩ rfl rfl (Nat.le_of_ble_eq_true rfl) ⟨Nat.le_of_ble_eq_true rfl, Nat.le_of_ble_eq_true rfl⟩ dL_lines_135 (fun r32 v31 H locs hw Z => ?_)
            refine lv_aload_n hx hb dL_lines_138 rfl (lv_at hl 0 rfl) ?_
            refine z_get C0 Z in_L rfl 0 (by decide) rfl tm_1_181 (cx_lt C0 (by decide)) rfl rfl dL_lines_139 ?_
            refine lv_iload_n hx hb dL_lines_142 rfl (lv_at hl 3 rfl) ?_
            refine lv_iconst (v := 2) hx hb dL_lines_143 (by decide) ?_
            refine z_callH C0 Z hl.1 (As := [.ref (gad G 0), .int x3, .int 2]) (rest := [.int r32]) (k_L_booking l (cx_g C0) hw) (gv_L_booking tm_2_238) ds_L_booking ⟨Nat.le_of_ble_eq_true rfl, Nat.le_of_ble_eq_true rfl⟩ rfl rfl (Nat.le_of_ble_eq_true rfl) ⟨Nat.le_of_ble_eq_true rfl, Nat.le_of_ble_eq_true rfl⟩ dL_lines_144 (fun r34 v33 H locs hw Z => ?_)
            refine lv_iadd hx hb dL_lines_147 ?_
            refine lv_iload_n hx hb dL_lines_148 rfl (lv_at hl 2 rfl) ?_
            refine lv_icmp_gt (tgt := 154) hx hb dL_lines_149 (by decide) (fun c35 => ?_) (fun c35 => ?_)
            · replace hw := hw.1 c35
              exact b_L_lines_154 l C0 hK34 _ _ _ _ _ _ hw Z (lv_sub hl [0, 1, 2] rfl)
            · replace hw := hw.2 c35
              exact b_L_lines_152 l C0 _ _ _ _ hw Z (lv_sub hl [] rfl)
  · replace hw := hw.2 c20
    refine lv_iconst (v := 0) hx hb dL_lines_82 (by decide) ?_
    exact z_zret C0 Z (by decide) hw dL_lines_83
set_option maxRecDepth 100000 in
set_option maxHeartbeats 4000000 in
theorem b_L_lines_34 {p : Program} (l : Launch) {e : Env} {s : State} {m : MethodId} {args : Array Value} {below : List Frame} {meth : Method} {c : Code} {G : zG}   (C0 : Cx G RL cL_lines 4 (some .boolean) p s m args meth c) {Q : Int32 → V3 → Prop} : ∀ (n : Nat) (x1 : Int32) (x2 : Int32) (v : V3) (H : Heap) (locs : List Loc) (ls : Array Slot), w_L_lines_34 Q n x1 x2 v → Zs G s v H locs → lv_has ls 4 [(0, .ref (gad G 7)), (1, .int x1), (2, .int x2)] → W p l e { frames := 5, cells := 0, slots := 0, locals := 127 } s m args below meth c H locs 0 0 (MQ below (QiZ G Q) args s 0 0 (zA G)) (F0 m 34 ls []) := by
  have hx := C0.1
  have hb := C0.2.1
  intro n
  induction n with
  | zero =>
    intro x1 x2 v H locs ls hw Z hl
    exact hw.elim
  | succ n hK34 =>
    intro x1 x2 v H locs ls hw Z hl
    rw [w_L_lines_34] at hw
    refine lv_iload_n hx hb dL_lines_34 rfl (lv_at hl 2 rfl) ?_
    refine lv_bipush (v := 32) hx hb dL_lines_35 (by decide) ?_
    refine lv_icmp_ge (tgt := 160) hx hb dL_lines_37 (by decide) (fun c8 => ?_) (fun c8 => ?_)
    · replace hw := hw.1 c8
      refine lv_aload_n hx hb dL_lines_160 rfl (lv_at hl 0 rfl) ?_
      refine z_get C0 Z in_L rfl 0 (by decide) rfl tm_1_181 (cx_lt C0 (by decide)) rfl rfl dL_lines_161 ?_
      refine lv_bipush (v := 32) hx hb dL_lines_164 (by decide) ?_
      refine z_callVi C0 Z hl.1 (As := [.int 32]) (rest := []) (k_X3_shown l (cx_g C0) hw) (gv_X3_shown tm_4_18) rfl ds_X3_shown ⟨Nat.le_of_ble_eq_true rfl, Nat.le_of_ble_eq_true rfl⟩ (ci := 3) rfl (cx_lt C0 (by decide)) rfl rfl rfl (Nat.le_of_ble_eq_true rfl) ⟨Nat.le_of_ble_eq_true rfl, Nat.le_of_ble_eq_true rfl⟩ dL_lines_166 (fun r10 v9 H locs hw Z => ?_)
      refine lv_iconst (v := (-1)) hx hb dL_lines_169 (by decide) ?_
      refine lv_icmp_ne (tgt := 177) hx hb dL_lines_170 (by decide) (fun c11 => ?_) (fun c11 => ?_)
      · replace hw := hw.1 c11
        refine lv_iconst (v := 0) hx hb dL_lines_177 (by decide) ?_
        exact b_L_lines_178 l C0 _ _ _ _ _ hw Z (lv_sub hl [] rfl)
      · replace hw := hw.2 c11
        refine lv_iconst (v := 1) hx hb dL_lines_173 (by decide) ?_
        refine lv_goto (tgt := 178) hx hb dL_lines_174 (by decide) ?_
        exact b_L_lines_178 l C0 _ _ _ _ _ hw Z (lv_sub hl [] rfl)
    · replace hw := hw.2 c8
      refine lv_aload_n hx hb dL_lines_40 rfl (lv_at hl 0 rfl) ?_
      refine z_get C0 Z in_L rfl 0 (by decide) rfl tm_1_181 (cx_lt C0 (by decide)) rfl rfl dL_lines_41 ?_
      refine lv_iload_n hx hb dL_lines_44 rfl (lv_at hl 2 rfl) ?_
      refine lv_iload_n hx hb dL_lines_45 rfl (lv_at hl 1 rfl) ?_
      refine z_callH C0 Z hl.1 (As := [.ref (gad G 0), .int x2, .int x1]) (rest := []) (k_L_holder l (cx_g C0) hw) (gv_L_holder tm_4_11) ds_L_holder ⟨Nat.le_of_ble_eq_true rfl, Nat.le_of_ble_eq_true rfl⟩ rfl rfl (Nat.le_of_ble_eq_true rfl) ⟨Nat.le_of_ble_eq_true rfl, Nat.le_of_ble_eq_true rfl⟩ dL_lines_46 (fun r14 v13 H locs hw Z => ?_)
      refine lv_istore_n (lv' := [(3, .int r14), (0, .ref (gad G 7)), (1, .int x1), (2, .int x2)]) hx hb dL_lines_49 rfl hl (by decide) rfl (fun ls hl => ?_)
      refine lv_aload_n hx hb dL_lines_50 rfl (lv_at hl 1 rfl) ?_
      refine z_get C0 Z in_L rfl 0 (by decide) rfl tm_1_181 (cx_lt C0 (by decide)) rfl rfl dL_lines_51 ?_
      refine lv_iload_n hx hb dL_lines_54 rfl (lv_at hl 3 rfl) ?_
      refine z_callVi C0 Z hl.1 (As := [.int x2]) (rest := []) (k_X3_shown l (cx_g C0) hw) (gv_X3_shown tm_4_18) rfl ds_X3_shown ⟨Nat.le_of_ble_eq_true rfl, Nat.le_of_ble_eq_true rfl⟩ (ci := 3) rfl (cx_lt C0 (by decide)) rfl rfl rfl (Nat.le_of_ble_eq_true rfl) ⟨Nat.le_of_ble_eq_true rfl, Nat.le_of_ble_eq_true rfl⟩ dL_lines_55 (fun r16 v15 H locs hw Z => ?_)
      refine lv_iload_n hx hb dL_lines_58 rfl (lv_at hl 0 rfl) ?_
      refine lv_if_ge (tgt := 67) hx hb dL_lines_59 (by decide) (fun c17 => ?_) (fun c17 => ?_)
      · replace hw := hw.1 c17
        refine lv_bipush (v := 48) hx hb dL_lines_67 (by decide) ?_
        refine lv_aload_n hx hb dL_lines_69 rfl (lv_at hl 1 rfl) ?_
        refine z_get C0 Z in_L rfl 0 (by decide) rfl tm_1_181 (cx_lt C0 (by decide)) rfl rfl dL_lines_70 ?_
        refine lv_iload_n hx hb dL_lines_73 rfl (lv_at hl 0 rfl) ?_
        refine lv_iconst (v := 0) hx hb dL_lines_74 (by decide) ?_
        refine z_callH C0 Z hl.1 (As := [.ref (gad G 0), .int r14, .int 0]) (rest := [.int 48, .int r16]) (k_L_booking l (cx_g C0) hw) (gv_L_booking tm_2_238) ds_L_booking ⟨Nat.le_of_ble_eq_true rfl, Nat.le_of_ble_eq_true rfl⟩ rfl rfl (Nat.le_of_ble_eq_true rfl) ⟨Nat.le_of_ble_eq_true rfl, Nat.le_of_ble_eq_true rfl⟩ dL_lines_75 (fun r19 v18 H locs hw Z => ?_)
        refine lv_iadd hx hb dL_lines_78 ?_
        exact b_L_lines_79 l C0 hK34 _ _ _ _ _ _ _ _ _ hw Z (lv_sub hl [1, 2, 3, 0] rfl)
      · replace hw := hw.2 c17
        refine lv_bipush (v := 46) hx hb dL_lines_62 (by decide) ?_
        refine lv_goto (tgt := 79) hx hb dL_lines_64 (by decide) ?_
        exact b_L_lines_79 l C0 hK34 _ _ _ _ _ _ _ _ _ hw Z (lv_sub hl [1, 2, 3, 0] rfl)
set_option maxRecDepth 100000 in
set_option maxHeartbeats 4000000 in
theorem k_L_lines (l : Launch) {G : zG} (hg : 116 ≤ gn G)  {v : V3} {Q : Int32 → V3 → Prop} (hw : w_L_lines v Q) : Mz l yL_lines cL_lines 4 (some .boolean) 5 127 G [.ref (gad G 7)] v (QiZ G Q) := by
  rw [w_L_lines] at hw
  refine z_ofW hg (by decide) (Nat.le_of_ble_eq_true rfl) ?_
  intro p e s m args below meth c ls C0 Z hl
  have hx := C0.1
  have hb := C0.2.1
  replace hl : lv_has ls 4 [(0, .ref (gad G 7))] := hl
  generalize s.heap = H at Z ⊢
  generalize ([] : List Loc) = locs at Z ⊢
  refine lv_aload_n hx hb dL_lines_0 rfl (lv_at hl 0 rfl) ?_
  refine z_get C0 Z in_L rfl 0 (by decide) rfl tm_1_181 (cx_lt C0 (by decide)) rfl rfl dL_lines_1 ?_
  refine lv_bipush (v := 7) hx hb dL_lines_4 (by decide) ?_
  refine z_callH C0 Z hl.1 (As := [.ref (gad G 0), .int 7]) (rest := []) (k_L_count l (cx_g C0) hw) (gv_L_count tm_2_93) ds_L_count ⟨Nat.le_of_ble_eq_true rfl, Nat.le_of_ble_eq_true rfl⟩ rfl rfl (Nat.le_of_ble_eq_true rfl) ⟨Nat.le_of_ble_eq_true rfl, Nat.le_of_ble_eq_true rfl⟩ dL_lines_6 (fun r2 v1 H locs hw Z => ?_)
  refine lv_aload_n hx hb dL_lines_9 rfl (lv_at hl 0 rfl) ?_
  refine lv_bipush (v := 20) hx hb dL_lines_10 (by decide) ?_
  refine z_callVi C0 Z hl.1 (As := [.int 20]) (rest := [.int r2]) (k_L_draw l (cx_g C0) hw) (gv_L_draw tm_1_204) rfl ds_L_draw ⟨Nat.le_of_ble_eq_true rfl, Nat.le_of_ble_eq_true rfl⟩ (ci := 4) rfl (cx_lt C0 (by decide)) rfl rfl rfl (Nat.le_of_ble_eq_true rfl) ⟨Nat.le_of_ble_eq_true rfl, Nat.le_of_ble_eq_true rfl⟩ dL_lines_12 (fun r4 v3 H locs hw Z => ?_)
  refine lv_iadd hx hb dL_lines_15 ?_
  refine lv_istore_n (lv' := [(1, .int (r2 + r4)), (0, .ref (gad G 7))]) hx hb dL_lines_16 rfl hl (by decide) rfl (fun ls hl => ?_)
  refine lv_aload_n hx hb dL_lines_17 rfl (lv_at hl 1 rfl) ?_
  refine z_get C0 Z in_L rfl 0 (by decide) rfl tm_1_181 (cx_lt C0 (by decide)) rfl rfl dL_lines_18 ?_
  refine lv_iload_n hx hb dL_lines_21 rfl (lv_at hl 0 rfl) ?_
  refine z_callH C0 Z hl.1 (As := [.ref (gad G 0), .int (r2 + r4)]) (rest := []) (k_L_show l (cx_g C0) hw) (gv_L_show tm_4_0) ds_L_show ⟨Nat.le_of_ble_eq_true rfl, Nat.le_of_ble_eq_true rfl⟩ rfl rfl (Nat.le_of_ble_eq_true rfl) ⟨Nat.le_of_ble_eq_true rfl, Nat.le_of_ble_eq_true rfl⟩ dL_lines_22 (fun r6 v5 H locs hw Z => ?_)
  refine lv_bipush (v := 32) hx hb dL_lines_25 (by decide) ?_
  refine lv_icmp_eq (tgt := 32) hx hb dL_lines_27 (by decide) (fun c7 => ?_) (fun c7 => ?_)
  · replace hw := hw.1 c7
    refine lv_iconst (v := 0) hx hb dL_lines_32 (by decide) ?_
    refine lv_istore_n (lv' := [(2, .int 0), (1, .int (r2 + r4)), (0, .ref (gad G 7))]) hx hb dL_lines_33 rfl hl (by decide) rfl (fun ls hl => ?_)
    obtain ⟨m34, hw⟩ := hw
    exact b_L_lines_34 l C0 m34 _ _ _ _ _ _ hw Z (lv_sub hl [2, 1, 0] rfl)
  · replace hw := hw.2 c7
    refine lv_iconst (v := 0) hx hb dL_lines_30 (by decide) ?_
    exact z_zret C0 Z (by decide) hw dL_lines_31
