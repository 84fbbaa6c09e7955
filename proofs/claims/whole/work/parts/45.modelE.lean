-- X4_nextToken: room (2, 45)
theorem dX4_nextToken_0 : decode cX4_nextToken 0 = .ok (.aload_n 0, 1) := by decide +kernel
theorem dX4_nextToken_1 : decode cX4_nextToken 1 = .ok (.aload_n 0, 1) := by decide +kernel
theorem dX4_nextToken_2 : decode cX4_nextToken 2 = .ok (.getfield 90, 3) := by decide +kernel
theorem dX4_nextToken_5 : decode cX4_nextToken 5 = .ok (.invokevirtual 93, 3) := by decide +kernel
theorem dX4_nextToken_8 : decode cX4_nextToken 8 = .ok (.bipush 32, 2) := by decide +kernel
theorem dX4_nextToken_10 : decode cX4_nextToken 10 = .ok (.if_icmp .eq 16, 3) := by decide +kernel
theorem dX4_nextToken_13 : decode cX4_nextToken 13 = .ok (.aload_n 0, 1) := by decide +kernel
theorem dX4_nextToken_14 : decode cX4_nextToken 14 = .ok (.aload_n 0, 1) := by decide +kernel
theorem dX4_nextToken_15 : decode cX4_nextToken 15 = .ok (.getfield 90, 3) := by decide +kernel
theorem dX4_nextToken_18 : decode cX4_nextToken 18 = .ok (.invokevirtual 93, 3) := by decide +kernel
theorem dX4_nextToken_21 : decode cX4_nextToken 21 = .ok (.bipush 10, 2) := by decide +kernel
theorem dX4_nextToken_23 : decode cX4_nextToken 23 = .ok (.if_icmp .ne 16, 3) := by decide +kernel
theorem dX4_nextToken_26 : decode cX4_nextToken 26 = .ok (.aload_n 0, 1) := by decide +kernel
theorem dX4_nextToken_27 : decode cX4_nextToken 27 = .ok (.dup, 1) := by decide +kernel
theorem dX4_nextToken_28 : decode cX4_nextToken 28 = .ok (.getfield 90, 3) := by decide +kernel
theorem dX4_nextToken_31 : decode cX4_nextToken 31 = .ok (.iconst 1, 1) := by decide +kernel
theorem dX4_nextToken_32 : decode cX4_nextToken 32 = .ok (.iadd, 1) := by decide +kernel
theorem dX4_nextToken_33 : decode cX4_nextToken 33 = .ok (.putfield 90, 3) := by decide +kernel
theorem dX4_nextToken_36 : decode cX4_nextToken 36 = .ok (.goto (-36), 3) := by decide +kernel
theorem dX4_nextToken_39 : decode cX4_nextToken 39 = .ok (.aload_n 0, 1) := by decide +kernel
theorem dX4_nextToken_40 : decode cX4_nextToken 40 = .ok (.aload_n 0, 1) := by decide +kernel
theorem dX4_nextToken_41 : decode cX4_nextToken 41 = .ok (.getfield 90, 3) := by decide +kernel
theorem dX4_nextToken_44 : decode cX4_nextToken 44 = .ok (.putfield 96, 3) := by decide +kernel
theorem dX4_nextToken_47 : decode cX4_nextToken 47 = .ok (.aload_n 0, 1) := by decide +kernel
theorem dX4_nextToken_48 : decode cX4_nextToken 48 = .ok (.iconst 0, 1) := by decide +kernel
theorem dX4_nextToken_49 : decode cX4_nextToken 49 = .ok (.putfield 99, 3) := by decide +kernel
theorem dX4_nextToken_52 : decode cX4_nextToken 52 = .ok (.aload_n 0, 1) := by decide +kernel
theorem dX4_nextToken_53 : decode cX4_nextToken 53 = .ok (.lconst 0, 1) := by decide +kernel
theorem dX4_nextToken_54 : decode cX4_nextToken 54 = .ok (.putfield 102, 3) := by decide +kernel
theorem dX4_nextToken_57 : decode cX4_nextToken 57 = .ok (.aload_n 0, 1) := by decide +kernel
theorem dX4_nextToken_58 : decode cX4_nextToken 58 = .ok (.iconst 0, 1) := by decide +kernel
theorem dX4_nextToken_59 : decode cX4_nextToken 59 = .ok (.putfield 106, 3) := by decide +kernel
theorem dX4_nextToken_62 : decode cX4_nextToken 62 = .ok (.aload_n 0, 1) := by decide +kernel
theorem dX4_nextToken_63 : decode cX4_nextToken 63 = .ok (.aload_n 0, 1) := by decide +kernel
theorem dX4_nextToken_64 : decode cX4_nextToken 64 = .ok (.getfield 90, 3) := by decide +kernel
theorem dX4_nextToken_67 : decode cX4_nextToken 67 = .ok (.invokevirtual 93, 3) := by decide +kernel
theorem dX4_nextToken_70 : decode cX4_nextToken 70 = .ok (.istore_n 1, 1) := by decide +kernel
theorem dX4_nextToken_71 : decode cX4_nextToken 71 = .ok (.iload_n 1, 1) := by decide +kernel
theorem dX4_nextToken_72 : decode cX4_nextToken 72 = .ok (.iconst (-1), 1) := by decide +kernel
theorem dX4_nextToken_73 : decode cX4_nextToken 73 = .ok (.if_icmp .ne 11, 3) := by decide +kernel
theorem dX4_nextToken_76 : decode cX4_nextToken 76 = .ok (.aload_n 0, 1) := by decide +kernel
theorem dX4_nextToken_77 : decode cX4_nextToken 77 = .ok (.iconst 0, 1) := by decide +kernel
theorem dX4_nextToken_78 : decode cX4_nextToken 78 = .ok (.putfield 109, 3) := by decide +kernel
theorem dX4_nextToken_81 : decode cX4_nextToken 81 = .ok (.goto 197, 3) := by decide +kernel
theorem dX4_nextToken_84 : decode cX4_nextToken 84 = .ok (.iload_n 1, 1) := by decide +kernel
theorem dX4_nextToken_85 : decode cX4_nextToken 85 = .ok (.invokestatic 112, 3) := by decide +kernel
theorem dX4_nextToken_88 : decode cX4_nextToken 88 = .ok (.ifCond .eq 87, 3) := by decide +kernel
theorem dX4_nextToken_91 : decode cX4_nextToken 91 = .ok (.aload_n 0, 1) := by decide +kernel
theorem dX4_nextToken_92 : decode cX4_nextToken 92 = .ok (.iconst 2, 1) := by decide +kernel
theorem dX4_nextToken_93 : decode cX4_nextToken 93 = .ok (.putfield 109, 3) := by decide +kernel
theorem dX4_nextToken_96 : decode cX4_nextToken 96 = .ok (.aload_n 0, 1) := by decide +kernel
theorem dX4_nextToken_97 : decode cX4_nextToken 97 = .ok (.aload_n 0, 1) := by decide +kernel
theorem dX4_nextToken_98 : decode cX4_nextToken 98 = .ok (.getfield 90, 3) := by decide +kernel
theorem dX4_nextToken_101 : decode cX4_nextToken 101 = .ok (.invokevirtual 93, 3) := by decide +kernel
theorem dX4_nextToken_104 : decode cX4_nextToken 104 = .ok (.invokestatic 112, 3) := by decide +kernel
theorem dX4_nextToken_107 : decode cX4_nextToken 107 = .ok (.ifCond .eq 171, 3) := by decide +kernel
theorem dX4_nextToken_110 : decode cX4_nextToken 110 = .ok (.aload_n 0, 1) := by decide +kernel
theorem dX4_nextToken_111 : decode cX4_nextToken 111 = .ok (.aload_n 0, 1) := by decide +kernel
theorem dX4_nextToken_112 : decode cX4_nextToken 112 = .ok (.getfield 99, 3) := by decide +kernel
theorem dX4_nextToken_115 : decode cX4_nextToken 115 = .ok (.bipush 11, 2) := by decide +kernel
theorem dX4_nextToken_117 : decode cX4_nextToken 117 = .ok (.if_icmp .ge 28, 3) := by decide +kernel
theorem dX4_nextToken_120 : decode cX4_nextToken 120 = .ok (.ldc2_w 116, 3) := by decide +kernel
theorem dX4_nextToken_123 : decode cX4_nextToken 123 = .ok (.aload_n 0, 1) := by decide +kernel
theorem dX4_nextToken_124 : decode cX4_nextToken 124 = .ok (.getfield 102, 3) := by decide +kernel
theorem dX4_nextToken_127 : decode cX4_nextToken 127 = .ok (.lmul, 1) := by decide +kernel
theorem dX4_nextToken_128 : decode cX4_nextToken 128 = .ok (.aload_n 0, 1) := by decide +kernel
theorem dX4_nextToken_129 : decode cX4_nextToken 129 = .ok (.aload_n 0, 1) := by decide +kernel
theorem dX4_nextToken_130 : decode cX4_nextToken 130 = .ok (.getfield 90, 3) := by decide +kernel
theorem dX4_nextToken_133 : decode cX4_nextToken 133 = .ok (.invokevirtual 93, 3) := by decide +kernel
theorem dX4_nextToken_136 : decode cX4_nextToken 136 = .ok (.i2l, 1) := by decide +kernel
theorem dX4_nextToken_137 : decode cX4_nextToken 137 = .ok (.ladd, 1) := by decide +kernel
theorem dX4_nextToken_138 : decode cX4_nextToken 138 = .ok (.ldc2_w 118, 3) := by decide +kernel
theorem dX4_nextToken_141 : decode cX4_nextToken 141 = .ok (.lsub, 1) := by decide +kernel
theorem dX4_nextToken_142 : decode cX4_nextToken 142 = .ok (.goto 7, 3) := by decide +kernel
theorem dX4_nextToken_145 : decode cX4_nextToken 145 = .ok (.aload_n 0, 1) := by decide +kernel
theorem dX4_nextToken_146 : decode cX4_nextToken 146 = .ok (.getfield 102, 3) := by decide +kernel
theorem dX4_nextToken_149 : decode cX4_nextToken 149 = .ok (.putfield 102, 3) := by decide +kernel
theorem dX4_nextToken_152 : decode cX4_nextToken 152 = .ok (.aload_n 0, 1) := by decide +kernel
theorem dX4_nextToken_153 : decode cX4_nextToken 153 = .ok (.dup, 1) := by decide +kernel
theorem dX4_nextToken_154 : decode cX4_nextToken 154 = .ok (.getfield 99, 3) := by decide +kernel
theorem dX4_nextToken_157 : decode cX4_nextToken 157 = .ok (.iconst 1, 1) := by decide +kernel
theorem dX4_nextToken_158 : decode cX4_nextToken 158 = .ok (.iadd, 1) := by decide +kernel
theorem dX4_nextToken_159 : decode cX4_nextToken 159 = .ok (.putfield 99, 3) := by decide +kernel
theorem dX4_nextToken_162 : decode cX4_nextToken 162 = .ok (.aload_n 0, 1) := by decide +kernel
theorem dX4_nextToken_163 : decode cX4_nextToken 163 = .ok (.dup, 1) := by decide +kernel
theorem dX4_nextToken_164 : decode cX4_nextToken 164 = .ok (.getfield 90, 3) := by decide +kernel
theorem dX4_nextToken_167 : decode cX4_nextToken 167 = .ok (.iconst 1, 1) := by decide +kernel
theorem dX4_nextToken_168 : decode cX4_nextToken 168 = .ok (.iadd, 1) := by decide +kernel
theorem dX4_nextToken_169 : decode cX4_nextToken 169 = .ok (.putfield 90, 3) := by decide +kernel
theorem dX4_nextToken_172 : decode cX4_nextToken 172 = .ok (.goto (-76), 3) := by decide +kernel
theorem dX4_nextToken_175 : decode cX4_nextToken 175 = .ok (.iload_n 1, 1) := by decide +kernel
theorem dX4_nextToken_176 : decode cX4_nextToken 176 = .ok (.invokestatic 120, 3) := by decide +kernel
theorem dX4_nextToken_179 : decode cX4_nextToken 179 = .ok (.ifCond .eq 74, 3) := by decide +kernel
theorem dX4_nextToken_182 : decode cX4_nextToken 182 = .ok (.aload_n 0, 1) := by decide +kernel
theorem dX4_nextToken_183 : decode cX4_nextToken 183 = .ok (.iconst 3, 1) := by decide +kernel
theorem dX4_nextToken_184 : decode cX4_nextToken 184 = .ok (.putfield 109, 3) := by decide +kernel
theorem dX4_nextToken_187 : decode cX4_nextToken 187 = .ok (.aload_n 0, 1) := by decide +kernel
theorem dX4_nextToken_188 : decode cX4_nextToken 188 = .ok (.aload_n 0, 1) := by decide +kernel
theorem dX4_nextToken_189 : decode cX4_nextToken 189 = .ok (.getfield 90, 3) := by decide +kernel
theorem dX4_nextToken_192 : decode cX4_nextToken 192 = .ok (.invokevirtual 93, 3) := by decide +kernel
theorem dX4_nextToken_195 : decode cX4_nextToken 195 = .ok (.invokestatic 120, 3) := by decide +kernel
theorem dX4_nextToken_198 : decode cX4_nextToken 198 = .ok (.ifCond .eq 80, 3) := by decide +kernel
theorem dX4_nextToken_201 : decode cX4_nextToken 201 = .ok (.aload_n 0, 1) := by decide +kernel
theorem dX4_nextToken_202 : decode cX4_nextToken 202 = .ok (.aload_n 0, 1) := by decide +kernel
theorem dX4_nextToken_203 : decode cX4_nextToken 203 = .ok (.getfield 106, 3) := by decide +kernel
theorem dX4_nextToken_206 : decode cX4_nextToken 206 = .ok (.ldc 123, 2) := by decide +kernel
theorem dX4_nextToken_208 : decode cX4_nextToken 208 = .ok (.if_icmp .le 10, 3) := by decide +kernel
theorem dX4_nextToken_211 : decode cX4_nextToken 211 = .ok (.aload_n 0, 1) := by decide +kernel
theorem dX4_nextToken_212 : decode cX4_nextToken 212 = .ok (.getfield 106, 3) := by decide +kernel
theorem dX4_nextToken_215 : decode cX4_nextToken 215 = .ok (.goto 22, 3) := by decide +kernel
theorem dX4_nextToken_218 : decode cX4_nextToken 218 = .ok (.bipush 10, 2) := by decide +kernel
theorem dX4_nextToken_220 : decode cX4_nextToken 220 = .ok (.aload_n 0, 1) := by decide +kernel
theorem dX4_nextToken_221 : decode cX4_nextToken 221 = .ok (.getfield 106, 3) := by decide +kernel
theorem dX4_nextToken_224 : decode cX4_nextToken 224 = .ok (.imul, 1) := by decide +kernel
theorem dX4_nextToken_225 : decode cX4_nextToken 225 = .ok (.aload_n 0, 1) := by decide +kernel
theorem dX4_nextToken_226 : decode cX4_nextToken 226 = .ok (.aload_n 0, 1) := by decide +kernel
theorem dX4_nextToken_227 : decode cX4_nextToken 227 = .ok (.getfield 90, 3) := by decide +kernel
theorem dX4_nextToken_230 : decode cX4_nextToken 230 = .ok (.invokevirtual 93, 3) := by decide +kernel
theorem dX4_nextToken_233 : decode cX4_nextToken 233 = .ok (.iadd, 1) := by decide +kernel
theorem dX4_nextToken_234 : decode cX4_nextToken 234 = .ok (.bipush 48, 2) := by decide +kernel
theorem dX4_nextToken_236 : decode cX4_nextToken 236 = .ok (.isub, 1) := by decide +kernel
theorem dX4_nextToken_237 : decode cX4_nextToken 237 = .ok (.putfield 106, 3) := by decide +kernel
theorem dX4_nextToken_240 : decode cX4_nextToken 240 = .ok (.aload_n 0, 1) := by decide +kernel
theorem dX4_nextToken_241 : decode cX4_nextToken 241 = .ok (.dup, 1) := by decide +kernel
theorem dX4_nextToken_242 : decode cX4_nextToken 242 = .ok (.getfield 90, 3) := by decide +kernel
theorem dX4_nextToken_245 : decode cX4_nextToken 245 = .ok (.iconst 1, 1) := by decide +kernel
theorem dX4_nextToken_246 : decode cX4_nextToken 246 = .ok (.iadd, 1) := by decide +kernel
theorem dX4_nextToken_247 : decode cX4_nextToken 247 = .ok (.putfield 90, 3) := by decide +kernel
theorem dX4_nextToken_250 : decode cX4_nextToken 250 = .ok (.goto (-63), 3) := by decide +kernel
theorem dX4_nextToken_253 : decode cX4_nextToken 253 = .ok (.aload_n 0, 1) := by decide +kernel
theorem dX4_nextToken_254 : decode cX4_nextToken 254 = .ok (.iload_n 1, 1) := by decide +kernel
theorem dX4_nextToken_255 : decode cX4_nextToken 255 = .ok (.bipush 59, 2) := by decide +kernel
theorem dX4_nextToken_257 : decode cX4_nextToken 257 = .ok (.if_icmp .ne 7, 3) := by decide +kernel
theorem dX4_nextToken_260 : decode cX4_nextToken 260 = .ok (.iconst 4, 1) := by decide +kernel
theorem dX4_nextToken_261 : decode cX4_nextToken 261 = .ok (.goto 4, 3) := by decide +kernel
theorem dX4_nextToken_264 : decode cX4_nextToken 264 = .ok (.iconst 1, 1) := by decide +kernel
theorem dX4_nextToken_265 : decode cX4_nextToken 265 = .ok (.putfield 109, 3) := by decide +kernel
theorem dX4_nextToken_268 : decode cX4_nextToken 268 = .ok (.aload_n 0, 1) := by decide +kernel
theorem dX4_nextToken_269 : decode cX4_nextToken 269 = .ok (.dup, 1) := by decide +kernel
theorem dX4_nextToken_270 : decode cX4_nextToken 270 = .ok (.getfield 90, 3) := by decide +kernel
theorem dX4_nextToken_273 : decode cX4_nextToken 273 = .ok (.iconst 1, 1) := by decide +kernel
theorem dX4_nextToken_274 : decode cX4_nextToken 274 = .ok (.iadd, 1) := by decide +kernel
theorem dX4_nextToken_275 : decode cX4_nextToken 275 = .ok (.putfield 90, 3) := by decide +kernel
theorem dX4_nextToken_278 : decode cX4_nextToken 278 = .ok (.return_, 1) := by decide +kernel
def w_X4_nextToken_26  (Q : V3 → Prop) (K0 : V3 → Prop) (v : V3) : Prop := ∀ v4 : V3, v4 = up2 v 7 14 ((v 7 14) + 1) → K0 v4
def w_X4_nextToken_278  (Q : V3 → Prop) (v : V3) : Prop := Q v
def w_X4_nextToken_265  (Q : V3 → Prop) (s1 : Int32) (v : V3) : Prop := ∀ v22 : V3, v22 = up2 v 7 16 s1 → ∀ v23 : V3, v23 = up2 v22 7 14 ((v22 7 14) + 1) → w_X4_nextToken_278 Q v23
def w_X4_nextToken_237  (Q : V3 → Prop) (K187 : V3 → Prop) (s1 : Int32) (v : V3) : Prop := ∀ v33 : V3, v33 = up2 v 7 18 s1 → ∀ v34 : V3, v34 = up2 v33 7 14 ((v33 7 14) + 1) → K187 v34
def w_X4_nextToken_187  (Q : V3 → Prop) : Nat → V3 → Prop
  | 0, _ => False
  | n187 + 1, v => w_X4_byteAt (v 7 14) v (fun r26 v25 => w_X4_isDigit r26 v25 (fun r28 v27 => ((r28 = 0 → w_X4_nextToken_278 Q v27) ∧ (¬ r28 = 0 → (((v27 7 18) ≤ 10000000 → w_X4_byteAt (v27 7 14) v27 (fun r32 v31 => w_X4_nextToken_237 Q (w_X4_nextToken_187 Q n187) (((10 * (v27 7 18)) + r32) - 48) v31)) ∧ (¬ (v27 7 18) ≤ 10000000 → w_X4_nextToken_237 Q (w_X4_nextToken_187 Q n187) (v27 7 18) v27))))))
def w_X4_nextToken_149  (Q : V3 → Prop) (K96 : V3 → Prop) (s1 : Int64) (v : V3) : Prop := ∀ v42 : V3, v42 = up2 (up2 v 7 21 (hi64 s1)) 7 34 (lo64 s1) → ∀ v43 : V3, v43 = up2 v42 7 17 ((v42 7 17) + 1) → ∀ v44 : V3, v44 = up2 v43 7 14 ((v43 7 14) + 1) → K96 v44
def w_X4_nextToken_96  (Q : V3 → Prop) : Nat → V3 → Prop
  | 0, _ => False
  | n96 + 1, v => w_X4_byteAt (v 7 14) v (fun r37 v36 => w_X4_isLetter r37 v36 (fun r39 v38 => ((r39 = 0 → w_X4_nextToken_278 Q v38) ∧ (¬ r39 = 0 → ((11 ≤ (v38 7 17) → w_X4_nextToken_149 Q (w_X4_nextToken_96 Q n96) (mk64 (v38 7 21) (v38 7 34)) v38) ∧ (¬ 11 ≤ (v38 7 17) → w_X4_byteAt (v38 7 14) v38 (fun r46 v45 => w_X4_nextToken_149 Q (w_X4_nextToken_96 Q n96) (((27 * (mk64 (v38 7 21) (v38 7 34))) + ((r46).toInt64)) - 96) v45)))))))
def w_X4_nextToken_0  (Q : V3 → Prop) : Nat → V3 → Prop
  | 0, _ => False
  | n0 + 1, v => w_X4_byteAt (v 7 14) v (fun r2 v1 => ((r2 = 32 → w_X4_nextToken_26 Q (w_X4_nextToken_0 Q n0) v1) ∧ (¬ r2 = 32 → w_X4_byteAt (v1 7 14) v1 (fun r6 v5 => ((¬ r6 = 10 → ∀ v8 : V3, v8 = up2 v5 7 15 (v5 7 14) → ∀ v9 : V3, v9 = up2 v8 7 17 0 → ∀ v10 : V3, v10 = up2 (up2 v9 7 21 (hi64 0)) 7 34 (lo64 0) → ∀ v11 : V3, v11 = up2 v10 7 18 0 → w_X4_byteAt (v11 7 14) v11 (fun r13 v12 => ((¬ r13 = (-1) → w_X4_isLetter r13 v12 (fun r16 v15 => ((r16 = 0 → w_X4_isDigit r13 v15 (fun r19 v18 => ((r19 = 0 → ((¬ r13 = 59 → w_X4_nextToken_265 Q 1 v18) ∧ (r13 = 59 → w_X4_nextToken_265 Q 4 v18))) ∧ (¬ r19 = 0 → ∀ v24 : V3, v24 = up2 v18 7 16 3 → ∃ m187 : Nat, w_X4_nextToken_187 Q m187 v24)))) ∧ (¬ r16 = 0 → ∀ v35 : V3, v35 = up2 v15 7 16 2 → ∃ m96 : Nat, w_X4_nextToken_96 Q m96 v35)))) ∧ (r13 = (-1) → ∀ v47 : V3, v47 = up2 v12 7 16 0 → w_X4_nextToken_278 Q v47)))) ∧ (r6 = 10 → w_X4_nextToken_26 Q (w_X4_nextToken_0 Q n0) v5))))))
def w_X4_nextToken  (v : V3) (Q : V3 → Prop) : Prop := ∃ m0 : Nat, w_X4_nextToken_0 Q m0 v
set_option maxRecDepth 100000 in
set_option maxHeartbeats 4000000 in
theorem b_X4_nextToken_26 {p : Program} (l : Launch) {e : Env} {s : State} {m : MethodId} {args : Array Value} {below : List Frame} {meth : Method} {c : Code} {G : zG}   (C0 : Cx G RX4 cX4_nextToken 2 none p s m args meth c) {Q : V3 → Prop} {K0 : V3 → Prop} (hK0 : ∀ (v : V3) (H : Heap) (locs : List Loc) (ls : Array Slot), K0 v → Zs G s v H locs → lv_has ls 2 [(0, .ref (gad G 7))] → W p l e { frames := 2, cells := 0, slots := 0, locals := 45 } s m args below meth c H locs 0 0 (MQ below (QvZ G Q) args s 0 0 (zA G)) (F0 m 0 ls [])) : ∀ (v : V3) (H : Heap) (locs : List Loc) (ls : Array Slot), w_X4_nextToken_26 Q K0 v → Zs G s v H locs → lv_has ls 2 [(0, .ref (gad G 7))] → W p l e { frames := 2, cells := 0, slots := 0, locals := 45 } s m args below meth c H locs 0 0 (MQ below (QvZ G Q) args s 0 0 (zA G)) (F0 m 26 ls []) := by
  have hx := C0.1
  have hb := C0.2.1
  intro v H locs ls hw Z hl
  rw [w_X4_nextToken_26] at hw
  refine lv_aload_n hx hb dX4_nextToken_26 rfl (lv_at hl 0 rfl) ?_
  refine lv_dup hx hb dX4_nextToken_27 rfl ?_
  refine z_get C0 Z in_X4 rfl 14 (by decide) rfl tm_4_217 (cx_lt C0 (by decide)) rfl rfl dX4_nextToken_28 ?_
  refine lv_iconst (v := 1) hx hb dX4_nextToken_31 (by decide) ?_
  refine lv_iadd hx hb dX4_nextToken_32 ?_
  refine z_put C0 Z in_X4 tyX4_ok nmX4 rfl 14 (by decide) rfl rfl tm_4_217 (cx_lt C0 (by decide)) rfl p_X4_14 (fun c' h => up2_off _ _ _ h) rfl rfl (Nat.le_of_ble_eq_true rfl) dX4_nextToken_33 (fun H locs Z => ?_)
  obtain ⟨v4, ev4⟩ : ∃ z : V3, z = up2 v 7 14 ((v 7 14) + 1) := ⟨_, rfl⟩
  rw [← ev4] at Z
  replace hw := hw v4 ev4
  refine lv_goto (tgt := 0) hx hb dX4_nextToken_36 (by decide) ?_
  exact hK0 _ _ _ _ hw Z (lv_sub hl [0] rfl)
set_option maxRecDepth 100000 in
set_option maxHeartbeats 4000000 in
theorem b_X4_nextToken_278 {p : Program} (l : Launch) {e : Env} {s : State} {m : MethodId} {args : Array Value} {below : List Frame} {meth : Method} {c : Code} {G : zG}   (C0 : Cx G RX4 cX4_nextToken 2 none p s m args meth c) {Q : V3 → Prop} : ∀ (v : V3) (H : Heap) (locs : List Loc) (ls : Array Slot), w_X4_nextToken_278 Q v → Zs G s v H locs → lv_has ls 2 [] → W p l e { frames := 2, cells := 0, slots := 0, locals := 45 } s m args below meth c H locs 0 0 (MQ below (QvZ G Q) args s 0 0 (zA G)) (F0 m 278 ls []) := by
  have hx := C0.1
  have hb := C0.2.1
  intro v H locs ls hw Z hl
  rw [w_X4_nextToken_278] at hw
  exact z_vret C0 Z hw dX4_nextToken_278
set_option maxRecDepth 100000 in
set_option maxHeartbeats 4000000 in
theorem b_X4_nextToken_265 {p : Program} (l : Launch) {e : Env} {s : State} {m : MethodId} {args : Array Value} {below : List Frame} {meth : Method} {c : Code} {G : zG}   (C0 : Cx G RX4 cX4_nextToken 2 none p s m args meth c) {Q : V3 → Prop} : ∀ (s1 : Int32) (v : V3) (H : Heap) (locs : List Loc) (ls : Array Slot), w_X4_nextToken_265 Q s1 v → Zs G s v H locs → lv_has ls 2 [(0, .ref (gad G 7))] → W p l e { frames := 2, cells := 0, slots := 0, locals := 45 } s m args below meth c H locs 0 0 (MQ below (QvZ G Q) args s 0 0 (zA G)) (F0 m 265 ls [.int s1, .ref (gad G 7)]) := by
  have hx := C0.1
  have hb := C0.2.1
  intro s1 v H locs ls hw Z hl
  rw [w_X4_nextToken_265] at hw
  refine z_put C0 Z in_X4 tyX4_ok nmX4 rfl 16 (by decide) rfl rfl tm_4_219 (cx_lt C0 (by decide)) rfl p_X4_16 (fun c' h => up2_off _ _ _ h) rfl rfl (Nat.le_of_ble_eq_true rfl) dX4_nextToken_265 (fun H locs Z => ?_)
  obtain ⟨v22, ev22⟩ : ∃ z : V3, z = up2 v 7 16 s1 := ⟨_, rfl⟩
  rw [← ev22] at Z
  replace hw := hw v22 ev22
  refine lv_aload_n hx hb dX4_nextToken_268 rfl (lv_at hl 0 rfl) ?_
  refine lv_dup hx hb dX4_nextToken_269 rfl ?_
  refine z_get C0 Z in_X4 rfl 14 (by decide) rfl tm_4_217 (cx_lt C0 (by decide)) rfl rfl dX4_nextToken_270 ?_
  refine lv_iconst (v := 1) hx hb dX4_nextToken_273 (by decide) ?_
  refine lv_iadd hx hb dX4_nextToken_274 ?_
  refine z_put C0 Z in_X4 tyX4_ok nmX4 rfl 14 (by decide) rfl rfl tm_4_217 (cx_lt C0 (by decide)) rfl p_X4_14 (fun c' h => up2_off _ _ _ h) rfl rfl (Nat.le_of_ble_eq_true rfl) dX4_nextToken_275 (fun H locs Z => ?_)
  obtain ⟨v23, ev23⟩ : ∃ z : V3, z = up2 v22 7 14 ((v22 7 14) + 1) := ⟨_, rfl⟩
  rw [← ev23] at Z
  replace hw := hw v23 ev23
  exact b_X4_nextToken_278 l C0 _ _ _ _ hw Z (lv_sub hl [] rfl)
set_option maxRecDepth 100000 in
set_option maxHeartbeats 4000000 in
theorem b_X4_nextToken_237 {p : Program} (l : Launch) {e : Env} {s : State} {m : MethodId} {args : Array Value} {below : List Frame} {meth : Method} {c : Code} {G : zG}   (C0 : Cx G RX4 cX4_nextToken 2 none p s m args meth c) {Q : V3 → Prop} {K187 : V3 → Prop} (hK187 : ∀ (v : V3) (H : Heap) (locs : List Loc) (ls : Array Slot), K187 v → Zs G s v H locs → lv_has ls 2 [(0, .ref (gad G 7))] → W p l e { frames := 2, cells := 0, slots := 0, locals := 45 } s m args below meth c H locs 0 0 (MQ below (QvZ G Q) args s 0 0 (zA G)) (F0 m 187 ls [])) : ∀ (s1 : Int32) (v : V3) (H : Heap) (locs : List Loc) (ls : Array Slot), w_X4_nextToken_237 Q K187 s1 v → Zs G s v H locs → lv_has ls 2 [(0, .ref (gad G 7))] → W p l e { frames := 2, cells := 0, slots := 0, locals := 45 } s m args below meth c H locs 0 0 (MQ below (QvZ G Q) args s 0 0 (zA G)) (F0 m 237 ls [.int s1, .ref (gad G 7)]) := by
  have hx := C0.1
  have hb := C0.2.1
  intro s1 v H locs ls hw Z hl
  rw [w_X4_nextToken_237] at hw
  refine z_put C0 Z in_X4 tyX4_ok nmX4 rfl 18 (by decide) rfl rfl tm_4_221 (cx_lt C0 (by decide)) rfl p_X4_18 (fun c' h => up2_off _ _ _ h) rfl rfl (Nat.le_of_ble_eq_true rfl) dX4_nextToken_237 (fun H locs Z => ?_)
  obtain ⟨v33, ev33⟩ : ∃ z : V3, z = up2 v 7 18 s1 := ⟨_, rfl⟩
  rw [← ev33] at Z
  replace hw := hw v33 ev33
  refine lv_aload_n hx hb dX4_nextToken_240 rfl (lv_at hl 0 rfl) ?_
  refine lv_dup hx hb dX4_nextToken_241 rfl ?_
  refine z_get C0 Z in_X4 rfl 14 (by decide) rfl tm_4_217 (cx_lt C0 (by decide)) rfl rfl dX4_nextToken_242 ?_
  refine lv_iconst (v := 1) hx hb dX4_nextToken_245 (by decide) ?_
  refine lv_iadd hx hb dX4_nextToken_246 ?_
  refine z_put C0 Z in_X4 tyX4_ok nmX4 rfl 14 (by decide) rfl rfl tm_4_217 (cx_lt C0 (by decide)) rfl p_X4_14 (fun c' h => up2_off _ _ _ h) rfl rfl (Nat.le_of_ble_eq_true rfl) dX4_nextToken_247 (fun H locs Z => ?_)
  obtain ⟨v34, ev34⟩ : ∃ z : V3, z = up2 v33 7 14 ((v33 7 14) + 1) := ⟨_, rfl⟩
  rw [← ev34] at Z
  replace hw := hw v34 ev34
  refine lv_goto (tgt := 187) hx hb dX4_nextToken_250 (by decide) ?_
  exact hK187 _ _ _ _ hw Z (lv_sub hl [0] rfl)
set_option maxRecDepth 100000 in
set_option maxHeartbeats 4000000 in
theorem b_X4_nextToken_187 {p : Program} (l : Launch) {e : Env} {s : State} {m : MethodId} {args : Array Value} {below : List Frame} {meth : Method} {c : Code} {G : zG}   (C0 : Cx G RX4 cX4_nextToken 2 none p s m args meth c) {Q : V3 → Prop} : ∀ (n : Nat) (v : V3) (H : Heap) (locs : List Loc) (ls : Array Slot), w_X4_nextToken_187 Q n v → Zs G s v H locs → lv_has ls 2 [(0, .ref (gad G 7))] → W p l e { frames := 2, cells := 0, slots := 0, locals := 45 } s m args below meth c H locs 0 0 (MQ below (QvZ G Q) args s 0 0 (zA G)) (F0 m 187 ls []) := by
  have hx := C0.1
  have hb := C0.2.1
  intro n
  induction n with
  | zero =>
    intro v H locs ls hw Z hl
    exact hw.elim
  | succ n hK187 =>
    intro v H locs ls hw Z hl
    rw [w_X4_nextToken_187] at hw
    refine lv_aload_n hx hb dX4_nextToken_187 rfl (lv_at hl 0 rfl) ?_
    refine lv_aload_n hx hb dX4_nextToken_188 rfl (lv_at hl 0 rfl) ?_
    refine z_get C0 Z in_X4 rfl 14 (by decide) rfl tm_4_217 (cx_lt C0 (by decide)) rfl rfl dX4_nextToken_189 ?_
    refine z_callVi C0 Z hl.1 (As := [.int (v 7 14)]) (rest := []) (k_X4_byteAt l (cx_g C0) hw) (gv_X4_byteAt tm_5_97) rfl ds_X4_byteAt ⟨Nat.le_of_ble_eq_true rfl, Nat.le_of_ble_eq_true rfl⟩ (ci := 4) rfl (cx_lt C0 (by decide)) rfl rfl rfl (Nat.le_of_ble_eq_true rfl) ⟨Nat.le_of_ble_eq_true rfl, Nat.le_of_ble_eq_true rfl⟩ dX4_nextToken_192 (fun r26 v25 H locs hw Z => ?_)
    refine z_callSi C0 Z hl.1 (As := [.int r26]) (rest := []) (k_X4_isDigit l (cx_g C0) hw) (gv_X4_isDigit tm_5_108) ds_X4_isDigit ⟨Nat.le_of_ble_eq_true rfl, Nat.le_of_ble_eq_true rfl⟩ rfl rfl (Nat.le_of_ble_eq_true rfl) ⟨Nat.le_of_ble_eq_true rfl, Nat.le_of_ble_eq_true rfl⟩ dX4_nextToken_195 (fun r28 v27 H locs hw Z => ?_)
    refine lv_if_eq (tgt := 278) hx hb dX4_nextToken_198 (by decide) (fun c29 => ?_) (fun c29 => ?_)
    · replace hw := hw.1 c29
      exact b_X4_nextToken_278 l C0 _ _ _ _ hw Z (lv_sub hl [] rfl)
    · replace hw := hw.2 c29
      refine lv_aload_n hx hb dX4_nextToken_201 rfl (lv_at hl 0 rfl) ?_
      refine lv_aload_n hx hb dX4_nextToken_202 rfl (lv_at hl 0 rfl) ?_
      refine z_get C0 Z in_X4 rfl 18 (by decide) rfl tm_4_221 (cx_lt C0 (by decide)) rfl rfl dX4_nextToken_203 ?_
      refine lv_ldc hx hb (cx_own C0) (cx_w C0 tm_5_113) dX4_nextToken_206 ?_
      refine lv_icmp_le (tgt := 218) hx hb dX4_nextToken_208 (by decide) (fun c30 => ?_) (fun c30 => ?_)
      · replace hw := hw.1 c30
        refine lv_bipush (v := 10) hx hb dX4_nextToken_218 (by decide) ?_
        refine lv_aload_n hx hb dX4_nextToken_220 rfl (lv_at hl 0 rfl) ?_
        refine z_get C0 Z in_X4 rfl 18 (by decide) rfl tm_4_221 (cx_lt C0 (by decide)) rfl rfl dX4_nextToken_221 ?_
        refine lv_imul hx hb dX4_nextToken_224 ?_
        refine lv_aload_n hx hb dX4_nextToken_225 rfl (lv_at hl 0 rfl) ?_
        refine lv_aload_n hx hb dX4_nextToken_226 rfl (lv_at hl 0 rfl) ?_
        refine z_get C0 Z in_X4 rfl 14 (by decide) rfl tm_4_217 (cx_lt C0 (by decide)) rfl rfl dX4_nextToken_227 ?_
        refine z_callVi C0 Z hl.1 (As := [.int (v27 7 14)]) (rest := [.int (10 * (v27 7 18)), .ref (gad G 7)]) (k_X4_byteAt l (cx_g C0) hw) (gv_X4_byteAt tm_5_97) rfl ds_X4_byteAt ⟨Nat.le_of_ble_eq_true rfl, Nat.le_of_ble_eq_true rfl⟩ (ci := 4) rfl (cx_lt C0 (by decide)) rfl rfl rfl (Nat.le_of_ble_eq_true rfl) ⟨Nat.le_of_ble_eq_true rfl, Nat.le_of_ble_eq_true rfl⟩ dX4_nextToken_230 (fun r32 v31 H locs hw Z => ?_)
        refine lv_iadd hx hb dX4_nextToken_233 ?_
        refine lv_bipush (v := 48) hx hb dX4_nextToken_234 (by decide) ?_
        refine lv_isub hx hb dX4_nextToken_236 ?_
        exact b_X4_nextToken_237 l C0 hK187 _ _ _ _ _ hw Z (lv_sub hl [0] rfl)
      · replace hw := hw.2 c30
        refine lv_aload_n hx hb dX4_nextToken_211 rfl (lv_at hl 0 rfl) ?_
        refine z_get C0 Z in_X4 rfl 18 (by decide) rfl tm_4_221 (cx_lt C0 (by decide)) rfl rfl dX4_nextToken_212 ?_
        refine lv_goto (tgt := 237) hx hb dX4_nextToken_215 (by decide) ?_
        exact b_X4_nextToken_237 l C0 hK187 _ _ _ _ _ hw Z (lv_sub hl [0] rfl)
set_option maxRecDepth 100000 in
set_option maxHeartbeats 4000000 in
theorem b_X4_nextToken_149 {p : Program} (l : Launch) {e : Env} {s : State} {m : MethodId} {args : Array Value} {below : List Frame} {meth : Method} {c : Code} {G : zG}   (C0 : Cx G RX4 cX4_nextToken 2 none p s m args meth c) {Q : V3 → Prop} {K96 : V3 → Prop} (hK96 : ∀ (v : V3) (H : Heap) (locs : List Loc) (ls : Array Slot), K96 v → Zs G s v H locs → lv_has ls 2 [(0, .ref (gad G 7))] → W p l e { frames := 2, cells := 0, slots := 0, locals := 45 } s m args below meth c H locs 0 0 (MQ below (QvZ G Q) args s 0 0 (zA G)) (F0 m 96 ls [])) : ∀ (s1 : Int64) (v : V3) (H : Heap) (locs : List Loc) (ls : Array Slot), w_X4_nextToken_149 Q K96 s1 v → Zs G s v H locs → lv_has ls 2 [(0, .ref (gad G 7))] → W p l e { frames := 2, cells := 0, slots := 0, locals := 45 } s m args below meth c H locs 0 0 (MQ below (QvZ G Q) args s 0 0 (zA G)) (F0 m 149 ls [.long s1, .ref (gad G 7)]) := by
  have hx := C0.1
  have hb := C0.2.1
  intro s1 v H locs ls hw Z hl
  rw [w_X4_nextToken_149] at hw
  refine z_put C0 Z in_X4 tyX4_ok nmX4 rfl 21 (by decide) rfl rfl tm_4_224 (cx_lt C0 (by decide)) rfl p_X4_21 (fun c' h => (up2_off _ _ _ h).trans (up2_off _ _ _ h)) rfl rfl (Nat.le_of_ble_eq_true rfl) dX4_nextToken_149 (fun H locs Z => ?_)
  obtain ⟨v42, ev42⟩ : ∃ z : V3, z = up2 (up2 v 7 21 (hi64 s1)) 7 34 (lo64 s1) := ⟨_, rfl⟩
  rw [← ev42] at Z
  replace hw := hw v42 ev42
  refine lv_aload_n hx hb dX4_nextToken_152 rfl (lv_at hl 0 rfl) ?_
  refine lv_dup hx hb dX4_nextToken_153 rfl ?_
  refine z_get C0 Z in_X4 rfl 17 (by decide) rfl tm_4_220 (cx_lt C0 (by decide)) rfl rfl dX4_nextToken_154 ?_
  refine lv_iconst (v := 1) hx hb dX4_nextToken_157 (by decide) ?_
  refine lv_iadd hx hb dX4_nextToken_158 ?_
  refine z_put C0 Z in_X4 tyX4_ok nmX4 rfl 17 (by decide) rfl rfl tm_4_220 (cx_lt C0 (by decide)) rfl p_X4_17 (fun c' h => up2_off _ _ _ h) rfl rfl (Nat.le_of_ble_eq_true rfl) dX4_nextToken_159 (fun H locs Z => ?_)
  obtain ⟨v43, ev43⟩ : ∃ z : V3, z = up2 v42 7 17 ((v42 7 17) + 1) := ⟨_, rfl⟩
  rw [← ev43] at Z
  replace hw := hw v43 ev43
  refine lv_aload_n hx hb dX4_nextToken_162 rfl (lv_at hl 0 rfl) ?_
  refine lv_dup hx hb dX4_nextToken_163 rfl ?_
  refine z_get C0 Z in_X4 rfl 14 (by decide) rfl tm_4_217 (cx_lt C0 (by decide)) rfl rfl dX4_nextToken_164 ?_
  refine lv_iconst (v := 1) hx hb dX4_nextToken_167 (by decide) ?_
  refine lv_iadd hx hb dX4_nextToken_168 ?_
  refine z_put C0 Z in_X4 tyX4_ok nmX4 rfl 14 (by decide) rfl rfl tm_4_217 (cx_lt C0 (by decide)) rfl p_X4_14 (fun c' h => up2_off _ _ _ h) rfl rfl (Nat.le_of_ble_eq_true rfl) dX4_nextToken_169 (fun H locs Z => ?_)
  obtain ⟨v44, ev44⟩ : ∃ z : V3, z = up2 v43 7 14 ((v43 7 14) + 1) := ⟨_, rfl⟩
  rw [← ev44] at Z
  replace hw := hw v44 ev44
  refine lv_goto (tgt := 96) hx hb dX4_nextToken_172 (by decide) ?_
  exact hK96 _ _ _ _ hw Z (lv_sub hl [0] rfl)
set_option maxRecDepth 100000 in
set_option maxHeartbeats 4000000 in
theorem b_X4_nextToken_96 {p : Program} (l : Launch) {e : Env} {s : State} {m : MethodId} {args : Array Value} {below : List Frame} {meth : Method} {c : Code} {G : zG}   (C0 : Cx G RX4 cX4_nextToken 2 none p s m args meth c) {Q : V3 → Prop} : ∀ (n : Nat) (v : V3) (H : Heap) (locs : List Loc) (ls : Array Slot), w_X4_nextToken_96 Q n v → Zs G s v H locs → lv_has ls 2 [(0, .ref (gad G 7))] → W p l e { frames := 2, cells := 0, slots := 0, locals := 45 } s m args below meth c H locs 0 0 (MQ below (QvZ G Q) args s 0 0 (zA G)) (F0 m 96 ls []) := by
  have hx := C0.1
  have hb := C0.2.1
  intro n
  induction n with
  | zero =>
    intro v H locs ls hw Z hl
    exact hw.elim
  | succ n hK96 =>
    intro v H locs ls hw Z hl
    rw [w_X4_nextToken_96] at hw
    refine lv_aload_n hx hb dX4_nextToken_96 rfl (lv_at hl 0 rfl) ?_
    refine lv_aload_n hx hb dX4_nextToken_97 rfl (lv_at hl 0 rfl) ?_
    refine z_get C0 Z in_X4 rfl 14 (by decide) rfl tm_4_217 (cx_lt C0 (by decide)) rfl rfl dX4_nextToken_98 ?_
    refine z_callVi C0 Z hl.1 (As := [.int (v 7 14)]) (rest := []) (k_X4_byteAt l (cx_g C0) hw) (gv_X4_byteAt tm_5_97) rfl ds_X4_byteAt ⟨Nat.le_of_ble_eq_true rfl, Nat.le_of_ble_eq_true rfl⟩ (ci := 4) rfl (cx_lt C0 (by decide)) rfl rfl rfl (Nat.le_of_ble_eq_true rfl) ⟨Nat.le_of_ble_eq_true rfl, Nat.le_of_ble_eq_true rfl⟩ dX4_nextToken_101 (fun r37 v36 H locs hw Z => ?_)
    refine z_callSi C0 Z hl.1 (As := [.int r37]) (rest := []) (k_X4_isLetter l (cx_g C0) hw) (gv_X4_isLetter tm_5_101) ds_X4_isLetter ⟨Nat.le_of_ble_eq_true rfl, Nat.le_of_ble_eq_true rfl⟩ rfl rfl (Nat.le_of_ble_eq_true rfl) ⟨Nat.le_of_ble_eq_true rfl, Nat.le_of_ble_eq_true rfl⟩ dX4_nextToken_104 (fun r39 v38 H locs hw Z => ?_)
    refine lv_if_eq (tgt := 278) hx hb dX4_nextToken_107 (by decide) (fun c40 => ?_) (fun c40 => ?_)
    · replace hw := hw.1 c40
      exact b_X4_nextToken_278 l C0 _ _ _ _ hw Z (lv_sub hl [] rfl)
    · replace hw := hw.2 c40
      refine lv_aload_n hx hb dX4_nextToken_110 rfl (lv_at hl 0 rfl) ?_
      refine lv_aload_n hx hb dX4_nextToken_111 rfl (lv_at hl 0 rfl) ?_
      refine z_get C0 Z in_X4 rfl 17 (by decide) rfl tm_4_220 (cx_lt C0 (by decide)) rfl rfl dX4_nextToken_112 ?_
      refine lv_bipush (v := 11) hx hb dX4_nextToken_115 (by decide) ?_
      refine lv_icmp_ge (tgt := 145) hx hb dX4_nextToken_117 (by decide) (fun c41 => ?_) (fun c41 => ?_)
      · replace hw := hw.1 c41
        refine lv_aload_n hx hb dX4_nextToken_145 rfl (lv_at hl 0 rfl) ?_
        refine z_get C0 Z in_X4 rfl 21 (by decide) rfl tm_4_224 (cx_lt C0 (by decide)) rfl rfl dX4_nextToken_146 ?_
        exact b_X4_nextToken_149 l C0 hK96 _ _ _ _ _ hw Z (lv_sub hl [0] rfl)
      · replace hw := hw.2 c41
        refine lv_ldc2 hx hb (cx_own C0) (cx_w C0 tm_5_106) dX4_nextToken_120 ?_
        refine lv_aload_n hx hb dX4_nextToken_123 rfl (lv_at hl 0 rfl) ?_
        refine z_get C0 Z in_X4 rfl 21 (by decide) rfl tm_4_224 (cx_lt C0 (by decide)) rfl rfl dX4_nextToken_124 ?_
        refine lv_lmul hx hb dX4_nextToken_127 ?_
        refine lv_aload_n hx hb dX4_nextToken_128 rfl (lv_at hl 0 rfl) ?_
        refine lv_aload_n hx hb dX4_nextToken_129 rfl (lv_at hl 0 rfl) ?_
        refine z_get C0 Z in_X4 rfl 14 (by decide) rfl tm_4_217 (cx_lt C0 (by decide)) rfl rfl dX4_nextToken_130 ?_
        refine z_callVi C0 Z hl.1 (As := [.int (v38 7 14)]) (rest := [.long (27 * (mk64 (v38 7 21) (v38 7 34))), .ref (gad G 7)]) (k_X4_byteAt l (cx_g C0) hw) (gv_X4_byteAt tm_5_97) rfl ds_X4_byteAt ⟨Nat.le_of_ble_eq_true rfl, Nat.le_of_ble_eq_true rfl⟩ (ci := 4) rfl (cx_lt C0 (by decide)) rfl rfl rfl (Nat.le_of_ble_eq_true rfl) ⟨Nat.le_of_ble_eq_true rfl, Nat.le_of_ble_eq_true rfl⟩ dX4_nextToken_133 (fun r46 v45 H locs hw Z => ?_)
        refine lv_i2l (v := (r46).toInt64) hx hb dX4_nextToken_136 rfl ?_
        refine lv_ladd hx hb dX4_nextToken_137 ?_
        refine lv_ldc2 hx hb (cx_own C0) (cx_w C0 tm_5_107) dX4_nextToken_138 ?_
        refine lv_lsub hx hb dX4_nextToken_141 ?_
        refine lv_goto (tgt := 149) hx hb dX4_nextToken_142 (by decide) ?_
        exact b_X4_nextToken_149 l C0 hK96 _ _ _ _ _ hw Z (lv_sub hl [0] rfl)
set_option maxRecDepth 100000 in
set_option maxHeartbeats 4000000 in
theorem b_X4_nextToken_0 {p : Program} (l : Launch) {e : Env} {s : State} {m : MethodId} {args : Array Value} {below : List Frame} {meth : Method} {c : Code} {G : zG}   (C0 : Cx G RX4 cX4_nextToken 2 none p s m args meth c) {Q : V3 → Prop} : ∀ (n : Nat) (v : V3) (H : Heap) (locs : List Loc) (ls : Array Slot), w_X4_nextToken_0 Q n v → Zs G s v H locs → lv_has ls 2 [(0, .ref (gad G 7))] → W p l e { frames := 2, cells := 0, slots := 0, locals := 45 } s m args below meth c H locs 0 0 (MQ below (QvZ G Q) args s 0 0 (zA G)) (F0 m 0 ls []) := by
  have hx := C0.1
  have hb := C0.2.1
  intro n
  induction n with
  | zero =>
    intro v H locs ls hw Z hl
    exact hw.elim
  | succ n hK0 =>
    intro v H locs ls hw Z hl
    rw [w_X4_nextToken_0] at hw
    refine lv_aload_n hx hb dX4_nextToken_0 rfl (lv_at hl 0 rfl) ?_
    refine lv_aload_n hx hb dX4_nextToken_1 rfl (lv_at hl 0 rfl) ?_
    refine z_get C0 Z in_X4 rfl 14 (by decide) rfl tm_4_217 (cx_lt C0 (by decide)) rfl rfl dX4_nextToken_2 ?_
    refine z_callVi C0 Z hl.1 (As := [.int (v 7 14)]) (rest := []) (k_X4_byteAt l (cx_g C0) hw) (gv_X4_byteAt tm_5_97) rfl ds_X4_byteAt ⟨Nat.le_of_ble_eq_true rfl, Nat.le_of_ble_eq_true rfl⟩ (ci := 4) rfl (cx_lt C0 (by decide)) rfl rfl rfl (Nat.le_of_ble_eq_true rfl) ⟨Nat.le_of_ble_eq_true rfl, Nat.le_of_ble_eq_true rfl⟩ dX4_nextToken_5 (fun r2 v1 H locs hw Z => ?_)
    refine lv_bipush (v := 32) hx hb dX4_nextToken_8 (by decide) ?_
    refine lv_icmp_eq (tgt := 26) hx hb dX4_nextToken_10 (by decide) (fun c3 => ?_) (fun c3 => ?_)
    · replace hw := hw.1 c3
      exact b_X4_nextToken_26 l C0 hK0 _ _ _ _ hw Z (lv_sub hl [0] rfl)
    · replace hw := hw.2 c3
      refine lv_aload_n hx hb dX4_nextToken_13 rfl (lv_at hl 0 rfl) ?_
      refine lv_aload_n hx hb dX4_nextToken_14 rfl (lv_at hl 0 rfl) ?_
      refine z_get C0 Z in_X4 rfl 14 (by decide) rfl tm_4_217 (cx_lt C0 (by decide)) rfl rfl dX4_nextToken_15 ?_
      refine z_callVi C0 Z hl.1 (As := [.int (v1 7 14)]) (rest := []) (k_X4_byteAt l (cx_g C0) hw) (gv_X4_byteAt tm_5_97) rfl ds_X4_byteAt ⟨Nat.le_of_ble_eq_true rfl, Nat.le_of_ble_eq_true rfl⟩ (ci := 4) rfl (cx_lt C0 (by decide)) rfl rfl rfl (Nat.le_of_ble_eq_true rfl) ⟨Nat.le_of_ble_eq_true rfl, Nat.le_of_ble_eq_true rfl⟩ dX4_nextToken_18 (fun r6 v5 H locs hw Z => ?_)
      refine lv_bipush (v := 10) hx hb dX4_nextToken_21 (by decide) ?_
      refine lv_icmp_ne (tgt := 39) hx hb dX4_nextToken_23 (by decide) (fun c7 => ?_) (fun c7 => ?_)
      · replace hw := hw.1 c7
        refine lv_aload_n hx hb dX4_nextToken_39 rfl (lv_at hl 0 rfl) ?_
        refine lv_aload_n hx hb dX4_nextToken_40 rfl (lv_at hl 0 rfl) ?_
        refine z_get C0 Z in_X4 rfl 14 (by decide) rfl tm_4_217 (cx_lt C0 (by decide)) rfl rfl dX4_nextToken_41 ?_
        refine z_put C0 Z in_X4 tyX4_ok nmX4 rfl 15 (by decide) rfl rfl tm_4_218 (cx_lt C0 (by decide)) rfl p_X4_15 (fun c' h => up2_off _ _ _ h) rfl rfl (Nat.le_of_ble_eq_true rfl) dX4_nextToken_44 (fun H locs Z => ?_)
        obtain ⟨v8, ev8⟩ : ∃ z : V3, z = up2 v5 7 15 (v5 7 14) := ⟨_, rfl⟩
        rw [← ev8] at Z
        replace hw := hw v8 ev8
        refine lv_aload_n hx hb dX4_nextToken_47 rfl (lv_at hl 0 rfl) ?_
        refine lv_iconst (v := 0) hx hb dX4_nextToken_48 (by decide) ?_
        refine z_put C0 Z in_X4 tyX4_ok nmX4 rfl 17 (by decide) rfl rfl tm_4_220 (cx_lt C0 (by decide)) rfl p_X4_17 (fun c' h => up2_off _ _ _ h) rfl rfl (Nat.le_of_ble_eq_true rfl) dX4_nextToken_49 (fun H locs Z => ?_)
        obtain ⟨v9, ev9⟩ : ∃ z : V3, z = up2 v8 7 17 0 := ⟨_, rfl⟩
        rw [← ev9] at Z
        replace hw := hw v9 ev9
        refine lv_aload_n hx hb dX4_nextToken_52 rfl (lv_at hl 0 rfl) ?_
        refine lv_lconst (v := 0) hx hb dX4_nextToken_53 (by decide) ?_
        refine z_put C0 Z in_X4 tyX4_ok nmX4 rfl 21 (by decide) rfl rfl tm_4_224 (cx_lt C0 (by decide)) rfl p_X4_21 (fun c' h => (up2_off _ _ _ h).trans (up2_off _ _ _ h)) rfl rfl (Nat.le_of_ble_eq_true rfl) dX4_nextToken_54 (fun H locs Z => ?_)
        obtain ⟨v10, ev10⟩ : ∃ z : V3, z = up2 (up2 v9 7 21 (hi64 0)) 7 34 (lo64 0) := ⟨_, rfl⟩
        rw [← ev10] at Z
        replace hw := hw v10 ev10
        refine lv_aload_n hx hb dX4_nextToken_57 rfl (lv_at hl 0 rfl) ?_
        refine lv_iconst (v := 0) hx hb dX4_nextToken_58 (by decide) ?_
        refine z_put C0 Z in_X4 tyX4_ok nmX4 rfl 18 (by decide) rfl rfl tm_4_221 (cx_lt C0 (by decide)) rfl p_X4_18 (fun c' h => up2_off _ _ _ h) rfl rfl (Nat.le_of_ble_eq_true rfl) dX4_nextToken_59 (fun H locs Z => ?_)
        obtain ⟨v11, ev11⟩ : ∃ z : V3, z = up2 v10 7 18 0 := ⟨_, rfl⟩
        rw [← ev11] at Z
        replace hw := hw v11 ev11
        refine lv_aload_n hx hb dX4_nextToken_62 rfl (lv_at hl 0 rfl) ?_
        refine lv_aload_n hx hb dX4_nextToken_63 rfl (lv_at hl 0 rfl) ?_
        refine z_get C0 Z in_X4 rfl 14 (by decide) rfl tm_4_217 (cx_lt C0 (by decide)) rfl rfl dX4_nextToken_64 ?_
        refine z_callVi C0 Z hl.1 (As := [.int (v11 7 14)]) (rest := []) (k_X4_byteAt l (cx_g C0) hw) (gv_X4_byteAt tm_5_97) rfl ds_X4_byteAt ⟨Nat.le_of_ble_eq_true rfl, Nat.le_of_ble_eq_true rfl⟩ (ci := 4) rfl (cx_lt C0 (by decide)) rfl rfl rfl (Nat.le_of_ble_eq_true rfl) ⟨Nat.le_of_ble_eq_true rfl, Nat.le_of_ble_eq_true rfl⟩ dX4_nextToken_67 (fun r13 v12 H locs hw Z => ?_)
        refine lv_istore_n (lv' := [(1, .int r13), (0, .ref (gad G 7))]) hx hb dX4_nextToken_70 rfl hl (by decide) rfl (fun ls hl => ?_)
        refine lv_iload_n hx hb dX4_nextToken_71 rfl (lv_at hl 0 rfl) ?_
        refine lv_iconst (v := (-1)) hx hb dX4_nextToken_72 (by decide) ?_
        refine lv_icmp_ne (tgt := 84) hx hb dX4_nextToken_73 (by decide) (fun c14 => ?_) (fun c14 => ?_)
        · replace hw := hw.1 c14
          refine lv_iload_n hx hb dX4_nextToken_84 rfl (lv_at hl 0 rfl) ?_
          refine z_callSi C0 Z hl.1 (As := [.int r13]) (rest := []) (k_X4_isLetter l (cx_g C0) hw) (gv_X4_isLetter tm_5_101) ds_X4_isLetter ⟨Nat.le_of_ble_eq_true rfl, Nat.le_of_ble_eq_true rfl⟩ rfl rfl (Nat.le_of_ble_eq_true rfl) ⟨Nat.le_of_ble_eq_true rfl, Nat.le_of_ble_eq_true rfl⟩ dX4_nextToken_85 (fun r16 v15 H locs hw Z => ?_)
          refine lv_if_eq (tgt := 175) hx hb dX4_nextToken_88 (by decide) (fun c17 => ?_) (fun c17 => ?_)
          · replace hw := hw.1 c17
            refine lv_iload_n hx hb dX4_nextToken_175 rfl (lv_at hl 0 rfl) ?_
            refine z_callSi C0 Z hl.1 (As := [.int r13]) (rest := []) (k_X4_isDigit l (cx_g C0) hw) (gv_X4_isDigit tm_5_108) ds_X4_isDigit ⟨Nat.le_of_ble_eq_true rfl, Nat.le_of_ble_eq_true rfl⟩ rfl rfl (Nat.le_of_ble_eq_true rfl) ⟨Nat.le_of_ble_eq_true rfl, Nat.le_of_ble_eq_true rfl⟩ dX4_nextToken_176 (fun r19 v18 H locs hw Z => ?_)
            refine lv_if_eq (tgt := 253) hx hb dX4_nextToken_179 (by decide) (fun c20 => ?_) (fun c20 => ?_)
            · replace hw := hw.1 c20
              refine lv_aload_n hx hb dX4_nextToken_253 rfl (lv_at hl 1 rfl) ?_
              refine lv_iload_n hx hb dX4_nextToken_254 rfl (lv_at hl 0 rfl) ?_
              refine lv_bipush (v := 59) hx hb dX4_nextToken_255 (by decide) ?_
              refine lv_icmp_ne (tgt := 264) hx hb dX4_nextToken_257 (by decide) (fun c21 => ?_) (fun c21 => ?_)
              · replace hw := hw.1 c21
                refine lv_iconst (v := 1) hx hb dX4_nextToken_264 (by decide) ?_
                exact b_X4_nextToken_265 l C0 _ _ _ _ _ hw Z (lv_sub hl [1] rfl)
              · replace hw := hw.2 c21
                refine lv_iconst (v := 4) hx hb dX4_nextToken_260 (by decide) ?_
                refine lv_goto (tgt := 265) hx hb dX4_nextToken_261 (by decide) ?_
                exact b_X4_nextToken_265 l C0 _ _ _ _ _ hw Z (lv_sub hl [1] rfl)
            · replace hw := hw.2 c20
              refine lv_aload_n hx hb dX4_nextToken_182 rfl (lv_at hl 1 rfl) ?_
              refine lv_iconst (v := 3) hx hb dX4_nextToken_183 (by decide) ?_
              refine z_put C0 Z in_X4 tyX4_ok nmX4 rfl 16 (by decide) rfl rfl tm_4_219 (cx_lt C0 (by decide)) rfl p_X4_16 (fun c' h => up2_off _ _ _ h) rfl rfl (Nat.le_of_ble_eq_true rfl) dX4_nextToken_184 (fun H locs Z => ?_)
              obtain ⟨v24, ev24⟩ : ∃ z : V3, z = up2 v18 7 16 3 := ⟨_, rfl⟩
              rw [← ev24] at Z
              replace hw := hw v24 ev24
              obtain ⟨m187, hw⟩ := hw
              exact b_X4_nextToken_187 l C0 m187 _ _ _ _ hw Z (lv_sub hl [1] rfl)
          · replace hw := hw.2 c17
            refine lv_aload_n hx hb dX4_nextToken_91 rfl (lv_at hl 1 rfl) ?_
            refine lv_iconst (v := 2) hx hb dX4_nextToken_92 (by decide) ?_
            refine z_put C0 Z in_X4 tyX4_ok nmX4 rfl 16 (by decide) rfl rfl tm_4_219 (cx_lt C0 (by decide)) rfl p_X4_16 (fun c' h => up2_off _ _ _ h) rfl rfl (Nat.le_of_ble_eq_true rfl) dX4_nextToken_93 (fun H locs Z => ?_)
            obtain ⟨v35, ev35⟩ : ∃ z : V3, z = up2 v15 7 16 2 := ⟨_, rfl⟩
            rw [← ev35] at Z
            replace hw := hw v35 ev35
            obtain ⟨m96, hw⟩ := hw
            exact b_X4_nextToken_96 l C0 m96 _ _ _ _ hw Z (lv_sub hl [1] rfl)
        · replace hw := hw.2 c14
          refine lv_aload_n hx hb dX4_nextToken_76 rfl (lv_at hl 1 rfl) ?_
          refine lv_iconst (v := 0) hx hb dX4_nextToken_77 (by decide) ?_
          refine z_put C0 Z in_X4 tyX4_ok nmX4 rfl 16 (by decide) rfl rfl tm_4_219 (cx_lt C0 (by decide)) rfl p_X4_16 (fun c' h => up2_off _ _ _ h) rfl rfl (Nat.le_of_ble_eq_true rfl) dX4_nextToken_78 (fun H locs Z => ?_)
          obtain ⟨v47, ev47⟩ : ∃ z : V3, z = up2 v12 7 16 0 := ⟨_, rfl⟩
          rw [← ev47] at Z
          replace hw := hw v47 ev47
          refine lv_goto (tgt := 278) hx hb dX4_nextToken_81 (by decide) ?_
          exact b_X4_nextToken_278 l C0 _ _ _ _ hw Z (lv_sub hl [] rfl)
      · replace hw := hw.2 c7
        exact b_X4_nextToken_26 l C0 hK0 _ _ _ _ hw Z (lv_sub hl [0] rfl)
set_option maxRecDepth 100000 in
set_option maxHeartbeats 4000000 in
theorem k_X4_nextToken (l : Launch) {G : zG} (hg : 129 ≤ gn G)  {v : V3} {Q : V3 → Prop} (hw : w_X4_nextToken v Q) : Mz l yX4_nextToken cX4_nextToken 2 none 2 45 G [.ref (gad G 7)] v (QvZ G Q) := by
  rw [w_X4_nextToken] at hw
  refine z_ofW hg (by decide) (Nat.le_of_ble_eq_true rfl) ?_
  intro p e s m args below meth c ls C0 Z hl
  have hx := C0.1
  have hb := C0.2.1
  replace hl : lv_has ls 2 [(0, .ref (gad G 7))] := hl
  generalize s.heap = H at Z ⊢
  generalize ([] : List Loc) = locs at Z ⊢
  obtain ⟨m0, hw⟩ := hw
  exact b_X4_nextToken_0 l C0 m0 _ _ _ _ hw Z (lv_sub hl [0] rfl)
-- X4_isWord: room (4, 123)
theorem dX4_isWord_0 : decode cX4_isWord 0 = .ok (.aload_n 0, 1) := by decide +kernel
theorem dX4_isWord_1 : decode cX4_isWord 1 = .ok (.getfield 109, 3) := by decide +kernel
theorem dX4_isWord_4 : decode cX4_isWord 4 = .ok (.iconst 2, 1) := by decide +kernel
theorem dX4_isWord_5 : decode cX4_isWord 5 = .ok (.if_icmp .ne 14, 3) := by decide +kernel
theorem dX4_isWord_8 : decode cX4_isWord 8 = .ok (.aload_n 0, 1) := by decide +kernel
theorem dX4_isWord_9 : decode cX4_isWord 9 = .ok (.getfield 99, 3) := by decide +kernel
theorem dX4_isWord_12 : decode cX4_isWord 12 = .ok (.aload_n 1, 1) := by decide +kernel
theorem dX4_isWord_13 : decode cX4_isWord 13 = .ok (.invokevirtual 124, 3) := by decide +kernel
theorem dX4_isWord_16 : decode cX4_isWord 16 = .ok (.if_icmp .eq 5, 3) := by decide +kernel
theorem dX4_isWord_19 : decode cX4_isWord 19 = .ok (.iconst 0, 1) := by decide +kernel
theorem dX4_isWord_20 : decode cX4_isWord 20 = .ok (.ireturn, 1) := by decide +kernel
theorem dX4_isWord_21 : decode cX4_isWord 21 = .ok (.lconst 0, 1) := by decide +kernel
theorem dX4_isWord_22 : decode cX4_isWord 22 = .ok (.lstore_n 2, 1) := by decide +kernel
theorem dX4_isWord_23 : decode cX4_isWord 23 = .ok (.iconst 0, 1) := by decide +kernel
theorem dX4_isWord_24 : decode cX4_isWord 24 = .ok (.istore 4, 2) := by decide +kernel
theorem dX4_isWord_26 : decode cX4_isWord 26 = .ok (.iload 4, 2) := by decide +kernel
theorem dX4_isWord_28 : decode cX4_isWord 28 = .ok (.aload_n 1, 1) := by decide +kernel
theorem dX4_isWord_29 : decode cX4_isWord 29 = .ok (.invokevirtual 124, 3) := by decide +kernel
theorem dX4_isWord_32 : decode cX4_isWord 32 = .ok (.if_icmp .ge 27, 3) := by decide +kernel
theorem dX4_isWord_35 : decode cX4_isWord 35 = .ok (.ldc2_w 116, 3) := by decide +kernel
theorem dX4_isWord_38 : decode cX4_isWord 38 = .ok (.lload_n 2, 1) := by decide +kernel
theorem dX4_isWord_39 : decode cX4_isWord 39 = .ok (.lmul, 1) := by decide +kernel
theorem dX4_isWord_40 : decode cX4_isWord 40 = .ok (.aload_n 1, 1) := by decide +kernel
theorem dX4_isWord_41 : decode cX4_isWord 41 = .ok (.iload 4, 2) := by decide +kernel
theorem dX4_isWord_43 : decode cX4_isWord 43 = .ok (.invokevirtual 130, 3) := by decide +kernel
theorem dX4_isWord_46 : decode cX4_isWord 46 = .ok (.i2l, 1) := by decide +kernel
theorem dX4_isWord_47 : decode cX4_isWord 47 = .ok (.ladd, 1) := by decide +kernel
theorem dX4_isWord_48 : decode cX4_isWord 48 = .ok (.ldc2_w 118, 3) := by decide +kernel
theorem dX4_isWord_51 : decode cX4_isWord 51 = .ok (.lsub, 1) := by decide +kernel
theorem dX4_isWord_52 : decode cX4_isWord 52 = .ok (.lstore_n 2, 1) := by decide +kernel
theorem dX4_isWord_53 : decode cX4_isWord 53 = .ok (.iinc 4 1, 3) := by decide +kernel
theorem dX4_isWord_56 : decode cX4_isWord 56 = .ok (.goto (-30), 3) := by decide +kernel
theorem dX4_isWord_59 : decode cX4_isWord 59 = .ok (.aload_n 0, 1) := by decide +kernel
theorem dX4_isWord_60 : decode cX4_isWord 60 = .ok (.getfield 102, 3) := by decide +kernel
theorem dX4_isWord_63 : decode cX4_isWord 63 = .ok (.lload_n 2, 1) := by decide +kernel
theorem dX4_isWord_64 : decode cX4_isWord 64 = .ok (.lcmp, 1) := by decide +kernel
theorem dX4_isWord_65 : decode cX4_isWord 65 = .ok (.ifCond .ne 7, 3) := by decide +kernel
theorem dX4_isWord_68 : decode cX4_isWord 68 = .ok (.iconst 1, 1) := by decide +kernel
theorem dX4_isWord_69 : decode cX4_isWord 69 = .ok (.goto 4, 3) := by decide +kernel
theorem dX4_isWord_72 : decode cX4_isWord 72 = .ok (.iconst 0, 1) := by decide +kernel
theorem dX4_isWord_73 : decode cX4_isWord 73 = .ok (.ireturn, 1) := by decide +kernel
def w_X4_isWord_19 (a1 : Nat) (Q : Int32 → V3 → Prop) (v : V3) : Prop := Q 0 v
def w_X4_isWord_73 (a1 : Nat) (Q : Int32 → V3 → Prop) (s0 : Int32) (v : V3) : Prop := (s0 = 0 ∨ s0 = 1) ∧ Q s0 v
def w_X4_isWord_26 (a1 : Nat) (Q : Int32 → V3 → Prop) : Nat → Int64 → Int32 → V3 → Prop
  | 0, _, _, _ => False
  | n26 + 1, x2, x4, v => w_J0_length_8abf5 a1 v (fun r6 v5 => ((r6 ≤ x4 → ((¬ (lg_cmp (mk64 (v5 7 21) (v5 7 34)) x2) = 0 → w_X4_isWord_73 a1 Q 0 v5) ∧ ((lg_cmp (mk64 (v5 7 21) (v5 7 34)) x2) = 0 → w_X4_isWord_73 a1 Q 1 v5))) ∧ (¬ r6 ≤ x4 → w_J0_charAt_5068e a1 x4 v5 (fun r11 v10 => (w_X4_isWord_26 a1 Q n26) (((27 * x2) + ((r11).toInt64)) - 96) (x4 + 1) v10))))
def w_X4_isWord (a1 : Nat) (v : V3) (Q : Int32 → V3 → Prop) : Prop := ((¬ (v 7 16) = 2 → w_X4_isWord_19 a1 Q v) ∧ ((v 7 16) = 2 → w_J0_length_8abf5 a1 v (fun r3 v2 => (((v 7 17) = r3 → ∃ m26 : Nat, w_X4_isWord_26 a1 Q m26 0 0 v2) ∧ (¬ (v 7 17) = r3 → w_X4_isWord_19 a1 Q v2)))))
set_option maxRecDepth 100000 in
set_option maxHeartbeats 4000000 in
theorem b_X4_isWord_19 {p : Program} (l : Launch) {e : Env} {s : State} {m : MethodId} {args : Array Value} {below : List Frame} {meth : Method} {c : Code} {G : zG} {a1 : Nat} (hSa1 : a1 < zsn) (C0 : Cx G RX4 cX4_isWord 5 (some .boolean) p s m args meth c) {Q : Int32 → V3 → Prop} : ∀ (v : V3) (H : Heap) (locs : List Loc) (ls : Array Slot), w_X4_isWord_19 a1 Q v → Zs G s v H locs → lv_has ls 5 [] → W p l e { frames := 4, cells := 0, slots := 0, locals := 123 } s m args below meth c H locs 0 0 (MQ below (QiZ G Q) args s 0 0 (zA G)) (F0 m 19 ls []) := by
  have hx := C0.1
  have hb := C0.2.1
  intro v H locs ls hw Z hl
  rw [w_X4_isWord_19] at hw
  refine lv_iconst (v := 0) hx hb dX4_isWord_19 (by decide) ?_
  exact z_zret C0 Z (by decide) hw dX4_isWord_20
set_option maxRecDepth 100000 in
set_option maxHeartbeats 4000000 in
theorem b_X4_isWord_73 {p : Program} (l : Launch) {e : Env} {s : State} {m : MethodId} {args : Array Value} {below : List Frame} {meth : Method} {c : Code} {G : zG} {a1 : Nat} (hSa1 : a1 < zsn) (C0 : Cx G RX4 cX4_isWord 5 (some .boolean) p s m args meth c) {Q : Int32 → V3 → Prop} : ∀ (s0 : Int32) (v : V3) (H : Heap) (locs : List Loc) (ls : Array Slot), w_X4_isWord_73 a1 Q s0 v → Zs G s v H locs → lv_has ls 5 [] → W p l e { frames := 4, cells := 0, slots := 0, locals := 123 } s m args below meth c H locs 0 0 (MQ below (QiZ G Q) args s 0 0 (zA G)) (F0 m 73 ls [.int s0]) := by
  have hx := C0.1
  have hb := C0.2.1
  intro s0 v H locs ls hw Z hl
  rw [w_X4_isWord_73] at hw
  obtain ⟨h9, hw⟩ := hw
  exact z_zret C0 Z h9 hw dX4_isWord_73
set_option maxRecDepth 100000 in
set_option maxHeartbeats 4000000 in
theorem b_X4_isWord_26 {p : Program} (l : Launch) {e : Env} {s : State} {m : MethodId} {args : Array Value} {below : List Frame} {meth : Method} {c : Code} {G : zG} {a1 : Nat} (hSa1 : a1 < zsn) (C0 : Cx G RX4 cX4_isWord 5 (some .boolean) p s m args meth c) {Q : Int32 → V3 → Prop} : ∀ (n : Nat) (x2 : Int64) (x4 : Int32) (v : V3) (H : Heap) (locs : List Loc) (ls : Array Slot), w_X4_isWord_26 a1 Q n x2 x4 v → Zs G s v H locs → lv_has ls 5 [(0, .ref (gad G 7)), (1, .ref (zst G a1)), (2, .long x2), (4, .int x4)] → W p l e { frames := 4, cells := 0, slots := 0, locals := 123 } s m args below meth c H locs 0 0 (MQ below (QiZ G Q) args s 0 0 (zA G)) (F0 m 26 ls []) := by
  have hx := C0.1
  have hb := C0.2.1
  intro n
  induction n with
  | zero =>
    intro x2 x4 v H locs ls hw Z hl
    exact hw.elim
  | succ n hK26 =>
    intro x2 x4 v H locs ls hw Z hl
    rw [w_X4_isWord_26] at hw
    refine lv_iload hx hb dX4_isWord_26 (lv_at hl 3 rfl) ?_
    refine lv_aload_n hx hb dX4_isWord_28 rfl (lv_at hl 1 rfl) ?_
    refine z_callT C0 Z hl.1 (As := []) (rest := [.int x4]) (k_J0_length_8abf5 l (cx_g C0) hSa1 hw) (gv_J0_length_8abf5 tm_5_119) rfl ds_J0_length_8abf5 ⟨Nat.le_of_ble_eq_true rfl, Nat.le_of_ble_eq_true rfl⟩ hSa1 rfl rfl (Nat.le_of_ble_eq_true rfl) ⟨Nat.le_of_ble_eq_true rfl, Nat.le_of_ble_eq_true rfl⟩ dX4_isWord_29 (fun r6 v5 H locs hw Z => ?_)
    refine lv_icmp_ge (tgt := 59) hx hb dX4_isWord_32 (by decide) (fun c7 => ?_) (fun c7 => ?_)
    · replace hw := hw.1 c7
      refine lv_aload_n hx hb dX4_isWord_59 rfl (lv_at hl 0 rfl) ?_
      refine z_get C0 Z in_X4 rfl 21 (by decide) rfl tm_4_224 (cx_lt C0 (by decide)) rfl rfl dX4_isWord_60 ?_
      refine lv_lload_n hx hb dX4_isWord_63 rfl (lv_at hl 2 rfl) ?_
      refine W.lcmp hx hb dX4_isWord_64 ?_
      refine lv_if_ne (tgt := 72) hx hb dX4_isWord_65 (by decide) (fun c8 => ?_) (fun c8 => ?_)
      · replace hw := hw.1 c8
        refine lv_iconst (v := 0) hx hb dX4_isWord_72 (by decide) ?_
        exact b_X4_isWord_73 l hSa1 C0 _ _ _ _ _ hw Z (lv_sub hl [] rfl)
      · replace hw := hw.2 c8
        refine lv_iconst (v := 1) hx hb dX4_isWord_68 (by decide) ?_
        refine lv_goto (tgt := 73) hx hb dX4_isWord_69 (by decide) ?_
        exact b_X4_isWord_73 l hSa1 C0 _ _ _ _ _ hw Z (lv_sub hl [] rfl)
    · replace hw := hw.2 c7
      refine lv_ldc2 hx hb (cx_own C0) (cx_w C0 tm_5_106) dX4_isWord_35 ?_
      refine lv_lload_n hx hb dX4_isWord_38 rfl (lv_at hl 2 rfl) ?_
      refine lv_lmul hx hb dX4_isWord_39 ?_
      refine lv_aload_n hx hb dX4_isWord_40 rfl (lv_at hl 1 rfl) ?_
      refine lv_iload hx hb dX4_isWord_41 (lv_at hl 3 rfl) ?_
      refine z_callT C0 Z hl.1 (As := [.int x4]) (rest := [.long (27 * x2)]) (k_J0_charAt_5068e l (cx_g C0) hSa1 hw) (gv_J0_charAt_5068e tm_5_120) rfl ds_J0_charAt_5068e ⟨Nat.le_of_ble_eq_true rfl, Nat.le_of_ble_eq_true rfl⟩ hSa1 rfl rfl (Nat.le_of_ble_eq_true rfl) ⟨Nat.le_of_ble_eq_true rfl, Nat.le_of_ble_eq_true rfl⟩ dX4_isWord_43 (fun r11 v10 H locs hw Z => ?_)
      refine lv_i2l (v := (r11).toInt64) hx hb dX4_isWord_46 rfl ?_
      refine lv_ladd hx hb dX4_isWord_47 ?_
      refine lv_ldc2 hx hb (cx_own C0) (cx_w C0 tm_5_107) dX4_isWord_48 ?_
      refine lv_lsub hx hb dX4_isWord_51 ?_
      refine lv_lstore_n (lv' := [(2, .long (((27 * x2) + ((r11).toInt64)) - 96)), (0, .ref (gad G 7)), (1, .ref (zst G a1)), (4, .int x4)]) hx hb dX4_isWord_52 rfl hl (by decide) rfl (fun ls hl => ?_)
      refine lv_iinc (v := x4 + 1) (lv' := [(4, .int (x4 + 1)), (2, .long (((27 * x2) + ((r11).toInt64)) - 96)), (0, .ref (gad G 7)), (1, .ref (zst G a1))]) hx hb dX4_isWord_53 hl (k := 3) rfl rfl (by decide) rfl (fun ls hl => ?_)
      refine lv_goto (tgt := 26) hx hb dX4_isWord_56 (by decide) ?_
      exact hK26 _ _ _ _ _ _ hw Z (lv_sub hl [2, 3, 1, 0] rfl)
set_option maxRecDepth 100000 in
set_option maxHeartbeats 4000000 in
theorem k_X4_isWord (l : Launch) {G : zG} (hg : 129 ≤ gn G) {a1 : Nat} (hSa1 : a1 < zsn) {v : V3} {Q : Int32 → V3 → Prop} (hw : w_X4_isWord a1 v Q) : Mz l yX4_isWord cX4_isWord 5 (some .boolean) 4 123 G [.ref (gad G 7), .ref (zst G a1)] v (QiZ G Q) := by
  rw [w_X4_isWord] at hw
  refine z_ofW hg (by decide) (Nat.le_of_ble_eq_true rfl) ?_
  intro p e s m args below meth c ls C0 Z hl
  have hx := C0.1
  have hb := C0.2.1
  replace hl : lv_has ls 5 [(0, .ref (gad G 7)), (1, .ref (zst G a1))] := hl
  generalize s.heap = H at Z ⊢
  generalize ([] : List Loc) = locs at Z ⊢
  refine lv_aload_n hx hb dX4_isWord_0 rfl (lv_at hl 0 rfl) ?_
  refine z_get C0 Z in_X4 rfl 16 (by decide) rfl tm_4_219 (cx_lt C0 (by decide)) rfl rfl dX4_isWord_1 ?_
  refine lv_iconst (v := 2) hx hb dX4_isWord_4 (by decide) ?_
  refine lv_icmp_ne (tgt := 19) hx hb dX4_isWord_5 (by decide) (fun c1 => ?_) (fun c1 => ?_)
  · replace hw := hw.1 c1
    exact b_X4_isWord_19 l hSa1 C0 _ _ _ _ hw Z (lv_sub hl [] rfl)
  · replace hw := hw.2 c1
    refine lv_aload_n hx hb dX4_isWord_8 rfl (lv_at hl 0 rfl) ?_
    refine z_get C0 Z in_X4 rfl 17 (by decide) rfl tm_4_220 (cx_lt C0 (by decide)) rfl rfl dX4_isWord_9 ?_
    refine lv_aload_n hx hb dX4_isWord_12 rfl (lv_at hl 1 rfl) ?_
    refine z_callT C0 Z hl.1 (As := []) (rest := [.int (v 7 17)]) (k_J0_length_8abf5 l (cx_g C0) hSa1 hw) (gv_J0_length_8abf5 tm_5_119) rfl ds_J0_length_8abf5 ⟨Nat.le_of_ble_eq_true rfl, Nat.le_of_ble_eq_true rfl⟩ hSa1 rfl rfl (Nat.le_of_ble_eq_true rfl) ⟨Nat.le_of_ble_eq_true rfl, Nat.le_of_ble_eq_true rfl⟩ dX4_isWord_13 (fun r3 v2 H locs hw Z => ?_)
    refine lv_icmp_eq (tgt := 21) hx hb dX4_isWord_16 (by decide) (fun c4 => ?_) (fun c4 => ?_)
    · replace hw := hw.1 c4
      refine lv_lconst (v := 0) hx hb dX4_isWord_21 (by decide) ?_
      refine lv_lstore_n (lv' := [(2, .long 0), (0, .ref (gad G 7)), (1, .ref (zst G a1))]) hx hb dX4_isWord_22 rfl hl (by decide) rfl (fun ls hl => ?_)
      refine lv_iconst (v := 0) hx hb dX4_isWord_23 (by decide) ?_
      refine lv_istore (lv' := [(4, .int 0), (2, .long 0), (0, .ref (gad G 7)), (1, .ref (zst G a1))]) hx hb dX4_isWord_24 hl (by decide) rfl (fun ls hl => ?_)
      obtain ⟨m26, hw⟩ := hw
      exact b_X4_isWord_26 l hSa1 C0 m26 _ _ _ _ _ _ hw Z (lv_sub hl [2, 3, 1, 0] rfl)
    · replace hw := hw.2 c4
      exact b_X4_isWord_19 l hSa1 C0 _ _ _ _ hw Z (lv_sub hl [] rfl)
-- X4_require: room (0, 0)
theorem dX4_require_0 : decode cX4_require 0 = .ok (.iload_n 1, 1) := by decide +kernel
theorem dX4_require_1 : decode cX4_require 1 = .ok (.ifCond .ne 23, 3) := by decide +kernel
theorem dX4_require_4 : decode cX4_require 4 = .ok (.aload_n 0, 1) := by decide +kernel
theorem dX4_require_5 : decode cX4_require 5 = .ok (.getfield 134, 3) := by decide +kernel
theorem dX4_require_8 : decode cX4_require 8 = .ok (.ifCond .ne 16, 3) := by decide +kernel
theorem dX4_require_11 : decode cX4_require 11 = .ok (.aload_n 0, 1) := by decide +kernel
theorem dX4_require_12 : decode cX4_require 12 = .ok (.iload_n 2, 1) := by decide +kernel
theorem dX4_require_13 : decode cX4_require 13 = .ok (.putfield 134, 3) := by decide +kernel
theorem dX4_require_16 : decode cX4_require 16 = .ok (.aload_n 0, 1) := by decide +kernel
theorem dX4_require_17 : decode cX4_require 17 = .ok (.aload_n 0, 1) := by decide +kernel
theorem dX4_require_18 : decode cX4_require 18 = .ok (.getfield 96, 3) := by decide +kernel
theorem dX4_require_21 : decode cX4_require 21 = .ok (.putfield 38, 3) := by decide +kernel
theorem dX4_require_24 : decode cX4_require 24 = .ok (.return_, 1) := by decide +kernel
def w_X4_require_24  (Q : V3 → Prop) (v : V3) : Prop := Q v
def w_X4_require (a1 : Int32) (a2 : Int32) (v : V3) (Q : V3 → Prop) : Prop := ((¬ a1 = 0 → w_X4_require_24 Q v) ∧ (a1 = 0 → ((¬ (v 7 19) = 0 → w_X4_require_24 Q v) ∧ ((v 7 19) = 0 → ∀ v3 : V3, v3 = up2 v 7 19 a2 → ∀ v4 : V3, v4 = up2 v3 7 20 (v3 7 15) → w_X4_require_24 Q v4))))
set_option maxRecDepth 100000 in
set_option maxHeartbeats 4000000 in
theorem b_X4_require_24 {p : Program} (l : Launch) {e : Env} {s : State} {m : MethodId} {args : Array Value} {below : List Frame} {meth : Method} {c : Code} {G : zG}   (C0 : Cx G RX4 cX4_require 3 none p s m args meth c) {Q : V3 → Prop} : ∀ (v : V3) (H : Heap) (locs : List Loc) (ls : Array Slot), w_X4_require_24 Q v → Zs G s v H locs → lv_has ls 3 [] → W p l e { frames := 0, cells := 0, slots := 0, locals := 0 } s m args below meth c H locs 0 0 (MQ below (QvZ G Q) args s 0 0 (zA G)) (F0 m 24 ls []) := by
  have hx := C0.1
  have hb := C0.2.1
  intro v H locs ls hw Z hl
  rw [w_X4_require_24] at hw
  exact z_vret C0 Z hw dX4_require_24
set_option maxRecDepth 100000 in
set_option maxHeartbeats 4000000 in
theorem k_X4_require (l : Launch) {G : zG} (hg : 129 ≤ gn G) {a1 : Int32} {a2 : Int32}  {v : V3} {Q : V3 → Prop} (hw : w_X4_require a1 a2 v Q) : Mz l yX4_require cX4_require 3 none 0 0 G [.ref (gad G 7), .int a1, .int a2] v (QvZ G Q) := by
  rw [w_X4_require] at hw
  refine z_ofW hg (by decide) (Nat.le_of_ble_eq_true rfl) ?_
  intro p e s m args below meth c ls C0 Z hl
  have hx := C0.1
  have hb := C0.2.1
  replace hl : lv_has ls 3 [(0, .ref (gad G 7)), (1, .int a1), (2, .int a2)] := hl
  generalize s.heap = H at Z ⊢
  generalize ([] : List Loc) = locs at Z ⊢
  refine lv_iload_n hx hb dX4_require_0 rfl (lv_at hl 1 rfl) ?_
  refine lv_if_ne (tgt := 24) hx hb dX4_require_1 (by decide) (fun c1 => ?_) (fun c1 => ?_)
  · replace hw := hw.1 c1
    exact b_X4_require_24 l C0 _ _ _ _ hw Z (lv_sub hl [] rfl)
  · replace hw := hw.2 c1
    refine lv_aload_n hx hb dX4_require_4 rfl (lv_at hl 0 rfl) ?_
    refine z_get C0 Z in_X4 rfl 19 (by decide) rfl tm_4_222 (cx_lt C0 (by decide)) rfl rfl dX4_require_5 ?_
    refine lv_if_ne (tgt := 24) hx hb dX4_require_8 (by decide) (fun c2 => ?_) (fun c2 => ?_)
    · replace hw := hw.1 c2
      exact b_X4_require_24 l C0 _ _ _ _ hw Z (lv_sub hl [] rfl)
    · replace hw := hw.2 c2
      refine lv_aload_n hx hb dX4_require_11 rfl (lv_at hl 0 rfl) ?_
      refine lv_iload_n hx hb dX4_require_12 rfl (lv_at hl 2 rfl) ?_
      refine z_put C0 Z in_X4 tyX4_ok nmX4 rfl 19 (by decide) rfl rfl tm_4_222 (cx_lt C0 (by decide)) rfl p_X4_19 (fun c' h => up2_off _ _ _ h) rfl rfl (Nat.le_of_ble_eq_true rfl) dX4_require_13 (fun H locs Z => ?_)
      obtain ⟨v3, ev3⟩ : ∃ z : V3, z = up2 v 7 19 a2 := ⟨_, rfl⟩
      rw [← ev3] at Z
      replace hw := hw v3 ev3
      refine lv_aload_n hx hb dX4_require_16 rfl (lv_at hl 0 rfl) ?_
      refine lv_aload_n hx hb dX4_require_17 rfl (lv_at hl 0 rfl) ?_
      refine z_get C0 Z in_X4 rfl 15 (by decide) rfl tm_4_218 (cx_lt C0 (by decide)) rfl rfl dX4_require_18 ?_
      refine z_put C0 Z in_X4 tyX4_ok nmX4 rfl 20 (by decide) rfl rfl tm_4_223 (cx_lt C0 (by decide)) rfl p_X4_20 (fun c' h => up2_off _ _ _ h) rfl rfl (Nat.le_of_ble_eq_true rfl) dX4_require_21 (fun H locs Z => ?_)
      obtain ⟨v4, ev4⟩ : ∃ z : V3, z = up2 v3 7 20 (v3 7 15) := ⟨_, rfl⟩
      rw [← ev4] at Z
      replace hw := hw v4 ev4
      exact b_X4_require_24 l C0 _ _ _ _ hw Z (lv_sub hl [] rfl)
-- X4_isFine: room (0, 0)
theorem dX4_isFine_0 : decode cX4_isFine 0 = .ok (.aload_n 0, 1) := by decide +kernel
theorem dX4_isFine_1 : decode cX4_isFine 1 = .ok (.getfield 134, 3) := by decide +kernel
theorem dX4_isFine_4 : decode cX4_isFine 4 = .ok (.ifCond .ne 7, 3) := by decide +kernel
theorem dX4_isFine_7 : decode cX4_isFine 7 = .ok (.iconst 1, 1) := by decide +kernel
theorem dX4_isFine_8 : decode cX4_isFine 8 = .ok (.goto 4, 3) := by decide +kernel
theorem dX4_isFine_11 : decode cX4_isFine 11 = .ok (.iconst 0, 1) := by decide +kernel
theorem dX4_isFine_12 : decode cX4_isFine 12 = .ok (.ireturn, 1) := by decide +kernel
def w_X4_isFine_12  (Q : Int32 → V3 → Prop) (s0 : Int32) (v : V3) : Prop := (s0 = 0 ∨ s0 = 1) ∧ Q s0 v
def w_X4_isFine  (v : V3) (Q : Int32 → V3 → Prop) : Prop := ((¬ (v 7 19) = 0 → w_X4_isFine_12 Q 0 v) ∧ ((v 7 19) = 0 → w_X4_isFine_12 Q 1 v))
set_option maxRecDepth 100000 in
set_option maxHeartbeats 4000000 in
theorem b_X4_isFine_12 {p : Program} (l : Launch) {e : Env} {s : State} {m : MethodId} {args : Array Value} {below : List Frame} {meth : Method} {c : Code} {G : zG}   (C0 : Cx G RX4 cX4_isFine 1 (some .boolean) p s m args meth c) {Q : Int32 → V3 → Prop} : ∀ (s0 : Int32) (v : V3) (H : Heap) (locs : List Loc) (ls : Array Slot), w_X4_isFine_12 Q s0 v → Zs G s v H locs → lv_has ls 1 [] → W p l e { frames := 0, cells := 0, slots := 0, locals := 0 } s m args below meth c H locs 0 0 (MQ below (QiZ G Q) args s 0 0 (zA G)) (F0 m 12 ls [.int s0]) := by
  have hx := C0.1
  have hb := C0.2.1
  intro s0 v H locs ls hw Z hl
  rw [w_X4_isFine_12] at hw
  obtain ⟨h2, hw⟩ := hw
  exact z_zret C0 Z h2 hw dX4_isFine_12
set_option maxRecDepth 100000 in
set_option maxHeartbeats 4000000 in
theorem k_X4_isFine (l : Launch) {G : zG} (hg : 129 ≤ gn G)  {v : V3} {Q : Int32 → V3 → Prop} (hw : w_X4_isFine v Q) : Mz l yX4_isFine cX4_isFine 1 (some .boolean) 0 0 G [.ref (gad G 7)] v (QiZ G Q) := by
  rw [w_X4_isFine] at hw
  refine z_ofW hg (by decide) (Nat.le_of_ble_eq_true rfl) ?_
  intro p e s m args below meth c ls C0 Z hl
  have hx := C0.1
  have hb := C0.2.1
  replace hl : lv_has ls 1 [(0, .ref (gad G 7))] := hl
  generalize s.heap = H at Z ⊢
  generalize ([] : List Loc) = locs at Z ⊢
  refine lv_aload_n hx hb dX4_isFine_0 rfl (lv_at hl 0 rfl) ?_
  refine z_get C0 Z in_X4 rfl 19 (by decide) rfl tm_4_222 (cx_lt C0 (by decide)) rfl rfl dX4_isFine_1 ?_
  refine lv_if_ne (tgt := 11) hx hb dX4_isFine_4 (by decide) (fun c1 => ?_) (fun c1 => ?_)
  · replace hw := hw.1 c1
    refine lv_iconst (v := 0) hx hb dX4_isFine_11 (by decide) ?_
    exact b_X4_isFine_12 l C0 _ _ _ _ _ hw Z (lv_sub hl [] rfl)
  · replace hw := hw.2 c1
    refine lv_iconst (v := 1) hx hb dX4_isFine_7 (by decide) ?_
    refine lv_goto (tgt := 12) hx hb dX4_isFine_8 (by decide) ?_
    exact b_X4_isFine_12 l C0 _ _ _ _ _ hw Z (lv_sub hl [] rfl)
-- X4_advance: room (3, 66)
theorem dX4_advance_0 : decode cX4_advance 0 = .ok (.aload_n 0, 1) := by decide +kernel
theorem dX4_advance_1 : decode cX4_advance 1 = .ok (.invokevirtual 137, 3) := by decide +kernel
theorem dX4_advance_4 : decode cX4_advance 4 = .ok (.ifCond .eq 7, 3) := by decide +kernel
theorem dX4_advance_7 : decode cX4_advance 7 = .ok (.aload_n 0, 1) := by decide +kernel
theorem dX4_advance_8 : decode cX4_advance 8 = .ok (.invokevirtual 141, 3) := by decide +kernel
theorem dX4_advance_11 : decode cX4_advance 11 = .ok (.return_, 1) := by decide +kernel
def w_X4_advance_11  (Q : V3 → Prop) (v : V3) : Prop := Q v
def w_X4_advance  (v : V3) (Q : V3 → Prop) : Prop := w_X4_isFine v (fun r2 v1 => ((r2 = 0 → w_X4_advance_11 Q v1) ∧ (¬ r2 = 0 → w_X4_nextToken v1 (fun v4 => w_X4_advance_11 Q v4))))
set_option maxRecDepth 100000 in
set_option maxHeartbeats 4000000 in
theorem b_X4_advance_11 {p : Program} (l : Launch) {e : Env} {s : State} {m : MethodId} {args : Array Value} {below : List Frame} {meth : Method} {c : Code} {G : zG}   (C0 : Cx G RX4 cX4_advance 1 none p s m args meth c) {Q : V3 → Prop} : ∀ (v : V3) (H : Heap) (locs : List Loc) (ls : Array Slot), w_X4_advance_11 Q v → Zs G s v H locs → lv_has ls 1 [] → W p l e { frames := 3, cells := 0, slots := 0, locals := 66 } s m args below meth c H locs 0 0 (MQ below (QvZ G Q) args s 0 0 (zA G)) (F0 m 11 ls []) := by
  have hx := C0.1
  have hb := C0.2.1
  intro v H locs ls hw Z hl
  rw [w_X4_advance_11] at hw
  exact z_vret C0 Z hw dX4_advance_11
set_option maxRecDepth 100000 in
set_option maxHeartbeats 4000000 in
theorem k_X4_advance (l : Launch) {G : zG} (hg : 129 ≤ gn G)  {v : V3} {Q : V3 → Prop} (hw : w_X4_advance v Q) : Mz l yX4_advance cX4_advance 1 none 3 66 G [.ref (gad G 7)] v (QvZ G Q) := by
  rw [w_X4_advance] at hw
  refine z_ofW hg (by decide) (Nat.le_of_ble_eq_true rfl) ?_
  intro p e s m args below meth c ls C0 Z hl
  have hx := C0.1
  have hb := C0.2.1
  replace hl : lv_has ls 1 [(0, .ref (gad G 7))] := hl
  generalize s.heap = H at Z ⊢
  generalize ([] : List Loc) = locs at Z ⊢
  refine lv_aload_n hx hb dX4_advance_0 rfl (lv_at hl 0 rfl) ?_
  refine z_callVi C0 Z hl.1 (As := []) (rest := []) (k_X4_isFine l (cx_g C0) hw) (gv_X4_isFine tm_5_129) rfl ds_X4_isFine ⟨Nat.le_of_ble_eq_true rfl, Nat.le_of_ble_eq_true rfl⟩ (ci := 4) rfl (cx_lt C0 (by decide)) rfl rfl rfl (Nat.le_of_ble_eq_true rfl) ⟨Nat.le_of_ble_eq_true rfl, Nat.le_of_ble_eq_true rfl⟩ dX4_advance_1 (fun r2 v1 H locs hw Z => ?_)
  refine lv_if_eq (tgt := 11) hx hb dX4_advance_4 (by decide) (fun c3 => ?_) (fun c3 => ?_)
  · replace hw := hw.1 c3
    exact b_X4_advance_11 l C0 _ _ _ _ hw Z (lv_sub hl [] rfl)
  · replace hw := hw.2 c3
    refine lv_aload_n hx hb dX4_advance_7 rfl (lv_at hl 0 rfl) ?_
    refine z_callVv C0 Z hl.1 (As := []) (rest := []) (k_X4_nextToken l (cx_g C0) hw) (gv_X4_nextToken tm_5_93) rfl ds_X4_nextToken ⟨Nat.le_of_ble_eq_true rfl, Nat.le_of_ble_eq_true rfl⟩ (ci := 4) rfl (cx_lt C0 (by decide)) rfl rfl rfl (Nat.le_of_ble_eq_true rfl) ⟨Nat.le_of_ble_eq_true rfl, Nat.le_of_ble_eq_true rfl⟩ dX4_advance_8 (fun v4 H locs hw Z => ?_)
    exact b_X4_advance_11 l C0 _ _ _ _ hw Z (lv_sub hl [] rfl)
-- X4_accept: room (5, 147)
theorem dX4_accept_0 : decode cX4_accept 0 = .ok (.aload_n 0, 1) := by decide +kernel
theorem dX4_accept_1 : decode cX4_accept 1 = .ok (.invokevirtual 137, 3) := by decide +kernel
theorem dX4_accept_4 : decode cX4_accept 4 = .ok (.ifCond .eq 15, 3) := by decide +kernel
theorem dX4_accept_7 : decode cX4_accept 7 = .ok (.aload_n 0, 1) := by decide +kernel
theorem dX4_accept_8 : decode cX4_accept 8 = .ok (.aload_n 1, 1) := by decide +kernel
theorem dX4_accept_9 : decode cX4_accept 9 = .ok (.invokevirtual 144, 3) := by decide +kernel
theorem dX4_accept_12 : decode cX4_accept 12 = .ok (.ifCond .eq 7, 3) := by decide +kernel
theorem dX4_accept_15 : decode cX4_accept 15 = .ok (.iconst 1, 1) := by decide +kernel
theorem dX4_accept_16 : decode cX4_accept 16 = .ok (.goto 4, 3) := by decide +kernel
theorem dX4_accept_19 : decode cX4_accept 19 = .ok (.iconst 0, 1) := by decide +kernel
theorem dX4_accept_20 : decode cX4_accept 20 = .ok (.istore_n 2, 1) := by decide +kernel
theorem dX4_accept_21 : decode cX4_accept 21 = .ok (.iload_n 2, 1) := by decide +kernel
theorem dX4_accept_22 : decode cX4_accept 22 = .ok (.ifCond .eq 7, 3) := by decide +kernel
theorem dX4_accept_25 : decode cX4_accept 25 = .ok (.aload_n 0, 1) := by decide +kernel
theorem dX4_accept_26 : decode cX4_accept 26 = .ok (.invokevirtual 141, 3) := by decide +kernel
theorem dX4_accept_29 : decode cX4_accept 29 = .ok (.iload_n 2, 1) := by decide +kernel
theorem dX4_accept_30 : decode cX4_accept 30 = .ok (.ireturn, 1) := by decide +kernel
def w_X4_accept_29 (a1 : Nat) (Q : Int32 → V3 → Prop) (x2 : Int32) (v : V3) : Prop := (x2 = 0 ∨ x2 = 1) ∧ Q x2 v
def w_X4_accept_20 (a1 : Nat) (Q : Int32 → V3 → Prop) (s0 : Int32) (v : V3) : Prop := ((s0 = 0 → w_X4_accept_29 a1 Q s0 v) ∧ (¬ s0 = 0 → w_X4_nextToken v (fun v6 => w_X4_accept_29 a1 Q s0 v6)))
def w_X4_accept_19 (a1 : Nat) (Q : Int32 → V3 → Prop) (v : V3) : Prop := w_X4_accept_20 a1 Q 0 v
def w_X4_accept (a1 : Nat) (v : V3) (Q : Int32 → V3 → Prop) : Prop := w_X4_isFine v (fun r2 v1 => ((r2 = 0 → w_X4_accept_19 a1 Q v1) ∧ (¬ r2 = 0 → w_X4_isWord a1 v1 (fun r8 v7 => ((r8 = 0 → w_X4_accept_19 a1 Q v7) ∧ (¬ r8 = 0 → w_X4_accept_20 a1 Q 1 v7))))))
set_option maxRecDepth 100000 in
set_option maxHeartbeats 4000000 in
theorem b_X4_accept_29 {p : Program} (l : Launch) {e : Env} {s : State} {m : MethodId} {args : Array Value} {below : List Frame} {meth : Method} {c : Code} {G : zG} {a1 : Nat} (hSa1 : a1 < zsn) (C0 : Cx G RX4 cX4_accept 3 (some .boolean) p s m args meth c) {Q : Int32 → V3 → Prop} : ∀ (x2 : Int32) (v : V3) (H : Heap) (locs : List Loc) (ls : Array Slot), w_X4_accept_29 a1 Q x2 v → Zs G s v H locs → lv_has ls 3 [(2, .int x2)] → W p l e { frames := 5, cells := 0, slots := 0, locals := 147 } s m args below meth c H locs 0 0 (MQ below (QiZ G Q) args s 0 0 (zA G)) (F0 m 29 ls []) := by
  have hx := C0.1
  have hb := C0.2.1
  intro x2 v H locs ls hw Z hl
  rw [w_X4_accept_29] at hw
  refine lv_iload_n hx hb dX4_accept_29 rfl (lv_at hl 0 rfl) ?_
  obtain ⟨h5, hw⟩ := hw
  exact z_zret C0 Z h5 hw dX4_accept_30
set_option maxRecDepth 100000 in
set_option maxHeartbeats 4000000 in
theorem b_X4_accept_20 {p : Program} (l : Launch) {e : Env} {s : State} {m : MethodId} {args : Array Value} {below : List Frame} {meth : Method} {c : Code} {G : zG} {a1 : Nat} (hSa1 : a1 < zsn) (C0 : Cx G RX4 cX4_accept 3 (some .boolean) p s m args meth c) {Q : Int32 → V3 → Prop} : ∀ (s0 : Int32) (v : V3) (H : Heap) (locs : List Loc) (ls : Array Slot), w_X4_accept_20 a1 Q s0 v → Zs G s v H locs → lv_has ls 3 [(0, .ref (gad G 7))] → W p l e { frames := 5, cells := 0, slots := 0, locals := 147 } s m args below meth c H locs 0 0 (MQ below (QiZ G Q) args s 0 0 (zA G)) (F0 m 20 ls [.int s0]) := by
  have hx := C0.1
  have hb := C0.2.1
  intro s0 v H locs ls hw Z hl
  rw [w_X4_accept_20] at hw
  refine lv_istore_n (lv' := [(2, .int s0), (0, .ref (gad G 7))]) hx hb dX4_accept_20 rfl hl (by decide) rfl (fun ls hl => ?_)
  refine lv_iload_n hx hb dX4_accept_21 rfl (lv_at hl 0 rfl) ?_
  refine lv_if_eq (tgt := 29) hx hb dX4_accept_22 (by decide) (fun c4 => ?_) (fun c4 => ?_)
  · replace hw := hw.1 c4
    exact b_X4_accept_29 l hSa1 C0 _ _ _ _ _ hw Z (lv_sub hl [0] rfl)
  · replace hw := hw.2 c4
    refine lv_aload_n hx hb dX4_accept_25 rfl (lv_at hl 1 rfl) ?_
    refine z_callVv C0 Z hl.1 (As := []) (rest := []) (k_X4_nextToken l (cx_g C0) hw) (gv_X4_nextToken tm_5_93) rfl ds_X4_nextToken ⟨Nat.le_of_ble_eq_true rfl, Nat.le_of_ble_eq_true rfl⟩ (ci := 4) rfl (cx_lt C0 (by decide)) rfl rfl rfl (Nat.le_of_ble_eq_true rfl) ⟨Nat.le_of_ble_eq_true rfl, Nat.le_of_ble_eq_true rfl⟩ dX4_accept_26 (fun v6 H locs hw Z => ?_)
    exact b_X4_accept_29 l hSa1 C0 _ _ _ _ _ hw Z (lv_sub hl [0] rfl)
set_option maxRecDepth 100000 in
set_option maxHeartbeats 4000000 in
theorem b_X4_accept_19 {p : Program} (l : Launch) {e : Env} {s : State} {m : MethodId} {args : Array Value} {below : List Frame} {meth : Method} {c : Code} {G : zG} {a1 : Nat} (hSa1 : a1 < zsn) (C0 : Cx G RX4 cX4_accept 3 (some .boolean) p s m args meth c) {Q : Int32 → V3 → Prop} : ∀ (v : V3) (H : Heap) (locs : List Loc) (ls : Array Slot), w_X4_accept_19 a1 Q v → Zs G s v H locs → lv_has ls 3 [(0, .ref (gad G 7))] → W p l e { frames := 5, cells := 0, slots := 0, locals := 147 } s m args below meth c H locs 0 0 (MQ below (QiZ G Q) args s 0 0 (zA G)) (F0 m 19 ls []) := by
  have hx := C0.1
  have hb := C0.2.1
  intro v H locs ls hw Z hl
  rw [w_X4_accept_19] at hw
  refine lv_iconst (v := 0) hx hb dX4_accept_19 (by decide) ?_
  exact b_X4_accept_20 l hSa1 C0 _ _ _ _ _ hw Z (lv_sub hl [0] rfl)
set_option maxRecDepth 100000 in
set_option maxHeartbeats 4000000 in
theorem k_X4_accept (l : Launch) {G : zG} (hg : 129 ≤ gn G) {a1 : Nat} (hSa1 : a1 < zsn) {v : V3} {Q : Int32 → V3 → Prop} (hw : w_X4_accept a1 v Q) : Mz l yX4_accept cX4_accept 3 (some .boolean) 5 147 G [.ref (gad G 7), .ref (zst G a1)] v (QiZ G Q) := by
  rw [w_X4_accept] at hw
  refine z_ofW hg (by decide) (Nat.le_of_ble_eq_true rfl) ?_
  intro p e s m args below meth c ls C0 Z hl
  have hx := C0.1
  have hb := C0.2.1
  replace hl : lv_has ls 3 [(0, .ref (gad G 7)), (1, .ref (zst G a1))] := hl
  generalize s.heap = H at Z ⊢
  generalize ([] : List Loc) = locs at Z ⊢
  refine lv_aload_n hx hb dX4_accept_0 rfl (lv_at hl 0 rfl) ?_
  refine z_callVi C0 Z hl.1 (As := []) (rest := []) (k_X4_isFine l (cx_g C0) hw) (gv_X4_isFine tm_5_129) rfl ds_X4_isFine ⟨Nat.le_of_ble_eq_true rfl, Nat.le_of_ble_eq_true rfl⟩ (ci := 4) rfl (cx_lt C0 (by decide)) rfl rfl rfl (Nat.le_of_ble_eq_true rfl) ⟨Nat.le_of_ble_eq_true rfl, Nat.le_of_ble_eq_true rfl⟩ dX4_accept_1 (fun r2 v1 H locs hw Z => ?_)
  refine lv_if_eq (tgt := 19) hx hb dX4_accept_4 (by decide) (fun c3 => ?_) (fun c3 => ?_)
  · replace hw := hw.1 c3
    exact b_X4_accept_19 l hSa1 C0 _ _ _ _ hw Z (lv_sub hl [0] rfl)
  · replace hw := hw.2 c3
    refine lv_aload_n hx hb dX4_accept_7 rfl (lv_at hl 0 rfl) ?_
    refine lv_aload_n hx hb dX4_accept_8 rfl (lv_at hl 1 rfl) ?_
    refine z_callVi C0 Z hl.1 (As := [.ref (zst G a1)]) (rest := []) (k_X4_isWord l (cx_g C0) hSa1 hw) (gv_X4_isWord tm_5_115) rfl ds_X4_isWord ⟨Nat.le_of_ble_eq_true rfl, Nat.le_of_ble_eq_true rfl⟩ (ci := 4) rfl (cx_lt C0 (by decide)) rfl rfl rfl (Nat.le_of_ble_eq_true rfl) ⟨Nat.le_of_ble_eq_true rfl, Nat.le_of_ble_eq_true rfl⟩ dX4_accept_9 (fun r8 v7 H locs hw Z => ?_)
    refine lv_if_eq (tgt := 19) hx hb dX4_accept_12 (by decide) (fun c9 => ?_) (fun c9 => ?_)
    · replace hw := hw.1 c9
      exact b_X4_accept_19 l hSa1 C0 _ _ _ _ hw Z (lv_sub hl [0] rfl)
    · replace hw := hw.2 c9
      refine lv_iconst (v := 1) hx hb dX4_accept_15 (by decide) ?_
      refine lv_goto (tgt := 20) hx hb dX4_accept_16 (by decide) ?_
      exact b_X4_accept_20 l hSa1 C0 _ _ _ _ _ hw Z (lv_sub hl [0] rfl)
-- X4_look: room (1, 25)
theorem dX4_look_0 : decode cX4_look 0 = .ok (.aload_n 0, 1) := by decide +kernel
theorem dX4_look_1 : decode cX4_look 1 = .ok (.aload_n 0, 1) := by decide +kernel
theorem dX4_look_2 : decode cX4_look 2 = .ok (.getfield 109, 3) := by decide +kernel
theorem dX4_look_5 : decode cX4_look 5 = .ok (.iconst 3, 1) := by decide +kernel
theorem dX4_look_6 : decode cX4_look 6 = .ok (.if_icmp .ne 7, 3) := by decide +kernel
theorem dX4_look_9 : decode cX4_look 9 = .ok (.iconst 1, 1) := by decide +kernel
theorem dX4_look_10 : decode cX4_look 10 = .ok (.goto 4, 3) := by decide +kernel
theorem dX4_look_13 : decode cX4_look 13 = .ok (.iconst 0, 1) := by decide +kernel
theorem dX4_look_14 : decode cX4_look 14 = .ok (.iconst 1, 1) := by decide +kernel
theorem dX4_look_15 : decode cX4_look 15 = .ok (.invokevirtual 148, 3) := by decide +kernel
theorem dX4_look_18 : decode cX4_look 18 = .ok (.aload_n 0, 1) := by decide +kernel
theorem dX4_look_19 : decode cX4_look 19 = .ok (.aload_n 0, 1) := by decide +kernel
theorem dX4_look_20 : decode cX4_look 20 = .ok (.getfield 106, 3) := by decide +kernel
theorem dX4_look_23 : decode cX4_look 23 = .ok (.i2l, 1) := by decide +kernel
theorem dX4_look_24 : decode cX4_look 24 = .ok (.iload_n 1, 1) := by decide +kernel
theorem dX4_look_25 : decode cX4_look 25 = .ok (.i2l, 1) := by decide +kernel
theorem dX4_look_26 : decode cX4_look 26 = .ok (.iload_n 2, 1) := by decide +kernel
theorem dX4_look_27 : decode cX4_look 27 = .ok (.i2l, 1) := by decide +kernel
theorem dX4_look_28 : decode cX4_look 28 = .ok (.invokestatic 67, 3) := by decide +kernel
theorem dX4_look_31 : decode cX4_look 31 = .ok (.iconst 2, 1) := by decide +kernel
theorem dX4_look_32 : decode cX4_look 32 = .ok (.invokevirtual 148, 3) := by decide +kernel
theorem dX4_look_35 : decode cX4_look 35 = .ok (.return_, 1) := by decide +kernel
def w_X4_look_14  (Q : V3 → Prop) (x1 : Int32) (x2 : Int32) (s1 : Int32) (v : V3) : Prop := w_X4_require s1 1 v (fun v2 => w_X4_isBetween ((v2 7 18).toInt64) ((x1).toInt64) ((x2).toInt64) v2 (fun r4 v3 => w_X4_require r4 2 v3 (fun v5 => Q v5)))
def w_X4_look (a1 : Int32) (a2 : Int32) (v : V3) (Q : V3 → Prop) : Prop := ((¬ (v 7 16) = 3 → w_X4_look_14 Q a1 a2 0 v) ∧ ((v 7 16) = 3 → w_X4_look_14 Q a1 a2 1 v))
set_option maxRecDepth 100000 in
set_option maxHeartbeats 4000000 in
theorem b_X4_look_14 {p : Program} (l : Launch) {e : Env} {s : State} {m : MethodId} {args : Array Value} {below : List Frame} {meth : Method} {c : Code} {G : zG}   (C0 : Cx G RX4 cX4_look 3 none p s m args meth c) {Q : V3 → Prop} : ∀ (x1 : Int32) (x2 : Int32) (s1 : Int32) (v : V3) (H : Heap) (locs : List Loc) (ls : Array Slot), w_X4_look_14 Q x1 x2 s1 v → Zs G s v H locs → lv_has ls 3 [(0, .ref (gad G 7)), (1, .int x1), (2, .int x2)] → W p l e { frames := 1, cells := 0, slots := 0, locals := 25 } s m args below meth c H locs 0 0 (MQ below (QvZ G Q) args s 0 0 (zA G)) (F0 m 14 ls [.int s1, .ref (gad G 7)]) := by
  have hx := C0.1
  have hb := C0.2.1
  intro x1 x2 s1 v H locs ls hw Z hl
  rw [w_X4_look_14] at hw
  refine lv_iconst (v := 1) hx hb dX4_look_14 (by decide) ?_
  refine z_callVv C0 Z hl.1 (As := [.int s1, .int 1]) (rest := []) (k_X4_require l (cx_g C0) hw) (gv_X4_require tm_5_121) rfl ds_X4_require ⟨Nat.le_of_ble_eq_true rfl, Nat.le_of_ble_eq_true rfl⟩ (ci := 4) rfl (cx_lt C0 (by decide)) rfl rfl rfl (Nat.le_of_ble_eq_true rfl) ⟨Nat.le_of_ble_eq_true rfl, Nat.le_of_ble_eq_true rfl⟩ dX4_look_15 (fun v2 H locs hw Z => ?_)
  refine lv_aload_n hx hb dX4_look_18 rfl (lv_at hl 0 rfl) ?_
  refine lv_aload_n hx hb dX4_look_19 rfl (lv_at hl 0 rfl) ?_
  refine z_get C0 Z in_X4 rfl 18 (by decide) rfl tm_4_221 (cx_lt C0 (by decide)) rfl rfl dX4_look_20 ?_
  refine lv_i2l (v := (v2 7 18).toInt64) hx hb dX4_look_23 rfl ?_
  refine lv_iload_n hx hb dX4_look_24 rfl (lv_at hl 1 rfl) ?_
  refine lv_i2l (v := (x1).toInt64) hx hb dX4_look_25 rfl ?_
  refine lv_iload_n hx hb dX4_look_26 rfl (lv_at hl 2 rfl) ?_
  refine lv_i2l (v := (x2).toInt64) hx hb dX4_look_27 rfl ?_
  refine z_callSi C0 Z hl.1 (As := [.long ((v2 7 18).toInt64), .long ((x1).toInt64), .long ((x2).toInt64)]) (rest := [.ref (gad G 7)]) (k_X4_isBetween l (cx_g C0) hw) (gv_X4_isBetween tm_5_83) ds_X4_isBetween ⟨Nat.le_of_ble_eq_true rfl, Nat.le_of_ble_eq_true rfl⟩ rfl rfl (Nat.le_of_ble_eq_true rfl) ⟨Nat.le_of_ble_eq_true rfl, Nat.le_of_ble_eq_true rfl⟩ dX4_look_28 (fun r4 v3 H locs hw Z => ?_)
  refine lv_iconst (v := 2) hx hb dX4_look_31 (by decide) ?_
  refine z_callVv C0 Z hl.1 (As := [.int r4, .int 2]) (rest := []) (k_X4_require l (cx_g C0) hw) (gv_X4_require tm_5_121) rfl ds_X4_require ⟨Nat.le_of_ble_eq_true rfl, Nat.le_of_ble_eq_true rfl⟩ (ci := 4) rfl (cx_lt C0 (by decide)) rfl rfl rfl (Nat.le_of_ble_eq_true rfl) ⟨Nat.le_of_ble_eq_true rfl, Nat.le_of_ble_eq_true rfl⟩ dX4_look_32 (fun v5 H locs hw Z => ?_)
  exact z_vret C0 Z hw dX4_look_35
set_option maxRecDepth 100000 in
set_option maxHeartbeats 4000000 in
theorem k_X4_look (l : Launch) {G : zG} (hg : 129 ≤ gn G) {a1 : Int32} {a2 : Int32}  {v : V3} {Q : V3 → Prop} (hw : w_X4_look a1 a2 v Q) : Mz l yX4_look cX4_look 3 none 1 25 G [.ref (gad G 7), .int a1, .int a2] v (QvZ G Q) := by
  rw [w_X4_look] at hw
  refine z_ofW hg (by decide) (Nat.le_of_ble_eq_true rfl) ?_
  intro p e s m args below meth c ls C0 Z hl
  have hx := C0.1
  have hb := C0.2.1
  replace hl : lv_has ls 3 [(0, .ref (gad G 7)), (1, .int a1), (2, .int a2)] := hl
  generalize s.heap = H at Z ⊢
  generalize ([] : List Loc) = locs at Z ⊢
  refine lv_aload_n hx hb dX4_look_0 rfl (lv_at hl 0 rfl) ?_
  refine lv_aload_n hx hb dX4_look_1 rfl (lv_at hl 0 rfl) ?_
  refine z_get C0 Z in_X4 rfl 16 (by decide) rfl tm_4_219 (cx_lt C0 (by decide)) rfl rfl dX4_look_2 ?_
  refine lv_iconst (v := 3) hx hb dX4_look_5 (by decide) ?_
  refine lv_icmp_ne (tgt := 13) hx hb dX4_look_6 (by decide) (fun c1 => ?_) (fun c1 => ?_)
  · replace hw := hw.1 c1
    refine lv_iconst (v := 0) hx hb dX4_look_13 (by decide) ?_
    exact b_X4_look_14 l C0 _ _ _ _ _ _ _ hw Z (lv_sub hl [0, 1, 2] rfl)
  · replace hw := hw.2 c1
    refine lv_iconst (v := 1) hx hb dX4_look_9 (by decide) ?_
    refine lv_goto (tgt := 14) hx hb dX4_look_10 (by decide) ?_
    exact b_X4_look_14 l C0 _ _ _ _ _ _ _ hw Z (lv_sub hl [0, 1, 2] rfl)
-- X4_parseNumber: room (4, 86)
theorem dX4_parseNumber_0 : decode cX4_parseNumber 0 = .ok (.aload_n 0, 1) := by decide +kernel
theorem dX4_parseNumber_1 : decode cX4_parseNumber 1 = .ok (.iload_n 1, 1) := by decide +kernel
theorem dX4_parseNumber_2 : decode cX4_parseNumber 2 = .ok (.iload_n 2, 1) := by decide +kernel
theorem dX4_parseNumber_3 : decode cX4_parseNumber 3 = .ok (.invokevirtual 152, 3) := by decide +kernel
theorem dX4_parseNumber_6 : decode cX4_parseNumber 6 = .ok (.aload_n 0, 1) := by decide +kernel
theorem dX4_parseNumber_7 : decode cX4_parseNumber 7 = .ok (.getfield 106, 3) := by decide +kernel
theorem dX4_parseNumber_10 : decode cX4_parseNumber 10 = .ok (.istore_n 3, 1) := by decide +kernel
theorem dX4_parseNumber_11 : decode cX4_parseNumber 11 = .ok (.aload_n 0, 1) := by decide +kernel
theorem dX4_parseNumber_12 : decode cX4_parseNumber 12 = .ok (.invokevirtual 156, 3) := by decide +kernel
theorem dX4_parseNumber_15 : decode cX4_parseNumber 15 = .ok (.iload_n 3, 1) := by decide +kernel
theorem dX4_parseNumber_16 : decode cX4_parseNumber 16 = .ok (.ireturn, 1) := by decide +kernel
def w_X4_parseNumber (a1 : Int32) (a2 : Int32) (v : V3) (Q : Int32 → V3 → Prop) : Prop := w_X4_look a1 a2 v (fun v1 => w_X4_advance v1 (fun v2 => Q (v1 7 18) v2))
set_option maxRecDepth 100000 in
set_option maxHeartbeats 4000000 in
theorem k_X4_parseNumber (l : Launch) {G : zG} (hg : 129 ≤ gn G) {a1 : Int32} {a2 : Int32}  {v : V3} {Q : Int32 → V3 → Prop} (hw : w_X4_parseNumber a1 a2 v Q) : Mz l yX4_parseNumber cX4_parseNumber 4 (some .int) 4 86 G [.ref (gad G 7), .int a1, .int a2] v (QiZ G Q) := by
  rw [w_X4_parseNumber] at hw
  refine z_ofW hg (by decide) (Nat.le_of_ble_eq_true rfl) ?_
  intro p e s m args below meth c ls C0 Z hl
  have hx := C0.1
  have hb := C0.2.1
  replace hl : lv_has ls 4 [(0, .ref (gad G 7)), (1, .int a1), (2, .int a2)] := hl
  generalize s.heap = H at Z ⊢
  generalize ([] : List Loc) = locs at Z ⊢
  refine lv_aload_n hx hb dX4_parseNumber_0 rfl (lv_at hl 0 rfl) ?_
  refine lv_iload_n hx hb dX4_parseNumber_1 rfl (lv_at hl 1 rfl) ?_
  refine lv_iload_n hx hb dX4_parseNumber_2 rfl (lv_at hl 2 rfl) ?_
  refine z_callVv C0 Z hl.1 (As := [.int a1, .int a2]) (rest := []) (k_X4_look l (cx_g C0) hw) (gv_X4_look tm_5_137) rfl ds_X4_look ⟨Nat.le_of_ble_eq_true rfl, Nat.le_of_ble_eq_true rfl⟩ (ci := 4) rfl (cx_lt C0 (by decide)) rfl rfl rfl (Nat.le_of_ble_eq_true rfl) ⟨Nat.le_of_ble_eq_true rfl, Nat.le_of_ble_eq_true rfl⟩ dX4_parseNumber_3 (fun v1 H locs hw Z => ?_)
  refine lv_aload_n hx hb dX4_parseNumber_6 rfl (lv_at hl 0 rfl) ?_
  refine z_get C0 Z in_X4 rfl 18 (by decide) rfl tm_4_221 (cx_lt C0 (by decide)) rfl rfl dX4_parseNumber_7 ?_
  refine lv_istore_n (lv' := [(3, .int (v1 7 18)), (0, .ref (gad G 7)), (1, .int a1), (2, .int a2)]) hx hb dX4_parseNumber_10 rfl hl (by decide) rfl (fun ls hl => ?_)
  refine lv_aload_n hx hb dX4_parseNumber_11 rfl (lv_at hl 1 rfl) ?_
  refine z_callVv C0 Z hl.1 (As := []) (rest := []) (k_X4_advance l (cx_g C0) hw) (gv_X4_advance tm_5_125) rfl ds_X4_advance ⟨Nat.le_of_ble_eq_true rfl, Nat.le_of_ble_eq_true rfl⟩ (ci := 4) rfl (cx_lt C0 (by decide)) rfl rfl rfl (Nat.le_of_ble_eq_true rfl) ⟨Nat.le_of_ble_eq_true rfl, Nat.le_of_ble_eq_true rfl⟩ dX4_parseNumber_12 (fun v2 H locs hw Z => ?_)
  refine lv_iload_n hx hb dX4_parseNumber_15 rfl (lv_at hl 0 rfl) ?_
  exact z_iret C0 Z hw dX4_parseNumber_16
-- X4_parseOwner: room (5, 109)
theorem dX4_parseOwner_0 : decode cX4_parseOwner 0 = .ok (.aload_n 0, 1) := by decide +kernel
theorem dX4_parseOwner_1 : decode cX4_parseOwner 1 = .ok (.aload_n 0, 1) := by decide +kernel
theorem dX4_parseOwner_2 : decode cX4_parseOwner 2 = .ok (.getfield 7, 3) := by decide +kernel
theorem dX4_parseOwner_5 : decode cX4_parseOwner 5 = .ok (.iconst 5, 1) := by decide +kernel
theorem dX4_parseOwner_6 : decode cX4_parseOwner 6 = .ok (.iaload, 1) := by decide +kernel
theorem dX4_parseOwner_7 : decode cX4_parseOwner 7 = .ok (.bipush 8, 2) := by decide +kernel
theorem dX4_parseOwner_9 : decode cX4_parseOwner 9 = .ok (.if_icmp .ge 7, 3) := by decide +kernel
theorem dX4_parseOwner_12 : decode cX4_parseOwner 12 = .ok (.iconst 1, 1) := by decide +kernel
theorem dX4_parseOwner_13 : decode cX4_parseOwner 13 = .ok (.goto 4, 3) := by decide +kernel
theorem dX4_parseOwner_16 : decode cX4_parseOwner 16 = .ok (.iconst 0, 1) := by decide +kernel
theorem dX4_parseOwner_17 : decode cX4_parseOwner 17 = .ok (.iconst 3, 1) := by decide +kernel
theorem dX4_parseOwner_18 : decode cX4_parseOwner 18 = .ok (.invokevirtual 148, 3) := by decide +kernel
theorem dX4_parseOwner_21 : decode cX4_parseOwner 21 = .ok (.aload_n 0, 1) := by decide +kernel
theorem dX4_parseOwner_22 : decode cX4_parseOwner 22 = .ok (.invokevirtual 156, 3) := by decide +kernel
theorem dX4_parseOwner_25 : decode cX4_parseOwner 25 = .ok (.aload_n 0, 1) := by decide +kernel
theorem dX4_parseOwner_26 : decode cX4_parseOwner 26 = .ok (.iconst 0, 1) := by decide +kernel
theorem dX4_parseOwner_27 : decode cX4_parseOwner 27 = .ok (.sipush 999, 3) := by decide +kernel
theorem dX4_parseOwner_30 : decode cX4_parseOwner 30 = .ok (.invokevirtual 159, 3) := by decide +kernel
theorem dX4_parseOwner_33 : decode cX4_parseOwner 33 = .ok (.istore_n 1, 1) := by decide +kernel
theorem dX4_parseOwner_34 : decode cX4_parseOwner 34 = .ok (.aload_n 0, 1) := by decide +kernel
theorem dX4_parseOwner_35 : decode cX4_parseOwner 35 = .ok (.invokevirtual 137, 3) := by decide +kernel
theorem dX4_parseOwner_38 : decode cX4_parseOwner 38 = .ok (.ifCond .eq 9, 3) := by decide +kernel
theorem dX4_parseOwner_41 : decode cX4_parseOwner 41 = .ok (.aload_n 0, 1) := by decide +kernel
theorem dX4_parseOwner_42 : decode cX4_parseOwner 42 = .ok (.iload_n 1, 1) := by decide +kernel
theorem dX4_parseOwner_43 : decode cX4_parseOwner 43 = .ok (.invokevirtual 162, 3) := by decide +kernel
theorem dX4_parseOwner_46 : decode cX4_parseOwner 46 = .ok (.istore_n 2, 1) := by decide +kernel
theorem dX4_parseOwner_47 : decode cX4_parseOwner 47 = .ok (.return_, 1) := by decide +kernel
def w_X4_parseOwner_47  (Q : V3 → Prop) (v : V3) : Prop := Q v
def w_X4_parseOwner_17  (Q : V3 → Prop) (s1 : Int32) (v : V3) : Prop := w_X4_require s1 3 v (fun v2 => w_X4_advance v2 (fun v3 => w_X4_parseNumber 0 999 v3 (fun r5 v4 => w_X4_isFine v4 (fun r7 v6 => ((r7 = 0 → w_X4_parseOwner_47 Q v6) ∧ (¬ r7 = 0 → w_X4_appendOwner r5 v6 (fun r10 v9 => w_X4_parseOwner_47 Q v9)))))))
def w_X4_parseOwner  (v : V3) (Q : V3 → Prop) : Prop := ((8 ≤ (v 8 5) → w_X4_parseOwner_17 Q 0 v) ∧ (¬ 8 ≤ (v 8 5) → w_X4_parseOwner_17 Q 1 v))
set_option maxRecDepth 100000 in
set_option maxHeartbeats 4000000 in
theorem b_X4_parseOwner_47 {p : Program} (l : Launch) {e : Env} {s : State} {m : MethodId} {args : Array Value} {below : List Frame} {meth : Method} {c : Code} {G : zG}   (C0 : Cx G RX4 cX4_parseOwner 3 none p s m args meth c) {Q : V3 → Prop} : ∀ (v : V3) (H : Heap) (locs : List Loc) (ls : Array Slot), w_X4_parseOwner_47 Q v → Zs G s v H locs → lv_has ls 3 [] → W p l e { frames := 5, cells := 0, slots := 0, locals := 109 } s m args below meth c H locs 0 0 (MQ below (QvZ G Q) args s 0 0 (zA G)) (F0 m 47 ls []) := by
  have hx := C0.1
  have hb := C0.2.1
  intro v H locs ls hw Z hl
  rw [w_X4_parseOwner_47] at hw
  exact z_vret C0 Z hw dX4_parseOwner_47
set_option maxRecDepth 100000 in
set_option maxHeartbeats 4000000 in
theorem b_X4_parseOwner_17 {p : Program} (l : Launch) {e : Env} {s : State} {m : MethodId} {args : Array Value} {below : List Frame} {meth : Method} {c : Code} {G : zG}   (C0 : Cx G RX4 cX4_parseOwner 3 none p s m args meth c) {Q : V3 → Prop} : ∀ (s1 : Int32) (v : V3) (H : Heap) (locs : List Loc) (ls : Array Slot), w_X4_parseOwner_17 Q s1 v → Zs G s v H locs → lv_has ls 3 [(0, .ref (gad G 7))] → W p l e { frames := 5, cells := 0, slots := 0, locals := 109 } s m args below meth c H locs 0 0 (MQ below (QvZ G Q) args s 0 0 (zA G)) (F0 m 17 ls [.int s1, .ref (gad G 7)]) := by
  have hx := C0.1
  have hb := C0.2.1
  intro s1 v H locs ls hw Z hl
  rw [w_X4_parseOwner_17] at hw
  refine lv_iconst (v := 3) hx hb dX4_parseOwner_17 (by decide) ?_
  refine z_callVv C0 Z hl.1 (As := [.int s1, .int 3]) (rest := []) (k_X4_require l (cx_g C0) hw) (gv_X4_require tm_5_121) rfl ds_X4_require ⟨Nat.le_of_ble_eq_true rfl, Nat.le_of_ble_eq_true rfl⟩ (ci := 4) rfl (cx_lt C0 (by decide)) rfl rfl rfl (Nat.le_of_ble_eq_true rfl) ⟨Nat.le_of_ble_eq_true rfl, Nat.le_of_ble_eq_true rfl⟩ dX4_parseOwner_18 (fun v2 H locs hw Z => ?_)
  refine lv_aload_n hx hb dX4_parseOwner_21 rfl (lv_at hl 0 rfl) ?_
  refine z_callVv C0 Z hl.1 (As := []) (rest := []) (k_X4_advance l (cx_g C0) hw) (gv_X4_advance tm_5_125) rfl ds_X4_advance ⟨Nat.le_of_ble_eq_true rfl, Nat.le_of_ble_eq_true rfl⟩ (ci := 4) rfl (cx_lt C0 (by decide)) rfl rfl rfl (Nat.le_of_ble_eq_true rfl) ⟨Nat.le_of_ble_eq_true rfl, Nat.le_of_ble_eq_true rfl⟩ dX4_parseOwner_22 (fun v3 H locs hw Z => ?_)
  refine lv_aload_n hx hb dX4_parseOwner_25 rfl (lv_at hl 0 rfl) ?_
  refine lv_iconst (v := 0) hx hb dX4_parseOwner_26 (by decide) ?_
  refine lv_sipush (v := 999) hx hb dX4_parseOwner_27 (by decide) ?_
  refine z_callVi C0 Z hl.1 (As := [.int 0, .int 999]) (rest := []) (k_X4_parseNumber l (cx_g C0) hw) (gv_X4_parseNumber tm_5_133) rfl ds_X4_parseNumber ⟨Nat.le_of_ble_eq_true rfl, Nat.le_of_ble_eq_true rfl⟩ (ci := 4) rfl (cx_lt C0 (by decide)) rfl rfl rfl (Nat.le_of_ble_eq_true rfl) ⟨Nat.le_of_ble_eq_true rfl, Nat.le_of_ble_eq_true rfl⟩ dX4_parseOwner_30 (fun r5 v4 H locs hw Z => ?_)
  refine lv_istore_n (lv' := [(1, .int r5), (0, .ref (gad G 7))]) hx hb dX4_parseOwner_33 rfl hl (by decide) rfl (fun ls hl => ?_)
  refine lv_aload_n hx hb dX4_parseOwner_34 rfl (lv_at hl 1 rfl) ?_
  refine z_callVi C0 Z hl.1 (As := []) (rest := []) (k_X4_isFine l (cx_g C0) hw) (gv_X4_isFine tm_5_129) rfl ds_X4_isFine ⟨Nat.le_of_ble_eq_true rfl, Nat.le_of_ble_eq_true rfl⟩ (ci := 4) rfl (cx_lt C0 (by decide)) rfl rfl rfl (Nat.le_of_ble_eq_true rfl) ⟨Nat.le_of_ble_eq_true rfl, Nat.le_of_ble_eq_true rfl⟩ dX4_parseOwner_35 (fun r7 v6 H locs hw Z => ?_)
  refine lv_if_eq (tgt := 47) hx hb dX4_parseOwner_38 (by decide) (fun c8 => ?_) (fun c8 => ?_)
  · replace hw := hw.1 c8
    exact b_X4_parseOwner_47 l C0 _ _ _ _ hw Z (lv_sub hl [] rfl)
  · replace hw := hw.2 c8
    refine lv_aload_n hx hb dX4_parseOwner_41 rfl (lv_at hl 1 rfl) ?_
    refine lv_iload_n hx hb dX4_parseOwner_42 rfl (lv_at hl 0 rfl) ?_
    refine z_callVi C0 Z hl.1 (As := [.int r5]) (rest := []) (k_X4_appendOwner l (cx_g C0) hw) (gv_X4_appendOwner tm_5_150) rfl ds_X4_appendOwner ⟨Nat.le_of_ble_eq_true rfl, Nat.le_of_ble_eq_true rfl⟩ (ci := 4) rfl (cx_lt C0 (by decide)) rfl rfl rfl (Nat.le_of_ble_eq_true rfl) ⟨Nat.le_of_ble_eq_true rfl, Nat.le_of_ble_eq_true rfl⟩ dX4_parseOwner_43 (fun r10 v9 H locs hw Z => ?_)
    refine lv_istore_n (lv' := [(2, .int r10), (1, .int r5), (0, .ref (gad G 7))]) hx hb dX4_parseOwner_46 rfl hl (by decide) rfl (fun ls hl => ?_)
    exact b_X4_parseOwner_47 l C0 _ _ _ _ hw Z (lv_sub hl [] rfl)
set_option maxRecDepth 100000 in
set_option maxHeartbeats 4000000 in
theorem k_X4_parseOwner (l : Launch) {G : zG} (hg : 129 ≤ gn G)  {v : V3} {Q : V3 → Prop} (hw : w_X4_parseOwner v Q) : Mz l yX4_parseOwner cX4_parseOwner 3 none 5 109 G [.ref (gad G 7)] v (QvZ G Q) := by
  rw [w_X4_parseOwner] at hw
  refine z_ofW hg (by decide) (Nat.le_of_ble_eq_true rfl) ?_
  intro p e s m args below meth c ls C0 Z hl
  have hx := C0.1
  have hb := C0.2.1
  replace hl : lv_has ls 3 [(0, .ref (gad G 7))] := hl
  generalize s.heap = H at Z ⊢
  generalize ([] : List Loc) = locs at Z ⊢
  refine lv_aload_n hx hb dX4_parseOwner_0 rfl (lv_at hl 0 rfl) ?_
  refine lv_aload_n hx hb dX4_parseOwner_1 rfl (lv_at hl 0 rfl) ?_
  refine z_get C0 Z in_X4 rfl 0 (by decide) rfl tm_4_203 (cx_lt C0 (by decide)) rfl rfl dX4_parseOwner_2 ?_
  refine lv_iconst (v := 5) hx hb dX4_parseOwner_5 (by decide) ?_
  refine z_ialdk C0 Z (cx_lt C0 (by decide)) rfl in_5_474 nc_5 dX4_parseOwner_6 ?_
  refine lv_bipush (v := 8) hx hb dX4_parseOwner_7 (by decide) ?_
  refine lv_icmp_ge (tgt := 16) hx hb dX4_parseOwner_9 (by decide) (fun c1 => ?_) (fun c1 => ?_)
  · replace hw := hw.1 c1
    refine lv_iconst (v := 0) hx hb dX4_parseOwner_16 (by decide) ?_
    exact b_X4_parseOwner_17 l C0 _ _ _ _ _ hw Z (lv_sub hl [0] rfl)
  · replace hw := hw.2 c1
    refine lv_iconst (v := 1) hx hb dX4_parseOwner_12 (by decide) ?_
    refine lv_goto (tgt := 17) hx hb dX4_parseOwner_13 (by decide) ?_
    exact b_X4_parseOwner_17 l C0 _ _ _ _ _ hw Z (lv_sub hl [0] rfl)
-- X4_parseBook: room (7, 169)
theorem dX4_parseBook_0 : decode cX4_parseBook 0 = .ok (.aload_n 0, 1) := by decide +kernel
theorem dX4_parseBook_1 : decode cX4_parseBook 1 = .ok (.aload_n 0, 1) := by decide +kernel
theorem dX4_parseBook_2 : decode cX4_parseBook 2 = .ok (.getfield 7, 3) := by decide +kernel
theorem dX4_parseBook_5 : decode cX4_parseBook 5 = .ok (.bipush 6, 2) := by decide +kernel
theorem dX4_parseBook_7 : decode cX4_parseBook 7 = .ok (.iaload, 1) := by decide +kernel
theorem dX4_parseBook_8 : decode cX4_parseBook 8 = .ok (.bipush 40, 2) := by decide +kernel
theorem dX4_parseBook_10 : decode cX4_parseBook 10 = .ok (.if_icmp .ge 7, 3) := by decide +kernel
theorem dX4_parseBook_13 : decode cX4_parseBook 13 = .ok (.iconst 1, 1) := by decide +kernel
theorem dX4_parseBook_14 : decode cX4_parseBook 14 = .ok (.goto 4, 3) := by decide +kernel
theorem dX4_parseBook_17 : decode cX4_parseBook 17 = .ok (.iconst 0, 1) := by decide +kernel
theorem dX4_parseBook_18 : decode cX4_parseBook 18 = .ok (.iconst 3, 1) := by decide +kernel
theorem dX4_parseBook_19 : decode cX4_parseBook 19 = .ok (.invokevirtual 148, 3) := by decide +kernel
theorem dX4_parseBook_22 : decode cX4_parseBook 22 = .ok (.aload_n 0, 1) := by decide +kernel
theorem dX4_parseBook_23 : decode cX4_parseBook 23 = .ok (.invokevirtual 156, 3) := by decide +kernel
theorem dX4_parseBook_26 : decode cX4_parseBook 26 = .ok (.aload_n 0, 1) := by decide +kernel
theorem dX4_parseBook_27 : decode cX4_parseBook 27 = .ok (.iconst 0, 1) := by decide +kernel
theorem dX4_parseBook_28 : decode cX4_parseBook 28 = .ok (.aload_n 0, 1) := by decide +kernel
theorem dX4_parseBook_29 : decode cX4_parseBook 29 = .ok (.getfield 7, 3) := by decide +kernel
theorem dX4_parseBook_32 : decode cX4_parseBook 32 = .ok (.iconst 5, 1) := by decide +kernel
theorem dX4_parseBook_33 : decode cX4_parseBook 33 = .ok (.iaload, 1) := by decide +kernel
theorem dX4_parseBook_34 : decode cX4_parseBook 34 = .ok (.iconst 1, 1) := by decide +kernel
theorem dX4_parseBook_35 : decode cX4_parseBook 35 = .ok (.isub, 1) := by decide +kernel
theorem dX4_parseBook_36 : decode cX4_parseBook 36 = .ok (.invokevirtual 152, 3) := by decide +kernel
theorem dX4_parseBook_39 : decode cX4_parseBook 39 = .ok (.aload_n 0, 1) := by decide +kernel
theorem dX4_parseBook_40 : decode cX4_parseBook 40 = .ok (.getfield 106, 3) := by decide +kernel
theorem dX4_parseBook_43 : decode cX4_parseBook 43 = .ok (.istore_n 1, 1) := by decide +kernel
theorem dX4_parseBook_44 : decode cX4_parseBook 44 = .ok (.aload_n 0, 1) := by decide +kernel
theorem dX4_parseBook_45 : decode cX4_parseBook 45 = .ok (.aload_n 0, 1) := by decide +kernel
theorem dX4_parseBook_46 : decode cX4_parseBook 46 = .ok (.invokevirtual 137, 3) := by decide +kernel
theorem dX4_parseBook_49 : decode cX4_parseBook 49 = .ok (.ifCond .eq 17, 3) := by decide +kernel
theorem dX4_parseBook_52 : decode cX4_parseBook 52 = .ok (.aload_n 0, 1) := by decide +kernel
theorem dX4_parseBook_53 : decode cX4_parseBook 53 = .ok (.iload_n 1, 1) := by decide +kernel
theorem dX4_parseBook_54 : decode cX4_parseBook 54 = .ok (.invokevirtual 165, 3) := by decide +kernel
theorem dX4_parseBook_57 : decode cX4_parseBook 57 = .ok (.aload_n 0, 1) := by decide +kernel
theorem dX4_parseBook_58 : decode cX4_parseBook 58 = .ok (.getfield 7, 3) := by decide +kernel
theorem dX4_parseBook_61 : decode cX4_parseBook 61 = .ok (.iconst 2, 1) := by decide +kernel
theorem dX4_parseBook_62 : decode cX4_parseBook 62 = .ok (.iaload, 1) := by decide +kernel
theorem dX4_parseBook_63 : decode cX4_parseBook 63 = .ok (.if_icmp .ge 7, 3) := by decide +kernel
theorem dX4_parseBook_66 : decode cX4_parseBook 66 = .ok (.iconst 1, 1) := by decide +kernel
theorem dX4_parseBook_67 : decode cX4_parseBook 67 = .ok (.goto 4, 3) := by decide +kernel
theorem dX4_parseBook_70 : decode cX4_parseBook 70 = .ok (.iconst 0, 1) := by decide +kernel
theorem dX4_parseBook_71 : decode cX4_parseBook 71 = .ok (.iconst 3, 1) := by decide +kernel
theorem dX4_parseBook_72 : decode cX4_parseBook 72 = .ok (.invokevirtual 148, 3) := by decide +kernel
theorem dX4_parseBook_75 : decode cX4_parseBook 75 = .ok (.aload_n 0, 1) := by decide +kernel
theorem dX4_parseBook_76 : decode cX4_parseBook 76 = .ok (.invokevirtual 156, 3) := by decide +kernel
theorem dX4_parseBook_79 : decode cX4_parseBook 79 = .ok (.aload_n 0, 1) := by decide +kernel
theorem dX4_parseBook_80 : decode cX4_parseBook 80 = .ok (.iconst 0, 1) := by decide +kernel
theorem dX4_parseBook_81 : decode cX4_parseBook 81 = .ok (.aload_n 0, 1) := by decide +kernel
theorem dX4_parseBook_82 : decode cX4_parseBook 82 = .ok (.getfield 7, 3) := by decide +kernel
theorem dX4_parseBook_85 : decode cX4_parseBook 85 = .ok (.iconst 4, 1) := by decide +kernel
theorem dX4_parseBook_86 : decode cX4_parseBook 86 = .ok (.iaload, 1) := by decide +kernel
theorem dX4_parseBook_87 : decode cX4_parseBook 87 = .ok (.iconst 1, 1) := by decide +kernel
theorem dX4_parseBook_88 : decode cX4_parseBook 88 = .ok (.isub, 1) := by decide +kernel
theorem dX4_parseBook_89 : decode cX4_parseBook 89 = .ok (.invokevirtual 159, 3) := by decide +kernel
theorem dX4_parseBook_92 : decode cX4_parseBook 92 = .ok (.istore_n 2, 1) := by decide +kernel
theorem dX4_parseBook_93 : decode cX4_parseBook 93 = .ok (.aload_n 0, 1) := by decide +kernel
theorem dX4_parseBook_94 : decode cX4_parseBook 94 = .ok (.iconst 1, 1) := by decide +kernel
theorem dX4_parseBook_95 : decode cX4_parseBook 95 = .ok (.ldc 170, 2) := by decide +kernel
theorem dX4_parseBook_97 : decode cX4_parseBook 97 = .ok (.invokevirtual 152, 3) := by decide +kernel
theorem dX4_parseBook_100 : decode cX4_parseBook 100 = .ok (.aload_n 0, 1) := by decide +kernel
theorem dX4_parseBook_101 : decode cX4_parseBook 101 = .ok (.getfield 106, 3) := by decide +kernel
theorem dX4_parseBook_104 : decode cX4_parseBook 104 = .ok (.istore_n 3, 1) := by decide +kernel
theorem dX4_parseBook_105 : decode cX4_parseBook 105 = .ok (.aload_n 0, 1) := by decide +kernel
theorem dX4_parseBook_106 : decode cX4_parseBook 106 = .ok (.aload_n 0, 1) := by decide +kernel
theorem dX4_parseBook_107 : decode cX4_parseBook 107 = .ok (.invokevirtual 137, 3) := by decide +kernel
theorem dX4_parseBook_110 : decode cX4_parseBook 110 = .ok (.ifCond .eq 15, 3) := by decide +kernel
theorem dX4_parseBook_113 : decode cX4_parseBook 113 = .ok (.iload_n 2, 1) := by decide +kernel
theorem dX4_parseBook_114 : decode cX4_parseBook 114 = .ok (.iload_n 3, 1) := by decide +kernel
theorem dX4_parseBook_115 : decode cX4_parseBook 115 = .ok (.iadd, 1) := by decide +kernel
theorem dX4_parseBook_116 : decode cX4_parseBook 116 = .ok (.aload_n 0, 1) := by decide +kernel
theorem dX4_parseBook_117 : decode cX4_parseBook 117 = .ok (.getfield 7, 3) := by decide +kernel
theorem dX4_parseBook_120 : decode cX4_parseBook 120 = .ok (.iconst 4, 1) := by decide +kernel
theorem dX4_parseBook_121 : decode cX4_parseBook 121 = .ok (.iaload, 1) := by decide +kernel
theorem dX4_parseBook_122 : decode cX4_parseBook 122 = .ok (.if_icmp .gt 7, 3) := by decide +kernel
theorem dX4_parseBook_125 : decode cX4_parseBook 125 = .ok (.iconst 1, 1) := by decide +kernel
theorem dX4_parseBook_126 : decode cX4_parseBook 126 = .ok (.goto 4, 3) := by decide +kernel
theorem dX4_parseBook_129 : decode cX4_parseBook 129 = .ok (.iconst 0, 1) := by decide +kernel
theorem dX4_parseBook_130 : decode cX4_parseBook 130 = .ok (.iconst 4, 1) := by decide +kernel
theorem dX4_parseBook_131 : decode cX4_parseBook 131 = .ok (.invokevirtual 148, 3) := by decide +kernel
theorem dX4_parseBook_134 : decode cX4_parseBook 134 = .ok (.aload_n 0, 1) := by decide +kernel
theorem dX4_parseBook_135 : decode cX4_parseBook 135 = .ok (.invokevirtual 156, 3) := by decide +kernel
theorem dX4_parseBook_138 : decode cX4_parseBook 138 = .ok (.aload_n 0, 1) := by decide +kernel
theorem dX4_parseBook_139 : decode cX4_parseBook 139 = .ok (.iconst 1, 1) := by decide +kernel
theorem dX4_parseBook_140 : decode cX4_parseBook 140 = .ok (.bipush 99, 2) := by decide +kernel
theorem dX4_parseBook_142 : decode cX4_parseBook 142 = .ok (.invokevirtual 159, 3) := by decide +kernel
theorem dX4_parseBook_145 : decode cX4_parseBook 145 = .ok (.istore 4, 2) := by decide +kernel
theorem dX4_parseBook_147 : decode cX4_parseBook 147 = .ok (.aload_n 0, 1) := by decide +kernel
theorem dX4_parseBook_148 : decode cX4_parseBook 148 = .ok (.iconst 0, 1) := by decide +kernel
theorem dX4_parseBook_149 : decode cX4_parseBook 149 = .ok (.sipush 9999, 3) := by decide +kernel
theorem dX4_parseBook_152 : decode cX4_parseBook 152 = .ok (.invokevirtual 159, 3) := by decide +kernel
theorem dX4_parseBook_155 : decode cX4_parseBook 155 = .ok (.istore 5, 2) := by decide +kernel
theorem dX4_parseBook_157 : decode cX4_parseBook 157 = .ok (.aload_n 0, 1) := by decide +kernel
theorem dX4_parseBook_158 : decode cX4_parseBook 158 = .ok (.ldc 171, 2) := by decide +kernel
theorem dX4_parseBook_160 : decode cX4_parseBook 160 = .ok (.invokevirtual 173, 3) := by decide +kernel
theorem dX4_parseBook_163 : decode cX4_parseBook 163 = .ok (.ifCond .eq 13, 3) := by decide +kernel
theorem dX4_parseBook_166 : decode cX4_parseBook 166 = .ok (.aload_n 0, 1) := by decide +kernel
theorem dX4_parseBook_167 : decode cX4_parseBook 167 = .ok (.iconst 0, 1) := by decide +kernel
theorem dX4_parseBook_168 : decode cX4_parseBook 168 = .ok (.bipush 99, 2) := by decide +kernel
theorem dX4_parseBook_170 : decode cX4_parseBook 170 = .ok (.invokevirtual 159, 3) := by decide +kernel
theorem dX4_parseBook_173 : decode cX4_parseBook 173 = .ok (.goto 4, 3) := by decide +kernel
theorem dX4_parseBook_176 : decode cX4_parseBook 176 = .ok (.iconst 0, 1) := by decide +kernel
theorem dX4_parseBook_177 : decode cX4_parseBook 177 = .ok (.istore 6, 2) := by decide +kernel
theorem dX4_parseBook_179 : decode cX4_parseBook 179 = .ok (.aload_n 0, 1) := by decide +kernel
theorem dX4_parseBook_180 : decode cX4_parseBook 180 = .ok (.ldc 176, 2) := by decide +kernel
theorem dX4_parseBook_182 : decode cX4_parseBook 182 = .ok (.invokevirtual 173, 3) := by decide +kernel
theorem dX4_parseBook_185 : decode cX4_parseBook 185 = .ok (.ifCond .eq 13, 3) := by decide +kernel
theorem dX4_parseBook_188 : decode cX4_parseBook 188 = .ok (.aload_n 0, 1) := by decide +kernel
theorem dX4_parseBook_189 : decode cX4_parseBook 189 = .ok (.iconst 1, 1) := by decide +kernel
theorem dX4_parseBook_190 : decode cX4_parseBook 190 = .ok (.bipush 9, 2) := by decide +kernel
theorem dX4_parseBook_192 : decode cX4_parseBook 192 = .ok (.invokevirtual 159, 3) := by decide +kernel
theorem dX4_parseBook_195 : decode cX4_parseBook 195 = .ok (.goto 4, 3) := by decide +kernel
theorem dX4_parseBook_198 : decode cX4_parseBook 198 = .ok (.iconst 1, 1) := by decide +kernel
theorem dX4_parseBook_199 : decode cX4_parseBook 199 = .ok (.istore 7, 2) := by decide +kernel
theorem dX4_parseBook_201 : decode cX4_parseBook 201 = .ok (.aload_n 0, 1) := by decide +kernel
theorem dX4_parseBook_202 : decode cX4_parseBook 202 = .ok (.invokevirtual 137, 3) := by decide +kernel
theorem dX4_parseBook_205 : decode cX4_parseBook 205 = .ok (.ifCond .eq 32, 3) := by decide +kernel
theorem dX4_parseBook_208 : decode cX4_parseBook 208 = .ok (.aload_n 0, 1) := by decide +kernel
theorem dX4_parseBook_209 : decode cX4_parseBook 209 = .ok (.iload_n 2, 1) := by decide +kernel
theorem dX4_parseBook_210 : decode cX4_parseBook 210 = .ok (.putfield 58, 3) := by decide +kernel
theorem dX4_parseBook_213 : decode cX4_parseBook 213 = .ok (.aload_n 0, 1) := by decide +kernel
theorem dX4_parseBook_214 : decode cX4_parseBook 214 = .ok (.iload_n 3, 1) := by decide +kernel
theorem dX4_parseBook_215 : decode cX4_parseBook 215 = .ok (.putfield 61, 3) := by decide +kernel
theorem dX4_parseBook_218 : decode cX4_parseBook 218 = .ok (.aload_n 0, 1) := by decide +kernel
theorem dX4_parseBook_219 : decode cX4_parseBook 219 = .ok (.iload 4, 2) := by decide +kernel
theorem dX4_parseBook_221 : decode cX4_parseBook 221 = .ok (.putfield 64, 3) := by decide +kernel
theorem dX4_parseBook_224 : decode cX4_parseBook 224 = .ok (.aload_n 0, 1) := by decide +kernel
theorem dX4_parseBook_225 : decode cX4_parseBook 225 = .ok (.iload_n 1, 1) := by decide +kernel
theorem dX4_parseBook_226 : decode cX4_parseBook 226 = .ok (.iload 5, 2) := by decide +kernel
theorem dX4_parseBook_228 : decode cX4_parseBook 228 = .ok (.iload 6, 2) := by decide +kernel
theorem dX4_parseBook_230 : decode cX4_parseBook 230 = .ok (.iload 7, 2) := by decide +kernel
theorem dX4_parseBook_232 : decode cX4_parseBook 232 = .ok (.invokevirtual 178, 3) := by decide +kernel
theorem dX4_parseBook_235 : decode cX4_parseBook 235 = .ok (.istore 8, 2) := by decide +kernel
theorem dX4_parseBook_237 : decode cX4_parseBook 237 = .ok (.return_, 1) := by decide +kernel
def w_X4_parseBook_237  (Q : V3 → Prop) (v : V3) : Prop := Q v
def w_X4_parseBook_199  (Q : V3 → Prop) (x1 : Int32) (x2 : Int32) (x3 : Int32) (x4 : Int32) (x5 : Int32) (x6 : Int32) (s0 : Int32) (v : V3) : Prop := w_X4_isFine v (fun r29 v28 => ((r29 = 0 → w_X4_parseBook_237 Q v28) ∧ (¬ r29 = 0 → ∀ v31 : V3, v31 = up2 v28 7 8 x2 → ∀ v32 : V3, v32 = up2 v31 7 9 x3 → ∀ v33 : V3, v33 = up2 v32 7 10 x4 → w_X4_appendBooking x1 x5 x6 s0 v33 (fun r35 v34 => w_X4_parseBook_237 Q v34))))
def w_X4_parseBook_177  (Q : V3 → Prop) (x1 : Int32) (x2 : Int32) (x3 : Int32) (x4 : Int32) (x5 : Int32) (s0 : Int32) (v : V3) : Prop := w_X4_accept 5 v (fun r26 v25 => ((r26 = 0 → w_X4_parseBook_199 Q x1 x2 x3 x4 x5 s0 1 v25) ∧ (¬ r26 = 0 → w_X4_parseNumber 1 9 v25 (fun r37 v36 => w_X4_parseBook_199 Q x1 x2 x3 x4 x5 s0 r37 v36))))
def w_X4_parseBook_130  (Q : V3 → Prop) (x1 : Int32) (x2 : Int32) (x3 : Int32) (s1 : Int32) (v : V3) : Prop := w_X4_require s1 4 v (fun v16 => w_X4_advance v16 (fun v17 => w_X4_parseNumber 1 99 v17 (fun r19 v18 => w_X4_parseNumber 0 9999 v18 (fun r21 v20 => w_X4_accept 4 v20 (fun r23 v22 => ((r23 = 0 → w_X4_parseBook_177 Q x1 x2 x3 r19 r21 0 v22) ∧ (¬ r23 = 0 → w_X4_parseNumber 0 99 v22 (fun r39 v38 => w_X4_parseBook_177 Q x1 x2 x3 r19 r21 r39 v38))))))))
def w_X4_parseBook_125  (Q : V3 → Prop) (x1 : Int32) (x2 : Int32) (x3 : Int32) (v : V3) : Prop := w_X4_parseBook_130 Q x1 x2 x3 1 v
def w_X4_parseBook_71  (Q : V3 → Prop) (x1 : Int32) (s1 : Int32) (v : V3) : Prop := w_X4_require s1 3 v (fun v8 => w_X4_advance v8 (fun v9 => w_X4_parseNumber 0 ((v9 8 4) - 1) v9 (fun r11 v10 => w_X4_look 1 2147483647 v10 (fun v12 => w_X4_isFine v12 (fun r14 v13 => ((r14 = 0 → w_X4_parseBook_125 Q x1 r11 (v12 7 18) v13) ∧ (¬ r14 = 0 → (((v13 8 4) < (r11 + (v12 7 18)) → w_X4_parseBook_130 Q x1 r11 (v12 7 18) 0 v13) ∧ (¬ (v13 8 4) < (r11 + (v12 7 18)) → w_X4_parseBook_125 Q x1 r11 (v12 7 18) v13)))))))))
def w_X4_parseBook_66  (Q : V3 → Prop) (x1 : Int32) (v : V3) : Prop := w_X4_parseBook_71 Q x1 1 v
def w_X4_parseBook_18  (Q : V3 → Prop) (s1 : Int32) (v : V3) : Prop := w_X4_require s1 3 v (fun v2 => w_X4_advance v2 (fun v3 => w_X4_look 0 ((v3 8 5) - 1) v3 (fun v4 => w_X4_isFine v4 (fun r6 v5 => ((r6 = 0 → w_X4_parseBook_66 Q (v4 7 18) v5) ∧ (¬ r6 = 0 → w_X4_openBookings (v4 7 18) v5 (fun r42 v41 => (((v41 8 2) ≤ r42 → w_X4_parseBook_71 Q (v4 7 18) 0 v41) ∧ (¬ (v41 8 2) ≤ r42 → w_X4_parseBook_66 Q (v4 7 18) v41)))))))))
def w_X4_parseBook  (v : V3) (Q : V3 → Prop) : Prop := ((40 ≤ (v 8 6) → w_X4_parseBook_18 Q 0 v) ∧ (¬ 40 ≤ (v 8 6) → w_X4_parseBook_18 Q 1 v))
set_option maxRecDepth 100000 in
set_option maxHeartbeats 4000000 in
theorem b_X4_parseBook_237 {p : Program} (l : Launch) {e : Env} {s : State} {m : MethodId} {args : Array Value} {below : List Frame} {meth : Method} {c : Code} {G : zG}   (C0 : Cx G RX4 cX4_parseBook 9 none p s m args meth c) {Q : V3 → Prop} : ∀ (v : V3) (H : Heap) (locs : List Loc) (ls : Array Slot), w_X4_parseBook_237 Q v → Zs G s v H locs → lv_has ls 9 [] → W p l e { frames := 7, cells := 0, slots := 0, locals := 169 } s m args below meth c H locs 0 0 (MQ below (QvZ G Q) args s 0 0 (zA G)) (F0 m 237 ls []) := by
  have hx := C0.1
  have hb := C0.2.1
  intro v H locs ls hw Z hl
  rw [w_X4_parseBook_237] at hw
  exact z_vret C0 Z hw dX4_parseBook_237
set_option maxRecDepth 100000 in
set_option maxHeartbeats 4000000 in
theorem b_X4_parseBook_199 {p : Program} (l : Launch) {e : Env} {s : State} {m : MethodId} {args : Array Value} {below : List Frame} {meth : Method} {c : Code} {G : zG}   (C0 : Cx G RX4 cX4_parseBook 9 none p s m args meth c) {Q : V3 → Prop} : ∀ (x1 : Int32) (x2 : Int32) (x3 : Int32) (x4 : Int32) (x5 : Int32) (x6 : Int32) (s0 : Int32) (v : V3) (H : Heap) (locs : List Loc) (ls : Array Slot), w_X4_parseBook_199 Q x1 x2 x3 x4 x5 x6 s0 v → Zs G s v H locs → lv_has ls 9 [(0, .ref (gad G 7)), (1, .int x1), (2, .int x2), (3, .int x3), (4, .int x4), (5, .int x5), (6, .int x6)] → W p l e { frames := 7, cells := 0, slots := 0, locals := 169 } s m args below meth c H locs 0 0 (MQ below (QvZ G Q) args s 0 0 (zA G)) (F0 m 199 ls [.int s0]) := by
  have hx := C0.1
  have hb := C0.2.1
  intro x1 x2 x3 x4 x5 x6 s0 v H locs ls hw Z hl
  rw [w_X4_parseBook_199] at hw
  refine lv_istore (lv' := [(7, .int s0), (0, .ref (gad G 7)), (1, .int x1), (2, .int x2), (3, .int x3), (4, .int x4), (5, .int x5), (6, .int x6)]) hx hb dX4_parseBook_199 hl (by decide) rfl (fun ls hl => ?_)
  refine lv_aload_n hx hb dX4_parseBook_201 rfl (lv_at hl 1 rfl) ?_
  refine z_callVi C0 Z hl.1 (As := []) (rest := []) (k_X4_isFine l (cx_g C0) hw) (gv_X4_isFine tm_5_129) rfl ds_X4_isFine ⟨Nat.le_of_ble_eq_true rfl, Nat.le_of_ble_eq_true rfl⟩ (ci := 4) rfl (cx_lt C0 (by decide)) rfl rfl rfl (Nat.le_of_ble_eq_true rfl) ⟨Nat.le_of_ble_eq_true rfl, Nat.le_of_ble_eq_true rfl⟩ dX4_parseBook_202 (fun r29 v28 H locs hw Z => ?_)
  refine lv_if_eq (tgt := 237) hx hb dX4_parseBook_205 (by decide) (fun c30 => ?_) (fun c30 => ?_)
  · replace hw := hw.1 c30
    exact b_X4_parseBook_237 l C0 _ _ _ _ hw Z (lv_sub hl [] rfl)
  · replace hw := hw.2 c30
    refine lv_aload_n hx hb dX4_parseBook_208 rfl (lv_at hl 1 rfl) ?_
    refine lv_iload_n hx hb dX4_parseBook_209 rfl (lv_at hl 3 rfl) ?_
    refine z_put C0 Z in_X4 tyX4_ok nmX4 rfl 8 (by decide) rfl rfl tm_4_211 (cx_lt C0 (by decide)) rfl p_X4_8 (fun c' h => up2_off _ _ _ h) rfl rfl (Nat.le_of_ble_eq_true rfl) dX4_parseBook_210 (fun H locs Z => ?_)
    obtain ⟨v31, ev31⟩ : ∃ z : V3, z = up2 v28 7 8 x2 := ⟨_, rfl⟩
    rw [← ev31] at Z
    replace hw := hw v31 ev31
    refine lv_aload_n hx hb dX4_parseBook_213 rfl (lv_at hl 1 rfl) ?_
    refine lv_iload_n hx hb dX4_parseBook_214 rfl (lv_at hl 4 rfl) ?_
    refine z_put C0 Z in_X4 tyX4_ok nmX4 rfl 9 (by decide) rfl rfl tm_4_212 (cx_lt C0 (by decide)) rfl p_X4_9 (fun c' h => up2_off _ _ _ h) rfl rfl (Nat.le_of_ble_eq_true rfl) dX4_parseBook_215 (fun H locs Z => ?_)
    obtain ⟨v32, ev32⟩ : ∃ z : V3, z = up2 v31 7 9 x3 := ⟨_, rfl⟩
    rw [← ev32] at Z
    replace hw := hw v32 ev32
    refine lv_aload_n hx hb dX4_parseBook_218 rfl (lv_at hl 1 rfl) ?_
    refine lv_iload hx hb dX4_parseBook_219 (lv_at hl 5 rfl) ?_
    refine z_put C0 Z in_X4 tyX4_ok nmX4 rfl 10 (by decide) rfl rfl tm_4_213 (cx_lt C0 (by decide)) rfl p_X4_10 (fun c' h => up2_off _ _ _ h) rfl rfl (Nat.le_of_ble_eq_true rfl) dX4_parseBook_221 (fun H locs Z => ?_)
    obtain ⟨v33, ev33⟩ : ∃ z : V3, z = up2 v32 7 10 x4 := ⟨_, rfl⟩
    rw [← ev33] at Z
    replace hw := hw v33 ev33
    refine lv_aload_n hx hb dX4_parseBook_224 rfl (lv_at hl 1 rfl) ?_
    refine lv_iload_n hx hb dX4_parseBook_225 rfl (lv_at hl 2 rfl) ?_
    refine lv_iload hx hb dX4_parseBook_226 (lv_at hl 6 rfl) ?_
    refine lv_iload hx hb dX4_parseBook_228 (lv_at hl 7 rfl) ?_
    refine lv_iload hx hb dX4_parseBook_230 (lv_at hl 0 rfl) ?_
    refine z_callVi C0 Z hl.1 (As := [.int x1, .int x5, .int x6, .int s0]) (rest := []) (k_X4_appendBooking l (cx_g C0) hw) (gv_X4_appendBooking tm_5_174) rfl ds_X4_appendBooking ⟨Nat.le_of_ble_eq_true rfl, Nat.le_of_ble_eq_true rfl⟩ (ci := 4) rfl (cx_lt C0 (by decide)) rfl rfl rfl (Nat.le_of_ble_eq_true rfl) ⟨Nat.le_of_ble_eq_true rfl, Nat.le_of_ble_eq_true rfl⟩ dX4_parseBook_232 (fun r35 v34 H locs hw Z => ?_)
    refine lv_istore (lv' := [(8, .int r35), (7, .int s0), (0, .ref (gad G 7)), (1, .int x1), (2, .int x2), (3, .int x3), (4, .int x4), (5, .int x5), (6, .int x6)]) hx hb dX4_parseBook_235 hl (by decide) rfl (fun ls hl => ?_)
    exact b_X4_parseBook_237 l C0 _ _ _ _ hw Z (lv_sub hl [] rfl)
set_option maxRecDepth 100000 in
set_option maxHeartbeats 4000000 in
theorem b_X4_parseBook_177 {p : Program} (l : Launch) {e : Env} {s : State} {m : MethodId} {args : Array Value} {below : List Frame} {meth : Method} {c : Code} {G : zG}   (C0 : Cx G RX4 cX4_parseBook 9 none p s m args meth c) {Q : V3 → Prop} : ∀ (x1 : Int32) (x2 : Int32) (x3 : Int32) (x4 : Int32) (x5 : Int32) (s0 : Int32) (v : V3) (H : Heap) (locs : List Loc) (ls : Array Slot), w_X4_parseBook_177 Q x1 x2 x3 x4 x5 s0 v → Zs G s v H locs → lv_has ls 9 [(0, .ref (gad G 7)), (1, .int x1), (2, .int x2), (3, .int x3), (4, .int x4), (5, .int x5)] → W p l e { frames := 7, cells := 0, slots := 0, locals := 169 } s m args below meth c H locs 0 0 (MQ below (QvZ G Q) args s 0 0 (zA G)) (F0 m 177 ls [.int s0]) := by
  have hx := C0.1
  have hb := C0.2.1
  intro x1 x2 x3 x4 x5 s0 v H locs ls hw Z hl
  rw [w_X4_parseBook_177] at hw
  refine lv_istore (lv' := [(6, .int s0), (0, .ref (gad G 7)), (1, .int x1), (2, .int x2), (3, .int x3), (4, .int x4), (5, .int x5)]) hx hb dX4_parseBook_177 hl (by decide) rfl (fun ls hl => ?_)
  refine lv_aload_n hx hb dX4_parseBook_179 rfl (lv_at hl 1 rfl) ?_
  refine z_ldcS C0 Z (i := 5) (by decide +kernel) dX4_parseBook_180 ?_
  refine z_callVi C0 Z hl.1 (As := [.ref (zst G 5)]) (rest := []) (k_X4_accept l (cx_g C0) (by decide) hw) (gv_X4_accept tm_5_169) rfl ds_X4_accept ⟨Nat.le_of_ble_eq_true rfl, Nat.le_of_ble_eq_true rfl⟩ (ci := 4) rfl (cx_lt C0 (by decide)) rfl rfl rfl (Nat.le_of_ble_eq_true rfl) ⟨Nat.le_of_ble_eq_true rfl, Nat.le_of_ble_eq_true rfl⟩ dX4_parseBook_182 (fun r26 v25 H locs hw Z => ?_)
  refine lv_if_eq (tgt := 198) hx hb dX4_parseBook_185 (by decide) (fun c27 => ?_) (fun c27 => ?_)
  · replace hw := hw.1 c27
    refine lv_iconst (v := 1) hx hb dX4_parseBook_198 (by decide) ?_
    exact b_X4_parseBook_199 l C0 _ _ _ _ _ _ _ _ _ _ _ hw Z (lv_sub hl [1, 2, 3, 4, 5, 6, 0] rfl)
  · replace hw := hw.2 c27
    refine lv_aload_n hx hb dX4_parseBook_188 rfl (lv_at hl 1 rfl) ?_
    refine lv_iconst (v := 1) hx hb dX4_parseBook_189 (by decide) ?_
    refine lv_bipush (v := 9) hx hb dX4_parseBook_190 (by decide) ?_
    refine z_callVi C0 Z hl.1 (As := [.int 1, .int 9]) (rest := []) (k_X4_parseNumber l (cx_g C0) hw) (gv_X4_parseNumber tm_5_133) rfl ds_X4_parseNumber ⟨Nat.le_of_ble_eq_true rfl, Nat.le_of_ble_eq_true rfl⟩ (ci := 4) rfl (cx_lt C0 (by decide)) rfl rfl rfl (Nat.le_of_ble_eq_true rfl) ⟨Nat.le_of_ble_eq_true rfl, Nat.le_of_ble_eq_true rfl⟩ dX4_parseBook_192 (fun r37 v36 H locs hw Z => ?_)
    refine lv_goto (tgt := 199) hx hb dX4_parseBook_195 (by decide) ?_
    exact b_X4_parseBook_199 l C0 _ _ _ _ _ _ _ _ _ _ _ hw Z (lv_sub hl [1, 2, 3, 4, 5, 6, 0] rfl)
set_option maxRecDepth 100000 in
set_option maxHeartbeats 4000000 in
theorem b_X4_parseBook_130 {p : Program} (l : Launch) {e : Env} {s : State} {m : MethodId} {args : Array Value} {below : List Frame} {meth : Method} {c : Code} {G : zG}   (C0 : Cx G RX4 cX4_parseBook 9 none p s m args meth c) {Q : V3 → Prop} : ∀ (x1 : Int32) (x2 : Int32) (x3 : Int32) (s1 : Int32) (v : V3) (H : Heap) (locs : List Loc) (ls : Array Slot), w_X4_parseBook_130 Q x1 x2 x3 s1 v → Zs G s v H locs → lv_has ls 9 [(0, .ref (gad G 7)), (1, .int x1), (2, .int x2), (3, .int x3)] → W p l e { frames := 7, cells := 0, slots := 0, locals := 169 } s m args below meth c H locs 0 0 (MQ below (QvZ G Q) args s 0 0 (zA G)) (F0 m 130 ls [.int s1, .ref (gad G 7)]) := by
  have hx := C0.1
  have hb := C0.2.1
  intro x1 x2 x3 s1 v H locs ls hw Z hl
  rw [w_X4_parseBook_130] at hw
  refine lv_iconst (v := 4) hx hb dX4_parseBook_130 (by decide) ?_
  refine z_callVv C0 Z hl.1 (As := [.int s1, .int 4]) (rest := []) (k_X4_require l (cx_g C0) hw) (gv_X4_require tm_5_121) rfl ds_X4_require ⟨Nat.le_of_ble_eq_true rfl, Nat.le_of_ble_eq_true rfl⟩ (ci := 4) rfl (cx_lt C0 (by decide)) rfl rfl rfl (Nat.le_of_ble_eq_true rfl) ⟨Nat.le_of_ble_eq_true rfl, Nat.le_of_ble_eq_true rfl⟩ dX4_parseBook_131 (fun v16 H locs hw Z => ?_)
  refine lv_aload_n hx hb dX4_parseBook_134 rfl (lv_at hl 0 rfl) ?_
  refine z_callVv C0 Z hl.1 (As := []) (rest := []) (k_X4_advance l (cx_g C0) hw) (gv_X4_advance tm_5_125) rfl ds_X4_advance ⟨Nat.le_of_ble_eq_true rfl, Nat.le_of_ble_eq_true rfl⟩ (ci := 4) rfl (cx_lt C0 (by decide)) rfl rfl rfl (Nat.le_of_ble_eq_true rfl) ⟨Nat.le_of_ble_eq_true rfl, Nat.le_of_ble_eq_true rfl⟩ dX4_parseBook_135 (fun v17 H locs hw Z => ?_)
  refine lv_aload_n hx hb dX4_parseBook_138 rfl (lv_at hl 0 rfl) ?_
  refine lv_iconst (v := 1) hx hb dX4_parseBook_139 (by decide) ?_
  refine lv_bipush (v := 99) hx hb dX4_parseBook_140 (by decide) ?_
  refine z_callVi C0 Z hl.1 (As := [.int 1, .int 99]) (rest := []) (k_X4_parseNumber l (cx_g C0) hw) (gv_X4_parseNumber tm_5_133) rfl ds_X4_parseNumber ⟨Nat.le_of_ble_eq_true rfl, Nat.le_of_ble_eq_true rfl⟩ (ci := 4) rfl (cx_lt C0 (by decide)) rfl rfl rfl (Nat.le_of_ble_eq_true rfl) ⟨Nat.le_of_ble_eq_true rfl, Nat.le_of_ble_eq_true rfl⟩ dX4_parseBook_142 (fun r19 v18 H locs hw Z => ?_)
  refine lv_istore (lv' := [(4, .int r19), (0, .ref (gad G 7)), (1, .int x1), (2, .int x2), (3, .int x3)]) hx hb dX4_parseBook_145 hl (by decide) rfl (fun ls hl => ?_)
  refine lv_aload_n hx hb dX4_parseBook_147 rfl (lv_at hl 1 rfl) ?_
  refine lv_iconst (v := 0) hx hb dX4_parseBook_148 (by decide) ?_
  refine lv_sipush (v := 9999) hx hb dX4_parseBook_149 (by decide) ?_
  refine z_callVi C0 Z hl.1 (As := [.int 0, .int 9999]) (rest := []) (k_X4_parseNumber l (cx_g C0) hw) (gv_X4_parseNumber tm_5_133) rfl ds_X4_parseNumber ⟨Nat.le_of_ble_eq_true rfl, Nat.le_of_ble_eq_true rfl⟩ (ci := 4) rfl (cx_lt C0 (by decide)) rfl rfl rfl (Nat.le_of_ble_eq_true rfl) ⟨Nat.le_of_ble_eq_true rfl, Nat.le_of_ble_eq_true rfl⟩ dX4_parseBook_152 (fun r21 v20 H locs hw Z => ?_)
  refine lv_istore (lv' := [(5, .int r21), (4, .int r19), (0, .ref (gad G 7)), (1, .int x1), (2, .int x2), (3, .int x3)]) hx hb dX4_parseBook_155 hl (by decide) rfl (fun ls hl => ?_)
  refine lv_aload_n hx hb dX4_parseBook_157 rfl (lv_at hl 2 rfl) ?_
  refine z_ldcS C0 Z (i := 4) (by decide +kernel) dX4_parseBook_158 ?_
  refine z_callVi C0 Z hl.1 (As := [.ref (zst G 4)]) (rest := []) (k_X4_accept l (cx_g C0) (by decide) hw) (gv_X4_accept tm_5_169) rfl ds_X4_accept ⟨Nat.le_of_ble_eq_true rfl, Nat.le_of_ble_eq_true rfl⟩ (ci := 4) rfl (cx_lt C0 (by decide)) rfl rfl rfl (Nat.le_of_ble_eq_true rfl) ⟨Nat.le_of_ble_eq_true rfl, Nat.le_of_ble_eq_true rfl⟩ dX4_parseBook_160 (fun r23 v22 H locs hw Z => ?_)
  refine lv_if_eq (tgt := 176) hx hb dX4_parseBook_163 (by decide) (fun c24 => ?_) (fun c24 => ?_)
  · replace hw := hw.1 c24
    refine lv_iconst (v := 0) hx hb dX4_parseBook_176 (by decide) ?_
    exact b_X4_parseBook_177 l C0 _ _ _ _ _ _ _ _ _ _ hw Z (lv_sub hl [2, 3, 4, 5, 1, 0] rfl)
  · replace hw := hw.2 c24
    refine lv_aload_n hx hb dX4_parseBook_166 rfl (lv_at hl 2 rfl) ?_
    refine lv_iconst (v := 0) hx hb dX4_parseBook_167 (by decide) ?_
    refine lv_bipush (v := 99) hx hb dX4_parseBook_168 (by decide) ?_
    refine z_callVi C0 Z hl.1 (As := [.int 0, .int 99]) (rest := []) (k_X4_parseNumber l (cx_g C0) hw) (gv_X4_parseNumber tm_5_133) rfl ds_X4_parseNumber ⟨Nat.le_of_ble_eq_true rfl, Nat.le_of_ble_eq_true rfl⟩ (ci := 4) rfl (cx_lt C0 (by decide)) rfl rfl rfl (Nat.le_of_ble_eq_true rfl) ⟨Nat.le_of_ble_eq_true rfl, Nat.le_of_ble_eq_true rfl⟩ dX4_parseBook_170 (fun r39 v38 H locs hw Z => ?_)
    refine lv_goto (tgt := 177) hx hb dX4_parseBook_173 (by decide) ?_
    exact b_X4_parseBook_177 l C0 _ _ _ _ _ _ _ _ _ _ hw Z (lv_sub hl [2, 3, 4, 5, 1, 0] rfl)
set_option maxRecDepth 100000 in
set_option maxHeartbeats 4000000 in
theorem b_X4_parseBook_125 {p : Program} (l : Launch) {e : Env} {s : State} {m : MethodId} {args : Array Value} {below : List Frame} {meth : Method} {c : Code} {G : zG}   (C0 : Cx G RX4 cX4_parseBook 9 none p s m args meth c) {Q : V3 → Prop} : ∀ (x1 : Int32) (x2 : Int32) (x3 : Int32) (v : V3) (H : Heap) (locs : List Loc) (ls : Array Slot), w_X4_parseBook_125 Q x1 x2 x3 v → Zs G s v H locs → lv_has ls 9 [(0, .ref (gad G 7)), (1, .int x1), (2, .int x2), (3, .int x3)] → W p l e { frames := 7, cells := 0, slots := 0, locals := 169 } s m args below meth c H locs 0 0 (MQ below (QvZ G Q) args s 0 0 (zA G)) (F0 m 125 ls [.ref (gad G 7)]) := by
  have hx := C0.1
  have hb := C0.2.1
  intro x1 x2 x3 v H locs ls hw Z hl
  rw [w_X4_parseBook_125] at hw
  refine lv_iconst (v := 1) hx hb dX4_parseBook_125 (by decide) ?_
  refine lv_goto (tgt := 130) hx hb dX4_parseBook_126 (by decide) ?_
  exact b_X4_parseBook_130 l C0 _ _ _ _ _ _ _ _ hw Z (lv_sub hl [0, 1, 2, 3] rfl)
set_option maxRecDepth 100000 in
set_option maxHeartbeats 4000000 in
theorem b_X4_parseBook_71 {p : Program} (l : Launch) {e : Env} {s : State} {m : MethodId} {args : Array Value} {below : List Frame} {meth : Method} {c : Code} {G : zG}   (C0 : Cx G RX4 cX4_parseBook 9 none p s m args meth c) {Q : V3 → Prop} : ∀ (x1 : Int32) (s1 : Int32) (v : V3) (H : Heap) (locs : List Loc) (ls : Array Slot), w_X4_parseBook_71 Q x1 s1 v → Zs G s v H locs → lv_has ls 9 [(0, .ref (gad G 7)), (1, .int x1)] → W p l e { frames := 7, cells := 0, slots := 0, locals := 169 } s m args below meth c H locs 0 0 (MQ below (QvZ G Q) args s 0 0 (zA G)) (F0 m 71 ls [.int s1, .ref (gad G 7)]) := by
  have hx := C0.1
  have hb := C0.2.1
  intro x1 s1 v H locs ls hw Z hl
  rw [w_X4_parseBook_71] at hw
  refine lv_iconst (v := 3) hx hb dX4_parseBook_71 (by decide) ?_
  refine z_callVv C0 Z hl.1 (As := [.int s1, .int 3]) (rest := []) (k_X4_require l (cx_g C0) hw) (gv_X4_require tm_5_121) rfl ds_X4_require ⟨Nat.le_of_ble_eq_true rfl, Nat.le_of_ble_eq_true rfl⟩ (ci := 4) rfl (cx_lt C0 (by decide)) rfl rfl rfl (Nat.le_of_ble_eq_true rfl) ⟨Nat.le_of_ble_eq_true rfl, Nat.le_of_ble_eq_true rfl⟩ dX4_parseBook_72 (fun v8 H locs hw Z => ?_)
  refine lv_aload_n hx hb dX4_parseBook_75 rfl (lv_at hl 0 rfl) ?_
  refine z_callVv C0 Z hl.1 (As := []) (rest := []) (k_X4_advance l (cx_g C0) hw) (gv_X4_advance tm_5_125) rfl ds_X4_advance ⟨Nat.le_of_ble_eq_true rfl, Nat.le_of_ble_eq_true rfl⟩ (ci := 4) rfl (cx_lt C0 (by decide)) rfl rfl rfl (Nat.le_of_ble_eq_true rfl) ⟨Nat.le_of_ble_eq_true rfl, Nat.le_of_ble_eq_true rfl⟩ dX4_parseBook_76 (fun v9 H locs hw Z => ?_)
  refine lv_aload_n hx hb dX4_parseBook_79 rfl (lv_at hl 0 rfl) ?_
  refine lv_iconst (v := 0) hx hb dX4_parseBook_80 (by decide) ?_
  refine lv_aload_n hx hb dX4_parseBook_81 rfl (lv_at hl 0 rfl) ?_
  refine z_get C0 Z in_X4 rfl 0 (by decide) rfl tm_4_203 (cx_lt C0 (by decide)) rfl rfl dX4_parseBook_82 ?_
  refine lv_iconst (v := 4) hx hb dX4_parseBook_85 (by decide) ?_
  refine z_ialdk C0 Z (cx_lt C0 (by decide)) rfl in_4_474 nc_4 dX4_parseBook_86 ?_
  refine lv_iconst (v := 1) hx hb dX4_parseBook_87 (by decide) ?_
  refine lv_isub hx hb dX4_parseBook_88 ?_
  refine z_callVi C0 Z hl.1 (As := [.int 0, .int ((v9 8 4) - 1)]) (rest := []) (k_X4_parseNumber l (cx_g C0) hw) (gv_X4_parseNumber tm_5_133) rfl ds_X4_parseNumber ⟨Nat.le_of_ble_eq_true rfl, Nat.le_of_ble_eq_true rfl⟩ (ci := 4) rfl (cx_lt C0 (by decide)) rfl rfl rfl (Nat.le_of_ble_eq_true rfl) ⟨Nat.le_of_ble_eq_true rfl, Nat.le_of_ble_eq_true rfl⟩ dX4_parseBook_89 (fun r11 v10 H locs hw Z => ?_)
  refine lv_istore_n (lv' := [(2, .int r11), (0, .ref (gad G 7)), (1, .int x1)]) hx hb dX4_parseBook_92 rfl hl (by decide) rfl (fun ls hl => ?_)
  refine lv_aload_n hx hb dX4_parseBook_93 rfl (lv_at hl 1 rfl) ?_
  refine lv_iconst (v := 1) hx hb dX4_parseBook_94 (by decide) ?_
  refine lv_ldc hx hb (cx_own C0) (cx_w C0 tm_5_167) dX4_parseBook_95 ?_
  refine z_callVv C0 Z hl.1 (As := [.int 1, .int 2147483647]) (rest := []) (k_X4_look l (cx_g C0) hw) (gv_X4_look tm_5_137) rfl ds_X4_look ⟨Nat.le_of_ble_eq_true rfl, Nat.le_of_ble_eq_true rfl⟩ (ci := 4) rfl (cx_lt C0 (by decide)) rfl rfl rfl (Nat.le_of_ble_eq_true rfl) ⟨Nat.le_of_ble_eq_true rfl, Nat.le_of_ble_eq_true rfl⟩ dX4_parseBook_97 (fun v12 H locs hw Z => ?_)
  refine lv_aload_n hx hb dX4_parseBook_100 rfl (lv_at hl 1 rfl) ?_
  refine z_get C0 Z in_X4 rfl 18 (by decide) rfl tm_4_221 (cx_lt C0 (by decide)) rfl rfl dX4_parseBook_101 ?_
  refine lv_istore_n (lv' := [(3, .int (v12 7 18)), (2, .int r11), (0, .ref (gad G 7)), (1, .int x1)]) hx hb dX4_parseBook_104 rfl hl (by decide) rfl (fun ls hl => ?_)
  refine lv_aload_n hx hb dX4_parseBook_105 rfl (lv_at hl 2 rfl) ?_
  refine lv_aload_n hx hb dX4_parseBook_106 rfl (lv_at hl 2 rfl) ?_
  refine z_callVi C0 Z hl.1 (As := []) (rest := [.ref (gad G 7)]) (k_X4_isFine l (cx_g C0) hw) (gv_X4_isFine tm_5_129) rfl ds_X4_isFine ⟨Nat.le_of_ble_eq_true rfl, Nat.le_of_ble_eq_true rfl⟩ (ci := 4) rfl (cx_lt C0 (by decide)) rfl rfl rfl (Nat.le_of_ble_eq_true rfl) ⟨Nat.le_of_ble_eq_true rfl, Nat.le_of_ble_eq_true rfl⟩ dX4_parseBook_107 (fun r14 v13 H locs hw Z => ?_)
  refine lv_if_eq (tgt := 125) hx hb dX4_parseBook_110 (by decide) (fun c15 => ?_) (fun c15 => ?_)
  · replace hw := hw.1 c15
    exact b_X4_parseBook_125 l C0 _ _ _ _ _ _ _ hw Z (lv_sub hl [2, 3, 1, 0] rfl)
  · replace hw := hw.2 c15
    refine lv_iload_n hx hb dX4_parseBook_113 rfl (lv_at hl 1 rfl) ?_
    refine lv_iload_n hx hb dX4_parseBook_114 rfl (lv_at hl 0 rfl) ?_
    refine lv_iadd hx hb dX4_parseBook_115 ?_
    refine lv_aload_n hx hb dX4_parseBook_116 rfl (lv_at hl 2 rfl) ?_
    refine z_get C0 Z in_X4 rfl 0 (by decide) rfl tm_4_203 (cx_lt C0 (by decide)) rfl rfl dX4_parseBook_117 ?_
    refine lv_iconst (v := 4) hx hb dX4_parseBook_120 (by decide) ?_
    refine z_ialdk C0 Z (cx_lt C0 (by decide)) rfl in_4_474 nc_4 dX4_parseBook_121 ?_
    refine lv_icmp_gt (tgt := 129) hx hb dX4_parseBook_122 (by decide) (fun c40 => ?_) (fun c40 => ?_)
    · replace hw := hw.1 c40
      refine lv_iconst (v := 0) hx hb dX4_parseBook_129 (by decide) ?_
      exact b_X4_parseBook_130 l C0 _ _ _ _ _ _ _ _ hw Z (lv_sub hl [2, 3, 1, 0] rfl)
    · replace hw := hw.2 c40
      exact b_X4_parseBook_125 l C0 _ _ _ _ _ _ _ hw Z (lv_sub hl [2, 3, 1, 0] rfl)
set_option maxRecDepth 100000 in
set_option maxHeartbeats 4000000 in
theorem b_X4_parseBook_66 {p : Program} (l : Launch) {e : Env} {s : State} {m : MethodId} {args : Array Value} {below : List Frame} {meth : Method} {c : Code} {G : zG}   (C0 : Cx G RX4 cX4_parseBook 9 none p s m args meth c) {Q : V3 → Prop} : ∀ (x1 : Int32) (v : V3) (H : Heap) (locs : List Loc) (ls : Array Slot), w_X4_parseBook_66 Q x1 v → Zs G s v H locs → lv_has ls 9 [(0, .ref (gad G 7)), (1, .int x1)] → W p l e { frames := 7, cells := 0, slots := 0, locals := 169 } s m args below meth c H locs 0 0 (MQ below (QvZ G Q) args s 0 0 (zA G)) (F0 m 66 ls [.ref (gad G 7)]) := by
  have hx := C0.1
  have hb := C0.2.1
  intro x1 v H locs ls hw Z hl
  rw [w_X4_parseBook_66] at hw
  refine lv_iconst (v := 1) hx hb dX4_parseBook_66 (by decide) ?_
  refine lv_goto (tgt := 71) hx hb dX4_parseBook_67 (by decide) ?_
  exact b_X4_parseBook_71 l C0 _ _ _ _ _ _ hw Z (lv_sub hl [0, 1] rfl)
set_option maxRecDepth 100000 in
set_option maxHeartbeats 4000000 in
theorem b_X4_parseBook_18 {p : Program} (l : Launch) {e : Env} {s : State} {m : MethodId} {args : Array Value} {below : List Frame} {meth : Method} {c : Code} {G : zG}   (C0 : Cx G RX4 cX4_parseBook 9 none p s m args meth c) {Q : V3 → Prop} : ∀ (s1 : Int32) (v : V3) (H : Heap) (locs : List Loc) (ls : Array Slot), w_X4_parseBook_18 Q s1 v → Zs G s v H locs → lv_has ls 9 [(0, .ref (gad G 7))] → W p l e { frames := 7, cells := 0, slots := 0, locals := 169 } s m args below meth c H locs 0 0 (MQ below (QvZ G Q) args s 0 0 (zA G)) (F0 m 18 ls [.int s1, .ref (gad G 7)]) := by
  have hx := C0.1
  have hb := C0.2.1
  intro s1 v H locs ls hw Z hl
  rw [w_X4_parseBook_18] at hw
  refine lv_iconst (v := 3) hx hb dX4_parseBook_18 (by decide) ?_
  refine z_callVv C0 Z hl.1 (As := [.int s1, .int 3]) (rest := []) (k_X4_require l (cx_g C0) hw) (gv_X4_require tm_5_121) rfl ds_X4_require ⟨Nat.le_of_ble_eq_true rfl, Nat.le_of_ble_eq_true rfl⟩ (ci := 4) rfl (cx_lt C0 (by decide)) rfl rfl rfl (Nat.le_of_ble_eq_true rfl) ⟨Nat.le_of_ble_eq_true rfl, Nat.le_of_ble_eq_true rfl⟩ dX4_parseBook_19 (fun v2 H locs hw Z => ?_)
  refine lv_aload_n hx hb dX4_parseBook_22 rfl (lv_at hl 0 rfl) ?_
  refine z_callVv C0 Z hl.1 (As := []) (rest := []) (k_X4_advance l (cx_g C0) hw) (gv_X4_advance tm_5_125) rfl ds_X4_advance ⟨Nat.le_of_ble_eq_true rfl, Nat.le_of_ble_eq_true rfl⟩ (ci := 4) rfl (cx_lt C0 (by decide)) rfl rfl rfl (Nat.le_of_ble_eq_true rfl) ⟨Nat.le_of_ble_eq_true rfl, Nat.le_of_ble_eq_true rfl⟩ dX4_parseBook_23 (fun v3 H locs hw Z => ?_)
  refine lv_aload_n hx hb dX4_parseBook_26 rfl (lv_at hl 0 rfl) ?_
  refine lv_iconst (v := 0) hx hb dX4_parseBook_27 (by decide) ?_
  refine lv_aload_n hx hb dX4_parseBook_28 rfl (lv_at hl 0 rfl) ?_
  refine z_get C0 Z in_X4 rfl 0 (by decide) rfl tm_4_203 (cx_lt C0 (by decide)) rfl rfl dX4_parseBook_29 ?_
  refine lv_iconst (v := 5) hx hb dX4_parseBook_32 (by decide) ?_
  refine z_ialdk C0 Z (cx_lt C0 (by decide)) rfl in_5_474 nc_5 dX4_parseBook_33 ?_
  refine lv_iconst (v := 1) hx hb dX4_parseBook_34 (by decide) ?_
  refine lv_isub hx hb dX4_parseBook_35 ?_
  refine z_callVv C0 Z hl.1 (As := [.int 0, .int ((v3 8 5) - 1)]) (rest := []) (k_X4_look l (cx_g C0) hw) (gv_X4_look tm_5_137) rfl ds_X4_look ⟨Nat.le_of_ble_eq_true rfl, Nat.le_of_ble_eq_true rfl⟩ (ci := 4) rfl (cx_lt C0 (by decide)) rfl rfl rfl (Nat.le_of_ble_eq_true rfl) ⟨Nat.le_of_ble_eq_true rfl, Nat.le_of_ble_eq_true rfl⟩ dX4_parseBook_36 (fun v4 H locs hw Z => ?_)
  refine lv_aload_n hx hb dX4_parseBook_39 rfl (lv_at hl 0 rfl) ?_
  refine z_get C0 Z in_X4 rfl 18 (by decide) rfl tm_4_221 (cx_lt C0 (by decide)) rfl rfl dX4_parseBook_40 ?_
  refine lv_istore_n (lv' := [(1, .int (v4 7 18)), (0, .ref (gad G 7))]) hx hb dX4_parseBook_43 rfl hl (by decide) rfl (fun ls hl => ?_)
  refine lv_aload_n hx hb dX4_parseBook_44 rfl (lv_at hl 1 rfl) ?_
  refine lv_aload_n hx hb dX4_parseBook_45 rfl (lv_at hl 1 rfl) ?_
  refine z_callVi C0 Z hl.1 (As := []) (rest := [.ref (gad G 7)]) (k_X4_isFine l (cx_g C0) hw) (gv_X4_isFine tm_5_129) rfl ds_X4_isFine ⟨Nat.le_of_ble_eq_true rfl, Nat.le_of_ble_eq_true rfl⟩ (ci := 4) rfl (cx_lt C0 (by decide)) rfl rfl rfl (Nat.le_of_ble_eq_true rfl) ⟨Nat.le_of_ble_eq_true rfl, Nat.le_of_ble_eq_true rfl⟩ dX4_parseBook_46 (fun r6 v5 H locs hw Z => ?_)
  refine lv_if_eq (tgt := 66) hx hb dX4_parseBook_49 (by decide) (fun c7 => ?_) (fun c7 => ?_)
  · replace hw := hw.1 c7
    exact b_X4_parseBook_66 l C0 _ _ _ _ _ hw Z (lv_sub hl [1, 0] rfl)
  · replace hw := hw.2 c7
    refine lv_aload_n hx hb dX4_parseBook_52 rfl (lv_at hl 1 rfl) ?_
    refine lv_iload_n hx hb dX4_parseBook_53 rfl (lv_at hl 0 rfl) ?_
    refine z_callVi C0 Z hl.1 (As := [.int (v4 7 18)]) (rest := [.ref (gad G 7)]) (k_X4_openBookings l (cx_g C0) hw) (gv_X4_openBookings tm_5_159) rfl ds_X4_openBookings ⟨Nat.le_of_ble_eq_true rfl, Nat.le_of_ble_eq_true rfl⟩ (ci := 4) rfl (cx_lt C0 (by decide)) rfl rfl rfl (Nat.le_of_ble_eq_true rfl) ⟨Nat.le_of_ble_eq_true rfl, Nat.le_of_ble_eq_true rfl⟩ dX4_parseBook_54 (fun r42 v41 H locs hw Z => ?_)
    refine lv_aload_n hx hb dX4_parseBook_57 rfl (lv_at hl 1 rfl) ?_
    refine z_get C0 Z in_X4 rfl 0 (by decide) rfl tm_4_203 (cx_lt C0 (by decide)) rfl rfl dX4_parseBook_58 ?_
    refine lv_iconst (v := 2) hx hb dX4_parseBook_61 (by decide) ?_
    refine z_ialdk C0 Z (cx_lt C0 (by decide)) rfl in_2_474 nc_2 dX4_parseBook_62 ?_
    refine lv_icmp_ge (tgt := 70) hx hb dX4_parseBook_63 (by decide) (fun c43 => ?_) (fun c43 => ?_)
    · replace hw := hw.1 c43
      refine lv_iconst (v := 0) hx hb dX4_parseBook_70 (by decide) ?_
      exact b_X4_parseBook_71 l C0 _ _ _ _ _ _ hw Z (lv_sub hl [1, 0] rfl)
    · replace hw := hw.2 c43
      exact b_X4_parseBook_66 l C0 _ _ _ _ _ hw Z (lv_sub hl [1, 0] rfl)
set_option maxRecDepth 100000 in
set_option maxHeartbeats 4000000 in
theorem k_X4_parseBook (l : Launch) {G : zG} (hg : 129 ≤ gn G)  {v : V3} {Q : V3 → Prop} (hw : w_X4_parseBook v Q) : Mz l yX4_parseBook cX4_parseBook 9 none 7 169 G [.ref (gad G 7)] v (QvZ G Q) := by
  rw [w_X4_parseBook] at hw
  refine z_ofW hg (by decide) (Nat.le_of_ble_eq_true rfl) ?_
  intro p e s m args below meth c ls C0 Z hl
  have hx := C0.1
  have hb := C0.2.1
  replace hl : lv_has ls 9 [(0, .ref (gad G 7))] := hl
  generalize s.heap = H at Z ⊢
  generalize ([] : List Loc) = locs at Z ⊢
  refine lv_aload_n hx hb dX4_parseBook_0 rfl (lv_at hl 0 rfl) ?_
  refine lv_aload_n hx hb dX4_parseBook_1 rfl (lv_at hl 0 rfl) ?_
  refine z_get C0 Z in_X4 rfl 0 (by decide) rfl tm_4_203 (cx_lt C0 (by decide)) rfl rfl dX4_parseBook_2 ?_
  refine lv_bipush (v := 6) hx hb dX4_parseBook_5 (by decide) ?_
  refine z_ialdk C0 Z (cx_lt C0 (by decide)) rfl in_6_474 nc_6 dX4_parseBook_7 ?_
  refine lv_bipush (v := 40) hx hb dX4_parseBook_8 (by decide) ?_
  refine lv_icmp_ge (tgt := 17) hx hb dX4_parseBook_10 (by decide) (fun c1 => ?_) (fun c1 => ?_)
  · replace hw := hw.1 c1
    refine lv_iconst (v := 0) hx hb dX4_parseBook_17 (by decide) ?_
    exact b_X4_parseBook_18 l C0 _ _ _ _ _ hw Z (lv_sub hl [0] rfl)
  · replace hw := hw.2 c1
    refine lv_iconst (v := 1) hx hb dX4_parseBook_13 (by decide) ?_
    refine lv_goto (tgt := 18) hx hb dX4_parseBook_14 (by decide) ?_
    exact b_X4_parseBook_18 l C0 _ _ _ _ _ hw Z (lv_sub hl [0] rfl)
-- X4_parseSet: room (5, 147)
theorem dX4_parseSet_0 : decode cX4_parseSet 0 = .ok (.aload_n 0, 1) := by decide +kernel
theorem dX4_parseSet_1 : decode cX4_parseSet 1 = .ok (.aload_n 0, 1) := by decide +kernel
theorem dX4_parseSet_2 : decode cX4_parseSet 2 = .ok (.ldc 182, 2) := by decide +kernel
theorem dX4_parseSet_4 : decode cX4_parseSet 4 = .ok (.invokevirtual 144, 3) := by decide +kernel
theorem dX4_parseSet_7 : decode cX4_parseSet 7 = .ok (.iconst 1, 1) := by decide +kernel
theorem dX4_parseSet_8 : decode cX4_parseSet 8 = .ok (.invokevirtual 148, 3) := by decide +kernel
theorem dX4_parseSet_11 : decode cX4_parseSet 11 = .ok (.aload_n 0, 1) := by decide +kernel
theorem dX4_parseSet_12 : decode cX4_parseSet 12 = .ok (.invokevirtual 156, 3) := by decide +kernel
theorem dX4_parseSet_15 : decode cX4_parseSet 15 = .ok (.aload_n 0, 1) := by decide +kernel
theorem dX4_parseSet_16 : decode cX4_parseSet 16 = .ok (.iconst 0, 1) := by decide +kernel
theorem dX4_parseSet_17 : decode cX4_parseSet 17 = .ok (.iconst 3, 1) := by decide +kernel
theorem dX4_parseSet_18 : decode cX4_parseSet 18 = .ok (.invokevirtual 159, 3) := by decide +kernel
theorem dX4_parseSet_21 : decode cX4_parseSet 21 = .ok (.istore_n 1, 1) := by decide +kernel
theorem dX4_parseSet_22 : decode cX4_parseSet 22 = .ok (.aload_n 0, 1) := by decide +kernel
theorem dX4_parseSet_23 : decode cX4_parseSet 23 = .ok (.invokevirtual 137, 3) := by decide +kernel
theorem dX4_parseSet_26 : decode cX4_parseSet 26 = .ok (.ifCond .eq 27, 3) := by decide +kernel
theorem dX4_parseSet_29 : decode cX4_parseSet 29 = .ok (.aload_n 0, 1) := by decide +kernel
theorem dX4_parseSet_30 : decode cX4_parseSet 30 = .ok (.aload_n 0, 1) := by decide +kernel
theorem dX4_parseSet_31 : decode cX4_parseSet 31 = .ok (.getfield 29, 3) := by decide +kernel
theorem dX4_parseSet_34 : decode cX4_parseSet 34 = .ok (.iload_n 1, 1) := by decide +kernel
theorem dX4_parseSet_35 : decode cX4_parseSet 35 = .ok (.iaload, 1) := by decide +kernel
theorem dX4_parseSet_36 : decode cX4_parseSet 36 = .ok (.aload_n 0, 1) := by decide +kernel
theorem dX4_parseSet_37 : decode cX4_parseSet 37 = .ok (.getfield 32, 3) := by decide +kernel
theorem dX4_parseSet_40 : decode cX4_parseSet 40 = .ok (.iload_n 1, 1) := by decide +kernel
theorem dX4_parseSet_41 : decode cX4_parseSet 41 = .ok (.iaload, 1) := by decide +kernel
theorem dX4_parseSet_42 : decode cX4_parseSet 42 = .ok (.invokevirtual 159, 3) := by decide +kernel
theorem dX4_parseSet_45 : decode cX4_parseSet 45 = .ok (.istore_n 2, 1) := by decide +kernel
theorem dX4_parseSet_46 : decode cX4_parseSet 46 = .ok (.aload_n 0, 1) := by decide +kernel
theorem dX4_parseSet_47 : decode cX4_parseSet 47 = .ok (.getfield 7, 3) := by decide +kernel
theorem dX4_parseSet_50 : decode cX4_parseSet 50 = .ok (.iload_n 1, 1) := by decide +kernel
theorem dX4_parseSet_51 : decode cX4_parseSet 51 = .ok (.iload_n 2, 1) := by decide +kernel
theorem dX4_parseSet_52 : decode cX4_parseSet 52 = .ok (.iastore, 1) := by decide +kernel
theorem dX4_parseSet_53 : decode cX4_parseSet 53 = .ok (.return_, 1) := by decide +kernel
def w_X4_parseSet_53  (Q : V3 → Prop) (v : V3) : Prop := Q v
def w_X4_parseSet  (v : V3) (Q : V3 → Prop) : Prop := w_X4_isWord 3 v (fun r2 v1 => w_X4_require r2 1 v1 (fun v3 => w_X4_advance v3 (fun v4 => w_X4_parseNumber 0 3 v4 (fun r6 v5 => w_X4_isFine v5 (fun r8 v7 => ((r8 = 0 → w_X4_parseSet_53 Q v7) ∧ (¬ r8 = 0 → vp_in r6 4 ∧ vp_in r6 4 ∧ w_X4_parseNumber (v7 14 (ix r6)) (v7 15 (ix r6)) v7 (fun r13 v12 => vp_in r6 474 ∧ ∀ v15 : V3, v15 = up2 v12 8 (ix r6) r13 → w_X4_parseSet_53 Q v15))))))))
set_option maxRecDepth 100000 in
set_option maxHeartbeats 4000000 in
theorem b_X4_parseSet_53 {p : Program} (l : Launch) {e : Env} {s : State} {m : MethodId} {args : Array Value} {below : List Frame} {meth : Method} {c : Code} {G : zG}   (C0 : Cx G RX4 cX4_parseSet 3 none p s m args meth c) {Q : V3 → Prop} : ∀ (v : V3) (H : Heap) (locs : List Loc) (ls : Array Slot), w_X4_parseSet_53 Q v → Zs G s v H locs → lv_has ls 3 [] → W p l e { frames := 5, cells := 0, slots := 0, locals := 147 } s m args below meth c H locs 0 0 (MQ below (QvZ G Q) args s 0 0 (zA G)) (F0 m 53 ls []) := by
  have hx := C0.1
  have hb := C0.2.1
  intro v H locs ls hw Z hl
  rw [w_X4_parseSet_53] at hw
  exact z_vret C0 Z hw dX4_parseSet_53
set_option maxRecDepth 100000 in
set_option maxHeartbeats 4000000 in
theorem k_X4_parseSet (l : Launch) {G : zG} (hg : 129 ≤ gn G)  {v : V3} {Q : V3 → Prop} (hw : w_X4_parseSet v Q) : Mz l yX4_parseSet cX4_parseSet 3 none 5 147 G [.ref (gad G 7)] v (QvZ G Q) := by
  rw [w_X4_parseSet] at hw
  refine z_ofW hg (by decide) (Nat.le_of_ble_eq_true rfl) ?_
  intro p e s m args below meth c ls C0 Z hl
  have hx := C0.1
  have hb := C0.2.1
  replace hl : lv_has ls 3 [(0, .ref (gad G 7))] := hl
  generalize s.heap = H at Z ⊢
  generalize ([] : List Loc) = locs at Z ⊢
  refine lv_aload_n hx hb dX4_parseSet_0 rfl (lv_at hl 0 rfl) ?_
  refine lv_aload_n hx hb dX4_parseSet_1 rfl (lv_at hl 0 rfl) ?_
  refine z_ldcS C0 Z (i := 3) (by decide +kernel) dX4_parseSet_2 ?_
  refine z_callVi C0 Z hl.1 (As := [.ref (zst G 3)]) (rest := [.ref (gad G 7)]) (k_X4_isWord l (cx_g C0) (by decide) hw) (gv_X4_isWord tm_5_115) rfl ds_X4_isWord ⟨Nat.le_of_ble_eq_true rfl, Nat.le_of_ble_eq_true rfl⟩ (ci := 4) rfl (cx_lt C0 (by decide)) rfl rfl rfl (Nat.le_of_ble_eq_true rfl) ⟨Nat.le_of_ble_eq_true rfl, Nat.le_of_ble_eq_true rfl⟩ dX4_parseSet_4 (fun r2 v1 H locs hw Z => ?_)
  refine lv_iconst (v := 1) hx hb dX4_parseSet_7 (by decide) ?_
  refine z_callVv C0 Z hl.1 (As := [.int r2, .int 1]) (rest := []) (k_X4_require l (cx_g C0) hw) (gv_X4_require tm_5_121) rfl ds_X4_require ⟨Nat.le_of_ble_eq_true rfl, Nat.le_of_ble_eq_true rfl⟩ (ci := 4) rfl (cx_lt C0 (by decide)) rfl rfl rfl (Nat.le_of_ble_eq_true rfl) ⟨Nat.le_of_ble_eq_true rfl, Nat.le_of_ble_eq_true rfl⟩ dX4_parseSet_8 (fun v3 H locs hw Z => ?_)
  refine lv_aload_n hx hb dX4_parseSet_11 rfl (lv_at hl 0 rfl) ?_
  refine z_callVv C0 Z hl.1 (As := []) (rest := []) (k_X4_advance l (cx_g C0) hw) (gv_X4_advance tm_5_125) rfl ds_X4_advance ⟨Nat.le_of_ble_eq_true rfl, Nat.le_of_ble_eq_true rfl⟩ (ci := 4) rfl (cx_lt C0 (by decide)) rfl rfl rfl (Nat.le_of_ble_eq_true rfl) ⟨Nat.le_of_ble_eq_true rfl, Nat.le_of_ble_eq_true rfl⟩ dX4_parseSet_12 (fun v4 H locs hw Z => ?_)
  refine lv_aload_n hx hb dX4_parseSet_15 rfl (lv_at hl 0 rfl) ?_
  refine lv_iconst (v := 0) hx hb dX4_parseSet_16 (by decide) ?_
  refine lv_iconst (v := 3) hx hb dX4_parseSet_17 (by decide) ?_
  refine z_callVi C0 Z hl.1 (As := [.int 0, .int 3]) (rest := []) (k_X4_parseNumber l (cx_g C0) hw) (gv_X4_parseNumber tm_5_133) rfl ds_X4_parseNumber ⟨Nat.le_of_ble_eq_true rfl, Nat.le_of_ble_eq_true rfl⟩ (ci := 4) rfl (cx_lt C0 (by decide)) rfl rfl rfl (Nat.le_of_ble_eq_true rfl) ⟨Nat.le_of_ble_eq_true rfl, Nat.le_of_ble_eq_true rfl⟩ dX4_parseSet_18 (fun r6 v5 H locs hw Z => ?_)
  refine lv_istore_n (lv' := [(1, .int r6), (0, .ref (gad G 7))]) hx hb dX4_parseSet_21 rfl hl (by decide) rfl (fun ls hl => ?_)
  refine lv_aload_n hx hb dX4_parseSet_22 rfl (lv_at hl 1 rfl) ?_
  refine z_callVi C0 Z hl.1 (As := []) (rest := []) (k_X4_isFine l (cx_g C0) hw) (gv_X4_isFine tm_5_129) rfl ds_X4_isFine ⟨Nat.le_of_ble_eq_true rfl, Nat.le_of_ble_eq_true rfl⟩ (ci := 4) rfl (cx_lt C0 (by decide)) rfl rfl rfl (Nat.le_of_ble_eq_true rfl) ⟨Nat.le_of_ble_eq_true rfl, Nat.le_of_ble_eq_true rfl⟩ dX4_parseSet_23 (fun r8 v7 H locs hw Z => ?_)
  refine lv_if_eq (tgt := 53) hx hb dX4_parseSet_26 (by decide) (fun c9 => ?_) (fun c9 => ?_)
  · replace hw := hw.1 c9
    exact b_X4_parseSet_53 l C0 _ _ _ _ hw Z (lv_sub hl [] rfl)
  · replace hw := hw.2 c9
    refine lv_aload_n hx hb dX4_parseSet_29 rfl (lv_at hl 1 rfl) ?_
    refine lv_aload_n hx hb dX4_parseSet_30 rfl (lv_at hl 1 rfl) ?_
    refine z_get C0 Z in_X4 rfl 6 (by decide) rfl tm_4_209 (cx_lt C0 (by decide)) rfl rfl dX4_parseSet_31 ?_
    refine lv_iload_n hx hb dX4_parseSet_34 rfl (lv_at hl 0 rfl) ?_
    obtain ⟨h10, hw⟩ := hw
    refine z_iald C0 Z (cx_lt C0 (by decide)) rfl h10 dX4_parseSet_35 ?_
    refine lv_aload_n hx hb dX4_parseSet_36 rfl (lv_at hl 1 rfl) ?_
    refine z_get C0 Z in_X4 rfl 7 (by decide) rfl tm_4_210 (cx_lt C0 (by decide)) rfl rfl dX4_parseSet_37 ?_
    refine lv_iload_n hx hb dX4_parseSet_40 rfl (lv_at hl 0 rfl) ?_
    obtain ⟨h11, hw⟩ := hw
    refine z_iald C0 Z (cx_lt C0 (by decide)) rfl h11 dX4_parseSet_41 ?_
    refine z_callVi C0 Z hl.1 (As := [.int (v7 14 (ix r6)), .int (v7 15 (ix r6))]) (rest := []) (k_X4_parseNumber l (cx_g C0) hw) (gv_X4_parseNumber tm_5_133) rfl ds_X4_parseNumber ⟨Nat.le_of_ble_eq_true rfl, Nat.le_of_ble_eq_true rfl⟩ (ci := 4) rfl (cx_lt C0 (by decide)) rfl rfl rfl (Nat.le_of_ble_eq_true rfl) ⟨Nat.le_of_ble_eq_true rfl, Nat.le_of_ble_eq_true rfl⟩ dX4_parseSet_42 (fun r13 v12 H locs hw Z => ?_)
    refine lv_istore_n (lv' := [(2, .int r13), (1, .int r6), (0, .ref (gad G 7))]) hx hb dX4_parseSet_45 rfl hl (by decide) rfl (fun ls hl => ?_)
    refine lv_aload_n hx hb dX4_parseSet_46 rfl (lv_at hl 2 rfl) ?_
    refine z_get C0 Z in_X4 rfl 0 (by decide) rfl tm_4_203 (cx_lt C0 (by decide)) rfl rfl dX4_parseSet_47 ?_
    refine lv_iload_n hx hb dX4_parseSet_50 rfl (lv_at hl 1 rfl) ?_
    refine lv_iload_n hx hb dX4_parseSet_51 rfl (lv_at hl 0 rfl) ?_
    obtain ⟨h14, hw⟩ := hw
    refine z_iast C0 Z (cx_lt C0 (by decide)) (fun _ => rfl) h14 dX4_parseSet_52 (fun H locs Z => ?_)
    obtain ⟨v15, ev15⟩ : ∃ z : V3, z = up2 v12 8 (ix r6) r13 := ⟨_, rfl⟩
    rw [← ev15] at Z
    replace hw := hw v15 ev15
    exact b_X4_parseSet_53 l C0 _ _ _ _ hw Z (lv_sub hl [] rfl)
-- X4_parseEnd: room (4, 86)
theorem dX4_parseEnd_0 : decode cX4_parseEnd 0 = .ok (.aload_n 0, 1) := by decide +kernel
theorem dX4_parseEnd_1 : decode cX4_parseEnd 1 = .ok (.aload_n 0, 1) := by decide +kernel
theorem dX4_parseEnd_2 : decode cX4_parseEnd 2 = .ok (.getfield 109, 3) := by decide +kernel
theorem dX4_parseEnd_5 : decode cX4_parseEnd 5 = .ok (.iconst 4, 1) := by decide +kernel
theorem dX4_parseEnd_6 : decode cX4_parseEnd 6 = .ok (.if_icmp .ne 7, 3) := by decide +kernel
theorem dX4_parseEnd_9 : decode cX4_parseEnd 9 = .ok (.iconst 1, 1) := by decide +kernel
theorem dX4_parseEnd_10 : decode cX4_parseEnd 10 = .ok (.goto 4, 3) := by decide +kernel
theorem dX4_parseEnd_13 : decode cX4_parseEnd 13 = .ok (.iconst 0, 1) := by decide +kernel
theorem dX4_parseEnd_14 : decode cX4_parseEnd 14 = .ok (.iconst 1, 1) := by decide +kernel
theorem dX4_parseEnd_15 : decode cX4_parseEnd 15 = .ok (.invokevirtual 148, 3) := by decide +kernel
theorem dX4_parseEnd_18 : decode cX4_parseEnd 18 = .ok (.aload_n 0, 1) := by decide +kernel
theorem dX4_parseEnd_19 : decode cX4_parseEnd 19 = .ok (.invokevirtual 156, 3) := by decide +kernel
theorem dX4_parseEnd_22 : decode cX4_parseEnd 22 = .ok (.return_, 1) := by decide +kernel
def w_X4_parseEnd_14  (Q : V3 → Prop) (s1 : Int32) (v : V3) : Prop := w_X4_require s1 1 v (fun v2 => w_X4_advance v2 (fun v3 => Q v3))
def w_X4_parseEnd  (v : V3) (Q : V3 → Prop) : Prop := ((¬ (v 7 16) = 4 → w_X4_parseEnd_14 Q 0 v) ∧ ((v 7 16) = 4 → w_X4_parseEnd_14 Q 1 v))
set_option maxRecDepth 100000 in
set_option maxHeartbeats 4000000 in
theorem b_X4_parseEnd_14 {p : Program} (l : Launch) {e : Env} {s : State} {m : MethodId} {args : Array Value} {below : List Frame} {meth : Method} {c : Code} {G : zG}   (C0 : Cx G RX4 cX4_parseEnd 1 none p s m args meth c) {Q : V3 → Prop} : ∀ (s1 : Int32) (v : V3) (H : Heap) (locs : List Loc) (ls : Array Slot), w_X4_parseEnd_14 Q s1 v → Zs G s v H locs → lv_has ls 1 [(0, .ref (gad G 7))] → W p l e { frames := 4, cells := 0, slots := 0, locals := 86 } s m args below meth c H locs 0 0 (MQ below (QvZ G Q) args s 0 0 (zA G)) (F0 m 14 ls [.int s1, .ref (gad G 7)]) := by
  have hx := C0.1
  have hb := C0.2.1
  intro s1 v H locs ls hw Z hl
  rw [w_X4_parseEnd_14] at hw
  refine lv_iconst (v := 1) hx hb dX4_parseEnd_14 (by decide) ?_
  refine z_callVv C0 Z hl.1 (As := [.int s1, .int 1]) (rest := []) (k_X4_require l (cx_g C0) hw) (gv_X4_require tm_5_121) rfl ds_X4_require ⟨Nat.le_of_ble_eq_true rfl, Nat.le_of_ble_eq_true rfl⟩ (ci := 4) rfl (cx_lt C0 (by decide)) rfl rfl rfl (Nat.le_of_ble_eq_true rfl) ⟨Nat.le_of_ble_eq_true rfl, Nat.le_of_ble_eq_true rfl⟩ dX4_parseEnd_15 (fun v2 H locs hw Z => ?_)
  refine lv_aload_n hx hb dX4_parseEnd_18 rfl (lv_at hl 0 rfl) ?_
  refine z_callVv C0 Z hl.1 (As := []) (rest := []) (k_X4_advance l (cx_g C0) hw) (gv_X4_advance tm_5_125) rfl ds_X4_advance ⟨Nat.le_of_ble_eq_true rfl, Nat.le_of_ble_eq_true rfl⟩ (ci := 4) rfl (cx_lt C0 (by decide)) rfl rfl rfl (Nat.le_of_ble_eq_true rfl) ⟨Nat.le_of_ble_eq_true rfl, Nat.le_of_ble_eq_true rfl⟩ dX4_parseEnd_19 (fun v3 H locs hw Z => ?_)
  exact z_vret C0 Z hw dX4_parseEnd_22
set_option maxRecDepth 100000 in
set_option maxHeartbeats 4000000 in
theorem k_X4_parseEnd (l : Launch) {G : zG} (hg : 129 ≤ gn G)  {v : V3} {Q : V3 → Prop} (hw : w_X4_parseEnd v Q) : Mz l yX4_parseEnd cX4_parseEnd 1 none 4 86 G [.ref (gad G 7)] v (QvZ G Q) := by
  rw [w_X4_parseEnd] at hw
  refine z_ofW hg (by decide) (Nat.le_of_ble_eq_true rfl) ?_
  intro p e s m args below meth c ls C0 Z hl
  have hx := C0.1
  have hb := C0.2.1
  replace hl : lv_has ls 1 [(0, .ref (gad G 7))] := hl
  generalize s.heap = H at Z ⊢
  generalize ([] : List Loc) = locs at Z ⊢
  refine lv_aload_n hx hb dX4_parseEnd_0 rfl (lv_at hl 0 rfl) ?_
  refine lv_aload_n hx hb dX4_parseEnd_1 rfl (lv_at hl 0 rfl) ?_
  refine z_get C0 Z in_X4 rfl 16 (by decide) rfl tm_4_219 (cx_lt C0 (by decide)) rfl rfl dX4_parseEnd_2 ?_
  refine lv_iconst (v := 4) hx hb dX4_parseEnd_5 (by decide) ?_
  refine lv_icmp_ne (tgt := 13) hx hb dX4_parseEnd_6 (by decide) (fun c1 => ?_) (fun c1 => ?_)
  · replace hw := hw.1 c1
    refine lv_iconst (v := 0) hx hb dX4_parseEnd_13 (by decide) ?_
    exact b_X4_parseEnd_14 l C0 _ _ _ _ _ hw Z (lv_sub hl [0] rfl)
  · replace hw := hw.2 c1
    refine lv_iconst (v := 1) hx hb dX4_parseEnd_9 (by decide) ?_
    refine lv_goto (tgt := 14) hx hb dX4_parseEnd_10 (by decide) ?_
    exact b_X4_parseEnd_14 l C0 _ _ _ _ _ hw Z (lv_sub hl [0] rfl)
-- X4_load: room (8, 197)
theorem dX4_load_0 : decode cX4_load 0 = .ok (.aload_n 0, 1) := by decide +kernel
theorem dX4_load_1 : decode cX4_load 1 = .ok (.iconst 0, 1) := by decide +kernel
theorem dX4_load_2 : decode cX4_load 2 = .ok (.putfield 55, 3) := by decide +kernel
theorem dX4_load_5 : decode cX4_load 5 = .ok (.aload_n 0, 1) := by decide +kernel
theorem dX4_load_6 : decode cX4_load 6 = .ok (.getfield 7, 3) := by decide +kernel
theorem dX4_load_9 : decode cX4_load 9 = .ok (.iconst 0, 1) := by decide +kernel
theorem dX4_load_10 : decode cX4_load 10 = .ok (.aload_n 0, 1) := by decide +kernel
theorem dX4_load_11 : decode cX4_load 11 = .ok (.getfield 13, 3) := by decide +kernel
theorem dX4_load_14 : decode cX4_load 14 = .ok (.iconst 0, 1) := by decide +kernel
theorem dX4_load_15 : decode cX4_load 15 = .ok (.invokestatic 184, 3) := by decide +kernel
theorem dX4_load_18 : decode cX4_load 18 = .ok (.aload_n 0, 1) := by decide +kernel
theorem dX4_load_19 : decode cX4_load 19 = .ok (.getfield 58, 3) := by decide +kernel
theorem dX4_load_22 : decode cX4_load 22 = .ok (.istore_n 1, 1) := by decide +kernel
theorem dX4_load_23 : decode cX4_load 23 = .ok (.aload_n 0, 1) := by decide +kernel
theorem dX4_load_24 : decode cX4_load 24 = .ok (.getfield 61, 3) := by decide +kernel
theorem dX4_load_27 : decode cX4_load 27 = .ok (.istore_n 2, 1) := by decide +kernel
theorem dX4_load_28 : decode cX4_load 28 = .ok (.aload_n 0, 1) := by decide +kernel
theorem dX4_load_29 : decode cX4_load 29 = .ok (.getfield 64, 3) := by decide +kernel
theorem dX4_load_32 : decode cX4_load 32 = .ok (.istore_n 3, 1) := by decide +kernel
theorem dX4_load_33 : decode cX4_load 33 = .ok (.aload_n 0, 1) := by decide +kernel
theorem dX4_load_34 : decode cX4_load 34 = .ok (.bipush 32, 2) := by decide +kernel
theorem dX4_load_36 : decode cX4_load 36 = .ok (.invokevirtual 48, 3) := by decide +kernel
theorem dX4_load_39 : decode cX4_load 39 = .ok (.aload_n 0, 1) := by decide +kernel
theorem dX4_load_40 : decode cX4_load 40 = .ok (.iconst 0, 1) := by decide +kernel
theorem dX4_load_41 : decode cX4_load 41 = .ok (.putfield 134, 3) := by decide +kernel
theorem dX4_load_44 : decode cX4_load 44 = .ok (.aload_n 0, 1) := by decide +kernel
theorem dX4_load_45 : decode cX4_load 45 = .ok (.iconst (-1), 1) := by decide +kernel
theorem dX4_load_46 : decode cX4_load 46 = .ok (.putfield 38, 3) := by decide +kernel
theorem dX4_load_49 : decode cX4_load 49 = .ok (.aload_n 0, 1) := by decide +kernel
theorem dX4_load_50 : decode cX4_load 50 = .ok (.iconst 0, 1) := by decide +kernel
theorem dX4_load_51 : decode cX4_load 51 = .ok (.putfield 90, 3) := by decide +kernel
theorem dX4_load_54 : decode cX4_load 54 = .ok (.aload_n 0, 1) := by decide +kernel
theorem dX4_load_55 : decode cX4_load 55 = .ok (.invokevirtual 141, 3) := by decide +kernel
theorem dX4_load_58 : decode cX4_load 58 = .ok (.aload_n 0, 1) := by decide +kernel
theorem dX4_load_59 : decode cX4_load 59 = .ok (.aload_n 0, 1) := by decide +kernel
theorem dX4_load_60 : decode cX4_load 60 = .ok (.ldc 188, 2) := by decide +kernel
theorem dX4_load_62 : decode cX4_load 62 = .ok (.invokevirtual 144, 3) := by decide +kernel
theorem dX4_load_65 : decode cX4_load 65 = .ok (.iconst 1, 1) := by decide +kernel
theorem dX4_load_66 : decode cX4_load 66 = .ok (.invokevirtual 148, 3) := by decide +kernel
theorem dX4_load_69 : decode cX4_load 69 = .ok (.aload_n 0, 1) := by decide +kernel
theorem dX4_load_70 : decode cX4_load 70 = .ok (.invokevirtual 156, 3) := by decide +kernel
theorem dX4_load_73 : decode cX4_load 73 = .ok (.aload_n 0, 1) := by decide +kernel
theorem dX4_load_74 : decode cX4_load 74 = .ok (.getfield 7, 3) := by decide +kernel
theorem dX4_load_77 : decode cX4_load 77 = .ok (.iconst 4, 1) := by decide +kernel
theorem dX4_load_78 : decode cX4_load 78 = .ok (.aload_n 0, 1) := by decide +kernel
theorem dX4_load_79 : decode cX4_load 79 = .ok (.iconst 1, 1) := by decide +kernel
theorem dX4_load_80 : decode cX4_load 80 = .ok (.bipush 64, 2) := by decide +kernel
theorem dX4_load_82 : decode cX4_load 82 = .ok (.invokevirtual 159, 3) := by decide +kernel
theorem dX4_load_85 : decode cX4_load 85 = .ok (.iastore, 1) := by decide +kernel
theorem dX4_load_86 : decode cX4_load 86 = .ok (.aload_n 0, 1) := by decide +kernel
theorem dX4_load_87 : decode cX4_load 87 = .ok (.invokevirtual 190, 3) := by decide +kernel
theorem dX4_load_90 : decode cX4_load 90 = .ok (.aload_n 0, 1) := by decide +kernel
theorem dX4_load_91 : decode cX4_load 91 = .ok (.invokevirtual 137, 3) := by decide +kernel
theorem dX4_load_94 : decode cX4_load 94 = .ok (.ifCond .eq 53, 3) := by decide +kernel
theorem dX4_load_97 : decode cX4_load 97 = .ok (.aload_n 0, 1) := by decide +kernel
theorem dX4_load_98 : decode cX4_load 98 = .ok (.getfield 109, 3) := by decide +kernel
theorem dX4_load_101 : decode cX4_load 101 = .ok (.ifCond .eq 46, 3) := by decide +kernel
theorem dX4_load_104 : decode cX4_load 104 = .ok (.aload_n 0, 1) := by decide +kernel
theorem dX4_load_105 : decode cX4_load 105 = .ok (.ldc 193, 2) := by decide +kernel
theorem dX4_load_107 : decode cX4_load 107 = .ok (.invokevirtual 144, 3) := by decide +kernel
theorem dX4_load_110 : decode cX4_load 110 = .ok (.ifCond .eq 10, 3) := by decide +kernel
theorem dX4_load_113 : decode cX4_load 113 = .ok (.aload_n 0, 1) := by decide +kernel
theorem dX4_load_114 : decode cX4_load 114 = .ok (.invokevirtual 195, 3) := by decide +kernel
theorem dX4_load_117 : decode cX4_load 117 = .ok (.goto 23, 3) := by decide +kernel
theorem dX4_load_120 : decode cX4_load 120 = .ok (.aload_n 0, 1) := by decide +kernel
theorem dX4_load_121 : decode cX4_load 121 = .ok (.ldc 198, 2) := by decide +kernel
theorem dX4_load_123 : decode cX4_load 123 = .ok (.invokevirtual 144, 3) := by decide +kernel
theorem dX4_load_126 : decode cX4_load 126 = .ok (.ifCond .eq 10, 3) := by decide +kernel
theorem dX4_load_129 : decode cX4_load 129 = .ok (.aload_n 0, 1) := by decide +kernel
theorem dX4_load_130 : decode cX4_load 130 = .ok (.invokevirtual 200, 3) := by decide +kernel
theorem dX4_load_133 : decode cX4_load 133 = .ok (.goto 7, 3) := by decide +kernel
theorem dX4_load_136 : decode cX4_load 136 = .ok (.aload_n 0, 1) := by decide +kernel
theorem dX4_load_137 : decode cX4_load 137 = .ok (.invokevirtual 203, 3) := by decide +kernel
theorem dX4_load_140 : decode cX4_load 140 = .ok (.aload_n 0, 1) := by decide +kernel
theorem dX4_load_141 : decode cX4_load 141 = .ok (.invokevirtual 190, 3) := by decide +kernel
theorem dX4_load_144 : decode cX4_load 144 = .ok (.goto (-54), 3) := by decide +kernel
theorem dX4_load_147 : decode cX4_load 147 = .ok (.aload_n 0, 1) := by decide +kernel
theorem dX4_load_148 : decode cX4_load 148 = .ok (.iconst 0, 1) := by decide +kernel
theorem dX4_load_149 : decode cX4_load 149 = .ok (.putfield 75, 3) := by decide +kernel
theorem dX4_load_152 : decode cX4_load 152 = .ok (.aload_n 0, 1) := by decide +kernel
theorem dX4_load_153 : decode cX4_load 153 = .ok (.invokevirtual 52, 3) := by decide +kernel
theorem dX4_load_156 : decode cX4_load 156 = .ok (.aload_n 0, 1) := by decide +kernel
theorem dX4_load_157 : decode cX4_load 157 = .ok (.invokevirtual 137, 3) := by decide +kernel
theorem dX4_load_160 : decode cX4_load 160 = .ok (.ifCond .ne 33, 3) := by decide +kernel
theorem dX4_load_163 : decode cX4_load 163 = .ok (.aload_n 0, 1) := by decide +kernel
theorem dX4_load_164 : decode cX4_load 164 = .ok (.getfield 13, 3) := by decide +kernel
theorem dX4_load_167 : decode cX4_load 167 = .ok (.iconst 0, 1) := by decide +kernel
theorem dX4_load_168 : decode cX4_load 168 = .ok (.aload_n 0, 1) := by decide +kernel
theorem dX4_load_169 : decode cX4_load 169 = .ok (.getfield 7, 3) := by decide +kernel
theorem dX4_load_172 : decode cX4_load 172 = .ok (.iconst 0, 1) := by decide +kernel
theorem dX4_load_173 : decode cX4_load 173 = .ok (.invokestatic 184, 3) := by decide +kernel
theorem dX4_load_176 : decode cX4_load 176 = .ok (.aload_n 0, 1) := by decide +kernel
theorem dX4_load_177 : decode cX4_load 177 = .ok (.iload_n 1, 1) := by decide +kernel
theorem dX4_load_178 : decode cX4_load 178 = .ok (.putfield 58, 3) := by decide +kernel
theorem dX4_load_181 : decode cX4_load 181 = .ok (.aload_n 0, 1) := by decide +kernel
theorem dX4_load_182 : decode cX4_load 182 = .ok (.iload_n 2, 1) := by decide +kernel
theorem dX4_load_183 : decode cX4_load 183 = .ok (.putfield 61, 3) := by decide +kernel
theorem dX4_load_186 : decode cX4_load 186 = .ok (.aload_n 0, 1) := by decide +kernel
theorem dX4_load_187 : decode cX4_load 187 = .ok (.iload_n 3, 1) := by decide +kernel
theorem dX4_load_188 : decode cX4_load 188 = .ok (.putfield 64, 3) := by decide +kernel
theorem dX4_load_191 : decode cX4_load 191 = .ok (.iconst (-1), 1) := by decide +kernel
theorem dX4_load_192 : decode cX4_load 192 = .ok (.ireturn, 1) := by decide +kernel
theorem dX4_load_193 : decode cX4_load 193 = .ok (.aload_n 0, 1) := by decide +kernel
theorem dX4_load_194 : decode cX4_load 194 = .ok (.getfield 7, 3) := by decide +kernel
theorem dX4_load_197 : decode cX4_load 197 = .ok (.bipush 6, 2) := by decide +kernel
theorem dX4_load_199 : decode cX4_load 199 = .ok (.iaload, 1) := by decide +kernel
theorem dX4_load_200 : decode cX4_load 200 = .ok (.ireturn, 1) := by decide +kernel
def w_X4_load_147  (Q : Int32 → V3 → Prop) (x1 : Int32) (x2 : Int32) (x3 : Int32) (v : V3) : Prop := ∀ v19 : V3, v19 = up2 v 7 13 0 → w_X4_clearDraft v19 (fun v20 => w_X4_isFine v20 (fun r22 v21 => ((¬ r22 = 0 → Q (v21 8 6) v21) ∧ (r22 = 0 → w_X4_copy 9 474 0 8 474 0 v21 (fun v24 => ∀ v25 : V3, v25 = up2 v24 7 8 x1 → ∀ v26 : V3, v26 = up2 v25 7 9 x2 → ∀ v27 : V3, v27 = up2 v26 7 10 x3 → Q (-1) v27)))))
def w_X4_load_140  (Q : Int32 → V3 → Prop) (K90 : Int32 → Int32 → Int32 → V3 → Prop) (x1 : Int32) (x2 : Int32) (x3 : Int32) (v : V3) : Prop := w_X4_parseEnd v (fun v36 => K90 x1 x2 x3 v36)
def w_X4_load_90  (Q : Int32 → V3 → Prop) : Nat → Int32 → Int32 → Int32 → V3 → Prop
  | 0, _, _, _, _ => False
  | n90 + 1, x1, x2, x3, v => w_X4_isFine v (fun r17 v16 => ((r17 = 0 → w_X4_load_147 Q x1 x2 x3 v16) ∧ (¬ r17 = 0 → (((v16 7 16) = 0 → w_X4_load_147 Q x1 x2 x3 v16) ∧ (¬ (v16 7 16) = 0 → w_X4_isWord 1 v16 (fun r30 v29 => ((r30 = 0 → w_X4_isWord 2 v29 (fun r33 v32 => ((r33 = 0 → w_X4_parseSet v32 (fun v35 => w_X4_load_140 Q (w_X4_load_90 Q n90) x1 x2 x3 v35)) ∧ (¬ r33 = 0 → w_X4_parseBook v32 (fun v37 => w_X4_load_140 Q (w_X4_load_90 Q n90) x1 x2 x3 v37))))) ∧ (¬ r30 = 0 → w_X4_parseOwner v29 (fun v38 => w_X4_load_140 Q (w_X4_load_90 Q n90) x1 x2 x3 v38)))))))))
def w_X4_load  (v : V3) (Q : Int32 → V3 → Prop) : Prop := ∀ v1 : V3, v1 = up2 v 7 11 0 → w_X4_copy 8 474 0 9 474 0 v1 (fun v2 => w_X4_clear 32 v2 (fun v3 => ∀ v4 : V3, v4 = up2 v3 7 19 0 → ∀ v5 : V3, v5 = up2 v4 7 20 (-1) → ∀ v6 : V3, v6 = up2 v5 7 14 0 → w_X4_nextToken v6 (fun v7 => w_X4_isWord 0 v7 (fun r9 v8 => w_X4_require r9 1 v8 (fun v10 => w_X4_advance v10 (fun v11 => w_X4_parseNumber 1 64 v11 (fun r13 v12 => ∀ v14 : V3, v14 = up2 v12 8 4 r13 → w_X4_parseEnd v14 (fun v15 => ∃ m90 : Nat, w_X4_load_90 Q m90 (v2 7 8) (v2 7 9) (v2 7 10) v15))))))))
set_option maxRecDepth 100000 in
set_option maxHeartbeats 4000000 in
theorem b_X4_load_147 {p : Program} (l : Launch) {e : Env} {s : State} {m : MethodId} {args : Array Value} {below : List Frame} {meth : Method} {c : Code} {G : zG}   (C0 : Cx G RX4 cX4_load 4 (some .int) p s m args meth c) {Q : Int32 → V3 → Prop} : ∀ (x1 : Int32) (x2 : Int32) (x3 : Int32) (v : V3) (H : Heap) (locs : List Loc) (ls : Array Slot), w_X4_load_147 Q x1 x2 x3 v → Zs G s v H locs → lv_has ls 4 [(0, .ref (gad G 7)), (1, .int x1), (2, .int x2), (3, .int x3)] → W p l e { frames := 8, cells := 0, slots := 0, locals := 197 } s m args below meth c H locs 0 0 (MQ below (QiZ G Q) args s 0 0 (zA G)) (F0 m 147 ls []) := by
  have hx := C0.1
  have hb := C0.2.1
  intro x1 x2 x3 v H locs ls hw Z hl
  rw [w_X4_load_147] at hw
  refine lv_aload_n hx hb dX4_load_147 rfl (lv_at hl 0 rfl) ?_
  refine lv_iconst (v := 0) hx hb dX4_load_148 (by decide) ?_
  refine z_put C0 Z in_X4 tyX4_ok nmX4 rfl 13 (by decide) rfl rfl tm_4_216 (cx_lt C0 (by decide)) rfl p_X4_13 (fun c' h => up2_off _ _ _ h) rfl rfl (Nat.le_of_ble_eq_true rfl) dX4_load_149 (fun H locs Z => ?_)
  obtain ⟨v19, ev19⟩ : ∃ z : V3, z = up2 v 7 13 0 := ⟨_, rfl⟩
  rw [← ev19] at Z
  replace hw := hw v19 ev19
  refine lv_aload_n hx hb dX4_load_152 rfl (lv_at hl 0 rfl) ?_
  refine z_callVv C0 Z hl.1 (As := []) (rest := []) (k_X4_clearDraft l (cx_g C0) hw) (gv_X4_clearDraft tm_4_199) rfl ds_X4_clearDraft ⟨Nat.le_of_ble_eq_true rfl, Nat.le_of_ble_eq_true rfl⟩ (ci := 4) rfl (cx_lt C0 (by decide)) rfl rfl rfl (Nat.le_of_ble_eq_true rfl) ⟨Nat.le_of_ble_eq_true rfl, Nat.le_of_ble_eq_true rfl⟩ dX4_load_153 (fun v20 H locs hw Z => ?_)
  refine lv_aload_n hx hb dX4_load_156 rfl (lv_at hl 0 rfl) ?_
  refine z_callVi C0 Z hl.1 (As := []) (rest := []) (k_X4_isFine l (cx_g C0) hw) (gv_X4_isFine tm_5_129) rfl ds_X4_isFine ⟨Nat.le_of_ble_eq_true rfl, Nat.le_of_ble_eq_true rfl⟩ (ci := 4) rfl (cx_lt C0 (by decide)) rfl rfl rfl (Nat.le_of_ble_eq_true rfl) ⟨Nat.le_of_ble_eq_true rfl, Nat.le_of_ble_eq_true rfl⟩ dX4_load_157 (fun r22 v21 H locs hw Z => ?_)
  refine lv_if_ne (tgt := 193) hx hb dX4_load_160 (by decide) (fun c23 => ?_) (fun c23 => ?_)
  · replace hw := hw.1 c23
    refine lv_aload_n hx hb dX4_load_193 rfl (lv_at hl 0 rfl) ?_
    refine z_get C0 Z in_X4 rfl 0 (by decide) rfl tm_4_203 (cx_lt C0 (by decide)) rfl rfl dX4_load_194 ?_
    refine lv_bipush (v := 6) hx hb dX4_load_197 (by decide) ?_
    refine z_ialdk C0 Z (cx_lt C0 (by decide)) rfl in_6_474 nc_6 dX4_load_199 ?_
    exact z_iret C0 Z hw dX4_load_200
  · replace hw := hw.2 c23
    refine lv_aload_n hx hb dX4_load_163 rfl (lv_at hl 0 rfl) ?_
    refine z_get C0 Z in_X4 rfl 1 (by decide) rfl tm_4_204 (cx_lt C0 (by decide)) rfl rfl dX4_load_164 ?_
    refine lv_iconst (v := 0) hx hb dX4_load_167 (by decide) ?_
    refine lv_aload_n hx hb dX4_load_168 rfl (lv_at hl 0 rfl) ?_
    refine z_get C0 Z in_X4 rfl 0 (by decide) rfl tm_4_203 (cx_lt C0 (by decide)) rfl rfl dX4_load_169 ?_
    refine lv_iconst (v := 0) hx hb dX4_load_172 (by decide) ?_
    refine z_callSv C0 Z hl.1 (As := [.ref (gad G 9), .int 0, .ref (gad G 8), .int 0]) (rest := []) (k_X4_copy l (cx_g C0) ⟨(cx_lt C0 (by decide)), (fun _ => rfl)⟩ ⟨(cx_lt C0 (by decide)), (fun _ => rfl)⟩ hw) (gv_X4_copy tm_5_90) ds_X4_copy ⟨Nat.le_of_ble_eq_true rfl, Nat.le_of_ble_eq_true rfl⟩ rfl rfl (Nat.le_of_ble_eq_true rfl) ⟨Nat.le_of_ble_eq_true rfl, Nat.le_of_ble_eq_true rfl⟩ dX4_load_173 (fun v24 H locs hw Z => ?_)
    refine lv_aload_n hx hb dX4_load_176 rfl (lv_at hl 0 rfl) ?_
    refine lv_iload_n hx hb dX4_load_177 rfl (lv_at hl 1 rfl) ?_
    refine z_put C0 Z in_X4 tyX4_ok nmX4 rfl 8 (by decide) rfl rfl tm_4_211 (cx_lt C0 (by decide)) rfl p_X4_8 (fun c' h => up2_off _ _ _ h) rfl rfl (Nat.le_of_ble_eq_true rfl) dX4_load_178 (fun H locs Z => ?_)
    obtain ⟨v25, ev25⟩ : ∃ z : V3, z = up2 v24 7 8 x1 := ⟨_, rfl⟩
    rw [← ev25] at Z
    replace hw := hw v25 ev25
    refine lv_aload_n hx hb dX4_load_181 rfl (lv_at hl 0 rfl) ?_
    refine lv_iload_n hx hb dX4_load_182 rfl (lv_at hl 2 rfl) ?_
    refine z_put C0 Z in_X4 tyX4_ok nmX4 rfl 9 (by decide) rfl rfl tm_4_212 (cx_lt C0 (by decide)) rfl p_X4_9 (fun c' h => up2_off _ _ _ h) rfl rfl (Nat.le_of_ble_eq_true rfl) dX4_load_183 (fun H locs Z => ?_)
    obtain ⟨v26, ev26⟩ : ∃ z : V3, z = up2 v25 7 9 x2 := ⟨_, rfl⟩
    rw [← ev26] at Z
    replace hw := hw v26 ev26
    refine lv_aload_n hx hb dX4_load_186 rfl (lv_at hl 0 rfl) ?_
    refine lv_iload_n hx hb dX4_load_187 rfl (lv_at hl 3 rfl) ?_
    refine z_put C0 Z in_X4 tyX4_ok nmX4 rfl 10 (by decide) rfl rfl tm_4_213 (cx_lt C0 (by decide)) rfl p_X4_10 (fun c' h => up2_off _ _ _ h) rfl rfl (Nat.le_of_ble_eq_true rfl) dX4_load_188 (fun H locs Z => ?_)
    obtain ⟨v27, ev27⟩ : ∃ z : V3, z = up2 v26 7 10 x3 := ⟨_, rfl⟩
    rw [← ev27] at Z
    replace hw := hw v27 ev27
    refine lv_iconst (v := (-1)) hx hb dX4_load_191 (by decide) ?_
    exact z_iret C0 Z hw dX4_load_192
set_option maxRecDepth 100000 in
set_option maxHeartbeats 4000000 in
theorem b_X4_load_140 {p : Program} (l : Launch) {e : Env} {s : State} {m : MethodId} {args : Array Value} {below : List Frame} {meth : Method} {c : Code} {G : zG}   (C0 : Cx G RX4 cX4_load 4 (some .int) p s m args meth c) {Q : Int32 → V3 → Prop} {K90 : Int32 → Int32 → Int32 → V3 → Prop} (hK90 : ∀ (x1 : Int32) (x2 : Int32) (x3 : Int32) (v : V3) (H : Heap) (locs : List Loc) (ls : Array Slot), K90 x1 x2 x3 v → Zs G s v H locs → lv_has ls 4 [(0, .ref (gad G 7)), (1, .int x1), (2, .int x2), (3, .int x3)] → W p l e { frames := 8, cells := 0, slots := 0, locals := 197 } s m args below meth c H locs 0 0 (MQ below (QiZ G Q) args s 0 0 (zA G)) (F0 m 90 ls [])) : ∀ (x1 : Int32) (x2 : Int32) (x3 : Int32) (v : V3) (H : Heap) (locs : List Loc) (ls : Array Slot), w_X4_load_140 Q K90 x1 x2 x3 v → Zs G s v H locs → lv_has ls 4 [(0, .ref (gad G 7)), (1, .int x1), (2, .int x2), (3, .int x3)] → W p l e { frames := 8, cells := 0, slots := 0, locals := 197 } s m args below meth c H locs 0 0 (MQ below (QiZ G Q) args s 0 0 (zA G)) (F0 m 140 ls []) := by
  have hx := C0.1
  have hb := C0.2.1
  intro x1 x2 x3 v H locs ls hw Z hl
  rw [w_X4_load_140] at hw
  refine lv_aload_n hx hb dX4_load_140 rfl (lv_at hl 0 rfl) ?_
  refine z_callVv C0 Z hl.1 (As := []) (rest := []) (k_X4_parseEnd l (cx_g C0) hw) (gv_X4_parseEnd tm_5_141) rfl ds_X4_parseEnd ⟨Nat.le_of_ble_eq_true rfl, Nat.le_of_ble_eq_true rfl⟩ (ci := 4) rfl (cx_lt C0 (by decide)) rfl rfl rfl (Nat.le_of_ble_eq_true rfl) ⟨Nat.le_of_ble_eq_true rfl, Nat.le_of_ble_eq_true rfl⟩ dX4_load_141 (fun v36 H locs hw Z => ?_)
  refine lv_goto (tgt := 90) hx hb dX4_load_144 (by decide) ?_
  exact hK90 _ _ _ _ _ _ _ hw Z (lv_sub hl [0, 1, 2, 3] rfl)
set_option maxRecDepth 100000 in
set_option maxHeartbeats 4000000 in
theorem b_X4_load_90 {p : Program} (l : Launch) {e : Env} {s : State} {m : MethodId} {args : Array Value} {below : List Frame} {meth : Method} {c : Code} {G : zG}   (C0 : Cx G RX4 cX4_load 4 (some .int) p s m args meth c) {Q : Int32 → V3 → Prop} : ∀ (n : Nat) (x1 : Int32) (x2 : Int32) (x3 : Int32) (v : V3) (H : Heap) (locs : List Loc) (ls : Array Slot), w_X4_load_90 Q n x1 x2 x3 v → Zs G s v H locs → lv_has ls 4 [(0, .ref (gad G 7)), (1, .int x1), (2, .int x2), (3, .int x3)] → W p l e { frames := 8, cells := 0, slots := 0, locals := 197 } s m args below meth c H locs 0 0 (MQ below (QiZ G Q) args s 0 0 (zA G)) (F0 m 90 ls []) := by
  have hx := C0.1
  have hb := C0.2.1
  intro n
  induction n with
  | zero =>
    intro x1 x2 x3 v H locs ls hw Z hl
    exact hw.elim
  | succ n hK90 =>
    intro x1 x2 x3 v H locs ls hw Z hl
    rw [w_X4_load_90] at hw
    refine lv_aload_n hx hb dX4_load_90 rfl (lv_at hl 0 rfl) ?_
    refine z_callVi C0 Z hl.1 (As := []) (rest := []) (k_X4_isFine l (cx_g C0) hw) (gv_X4_isFine tm_5_129) rfl ds_X4_isFine ⟨Nat.le_of_ble_eq_true rfl, Nat.le_of_ble_eq_true rfl⟩ (ci := 4) rfl (cx_lt C0 (by decide)) rfl rfl rfl (Nat.le_of_ble_eq_true rfl) ⟨Nat.le_of_ble_eq_true rfl, Nat.le_of_ble_eq_true rfl⟩ dX4_load_91 (fun r17 v16 H locs hw Z => ?_)
    refine lv_if_eq (tgt := 147) hx hb dX4_load_94 (by decide) (fun c18 => ?_) (fun c18 => ?_)
    · replace hw := hw.1 c18
      exact b_X4_load_147 l C0 _ _ _ _ _ _ _ hw Z (lv_sub hl [0, 1, 2, 3] rfl)
    · replace hw := hw.2 c18
      refine lv_aload_n hx hb dX4_load_97 rfl (lv_at hl 0 rfl) ?_
      refine z_get C0 Z in_X4 rfl 16 (by decide) rfl tm_4_219 (cx_lt C0 (by decide)) rfl rfl dX4_load_98 ?_
      refine lv_if_eq (tgt := 147) hx hb dX4_load_101 (by decide) (fun c28 => ?_) (fun c28 => ?_)
      · replace hw := hw.1 c28
        exact b_X4_load_147 l C0 _ _ _ _ _ _ _ hw Z (lv_sub hl [0, 1, 2, 3] rfl)
      · replace hw := hw.2 c28
        refine lv_aload_n hx hb dX4_load_104 rfl (lv_at hl 0 rfl) ?_
        refine z_ldcS C0 Z (i := 1) (by decide +kernel) dX4_load_105 ?_
        refine z_callVi C0 Z hl.1 (As := [.ref (zst G 1)]) (rest := []) (k_X4_isWord l (cx_g C0) (by decide) hw) (gv_X4_isWord tm_5_115) rfl ds_X4_isWord ⟨Nat.le_of_ble_eq_true rfl, Nat.le_of_ble_eq_true rfl⟩ (ci := 4) rfl (cx_lt C0 (by decide)) rfl rfl rfl (Nat.le_of_ble_eq_true rfl) ⟨Nat.le_of_ble_eq_true rfl, Nat.le_of_ble_eq_true rfl⟩ dX4_load_107 (fun r30 v29 H locs hw Z => ?_)
        refine lv_if_eq (tgt := 120) hx hb dX4_load_110 (by decide) (fun c31 => ?_) (fun c31 => ?_)
        · replace hw := hw.1 c31
          refine lv_aload_n hx hb dX4_load_120 rfl (lv_at hl 0 rfl) ?_
          refine z_ldcS C0 Z (i := 2) (by decide +kernel) dX4_load_121 ?_
          refine z_callVi C0 Z hl.1 (As := [.ref (zst G 2)]) (rest := []) (k_X4_isWord l (cx_g C0) (by decide) hw) (gv_X4_isWord tm_5_115) rfl ds_X4_isWord ⟨Nat.le_of_ble_eq_true rfl, Nat.le_of_ble_eq_true rfl⟩ (ci := 4) rfl (cx_lt C0 (by decide)) rfl rfl rfl (Nat.le_of_ble_eq_true rfl) ⟨Nat.le_of_ble_eq_true rfl, Nat.le_of_ble_eq_true rfl⟩ dX4_load_123 (fun r33 v32 H locs hw Z => ?_)
          refine lv_if_eq (tgt := 136) hx hb dX4_load_126 (by decide) (fun c34 => ?_) (fun c34 => ?_)
          · replace hw := hw.1 c34
            refine lv_aload_n hx hb dX4_load_136 rfl (lv_at hl 0 rfl) ?_
            refine z_callVv C0 Z hl.1 (As := []) (rest := []) (k_X4_parseSet l (cx_g C0) hw) (gv_X4_parseSet tm_5_210) rfl ds_X4_parseSet ⟨Nat.le_of_ble_eq_true rfl, Nat.le_of_ble_eq_true rfl⟩ (ci := 4) rfl (cx_lt C0 (by decide)) rfl rfl rfl (Nat.le_of_ble_eq_true rfl) ⟨Nat.le_of_ble_eq_true rfl, Nat.le_of_ble_eq_true rfl⟩ dX4_load_137 (fun v35 H locs hw Z => ?_)
            exact b_X4_load_140 l C0 hK90 _ _ _ _ _ _ _ hw Z (lv_sub hl [0, 1, 2, 3] rfl)
          · replace hw := hw.2 c34
            refine lv_aload_n hx hb dX4_load_129 rfl (lv_at hl 0 rfl) ?_
            refine z_callVv C0 Z hl.1 (As := []) (rest := []) (k_X4_parseBook l (cx_g C0) hw) (gv_X4_parseBook tm_5_155) rfl ds_X4_parseBook ⟨Nat.le_of_ble_eq_true rfl, Nat.le_of_ble_eq_true rfl⟩ (ci := 4) rfl (cx_lt C0 (by decide)) rfl rfl rfl (Nat.le_of_ble_eq_true rfl) ⟨Nat.le_of_ble_eq_true rfl, Nat.le_of_ble_eq_true rfl⟩ dX4_load_130 (fun v37 H locs hw Z => ?_)
            refine lv_goto (tgt := 140) hx hb dX4_load_133 (by decide) ?_
            exact b_X4_load_140 l C0 hK90 _ _ _ _ _ _ _ hw Z (lv_sub hl [0, 1, 2, 3] rfl)
        · replace hw := hw.2 c31
          refine lv_aload_n hx hb dX4_load_113 rfl (lv_at hl 0 rfl) ?_
          refine z_callVv C0 Z hl.1 (As := []) (rest := []) (k_X4_parseOwner l (cx_g C0) hw) (gv_X4_parseOwner tm_5_146) rfl ds_X4_parseOwner ⟨Nat.le_of_ble_eq_true rfl, Nat.le_of_ble_eq_true rfl⟩ (ci := 4) rfl (cx_lt C0 (by decide)) rfl rfl rfl (Nat.le_of_ble_eq_true rfl) ⟨Nat.le_of_ble_eq_true rfl, Nat.le_of_ble_eq_true rfl⟩ dX4_load_114 (fun v38 H locs hw Z => ?_)
          refine lv_goto (tgt := 140) hx hb dX4_load_117 (by decide) ?_
          exact b_X4_load_140 l C0 hK90 _ _ _ _ _ _ _ hw Z (lv_sub hl [0, 1, 2, 3] rfl)
set_option maxRecDepth 100000 in
set_option maxHeartbeats 4000000 in
theorem k_X4_load (l : Launch) {G : zG} (hg : 129 ≤ gn G)  {v : V3} {Q : Int32 → V3 → Prop} (hw : w_X4_load v Q) : Mz l yX4_load cX4_load 4 (some .int) 8 197 G [.ref (gad G 7)] v (QiZ G Q) := by
  rw [w_X4_load] at hw
  refine z_ofW hg (by decide) (Nat.le_of_ble_eq_true rfl) ?_
  intro p e s m args below meth c ls C0 Z hl
  have hx := C0.1
  have hb := C0.2.1
  replace hl : lv_has ls 4 [(0, .ref (gad G 7))] := hl
  generalize s.heap = H at Z ⊢
  generalize ([] : List Loc) = locs at Z ⊢
  refine lv_aload_n hx hb dX4_load_0 rfl (lv_at hl 0 rfl) ?_
  refine lv_iconst (v := 0) hx hb dX4_load_1 (by decide) ?_
  refine z_put C0 Z in_X4 tyX4_ok nmX4 rfl 11 (by decide) rfl rfl tm_4_214 (cx_lt C0 (by decide)) rfl p_X4_11 (fun c' h => up2_off _ _ _ h) rfl rfl (Nat.le_of_ble_eq_true rfl) dX4_load_2 (fun H locs Z => ?_)
  obtain ⟨v1, ev1⟩ : ∃ z : V3, z = up2 v 7 11 0 := ⟨_, rfl⟩
  rw [← ev1] at Z
  replace hw := hw v1 ev1
  refine lv_aload_n hx hb dX4_load_5 rfl (lv_at hl 0 rfl) ?_
  refine z_get C0 Z in_X4 rfl 0 (by decide) rfl tm_4_203 (cx_lt C0 (by decide)) rfl rfl dX4_load_6 ?_
  refine lv_iconst (v := 0) hx hb dX4_load_9 (by decide) ?_
  refine lv_aload_n hx hb dX4_load_10 rfl (lv_at hl 0 rfl) ?_
  refine z_get C0 Z in_X4 rfl 1 (by decide) rfl tm_4_204 (cx_lt C0 (by decide)) rfl rfl dX4_load_11 ?_
  refine lv_iconst (v := 0) hx hb dX4_load_14 (by decide) ?_
  refine z_callSv C0 Z hl.1 (As := [.ref (gad G 8), .int 0, .ref (gad G 9), .int 0]) (rest := []) (k_X4_copy l (cx_g C0) ⟨(cx_lt C0 (by decide)), (fun _ => rfl)⟩ ⟨(cx_lt C0 (by decide)), (fun _ => rfl)⟩ hw) (gv_X4_copy tm_5_90) ds_X4_copy ⟨Nat.le_of_ble_eq_true rfl, Nat.le_of_ble_eq_true rfl⟩ rfl rfl (Nat.le_of_ble_eq_true rfl) ⟨Nat.le_of_ble_eq_true rfl, Nat.le_of_ble_eq_true rfl⟩ dX4_load_15 (fun v2 H locs hw Z => ?_)
  refine lv_aload_n hx hb dX4_load_18 rfl (lv_at hl 0 rfl) ?_
  refine z_get C0 Z in_X4 rfl 8 (by decide) rfl tm_4_211 (cx_lt C0 (by decide)) rfl rfl dX4_load_19 ?_
  refine lv_istore_n (lv' := [(1, .int (v2 7 8)), (0, .ref (gad G 7))]) hx hb dX4_load_22 rfl hl (by decide) rfl (fun ls hl => ?_)
  refine lv_aload_n hx hb dX4_load_23 rfl (lv_at hl 1 rfl) ?_
  refine z_get C0 Z in_X4 rfl 9 (by decide) rfl tm_4_212 (cx_lt C0 (by decide)) rfl rfl dX4_load_24 ?_
  refine lv_istore_n (lv' := [(2, .int (v2 7 9)), (1, .int (v2 7 8)), (0, .ref (gad G 7))]) hx hb dX4_load_27 rfl hl (by decide) rfl (fun ls hl => ?_)
  refine lv_aload_n hx hb dX4_load_28 rfl (lv_at hl 2 rfl) ?_
  refine z_get C0 Z in_X4 rfl 10 (by decide) rfl tm_4_213 (cx_lt C0 (by decide)) rfl rfl dX4_load_29 ?_
  refine lv_istore_n (lv' := [(3, .int (v2 7 10)), (2, .int (v2 7 9)), (1, .int (v2 7 8)), (0, .ref (gad G 7))]) hx hb dX4_load_32 rfl hl (by decide) rfl (fun ls hl => ?_)
  refine lv_aload_n hx hb dX4_load_33 rfl (lv_at hl 3 rfl) ?_
  refine lv_bipush (v := 32) hx hb dX4_load_34 (by decide) ?_
  refine z_callVv C0 Z hl.1 (As := [.int 32]) (rest := []) (k_X4_clear l (cx_g C0) hw) (gv_X4_clear tm_4_195) rfl ds_X4_clear ⟨Nat.le_of_ble_eq_true rfl, Nat.le_of_ble_eq_true rfl⟩ (ci := 4) rfl (cx_lt C0 (by decide)) rfl rfl rfl (Nat.le_of_ble_eq_true rfl) ⟨Nat.le_of_ble_eq_true rfl, Nat.le_of_ble_eq_true rfl⟩ dX4_load_36 (fun v3 H locs hw Z => ?_)
  refine lv_aload_n hx hb dX4_load_39 rfl (lv_at hl 3 rfl) ?_
  refine lv_iconst (v := 0) hx hb dX4_load_40 (by decide) ?_
  refine z_put C0 Z in_X4 tyX4_ok nmX4 rfl 19 (by decide) rfl rfl tm_4_222 (cx_lt C0 (by decide)) rfl p_X4_19 (fun c' h => up2_off _ _ _ h) rfl rfl (Nat.le_of_ble_eq_true rfl) dX4_load_41 (fun H locs Z => ?_)
  obtain ⟨v4, ev4⟩ : ∃ z : V3, z = up2 v3 7 19 0 := ⟨_, rfl⟩
  rw [← ev4] at Z
  replace hw := hw v4 ev4
  refine lv_aload_n hx hb dX4_load_44 rfl (lv_at hl 3 rfl) ?_
  refine lv_iconst (v := (-1)) hx hb dX4_load_45 (by decide) ?_
  refine z_put C0 Z in_X4 tyX4_ok nmX4 rfl 20 (by decide) rfl rfl tm_4_223 (cx_lt C0 (by decide)) rfl p_X4_20 (fun c' h => up2_off _ _ _ h) rfl rfl (Nat.le_of_ble_eq_true rfl) dX4_load_46 (fun H locs Z => ?_)
  obtain ⟨v5, ev5⟩ : ∃ z : V3, z = up2 v4 7 20 (-1) := ⟨_, rfl⟩
  rw [← ev5] at Z
  replace hw := hw v5 ev5
  refine lv_aload_n hx hb dX4_load_49 rfl (lv_at hl 3 rfl) ?_
  refine lv_iconst (v := 0) hx hb dX4_load_50 (by decide) ?_
  refine z_put C0 Z in_X4 tyX4_ok nmX4 rfl 14 (by decide) rfl rfl tm_4_217 (cx_lt C0 (by decide)) rfl p_X4_14 (fun c' h => up2_off _ _ _ h) rfl rfl (Nat.le_of_ble_eq_true rfl) dX4_load_51 (fun H locs Z => ?_)
  obtain ⟨v6, ev6⟩ : ∃ z : V3, z = up2 v5 7 14 0 := ⟨_, rfl⟩
  rw [← ev6] at Z
  replace hw := hw v6 ev6
  refine lv_aload_n hx hb dX4_load_54 rfl (lv_at hl 3 rfl) ?_
  refine z_callVv C0 Z hl.1 (As := []) (rest := []) (k_X4_nextToken l (cx_g C0) hw) (gv_X4_nextToken tm_5_93) rfl ds_X4_nextToken ⟨Nat.le_of_ble_eq_true rfl, Nat.le_of_ble_eq_true rfl⟩ (ci := 4) rfl (cx_lt C0 (by decide)) rfl rfl rfl (Nat.le_of_ble_eq_true rfl) ⟨Nat.le_of_ble_eq_true rfl, Nat.le_of_ble_eq_true rfl⟩ dX4_load_55 (fun v7 H locs hw Z => ?_)
  refine lv_aload_n hx hb dX4_load_58 rfl (lv_at hl 3 rfl) ?_
  refine lv_aload_n hx hb dX4_load_59 rfl (lv_at hl 3 rfl) ?_
  refine z_ldcS C0 Z (i := 0) (by decide +kernel) dX4_load_60 ?_
  refine z_callVi C0 Z hl.1 (As := [.ref (zst G 0)]) (rest := [.ref (gad G 7)]) (k_X4_isWord l (cx_g C0) (by decide) hw) (gv_X4_isWord tm_5_115) rfl ds_X4_isWord ⟨Nat.le_of_ble_eq_true rfl, Nat.le_of_ble_eq_true rfl⟩ (ci := 4) rfl (cx_lt C0 (by decide)) rfl rfl rfl (Nat.le_of_ble_eq_true rfl) ⟨Nat.le_of_ble_eq_true rfl, Nat.le_of_ble_eq_true rfl⟩ dX4_load_62 (fun r9 v8 H locs hw Z => ?_)
  refine lv_iconst (v := 1) hx hb dX4_load_65 (by decide) ?_
  refine z_callVv C0 Z hl.1 (As := [.int r9, .int 1]) (rest := []) (k_X4_require l (cx_g C0) hw) (gv_X4_require tm_5_121) rfl ds_X4_require ⟨Nat.le_of_ble_eq_true rfl, Nat.le_of_ble_eq_true rfl⟩ (ci := 4) rfl (cx_lt C0 (by decide)) rfl rfl rfl (Nat.le_of_ble_eq_true rfl) ⟨Nat.le_of_ble_eq_true rfl, Nat.le_of_ble_eq_true rfl⟩ dX4_load_66 (fun v10 H locs hw Z => ?_)
  refine lv_aload_n hx hb dX4_load_69 rfl (lv_at hl 3 rfl) ?_
  refine z_callVv C0 Z hl.1 (As := []) (rest := []) (k_X4_advance l (cx_g C0) hw) (gv_X4_advance tm_5_125) rfl ds_X4_advance ⟨Nat.le_of_ble_eq_true rfl, Nat.le_of_ble_eq_true rfl⟩ (ci := 4) rfl (cx_lt C0 (by decide)) rfl rfl rfl (Nat.le_of_ble_eq_true rfl) ⟨Nat.le_of_ble_eq_true rfl, Nat.le_of_ble_eq_true rfl⟩ dX4_load_70 (fun v11 H locs hw Z => ?_)
  refine lv_aload_n hx hb dX4_load_73 rfl (lv_at hl 3 rfl) ?_
  refine z_get C0 Z in_X4 rfl 0 (by decide) rfl tm_4_203 (cx_lt C0 (by decide)) rfl rfl dX4_load_74 ?_
  refine lv_iconst (v := 4) hx hb dX4_load_77 (by decide) ?_
  refine lv_aload_n hx hb dX4_load_78 rfl (lv_at hl 3 rfl) ?_
  refine lv_iconst (v := 1) hx hb dX4_load_79 (by decide) ?_
  refine lv_bipush (v := 64) hx hb dX4_load_80 (by decide) ?_
  refine z_callVi C0 Z hl.1 (As := [.int 1, .int 64]) (rest := [.int 4, .ref (gad G 8)]) (k_X4_parseNumber l (cx_g C0) hw) (gv_X4_parseNumber tm_5_133) rfl ds_X4_parseNumber ⟨Nat.le_of_ble_eq_true rfl, Nat.le_of_ble_eq_true rfl⟩ (ci := 4) rfl (cx_lt C0 (by decide)) rfl rfl rfl (Nat.le_of_ble_eq_true rfl) ⟨Nat.le_of_ble_eq_true rfl, Nat.le_of_ble_eq_true rfl⟩ dX4_load_82 (fun r13 v12 H locs hw Z => ?_)
  refine z_iastk C0 Z (cx_lt C0 (by decide)) (fun _ => rfl) in_4_474 nc_4 dX4_load_85 (fun H locs Z => ?_)
  obtain ⟨v14, ev14⟩ : ∃ z : V3, z = up2 v12 8 4 r13 := ⟨_, rfl⟩
  rw [← ev14] at Z
  replace hw := hw v14 ev14
  refine lv_aload_n hx hb dX4_load_86 rfl (lv_at hl 3 rfl) ?_
  refine z_callVv C0 Z hl.1 (As := []) (rest := []) (k_X4_parseEnd l (cx_g C0) hw) (gv_X4_parseEnd tm_5_141) rfl ds_X4_parseEnd ⟨Nat.le_of_ble_eq_true rfl, Nat.le_of_ble_eq_true rfl⟩ (ci := 4) rfl (cx_lt C0 (by decide)) rfl rfl rfl (Nat.le_of_ble_eq_true rfl) ⟨Nat.le_of_ble_eq_true rfl, Nat.le_of_ble_eq_true rfl⟩ dX4_load_87 (fun v15 H locs hw Z => ?_)
  obtain ⟨m90, hw⟩ := hw
  exact b_X4_load_90 l C0 m90 _ _ _ _ _ _ _ hw Z (lv_sub hl [3, 2, 1, 0] rfl)
