/-! THE LAW: foretells -/
theorem dL_foretells_0 : decode cL_foretells 0 = .ok (.iconst 1, 1) := by decide +kernel
theorem dL_foretells_1 : decode cL_foretells 1 = .ok (.aload_n 0, 1) := by decide +kernel
theorem dL_foretells_2 : decode cL_foretells 2 = .ok (.bipush 40, 2) := by decide +kernel
theorem dL_foretells_4 : decode cL_foretells 4 = .ok (.invokevirtual 142, 3) := by decide +kernel
theorem dL_foretells_7 : decode cL_foretells 7 = .ok (.iadd, 1) := by decide +kernel
theorem dL_foretells_8 : decode cL_foretells 8 = .ok (.istore_n 1, 1) := by decide +kernel
theorem dL_foretells_9 : decode cL_foretells 9 = .ok (.aload_n 0, 1) := by decide +kernel
theorem dL_foretells_10 : decode cL_foretells 10 = .ok (.getfield 10, 3) := by decide +kernel
theorem dL_foretells_13 : decode cL_foretells 13 = .ok (.bipush 6, 2) := by decide +kernel
theorem dL_foretells_15 : decode cL_foretells 15 = .ok (.invokestatic 154, 3) := by decide +kernel
theorem dL_foretells_18 : decode cL_foretells 18 = .ok (.istore_n 2, 1) := by decide +kernel
theorem dL_foretells_19 : decode cL_foretells 19 = .ok (.iload_n 2, 1) := by decide +kernel
theorem dL_foretells_20 : decode cL_foretells 20 = .ok (.ifCond .eq 14, 3) := by decide +kernel
theorem dL_foretells_23 : decode cL_foretells 23 = .ok (.aload_n 0, 1) := by decide +kernel
theorem dL_foretells_24 : decode cL_foretells 24 = .ok (.getfield 10, 3) := by decide +kernel
theorem dL_foretells_27 : decode cL_foretells 27 = .ok (.iconst 1, 1) := by decide +kernel
theorem dL_foretells_28 : decode cL_foretells 28 = .ok (.invokestatic 207, 3) := by decide +kernel
theorem dL_foretells_31 : decode cL_foretells 31 = .ok (.ifCond .eq 13, 3) := by decide +kernel
theorem dL_foretells_34 : decode cL_foretells 34 = .ok (.iload_n 2, 1) := by decide +kernel
theorem dL_foretells_35 : decode cL_foretells 35 = .ok (.ifCond .ne 7, 3) := by decide +kernel
theorem dL_foretells_38 : decode cL_foretells 38 = .ok (.iconst 1, 1) := by decide +kernel
theorem dL_foretells_39 : decode cL_foretells 39 = .ok (.goto 4, 3) := by decide +kernel
theorem dL_foretells_42 : decode cL_foretells 42 = .ok (.iconst 0, 1) := by decide +kernel
theorem dL_foretells_43 : decode cL_foretells 43 = .ok (.ireturn, 1) := by decide +kernel
theorem dL_foretells_44 : decode cL_foretells 44 = .ok (.aload_n 0, 1) := by decide +kernel
theorem dL_foretells_45 : decode cL_foretells 45 = .ok (.iload_n 2, 1) := by decide +kernel
theorem dL_foretells_46 : decode cL_foretells 46 = .ok (.invokevirtual 142, 3) := by decide +kernel
theorem dL_foretells_49 : decode cL_foretells 49 = .ok (.istore_n 3, 1) := by decide +kernel
theorem dL_foretells_50 : decode cL_foretells 50 = .ok (.aload_n 0, 1) := by decide +kernel
theorem dL_foretells_51 : decode cL_foretells 51 = .ok (.getfield 10, 3) := by decide +kernel
theorem dL_foretells_54 : decode cL_foretells 54 = .ok (.iload_n 3, 1) := by decide +kernel
theorem dL_foretells_55 : decode cL_foretells 55 = .ok (.iload_n 1, 1) := by decide +kernel
theorem dL_foretells_56 : decode cL_foretells 56 = .ok (.invokestatic 209, 3) := by decide +kernel
theorem dL_foretells_59 : decode cL_foretells 59 = .ok (.istore 4, 2) := by decide +kernel
theorem dL_foretells_61 : decode cL_foretells 61 = .ok (.aload_n 0, 1) := by decide +kernel
theorem dL_foretells_62 : decode cL_foretells 62 = .ok (.getfield 10, 3) := by decide +kernel
theorem dL_foretells_65 : decode cL_foretells 65 = .ok (.iload_n 1, 1) := by decide +kernel
theorem dL_foretells_66 : decode cL_foretells 66 = .ok (.iconst 1, 1) := by decide +kernel
theorem dL_foretells_67 : decode cL_foretells 67 = .ok (.invokestatic 203, 3) := by decide +kernel
theorem dL_foretells_70 : decode cL_foretells 70 = .ok (.istore 5, 2) := by decide +kernel
theorem dL_foretells_72 : decode cL_foretells 72 = .ok (.aload_n 0, 1) := by decide +kernel
theorem dL_foretells_73 : decode cL_foretells 73 = .ok (.getfield 10, 3) := by decide +kernel
theorem dL_foretells_76 : decode cL_foretells 76 = .ok (.iload_n 1, 1) := by decide +kernel
theorem dL_foretells_77 : decode cL_foretells 77 = .ok (.iconst 2, 1) := by decide +kernel
theorem dL_foretells_78 : decode cL_foretells 78 = .ok (.invokestatic 203, 3) := by decide +kernel
theorem dL_foretells_81 : decode cL_foretells 81 = .ok (.istore 6, 2) := by decide +kernel
theorem dL_foretells_83 : decode cL_foretells 83 = .ok (.aload_n 0, 1) := by decide +kernel
theorem dL_foretells_84 : decode cL_foretells 84 = .ok (.getfield 10, 3) := by decide +kernel
theorem dL_foretells_87 : decode cL_foretells 87 = .ok (.bipush 8, 2) := by decide +kernel
theorem dL_foretells_89 : decode cL_foretells 89 = .ok (.invokestatic 154, 3) := by decide +kernel
theorem dL_foretells_92 : decode cL_foretells 92 = .ok (.istore 7, 2) := by decide +kernel
theorem dL_foretells_94 : decode cL_foretells 94 = .ok (.aload_n 0, 1) := by decide +kernel
theorem dL_foretells_95 : decode cL_foretells 95 = .ok (.getfield 10, 3) := by decide +kernel
theorem dL_foretells_98 : decode cL_foretells 98 = .ok (.iload_n 3, 1) := by decide +kernel
theorem dL_foretells_99 : decode cL_foretells 99 = .ok (.bipush 7, 2) := by decide +kernel
theorem dL_foretells_101 : decode cL_foretells 101 = .ok (.invokestatic 167, 3) := by decide +kernel
theorem dL_foretells_104 : decode cL_foretells 104 = .ok (.ifCond .ne 7, 3) := by decide +kernel
theorem dL_foretells_107 : decode cL_foretells 107 = .ok (.iconst (-1), 1) := by decide +kernel
theorem dL_foretells_108 : decode cL_foretells 108 = .ok (.goto 4, 3) := by decide +kernel
theorem dL_foretells_111 : decode cL_foretells 111 = .ok (.iconst 0, 1) := by decide +kernel
theorem dL_foretells_112 : decode cL_foretells 112 = .ok (.istore 8, 2) := by decide +kernel
theorem dL_foretells_114 : decode cL_foretells 114 = .ok (.iconst 1, 1) := by decide +kernel
theorem dL_foretells_115 : decode cL_foretells 115 = .ok (.istore 9, 2) := by decide +kernel
theorem dL_foretells_117 : decode cL_foretells 117 = .ok (.iload 9, 2) := by decide +kernel
theorem dL_foretells_119 : decode cL_foretells 119 = .ok (.iload_n 1, 1) := by decide +kernel
theorem dL_foretells_120 : decode cL_foretells 120 = .ok (.if_icmp .gt 49, 3) := by decide +kernel
theorem dL_foretells_123 : decode cL_foretells 123 = .ok (.aload_n 0, 1) := by decide +kernel
theorem dL_foretells_124 : decode cL_foretells 124 = .ok (.getfield 10, 3) := by decide +kernel
theorem dL_foretells_127 : decode cL_foretells 127 = .ok (.iconst 1, 1) := by decide +kernel
theorem dL_foretells_128 : decode cL_foretells 128 = .ok (.invokestatic 205, 3) := by decide +kernel
theorem dL_foretells_131 : decode cL_foretells 131 = .ok (.ifCond .ge 5, 3) := by decide +kernel
theorem dL_foretells_134 : decode cL_foretells 134 = .ok (.iconst 0, 1) := by decide +kernel
theorem dL_foretells_135 : decode cL_foretells 135 = .ok (.ireturn, 1) := by decide +kernel
theorem dL_foretells_136 : decode cL_foretells 136 = .ok (.iload 8, 2) := by decide +kernel
theorem dL_foretells_138 : decode cL_foretells 138 = .ok (.ifCond .ge 21, 3) := by decide +kernel
theorem dL_foretells_141 : decode cL_foretells 141 = .ok (.aload_n 0, 1) := by decide +kernel
theorem dL_foretells_142 : decode cL_foretells 142 = .ok (.getfield 10, 3) := by decide +kernel
theorem dL_foretells_145 : decode cL_foretells 145 = .ok (.iload_n 3, 1) := by decide +kernel
theorem dL_foretells_146 : decode cL_foretells 146 = .ok (.bipush 7, 2) := by decide +kernel
theorem dL_foretells_148 : decode cL_foretells 148 = .ok (.invokestatic 167, 3) := by decide +kernel
theorem dL_foretells_151 : decode cL_foretells 151 = .ok (.ifCond .eq 8, 3) := by decide +kernel
theorem dL_foretells_154 : decode cL_foretells 154 = .ok (.iload 9, 2) := by decide +kernel
theorem dL_foretells_156 : decode cL_foretells 156 = .ok (.goto 5, 3) := by decide +kernel
theorem dL_foretells_159 : decode cL_foretells 159 = .ok (.iload 8, 2) := by decide +kernel
theorem dL_foretells_161 : decode cL_foretells 161 = .ok (.istore 8, 2) := by decide +kernel
theorem dL_foretells_163 : decode cL_foretells 163 = .ok (.iinc 9 1, 3) := by decide +kernel
theorem dL_foretells_166 : decode cL_foretells 166 = .ok (.goto (-49), 3) := by decide +kernel
theorem dL_foretells_169 : decode cL_foretells 169 = .ok (.iload 8, 2) := by decide +kernel
theorem dL_foretells_171 : decode cL_foretells 171 = .ok (.iload 4, 2) := by decide +kernel
theorem dL_foretells_173 : decode cL_foretells 173 = .ok (.if_icmp .ne 66, 3) := by decide +kernel
theorem dL_foretells_176 : decode cL_foretells 176 = .ok (.aload_n 0, 1) := by decide +kernel
theorem dL_foretells_177 : decode cL_foretells 177 = .ok (.getfield 10, 3) := by decide +kernel
theorem dL_foretells_180 : decode cL_foretells 180 = .ok (.bipush 8, 2) := by decide +kernel
theorem dL_foretells_182 : decode cL_foretells 182 = .ok (.invokestatic 154, 3) := by decide +kernel
theorem dL_foretells_185 : decode cL_foretells 185 = .ok (.iload 7, 2) := by decide +kernel
theorem dL_foretells_187 : decode cL_foretells 187 = .ok (.iload 5, 2) := by decide +kernel
theorem dL_foretells_189 : decode cL_foretells 189 = .ok (.isub, 1) := by decide +kernel
theorem dL_foretells_190 : decode cL_foretells 190 = .ok (.iload 6, 2) := by decide +kernel
theorem dL_foretells_192 : decode cL_foretells 192 = .ok (.isub, 1) := by decide +kernel
theorem dL_foretells_193 : decode cL_foretells 193 = .ok (.if_icmp .ne 46, 3) := by decide +kernel
theorem dL_foretells_196 : decode cL_foretells 196 = .ok (.aload_n 0, 1) := by decide +kernel
theorem dL_foretells_197 : decode cL_foretells 197 = .ok (.getfield 10, 3) := by decide +kernel
theorem dL_foretells_200 : decode cL_foretells 200 = .ok (.iconst 1, 1) := by decide +kernel
theorem dL_foretells_201 : decode cL_foretells 201 = .ok (.invokestatic 211, 3) := by decide +kernel
theorem dL_foretells_204 : decode cL_foretells 204 = .ok (.ifCond .ne 35, 3) := by decide +kernel
theorem dL_foretells_207 : decode cL_foretells 207 = .ok (.aload_n 0, 1) := by decide +kernel
theorem dL_foretells_208 : decode cL_foretells 208 = .ok (.getfield 10, 3) := by decide +kernel
theorem dL_foretells_211 : decode cL_foretells 211 = .ok (.bipush 8, 2) := by decide +kernel
theorem dL_foretells_213 : decode cL_foretells 213 = .ok (.invokestatic 154, 3) := by decide +kernel
theorem dL_foretells_216 : decode cL_foretells 216 = .ok (.iload 7, 2) := by decide +kernel
theorem dL_foretells_218 : decode cL_foretells 218 = .ok (.if_icmp .ne 21, 3) := by decide +kernel
theorem dL_foretells_221 : decode cL_foretells 221 = .ok (.aload_n 0, 1) := by decide +kernel
theorem dL_foretells_222 : decode cL_foretells 222 = .ok (.getfield 10, 3) := by decide +kernel
theorem dL_foretells_225 : decode cL_foretells 225 = .ok (.iload_n 3, 1) := by decide +kernel
theorem dL_foretells_226 : decode cL_foretells 226 = .ok (.iload_n 1, 1) := by decide +kernel
theorem dL_foretells_227 : decode cL_foretells 227 = .ok (.invokestatic 209, 3) := by decide +kernel
theorem dL_foretells_230 : decode cL_foretells 230 = .ok (.iload 4, 2) := by decide +kernel
theorem dL_foretells_232 : decode cL_foretells 232 = .ok (.if_icmp .ne 7, 3) := by decide +kernel
theorem dL_foretells_235 : decode cL_foretells 235 = .ok (.iconst 1, 1) := by decide +kernel
theorem dL_foretells_236 : decode cL_foretells 236 = .ok (.goto 4, 3) := by decide +kernel
theorem dL_foretells_239 : decode cL_foretells 239 = .ok (.iconst 0, 1) := by decide +kernel
theorem dL_foretells_240 : decode cL_foretells 240 = .ok (.ireturn, 1) := by decide +kernel
def w_L_foretells_240 (N : Nat) (Q : Int32 → V3 → Prop) (s0 : Int32) (v : V3) : Prop := (s0 = 0 ∨ s0 = 1) ∧ Q s0 v
def w_L_foretells_239 (N : Nat) (Q : Int32 → V3 → Prop) (v : V3) : Prop := w_L_foretells_240 N Q 0 v
def w_L_foretells_161 (N : Nat) (Q : Int32 → V3 → Prop) (K117 : Int32 → Int32 → Int32 → Int32 → Int32 → Int32 → Int32 → Int32 → V3 → Prop) (x1 : Int32) (x3 : Int32) (x4 : Int32) (x5 : Int32) (x6 : Int32) (x7 : Int32) (x9 : Int32) (s0 : Int32) (v : V3) : Prop := K117 x1 x3 x4 x5 x6 x7 s0 (x9 + 1) v
def w_L_foretells_159 (N : Nat) (Q : Int32 → V3 → Prop) (K117 : Int32 → Int32 → Int32 → Int32 → Int32 → Int32 → Int32 → Int32 → V3 → Prop) (x1 : Int32) (x3 : Int32) (x4 : Int32) (x5 : Int32) (x6 : Int32) (x7 : Int32) (x8 : Int32) (x9 : Int32) (v : V3) : Prop := w_L_foretells_161 N Q K117 x1 x3 x4 x5 x6 x7 x9 x8 v
def w_L_foretells_117 (N : Nat) (Q : Int32 → V3 → Prop) : Nat → Int32 → Int32 → Int32 → Int32 → Int32 → Int32 → Int32 → Int32 → V3 → Prop
  | 0, _, _, _, _, _, _, _, _, _ => False
  | n117 + 1, x1, x3, x4, x5, x6, x7, x8, x9, v => ((x1 < x9 → ((¬ x8 = x4 → w_L_foretells_239 N Q v) ∧ (x8 = x4 → w_L_count 8 v (fun r19 v18 => ((¬ r19 = ((x7 - x5) - x6) → w_L_foretells_239 N Q v18) ∧ (r19 = ((x7 - x5) - x6) → w_L_restore N 1 v18 (fun r22 v21 => ((¬ r22 = 0 → w_L_foretells_239 N Q v21) ∧ (r22 = 0 → w_L_count 8 v21 (fun r25 v24 => ((¬ r25 = x7 → w_L_foretells_239 N Q v24) ∧ (r25 = x7 → w_L_waitsFor x3 x1 v24 (fun r28 v27 => ((¬ r28 = x4 → w_L_foretells_239 N Q v27) ∧ (r28 = x4 → w_L_foretells_240 N Q 1 v27))))))))))))))) ∧ (¬ x1 < x9 → w_L_pass 1 v (fun r31 v30 => ((0 ≤ r31 → ((0 ≤ x8 → w_L_foretells_159 N Q (w_L_foretells_117 N Q n117) x1 x3 x4 x5 x6 x7 x8 x9 v30) ∧ (¬ 0 ≤ x8 → w_L_booking x3 7 v30 (fun r35 v34 => ((r35 = 0 → w_L_foretells_159 N Q (w_L_foretells_117 N Q n117) x1 x3 x4 x5 x6 x7 x8 x9 v34) ∧ (¬ r35 = 0 → w_L_foretells_161 N Q (w_L_foretells_117 N Q n117) x1 x3 x4 x5 x6 x7 x9 x9 v34)))))) ∧ (¬ 0 ≤ r31 → Q 0 v30)))))
def w_L_foretells_112 (N : Nat) (Q : Int32 → V3 → Prop) (x1 : Int32) (x3 : Int32) (x4 : Int32) (x5 : Int32) (x6 : Int32) (x7 : Int32) (s0 : Int32) (v : V3) : Prop := ∃ m117 : Nat, w_L_foretells_117 N Q m117 x1 x3 x4 x5 x6 x7 s0 1 v
def w_L_foretells_43 (N : Nat) (Q : Int32 → V3 → Prop) (s0 : Int32) (v : V3) : Prop := (s0 = 0 ∨ s0 = 1) ∧ Q s0 v
def w_L_foretells_34 (N : Nat) (Q : Int32 → V3 → Prop) (x2 : Int32) (v : V3) : Prop := ((¬ x2 = 0 → w_L_foretells_43 N Q 0 v) ∧ (x2 = 0 → w_L_foretells_43 N Q 1 v))
def w_L_foretells_31 (N : Nat) (Q : Int32 → V3 → Prop) (x1 : Int32) (x2 : Int32) (s0 : Int32) (v : V3) : Prop := ((s0 = 0 → w_L_draw x2 v (fun r3 v2 => w_L_waitsFor r3 x1 v2 (fun r5 v4 => w_L_ahead x1 1 v4 (fun r7 v6 => w_L_ahead x1 2 v6 (fun r9 v8 => w_L_count 8 v8 (fun r11 v10 => w_L_booking r3 7 v10 (fun r13 v12 => ((¬ r13 = 0 → w_L_foretells_112 N Q x1 r3 r5 r7 r9 r11 0 v12) ∧ (r13 = 0 → w_L_foretells_112 N Q x1 r3 r5 r7 r9 r11 (-1) v12))))))))) ∧ (¬ s0 = 0 → w_L_foretells_34 N Q x2 v))
set_option maxRecDepth 100000 in
set_option maxHeartbeats 4000000 in
theorem b_L_foretells_240 {p : Program} (l : Launch) {e : Env} {s : State} {m : MethodId} {args : Array Value} {below : List Frame} {meth : Method} {c : Code} {G : zG} {N : Nat} (hN : gn G = N) (hst : l.stackTraces = false) (C0 : Cx G RL cL_foretells 10 (some .boolean) p s m args meth c) {Q : Int32 → V3 → Prop} : ∀ (s0 : Int32) (v : V3) (H : Heap) (locs : List Loc) (ls : Array Slot), w_L_foretells_240 N Q s0 v → Zs G s v H locs → lv_has ls 10 [] → W p l e { frames := 9, cells := 54, slots := 571, locals := 193 } s m args below meth c H locs 54 571 (MQ below (QiZ G Q) args s 54 571 (zA G)) (F0 m 240 ls [.int s0]) := by
  have hx := C0.1
  have hb := C0.2.1
  intro s0 v H locs ls hw Z hl
  rw [w_L_foretells_240] at hw
  obtain ⟨h17, hw⟩ := hw
  refine z_wide (mc := 54) (ms := 571) (by decide) (by decide) ?_
  exact z_zret C0 Z h17 hw dL_foretells_240
set_option maxRecDepth 100000 in
set_option maxHeartbeats 4000000 in
theorem b_L_foretells_239 {p : Program} (l : Launch) {e : Env} {s : State} {m : MethodId} {args : Array Value} {below : List Frame} {meth : Method} {c : Code} {G : zG} {N : Nat} (hN : gn G = N) (hst : l.stackTraces = false) (C0 : Cx G RL cL_foretells 10 (some .boolean) p s m args meth c) {Q : Int32 → V3 → Prop} : ∀ (v : V3) (H : Heap) (locs : List Loc) (ls : Array Slot), w_L_foretells_239 N Q v → Zs G s v H locs → lv_has ls 10 [] → W p l e { frames := 9, cells := 54, slots := 571, locals := 193 } s m args below meth c H locs 54 571 (MQ below (QiZ G Q) args s 54 571 (zA G)) (F0 m 239 ls []) := by
  have hx := C0.1
  have hb := C0.2.1
  intro v H locs ls hw Z hl
  rw [w_L_foretells_239] at hw
  refine lv_iconst (v := 0) hx hb dL_foretells_239 (by decide) ?_
  exact b_L_foretells_240 l hN hst C0 _ _ _ _ _ hw Z (lv_sub hl [] rfl)
set_option maxRecDepth 100000 in
set_option maxHeartbeats 4000000 in
theorem b_L_foretells_161 {p : Program} (l : Launch) {e : Env} {s : State} {m : MethodId} {args : Array Value} {below : List Frame} {meth : Method} {c : Code} {G : zG} {N : Nat} (hN : gn G = N) (hst : l.stackTraces = false) (C0 : Cx G RL cL_foretells 10 (some .boolean) p s m args meth c) {Q : Int32 → V3 → Prop} {K117 : Int32 → Int32 → Int32 → Int32 → Int32 → Int32 → Int32 → Int32 → V3 → Prop} (hK117 : ∀ (x1 : Int32) (x3 : Int32) (x4 : Int32) (x5 : Int32) (x6 : Int32) (x7 : Int32) (x8 : Int32) (x9 : Int32) (v : V3) (H : Heap) (locs : List Loc) (ls : Array Slot), K117 x1 x3 x4 x5 x6 x7 x8 x9 v → Zs G s v H locs → lv_has ls 10 [(0, .ref (gad G 7)), (1, .int x1), (3, .int x3), (4, .int x4), (5, .int x5), (6, .int x6), (7, .int x7), (8, .int x8), (9, .int x9)] → W p l e { frames := 9, cells := 54, slots := 571, locals := 193 } s m args below meth c H locs 54 571 (MQ below (QiZ G Q) args s 54 571 (zA G)) (F0 m 117 ls [])) : ∀ (x1 : Int32) (x3 : Int32) (x4 : Int32) (x5 : Int32) (x6 : Int32) (x7 : Int32) (x9 : Int32) (s0 : Int32) (v : V3) (H : Heap) (locs : List Loc) (ls : Array Slot), w_L_foretells_161 N Q K117 x1 x3 x4 x5 x6 x7 x9 s0 v → Zs G s v H locs → lv_has ls 10 [(0, .ref (gad G 7)), (1, .int x1), (3, .int x3), (4, .int x4), (5, .int x5), (6, .int x6), (7, .int x7), (9, .int x9)] → W p l e { frames := 9, cells := 54, slots := 571, locals := 193 } s m args below meth c H locs 54 571 (MQ below (QiZ G Q) args s 54 571 (zA G)) (F0 m 161 ls [.int s0]) := by
  have hx := C0.1
  have hb := C0.2.1
  intro x1 x3 x4 x5 x6 x7 x9 s0 v H locs ls hw Z hl
  rw [w_L_foretells_161] at hw
  refine lv_istore (lv' := [(8, .int s0), (0, .ref (gad G 7)), (1, .int x1), (3, .int x3), (4, .int x4), (5, .int x5), (6, .int x6), (7, .int x7), (9, .int x9)]) hx hb dL_foretells_161 hl (by decide) rfl (fun ls hl => ?_)
  refine lv_iinc (v := x9 + 1) (lv' := [(9, .int (x9 + 1)), (8, .int s0), (0, .ref (gad G 7)), (1, .int x1), (3, .int x3), (4, .int x4), (5, .int x5), (6, .int x6), (7, .int x7)]) hx hb dL_foretells_163 hl (k := 8) rfl rfl (by decide) rfl (fun ls hl => ?_)
  refine lv_goto (tgt := 117) hx hb dL_foretells_166 (by decide) ?_
  exact hK117 _ _ _ _ _ _ _ _ _ _ _ _ hw Z (lv_sub hl [2, 3, 4, 5, 6, 7, 8, 1, 0] rfl)
set_option maxRecDepth 100000 in
set_option maxHeartbeats 4000000 in
theorem b_L_foretells_159 {p : Program} (l : Launch) {e : Env} {s : State} {m : MethodId} {args : Array Value} {below : List Frame} {meth : Method} {c : Code} {G : zG} {N : Nat} (hN : gn G = N) (hst : l.stackTraces = false) (C0 : Cx G RL cL_foretells 10 (some .boolean) p s m args meth c) {Q : Int32 → V3 → Prop} {K117 : Int32 → Int32 → Int32 → Int32 → Int32 → Int32 → Int32 → Int32 → V3 → Prop} (hK117 : ∀ (x1 : Int32) (x3 : Int32) (x4 : Int32) (x5 : Int32) (x6 : Int32) (x7 : Int32) (x8 : Int32) (x9 : Int32) (v : V3) (H : Heap) (locs : List Loc) (ls : Array Slot), K117 x1 x3 x4 x5 x6 x7 x8 x9 v → Zs G s v H locs → lv_has ls 10 [(0, .ref (gad G 7)), (1, .int x1), (3, .int x3), (4, .int x4), (5, .int x5), (6, .int x6), (7, .int x7), (8, .int x8), (9, .int x9)] → W p l e { frames := 9, cells := 54, slots := 571, locals := 193 } s m args below meth c H locs 54 571 (MQ below (QiZ G Q) args s 54 571 (zA G)) (F0 m 117 ls [])) : ∀ (x1 : Int32) (x3 : Int32) (x4 : Int32) (x5 : Int32) (x6 : Int32) (x7 : Int32) (x8 : Int32) (x9 : Int32) (v : V3) (H : Heap) (locs : List Loc) (ls : Array Slot), w_L_foretells_159 N Q K117 x1 x3 x4 x5 x6 x7 x8 x9 v → Zs G s v H locs → lv_has ls 10 [(0, .ref (gad G 7)), (1, .int x1), (3, .int x3), (4, .int x4), (5, .int x5), (6, .int x6), (7, .int x7), (8, .int x8), (9, .int x9)] → W p l e { frames := 9, cells := 54, slots := 571, locals := 193 } s m args below meth c H locs 54 571 (MQ below (QiZ G Q) args s 54 571 (zA G)) (F0 m 159 ls []) := by
  have hx := C0.1
  have hb := C0.2.1
  intro x1 x3 x4 x5 x6 x7 x8 x9 v H locs ls hw Z hl
  rw [w_L_foretells_159] at hw
  refine lv_iload hx hb dL_foretells_159 (lv_at hl 7 rfl) ?_
  exact b_L_foretells_161 l hN hst C0 hK117 _ _ _ _ _ _ _ _ _ _ _ _ hw Z (lv_sub hl [0, 1, 2, 3, 4, 5, 6, 8] rfl)
set_option maxRecDepth 100000 in
set_option maxHeartbeats 4000000 in
theorem b_L_foretells_117 {p : Program} (l : Launch) {e : Env} {s : State} {m : MethodId} {args : Array Value} {below : List Frame} {meth : Method} {c : Code} {G : zG} {N : Nat} (hN : gn G = N) (hst : l.stackTraces = false) (C0 : Cx G RL cL_foretells 10 (some .boolean) p s m args meth c) {Q : Int32 → V3 → Prop} : ∀ (n : Nat) (x1 : Int32) (x3 : Int32) (x4 : Int32) (x5 : Int32) (x6 : Int32) (x7 : Int32) (x8 : Int32) (x9 : Int32) (v : V3) (H : Heap) (locs : List Loc) (ls : Array Slot), w_L_foretells_117 N Q n x1 x3 x4 x5 x6 x7 x8 x9 v → Zs G s v H locs → lv_has ls 10 [(0, .ref (gad G 7)), (1, .int x1), (3, .int x3), (4, .int x4), (5, .int x5), (6, .int x6), (7, .int x7), (8, .int x8), (9, .int x9)] → W p l e { frames := 9, cells := 54, slots := 571, locals := 193 } s m args below meth c H locs 54 571 (MQ below (QiZ G Q) args s 54 571 (zA G)) (F0 m 117 ls []) := by
  have hx := C0.1
  have hb := C0.2.1
  intro n
  induction n with
  | zero =>
    intro x1 x3 x4 x5 x6 x7 x8 x9 v H locs ls hw Z hl
    exact hw.elim
  | succ n hK117 =>
    intro x1 x3 x4 x5 x6 x7 x8 x9 v H locs ls hw Z hl
    rw [w_L_foretells_117] at hw
    refine lv_iload hx hb dL_foretells_117 (lv_at hl 8 rfl) ?_
    refine lv_iload_n hx hb dL_foretells_119 rfl (lv_at hl 1 rfl) ?_
    refine lv_icmp_gt (tgt := 169) hx hb dL_foretells_120 (by decide) (fun c15 => ?_) (fun c15 => ?_)
    · replace hw := hw.1 c15
      refine lv_iload hx hb dL_foretells_169 (lv_at hl 7 rfl) ?_
      refine lv_iload hx hb dL_foretells_171 (lv_at hl 3 rfl) ?_
      refine lv_icmp_ne (tgt := 239) hx hb dL_foretells_173 (by decide) (fun c16 => ?_) (fun c16 => ?_)
      · replace hw := hw.1 c16
        exact b_L_foretells_239 l hN hst C0 _ _ _ _ hw Z (lv_sub hl [] rfl)
      · replace hw := hw.2 c16
        refine lv_aload_n hx hb dL_foretells_176 rfl (lv_at hl 0 rfl) ?_
        refine z_get C0 Z in_L rfl 0 (by decide) rfl tm_1_181 (cx_lt C0 (by decide)) rfl rfl dL_foretells_177 ?_
        refine lv_bipush (v := 8) hx hb dL_foretells_180 (by decide) ?_
        refine z_callH C0 Z hl.1 (As := [.ref (gad G 0), .int 8]) (rest := []) (k_L_count l (cx_g C0) hw) (gv_L_count tm_2_93) ds_L_count ⟨Nat.le_of_ble_eq_true rfl, Nat.le_of_ble_eq_true rfl⟩ rfl rfl (Nat.le_of_ble_eq_true rfl) ⟨Nat.le_of_ble_eq_true rfl, Nat.le_of_ble_eq_true rfl⟩ dL_foretells_182 (fun r19 v18 H locs hw Z => ?_)
        refine lv_iload hx hb dL_foretells_185 (lv_at hl 6 rfl) ?_
        refine lv_iload hx hb dL_foretells_187 (lv_at hl 4 rfl) ?_
        refine lv_isub hx hb dL_foretells_189 ?_
        refine lv_iload hx hb dL_foretells_190 (lv_at hl 5 rfl) ?_
        refine lv_isub hx hb dL_foretells_192 ?_
        refine lv_icmp_ne (tgt := 239) hx hb dL_foretells_193 (by decide) (fun c20 => ?_) (fun c20 => ?_)
        · replace hw := hw.1 c20
          exact b_L_foretells_239 l hN hst C0 _ _ _ _ hw Z (lv_sub hl [] rfl)
        · replace hw := hw.2 c20
          refine lv_aload_n hx hb dL_foretells_196 rfl (lv_at hl 0 rfl) ?_
          refine z_get C0 Z in_L rfl 0 (by decide) rfl tm_1_181 (cx_lt C0 (by decide)) rfl rfl dL_foretells_197 ?_
          refine lv_iconst (v := 1) hx hb dL_foretells_200 (by decide) ?_
          refine z_callH C0 Z hl.1 (As := [.ref (gad G 0), .int 1]) (rest := []) (k_L_restore l (cx_g C0) hN hw) (gv_L_restore tm_4_40) ds_L_restore ⟨Nat.le_of_ble_eq_true rfl, Nat.le_of_ble_eq_true rfl⟩ rfl rfl (Nat.le_of_ble_eq_true rfl) ⟨Nat.le_of_ble_eq_true rfl, Nat.le_of_ble_eq_true rfl⟩ dL_foretells_201 (fun r22 v21 H locs hw Z => ?_)
          refine lv_if_ne (tgt := 239) hx hb dL_foretells_204 (by decide) (fun c23 => ?_) (fun c23 => ?_)
          · replace hw := hw.1 c23
            exact b_L_foretells_239 l hN hst C0 _ _ _ _ hw Z (lv_sub hl [] rfl)
          · replace hw := hw.2 c23
            refine lv_aload_n hx hb dL_foretells_207 rfl (lv_at hl 0 rfl) ?_
            refine z_get C0 Z in_L rfl 0 (by decide) rfl tm_1_181 (cx_lt C0 (by decide)) rfl rfl dL_foretells_208 ?_
            refine lv_bipush (v := 8) hx hb dL_foretells_211 (by decide) ?_
            refine z_callH C0 Z hl.1 (As := [.ref (gad G 0), .int 8]) (rest := []) (k_L_count l (cx_g C0) hw) (gv_L_count tm_2_93) ds_L_count ⟨Nat.le_of_ble_eq_true rfl, Nat.le_of_ble_eq_true rfl⟩ rfl rfl (Nat.le_of_ble_eq_true rfl) ⟨Nat.le_of_ble_eq_true rfl, Nat.le_of_ble_eq_true rfl⟩ dL_foretells_213 (fun r25 v24 H locs hw Z => ?_)
            refine lv_iload hx hb dL_foretells_216 (lv_at hl 6 rfl) ?_
            refine lv_icmp_ne (tgt := 239) hx hb dL_foretells_218 (by decide) (fun c26 => ?_) (fun c26 => ?_)
            · replace hw := hw.1 c26
              exact b_L_foretells_239 l hN hst C0 _ _ _ _ hw Z (lv_sub hl [] rfl)
            · replace hw := hw.2 c26
              refine lv_aload_n hx hb dL_foretells_221 rfl (lv_at hl 0 rfl) ?_
              refine z_get C0 Z in_L rfl 0 (by decide) rfl tm_1_181 (cx_lt C0 (by decide)) rfl rfl dL_foretells_222 ?_
              refine lv_iload_n hx hb dL_foretells_225 rfl (lv_at hl 2 rfl) ?_
              refine lv_iload_n hx hb dL_foretells_226 rfl (lv_at hl 1 rfl) ?_
              refine z_callH C0 Z hl.1 (As := [.ref (gad G 0), .int x3, .int x1]) (rest := []) (k_L_waitsFor l (cx_g C0) hw) (gv_L_waitsFor tm_4_33) ds_L_waitsFor ⟨Nat.le_of_ble_eq_true rfl, Nat.le_of_ble_eq_true rfl⟩ rfl rfl (Nat.le_of_ble_eq_true rfl) ⟨Nat.le_of_ble_eq_true rfl, Nat.le_of_ble_eq_true rfl⟩ dL_foretells_227 (fun r28 v27 H locs hw Z => ?_)
              refine lv_iload hx hb dL_foretells_230 (lv_at hl 3 rfl) ?_
              refine lv_icmp_ne (tgt := 239) hx hb dL_foretells_232 (by decide) (fun c29 => ?_) (fun c29 => ?_)
              · replace hw := hw.1 c29
                exact b_L_foretells_239 l hN hst C0 _ _ _ _ hw Z (lv_sub hl [] rfl)
              · replace hw := hw.2 c29
                refine lv_iconst (v := 1) hx hb dL_foretells_235 (by decide) ?_
                refine lv_goto (tgt := 240) hx hb dL_foretells_236 (by decide) ?_
                exact b_L_foretells_240 l hN hst C0 _ _ _ _ _ hw Z (lv_sub hl [] rfl)
    · replace hw := hw.2 c15
      refine lv_aload_n hx hb dL_foretells_123 rfl (lv_at hl 0 rfl) ?_
      refine z_get C0 Z in_L rfl 0 (by decide) rfl tm_1_181 (cx_lt C0 (by decide)) rfl rfl dL_foretells_124 ?_
      refine lv_iconst (v := 1) hx hb dL_foretells_127 (by decide) ?_
      refine z_callH C0 Z hl.1 (As := [.ref (gad G 0), .int 1]) (rest := []) (k_L_pass l (cx_g C0) hw) (gv_L_pass tm_3_203) ds_L_pass ⟨Nat.le_of_ble_eq_true rfl, Nat.le_of_ble_eq_true rfl⟩ rfl rfl (Nat.le_of_ble_eq_true rfl) ⟨Nat.le_of_ble_eq_true rfl, Nat.le_of_ble_eq_true rfl⟩ dL_foretells_128 (fun r31 v30 H locs hw Z => ?_)
      refine lv_if_ge (tgt := 136) hx hb dL_foretells_131 (by decide) (fun c32 => ?_) (fun c32 => ?_)
      · replace hw := hw.1 c32
        refine lv_iload hx hb dL_foretells_136 (lv_at hl 7 rfl) ?_
        refine lv_if_ge (tgt := 159) hx hb dL_foretells_138 (by decide) (fun c33 => ?_) (fun c33 => ?_)
        · replace hw := hw.1 c33
          exact b_L_foretells_159 l hN hst C0 hK117 _ _ _ _ _ _ _ _ _ _ _ _ hw Z (lv_sub hl [0, 1, 2, 3, 4, 5, 6, 7, 8] rfl)
        · replace hw := hw.2 c33
          refine lv_aload_n hx hb dL_foretells_141 rfl (lv_at hl 0 rfl) ?_
          refine z_get C0 Z in_L rfl 0 (by decide) rfl tm_1_181 (cx_lt C0 (by decide)) rfl rfl dL_foretells_142 ?_
          refine lv_iload_n hx hb dL_foretells_145 rfl (lv_at hl 2 rfl) ?_
          refine lv_bipush (v := 7) hx hb dL_foretells_146 (by decide) ?_
          refine z_callH C0 Z hl.1 (As := [.ref (gad G 0), .int x3, .int 7]) (rest := []) (k_L_booking l (cx_g C0) hw) (gv_L_booking tm_2_238) ds_L_booking ⟨Nat.le_of_ble_eq_true rfl, Nat.le_of_ble_eq_true rfl⟩ rfl rfl (Nat.le_of_ble_eq_true rfl) ⟨Nat.le_of_ble_eq_true rfl, Nat.le_of_ble_eq_true rfl⟩ dL_foretells_148 (fun r35 v34 H locs hw Z => ?_)
          refine lv_if_eq (tgt := 159) hx hb dL_foretells_151 (by decide) (fun c36 => ?_) (fun c36 => ?_)
          · replace hw := hw.1 c36
            exact b_L_foretells_159 l hN hst C0 hK117 _ _ _ _ _ _ _ _ _ _ _ _ hw Z (lv_sub hl [0, 1, 2, 3, 4, 5, 6, 7, 8] rfl)
          · replace hw := hw.2 c36
            refine lv_iload hx hb dL_foretells_154 (lv_at hl 8 rfl) ?_
            refine lv_goto (tgt := 161) hx hb dL_foretells_156 (by decide) ?_
            exact b_L_foretells_161 l hN hst C0 hK117 _ _ _ _ _ _ _ _ _ _ _ _ hw Z (lv_sub hl [0, 1, 2, 3, 4, 5, 6, 8] rfl)
      · replace hw := hw.2 c32
        refine lv_iconst (v := 0) hx hb dL_foretells_134 (by decide) ?_
        refine z_wide (mc := 54) (ms := 571) (by decide) (by decide) ?_
        exact z_zret C0 Z (by decide) hw dL_foretells_135
set_option maxRecDepth 100000 in
set_option maxHeartbeats 4000000 in
theorem b_L_foretells_112 {p : Program} (l : Launch) {e : Env} {s : State} {m : MethodId} {args : Array Value} {below : List Frame} {meth : Method} {c : Code} {G : zG} {N : Nat} (hN : gn G = N) (hst : l.stackTraces = false) (C0 : Cx G RL cL_foretells 10 (some .boolean) p s m args meth c) {Q : Int32 → V3 → Prop} : ∀ (x1 : Int32) (x3 : Int32) (x4 : Int32) (x5 : Int32) (x6 : Int32) (x7 : Int32) (s0 : Int32) (v : V3) (H : Heap) (locs : List Loc) (ls : Array Slot), w_L_foretells_112 N Q x1 x3 x4 x5 x6 x7 s0 v → Zs G s v H locs → lv_has ls 10 [(0, .ref (gad G 7)), (1, .int x1), (3, .int x3), (4, .int x4), (5, .int x5), (6, .int x6), (7, .int x7)] → W p l e { frames := 9, cells := 54, slots := 571, locals := 193 } s m args below meth c H locs 54 571 (MQ below (QiZ G Q) args s 54 571 (zA G)) (F0 m 112 ls [.int s0]) := by
  have hx := C0.1
  have hb := C0.2.1
  intro x1 x3 x4 x5 x6 x7 s0 v H locs ls hw Z hl
  rw [w_L_foretells_112] at hw
  refine lv_istore (lv' := [(8, .int s0), (0, .ref (gad G 7)), (1, .int x1), (3, .int x3), (4, .int x4), (5, .int x5), (6, .int x6), (7, .int x7)]) hx hb dL_foretells_112 hl (by decide) rfl (fun ls hl => ?_)
  refine lv_iconst (v := 1) hx hb dL_foretells_114 (by decide) ?_
  refine lv_istore (lv' := [(9, .int 1), (8, .int s0), (0, .ref (gad G 7)), (1, .int x1), (3, .int x3), (4, .int x4), (5, .int x5), (6, .int x6), (7, .int x7)]) hx hb dL_foretells_115 hl (by decide) rfl (fun ls hl => ?_)
  obtain ⟨m117, hw⟩ := hw
  exact b_L_foretells_117 l hN hst C0 m117 _ _ _ _ _ _ _ _ _ _ _ _ hw Z (lv_sub hl [2, 3, 4, 5, 6, 7, 8, 1, 0] rfl)
set_option maxRecDepth 100000 in
set_option maxHeartbeats 4000000 in
theorem b_L_foretells_43 {p : Program} (l : Launch) {e : Env} {s : State} {m : MethodId} {args : Array Value} {below : List Frame} {meth : Method} {c : Code} {G : zG} {N : Nat} (hN : gn G = N) (hst : l.stackTraces = false) (C0 : Cx G RL cL_foretells 10 (some .boolean) p s m args meth c) {Q : Int32 → V3 → Prop} : ∀ (s0 : Int32) (v : V3) (H : Heap) (locs : List Loc) (ls : Array Slot), w_L_foretells_43 N Q s0 v → Zs G s v H locs → lv_has ls 10 [] → W p l e { frames := 9, cells := 54, slots := 571, locals := 193 } s m args below meth c H locs 54 571 (MQ below (QiZ G Q) args s 54 571 (zA G)) (F0 m 43 ls [.int s0]) := by
  have hx := C0.1
  have hb := C0.2.1
  intro s0 v H locs ls hw Z hl
  rw [w_L_foretells_43] at hw
  obtain ⟨h38, hw⟩ := hw
  refine z_wide (mc := 54) (ms := 571) (by decide) (by decide) ?_
  exact z_zret C0 Z h38 hw dL_foretells_43
set_option maxRecDepth 100000 in
set_option maxHeartbeats 4000000 in
theorem b_L_foretells_34 {p : Program} (l : Launch) {e : Env} {s : State} {m : MethodId} {args : Array Value} {below : List Frame} {meth : Method} {c : Code} {G : zG} {N : Nat} (hN : gn G = N) (hst : l.stackTraces = false) (C0 : Cx G RL cL_foretells 10 (some .boolean) p s m args meth c) {Q : Int32 → V3 → Prop} : ∀ (x2 : Int32) (v : V3) (H : Heap) (locs : List Loc) (ls : Array Slot), w_L_foretells_34 N Q x2 v → Zs G s v H locs → lv_has ls 10 [(2, .int x2)] → W p l e { frames := 9, cells := 54, slots := 571, locals := 193 } s m args below meth c H locs 54 571 (MQ below (QiZ G Q) args s 54 571 (zA G)) (F0 m 34 ls []) := by
  have hx := C0.1
  have hb := C0.2.1
  intro x2 v H locs ls hw Z hl
  rw [w_L_foretells_34] at hw
  refine lv_iload_n hx hb dL_foretells_34 rfl (lv_at hl 0 rfl) ?_
  refine lv_if_ne (tgt := 42) hx hb dL_foretells_35 (by decide) (fun c37 => ?_) (fun c37 => ?_)
  · replace hw := hw.1 c37
    refine lv_iconst (v := 0) hx hb dL_foretells_42 (by decide) ?_
    exact b_L_foretells_43 l hN hst C0 _ _ _ _ _ hw Z (lv_sub hl [] rfl)
  · replace hw := hw.2 c37
    refine lv_iconst (v := 1) hx hb dL_foretells_38 (by decide) ?_
    refine lv_goto (tgt := 43) hx hb dL_foretells_39 (by decide) ?_
    exact b_L_foretells_43 l hN hst C0 _ _ _ _ _ hw Z (lv_sub hl [] rfl)
set_option maxRecDepth 100000 in
set_option maxHeartbeats 4000000 in
theorem b_L_foretells_31 {p : Program} (l : Launch) {e : Env} {s : State} {m : MethodId} {args : Array Value} {below : List Frame} {meth : Method} {c : Code} {G : zG} {N : Nat} (hN : gn G = N) (hst : l.stackTraces = false) (C0 : Cx G RL cL_foretells 10 (some .boolean) p s m args meth c) {Q : Int32 → V3 → Prop} : ∀ (x1 : Int32) (x2 : Int32) (s0 : Int32) (v : V3) (H : Heap) (locs : List Loc) (ls : Array Slot), w_L_foretells_31 N Q x1 x2 s0 v → Zs G s v H locs → lv_has ls 10 [(0, .ref (gad G 7)), (1, .int x1), (2, .int x2)] → W p l e { frames := 9, cells := 54, slots := 571, locals := 193 } s m args below meth c H locs 54 571 (MQ below (QiZ G Q) args s 54 571 (zA G)) (F0 m 31 ls [.int s0]) := by
  have hx := C0.1
  have hb := C0.2.1
  intro x1 x2 s0 v H locs ls hw Z hl
  rw [w_L_foretells_31] at hw
  refine lv_if_eq (tgt := 44) hx hb dL_foretells_31 (by decide) (fun c1 => ?_) (fun c1 => ?_)
  · replace hw := hw.1 c1
    refine lv_aload_n hx hb dL_foretells_44 rfl (lv_at hl 0 rfl) ?_
    refine lv_iload_n hx hb dL_foretells_45 rfl (lv_at hl 2 rfl) ?_
    refine z_callVi C0 Z hl.1 (As := [.int x2]) (rest := []) (k_L_draw l (cx_g C0) hw) (gv_L_draw tm_1_204) rfl ds_L_draw ⟨Nat.le_of_ble_eq_true rfl, Nat.le_of_ble_eq_true rfl⟩ (ci := 4) rfl (cx_lt C0 (by decide)) rfl rfl rfl (Nat.le_of_ble_eq_true rfl) ⟨Nat.le_of_ble_eq_true rfl, Nat.le_of_ble_eq_true rfl⟩ dL_foretells_46 (fun r3 v2 H locs hw Z => ?_)
    refine lv_istore_n (lv' := [(3, .int r3), (0, .ref (gad G 7)), (1, .int x1), (2, .int x2)]) hx hb dL_foretells_49 rfl hl (by decide) rfl (fun ls hl => ?_)
    refine lv_aload_n hx hb dL_foretells_50 rfl (lv_at hl 1 rfl) ?_
    refine z_get C0 Z in_L rfl 0 (by decide) rfl tm_1_181 (cx_lt C0 (by decide)) rfl rfl dL_foretells_51 ?_
    refine lv_iload_n hx hb dL_foretells_54 rfl (lv_at hl 0 rfl) ?_
    refine lv_iload_n hx hb dL_foretells_55 rfl (lv_at hl 2 rfl) ?_
    refine z_callH C0 Z hl.1 (As := [.ref (gad G 0), .int r3, .int x1]) (rest := []) (k_L_waitsFor l (cx_g C0) hw) (gv_L_waitsFor tm_4_33) ds_L_waitsFor ⟨Nat.le_of_ble_eq_true rfl, Nat.le_of_ble_eq_true rfl⟩ rfl rfl (Nat.le_of_ble_eq_true rfl) ⟨Nat.le_of_ble_eq_true rfl, Nat.le_of_ble_eq_true rfl⟩ dL_foretells_56 (fun r5 v4 H locs hw Z => ?_)
    refine lv_istore (lv' := [(4, .int r5), (3, .int r3), (0, .ref (gad G 7)), (1, .int x1), (2, .int x2)]) hx hb dL_foretells_59 hl (by decide) rfl (fun ls hl => ?_)
    refine lv_aload_n hx hb dL_foretells_61 rfl (lv_at hl 2 rfl) ?_
    refine z_get C0 Z in_L rfl 0 (by decide) rfl tm_1_181 (cx_lt C0 (by decide)) rfl rfl dL_foretells_62 ?_
    refine lv_iload_n hx hb dL_foretells_65 rfl (lv_at hl 3 rfl) ?_
    refine lv_iconst (v := 1) hx hb dL_foretells_66 (by decide) ?_
    refine z_callH C0 Z hl.1 (As := [.ref (gad G 0), .int x1, .int 1]) (rest := []) (k_L_ahead l (cx_g C0) hw) (gv_L_ahead tm_3_168) ds_L_ahead ⟨Nat.le_of_ble_eq_true rfl, Nat.le_of_ble_eq_true rfl⟩ rfl rfl (Nat.le_of_ble_eq_true rfl) ⟨Nat.le_of_ble_eq_true rfl, Nat.le_of_ble_eq_true rfl⟩ dL_foretells_67 (fun r7 v6 H locs hw Z => ?_)
    refine lv_istore (lv' := [(5, .int r7), (4, .int r5), (3, .int r3), (0, .ref (gad G 7)), (1, .int x1), (2, .int x2)]) hx hb dL_foretells_70 hl (by decide) rfl (fun ls hl => ?_)
    refine lv_aload_n hx hb dL_foretells_72 rfl (lv_at hl 3 rfl) ?_
    refine z_get C0 Z in_L rfl 0 (by decide) rfl tm_1_181 (cx_lt C0 (by decide)) rfl rfl dL_foretells_73 ?_
    refine lv_iload_n hx hb dL_foretells_76 rfl (lv_at hl 4 rfl) ?_
    refine lv_iconst (v := 2) hx hb dL_foretells_77 (by decide) ?_
    refine z_callH C0 Z hl.1 (As := [.ref (gad G 0), .int x1, .int 2]) (rest := []) (k_L_ahead l (cx_g C0) hw) (gv_L_ahead tm_3_168) ds_L_ahead ⟨Nat.le_of_ble_eq_true rfl, Nat.le_of_ble_eq_true rfl⟩ rfl rfl (Nat.le_of_ble_eq_true rfl) ⟨Nat.le_of_ble_eq_true rfl, Nat.le_of_ble_eq_true rfl⟩ dL_foretells_78 (fun r9 v8 H locs hw Z => ?_)
    refine lv_istore (lv' := [(6, .int r9), (5, .int r7), (4, .int r5), (3, .int r3), (0, .ref (gad G 7)), (1, .int x1), (2, .int x2)]) hx hb dL_foretells_81 hl (by decide) rfl (fun ls hl => ?_)
    refine lv_aload_n hx hb dL_foretells_83 rfl (lv_at hl 4 rfl) ?_
    refine z_get C0 Z in_L rfl 0 (by decide) rfl tm_1_181 (cx_lt C0 (by decide)) rfl rfl dL_foretells_84 ?_
    refine lv_bipush (v := 8) hx hb dL_foretells_87 (by decide) ?_
    refine z_callH C0 Z hl.1 (As := [.ref (gad G 0), .int 8]) (rest := []) (k_L_count l (cx_g C0) hw) (gv_L_count tm_2_93) ds_L_count ⟨Nat.le_of_ble_eq_true rfl, Nat.le_of_ble_eq_true rfl⟩ rfl rfl (Nat.le_of_ble_eq_true rfl) ⟨Nat.le_of_ble_eq_true rfl, Nat.le_of_ble_eq_true rfl⟩ dL_foretells_89 (fun r11 v10 H locs hw Z => ?_)
    refine lv_istore (lv' := [(7, .int r11), (6, .int r9), (5, .int r7), (4, .int r5), (3, .int r3), (0, .ref (gad G 7)), (1, .int x1), (2, .int x2)]) hx hb dL_foretells_92 hl (by decide) rfl (fun ls hl => ?_)
    refine lv_aload_n hx hb dL_foretells_94 rfl (lv_at hl 5 rfl) ?_
    refine z_get C0 Z in_L rfl 0 (by decide) rfl tm_1_181 (cx_lt C0 (by decide)) rfl rfl dL_foretells_95 ?_
    refine lv_iload_n hx hb dL_foretells_98 rfl (lv_at hl 4 rfl) ?_
    refine lv_bipush (v := 7) hx hb dL_foretells_99 (by decide) ?_
    refine z_callH C0 Z hl.1 (As := [.ref (gad G 0), .int r3, .int 7]) (rest := []) (k_L_booking l (cx_g C0) hw) (gv_L_booking tm_2_238) ds_L_booking ⟨Nat.le_of_ble_eq_true rfl, Nat.le_of_ble_eq_true rfl⟩ rfl rfl (Nat.le_of_ble_eq_true rfl) ⟨Nat.le_of_ble_eq_true rfl, Nat.le_of_ble_eq_true rfl⟩ dL_foretells_101 (fun r13 v12 H locs hw Z => ?_)
    refine lv_if_ne (tgt := 111) hx hb dL_foretells_104 (by decide) (fun c14 => ?_) (fun c14 => ?_)
    · replace hw := hw.1 c14
      refine lv_iconst (v := 0) hx hb dL_foretells_111 (by decide) ?_
      exact b_L_foretells_112 l hN hst C0 _ _ _ _ _ _ _ _ _ _ _ hw Z (lv_sub hl [5, 6, 4, 3, 2, 1, 0] rfl)
    · replace hw := hw.2 c14
      refine lv_iconst (v := (-1)) hx hb dL_foretells_107 (by decide) ?_
      refine lv_goto (tgt := 112) hx hb dL_foretells_108 (by decide) ?_
      exact b_L_foretells_112 l hN hst C0 _ _ _ _ _ _ _ _ _ _ _ hw Z (lv_sub hl [5, 6, 4, 3, 2, 1, 0] rfl)
  · replace hw := hw.2 c1
    exact b_L_foretells_34 l hN hst C0 _ _ _ _ _ hw Z (lv_sub hl [2] rfl)
def w_L_foretells (N : Nat) (v : V3) (Q : Int32 → Nat → V3 → Prop) : Prop := w_L_draw 40 v (fun r2 v1 => w_L_count 6 v1 (fun r4 v3 => ((r4 = 0 → w_L_foretells_34 N (fun r u => Q r N u) r4 v3) ∧ (¬ r4 = 0 → w_L_save N 1 v3 (fun r7 g v6 => w_L_foretells_31 g (fun r u => Q r g u) (1 + r2) r4 r7 v6)))))
set_option maxRecDepth 100000 in
set_option maxHeartbeats 4000000 in
theorem k_L_foretells (l : Launch) (hst : l.stackTraces = false) {G : zG} (hg : 116 ≤ gn G) {v : V3} {Q : Int32 → Nat → V3 → Prop} (hw : w_L_foretells (gn G) v Q) : My l yL_foretells cL_foretells 10 (some .boolean) 9 193 54 571 G [.ref (gad G 7)] v (QiS G Q) := by
  rw [w_L_foretells] at hw
  refine z_yofW hg (by decide) (Nat.le_of_ble_eq_true rfl) ?_
  intro p e s m args below meth c ls C0 Z hl
  have hx := C0.1
  have hb := C0.2.1
  replace hl : lv_has ls 10 [(0, .ref (gad G 7))] := hl
  generalize s.heap = H at Z ⊢
  generalize ([] : List Loc) = locs at Z ⊢
  refine lv_iconst (v := 1) hx hb dL_foretells_0 (by decide) ?_
  refine lv_aload_n hx hb dL_foretells_1 rfl (lv_at hl 0 rfl) ?_
  refine lv_bipush (v := 40) hx hb dL_foretells_2 (by decide) ?_
  refine z_callVi C0 Z hl.1 (As := [.int 40]) (rest := [.int 1]) (k_L_draw l (cx_g C0) hw) (gv_L_draw tm_1_204) rfl ds_L_draw ⟨(Nat.le_of_ble_eq_true rfl), (Nat.le_of_ble_eq_true rfl)⟩ (ci := 4) rfl (cx_lt C0 (by decide)) rfl rfl rfl (Nat.le_of_ble_eq_true rfl) ⟨(Nat.le_of_ble_eq_true rfl), (Nat.le_of_ble_eq_true rfl)⟩ dL_foretells_4 (fun r2 v1 H locs hw Z => ?_)
  refine lv_iadd hx hb dL_foretells_7 ?_
  refine lv_istore_n (lv' := [(1, .int (1 + r2)), (0, .ref (gad G 7))]) hx hb dL_foretells_8 rfl hl (by decide) rfl (fun ls hl => ?_)
  refine lv_aload_n hx hb dL_foretells_9 rfl (lv_at hl 1 rfl) ?_
  refine z_get C0 Z in_L rfl 0 (by decide) rfl tm_1_181 (cx_lt C0 (by decide)) rfl rfl dL_foretells_10 ?_
  refine lv_bipush (v := 6) hx hb dL_foretells_13 (by decide) ?_
  refine z_callH C0 Z hl.1 (As := [.ref (gad G 0), .int 6]) (rest := []) (k_L_count l (cx_g C0) hw) (gv_L_count tm_2_93) ds_L_count ⟨(Nat.le_of_ble_eq_true rfl), (Nat.le_of_ble_eq_true rfl)⟩ rfl rfl (Nat.le_of_ble_eq_true rfl) ⟨(Nat.le_of_ble_eq_true rfl), (Nat.le_of_ble_eq_true rfl)⟩ dL_foretells_15 (fun r4 v3 H locs hw Z => ?_)
  refine lv_istore_n (lv' := [(2, .int r4), (1, .int (1 + r2)), (0, .ref (gad G 7))]) hx hb dL_foretells_18 rfl hl (by decide) rfl (fun ls hl => ?_)
  refine lv_iload_n hx hb dL_foretells_19 rfl (lv_at hl 0 rfl) ?_
  refine lv_if_eq (tgt := 34) hx hb dL_foretells_20 (by decide) (fun c1 => ?_) (fun c1 => ?_)
  · replace hw := hw.1 c1
    refine z_wide (mc := 54) (ms := 571) (Nat.le_of_ble_eq_true rfl) (Nat.le_of_ble_eq_true rfl) ?_
    refine W_mono (fun t ht => MQ_S (ext.rf hg) ht) ?_
    exact b_L_foretells_34 l rfl hst C0 _ _ _ _ _ hw Z (lv_sub hl [0] rfl)
  · replace hw := hw.2 c1
    refine lv_aload_n hx hb dL_foretells_23 rfl (lv_at hl 2 rfl) ?_
    refine z_get C0 Z in_L rfl 0 (by decide) rfl tm_1_181 (cx_lt C0 (by decide)) rfl rfl dL_foretells_24 ?_
    refine lv_iconst (v := 1) hx hb dL_foretells_27 (by decide) ?_
    refine s_callH C0 Z hl.1 (As := [.ref (gad G 0), .int 1]) (rest := []) (k_L_save l (cx_g C0) hw) (gv_L_save tm_4_26) ds_L_save ⟨(Nat.le_of_ble_eq_true rfl), (Nat.le_of_ble_eq_true rfl)⟩ rfl rfl (Nat.le_of_ble_eq_true rfl) ⟨(Nat.le_of_ble_eq_true rfl), (Nat.le_of_ble_eq_true rfl)⟩ dL_foretells_28 (fun r7 G2 v6 H locs x2 hw Z => ?_)
    refine W_mono (fun t ht => MQ_S x2 ht) ?_
    rw [← x2.2.2 7 (by decide)] at hl
    exact b_L_foretells_31 l rfl hst (x2.cx C0) _ _ _ _ _ _ _ hw Z (lv_sub hl [2, 1, 0] rfl)

