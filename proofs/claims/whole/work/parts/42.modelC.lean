-- X4_swapGain: room (3, 71)
theorem dX4_swapGain_0 : decode cX4_swapGain 0 = .ok (.aload_n 0, 1) := by decide +kernel
theorem dX4_swapGain_1 : decode cX4_swapGain 1 = .ok (.iload_n 1, 1) := by decide +kernel
theorem dX4_swapGain_2 : decode cX4_swapGain 2 = .ok (.bipush 8, 2) := by decide +kernel
theorem dX4_swapGain_4 : decode cX4_swapGain 4 = .ok (.invokevirtual 71, 3) := by decide +kernel
theorem dX4_swapGain_7 : decode cX4_swapGain 7 = .ok (.istore_n 3, 1) := by decide +kernel
theorem dX4_swapGain_8 : decode cX4_swapGain 8 = .ok (.aload_n 0, 1) := by decide +kernel
theorem dX4_swapGain_9 : decode cX4_swapGain 9 = .ok (.iload_n 2, 1) := by decide +kernel
theorem dX4_swapGain_10 : decode cX4_swapGain 10 = .ok (.bipush 8, 2) := by decide +kernel
theorem dX4_swapGain_12 : decode cX4_swapGain 12 = .ok (.invokevirtual 71, 3) := by decide +kernel
theorem dX4_swapGain_15 : decode cX4_swapGain 15 = .ok (.istore 4, 2) := by decide +kernel
theorem dX4_swapGain_17 : decode cX4_swapGain 17 = .ok (.aload_n 0, 1) := by decide +kernel
theorem dX4_swapGain_18 : decode cX4_swapGain 18 = .ok (.iload_n 1, 1) := by decide +kernel
theorem dX4_swapGain_19 : decode cX4_swapGain 19 = .ok (.bipush 9, 2) := by decide +kernel
theorem dX4_swapGain_21 : decode cX4_swapGain 21 = .ok (.invokevirtual 71, 3) := by decide +kernel
theorem dX4_swapGain_24 : decode cX4_swapGain 24 = .ok (.iload_n 3, 1) := by decide +kernel
theorem dX4_swapGain_25 : decode cX4_swapGain 25 = .ok (.isub, 1) := by decide +kernel
theorem dX4_swapGain_26 : decode cX4_swapGain 26 = .ok (.aload_n 0, 1) := by decide +kernel
theorem dX4_swapGain_27 : decode cX4_swapGain 27 = .ok (.iload_n 2, 1) := by decide +kernel
theorem dX4_swapGain_28 : decode cX4_swapGain 28 = .ok (.bipush 9, 2) := by decide +kernel
theorem dX4_swapGain_30 : decode cX4_swapGain 30 = .ok (.invokevirtual 71, 3) := by decide +kernel
theorem dX4_swapGain_33 : decode cX4_swapGain 33 = .ok (.iload 4, 2) := by decide +kernel
theorem dX4_swapGain_35 : decode cX4_swapGain 35 = .ok (.isub, 1) := by decide +kernel
theorem dX4_swapGain_36 : decode cX4_swapGain 36 = .ok (.if_icmp .ne 7, 3) := by decide +kernel
theorem dX4_swapGain_39 : decode cX4_swapGain 39 = .ok (.iconst 1, 1) := by decide +kernel
theorem dX4_swapGain_40 : decode cX4_swapGain 40 = .ok (.goto 4, 3) := by decide +kernel
theorem dX4_swapGain_43 : decode cX4_swapGain 43 = .ok (.iconst 0, 1) := by decide +kernel
theorem dX4_swapGain_44 : decode cX4_swapGain 44 = .ok (.istore 5, 2) := by decide +kernel
theorem dX4_swapGain_46 : decode cX4_swapGain 46 = .ok (.iload 5, 2) := by decide +kernel
theorem dX4_swapGain_48 : decode cX4_swapGain 48 = .ok (.ifCond .eq 26, 3) := by decide +kernel
theorem dX4_swapGain_51 : decode cX4_swapGain 51 = .ok (.iload_n 3, 1) := by decide +kernel
theorem dX4_swapGain_52 : decode cX4_swapGain 52 = .ok (.aload_n 0, 1) := by decide +kernel
theorem dX4_swapGain_53 : decode cX4_swapGain 53 = .ok (.getfield 7, 3) := by decide +kernel
theorem dX4_swapGain_56 : decode cX4_swapGain 56 = .ok (.bipush 7, 2) := by decide +kernel
theorem dX4_swapGain_58 : decode cX4_swapGain 58 = .ok (.iaload, 1) := by decide +kernel
theorem dX4_swapGain_59 : decode cX4_swapGain 59 = .ok (.if_icmp .lt 15, 3) := by decide +kernel
theorem dX4_swapGain_62 : decode cX4_swapGain 62 = .ok (.iload 4, 2) := by decide +kernel
theorem dX4_swapGain_64 : decode cX4_swapGain 64 = .ok (.aload_n 0, 1) := by decide +kernel
theorem dX4_swapGain_65 : decode cX4_swapGain 65 = .ok (.getfield 7, 3) := by decide +kernel
theorem dX4_swapGain_68 : decode cX4_swapGain 68 = .ok (.bipush 7, 2) := by decide +kernel
theorem dX4_swapGain_70 : decode cX4_swapGain 70 = .ok (.iaload, 1) := by decide +kernel
theorem dX4_swapGain_71 : decode cX4_swapGain 71 = .ok (.if_icmp .ge 5, 3) := by decide +kernel
theorem dX4_swapGain_74 : decode cX4_swapGain 74 = .ok (.iconst 0, 1) := by decide +kernel
theorem dX4_swapGain_75 : decode cX4_swapGain 75 = .ok (.ireturn, 1) := by decide +kernel
theorem dX4_swapGain_76 : decode cX4_swapGain 76 = .ok (.aload_n 0, 1) := by decide +kernel
theorem dX4_swapGain_77 : decode cX4_swapGain 77 = .ok (.iload_n 1, 1) := by decide +kernel
theorem dX4_swapGain_78 : decode cX4_swapGain 78 = .ok (.iload 4, 2) := by decide +kernel
theorem dX4_swapGain_80 : decode cX4_swapGain 80 = .ok (.invokevirtual 239, 3) := by decide +kernel
theorem dX4_swapGain_83 : decode cX4_swapGain 83 = .ok (.aload_n 0, 1) := by decide +kernel
theorem dX4_swapGain_84 : decode cX4_swapGain 84 = .ok (.iload_n 1, 1) := by decide +kernel
theorem dX4_swapGain_85 : decode cX4_swapGain 85 = .ok (.iload_n 3, 1) := by decide +kernel
theorem dX4_swapGain_86 : decode cX4_swapGain 86 = .ok (.invokevirtual 239, 3) := by decide +kernel
theorem dX4_swapGain_89 : decode cX4_swapGain 89 = .ok (.isub, 1) := by decide +kernel
theorem dX4_swapGain_90 : decode cX4_swapGain 90 = .ok (.istore 6, 2) := by decide +kernel
theorem dX4_swapGain_92 : decode cX4_swapGain 92 = .ok (.aload_n 0, 1) := by decide +kernel
theorem dX4_swapGain_93 : decode cX4_swapGain 93 = .ok (.iload_n 2, 1) := by decide +kernel
theorem dX4_swapGain_94 : decode cX4_swapGain 94 = .ok (.iload_n 3, 1) := by decide +kernel
theorem dX4_swapGain_95 : decode cX4_swapGain 95 = .ok (.invokevirtual 239, 3) := by decide +kernel
theorem dX4_swapGain_98 : decode cX4_swapGain 98 = .ok (.aload_n 0, 1) := by decide +kernel
theorem dX4_swapGain_99 : decode cX4_swapGain 99 = .ok (.iload_n 2, 1) := by decide +kernel
theorem dX4_swapGain_100 : decode cX4_swapGain 100 = .ok (.iload 4, 2) := by decide +kernel
theorem dX4_swapGain_102 : decode cX4_swapGain 102 = .ok (.invokevirtual 239, 3) := by decide +kernel
theorem dX4_swapGain_105 : decode cX4_swapGain 105 = .ok (.isub, 1) := by decide +kernel
theorem dX4_swapGain_106 : decode cX4_swapGain 106 = .ok (.istore 7, 2) := by decide +kernel
theorem dX4_swapGain_108 : decode cX4_swapGain 108 = .ok (.iload 6, 2) := by decide +kernel
theorem dX4_swapGain_110 : decode cX4_swapGain 110 = .ok (.ifCond .le 8, 3) := by decide +kernel
theorem dX4_swapGain_113 : decode cX4_swapGain 113 = .ok (.iload 7, 2) := by decide +kernel
theorem dX4_swapGain_115 : decode cX4_swapGain 115 = .ok (.ifCond .gt 5, 3) := by decide +kernel
theorem dX4_swapGain_118 : decode cX4_swapGain 118 = .ok (.iconst 0, 1) := by decide +kernel
theorem dX4_swapGain_119 : decode cX4_swapGain 119 = .ok (.ireturn, 1) := by decide +kernel
theorem dX4_swapGain_120 : decode cX4_swapGain 120 = .ok (.aload_n 0, 1) := by decide +kernel
theorem dX4_swapGain_121 : decode cX4_swapGain 121 = .ok (.aload_n 0, 1) := by decide +kernel
theorem dX4_swapGain_122 : decode cX4_swapGain 122 = .ok (.iload_n 1, 1) := by decide +kernel
theorem dX4_swapGain_123 : decode cX4_swapGain 123 = .ok (.iconst 1, 1) := by decide +kernel
theorem dX4_swapGain_124 : decode cX4_swapGain 124 = .ok (.invokevirtual 71, 3) := by decide +kernel
theorem dX4_swapGain_127 : decode cX4_swapGain 127 = .ok (.aload_n 0, 1) := by decide +kernel
theorem dX4_swapGain_128 : decode cX4_swapGain 128 = .ok (.iload_n 1, 1) := by decide +kernel
theorem dX4_swapGain_129 : decode cX4_swapGain 129 = .ok (.iconst 2, 1) := by decide +kernel
theorem dX4_swapGain_130 : decode cX4_swapGain 130 = .ok (.invokevirtual 71, 3) := by decide +kernel
theorem dX4_swapGain_133 : decode cX4_swapGain 133 = .ok (.iload 4, 2) := by decide +kernel
theorem dX4_swapGain_135 : decode cX4_swapGain 135 = .ok (.aload_n 0, 1) := by decide +kernel
theorem dX4_swapGain_136 : decode cX4_swapGain 136 = .ok (.iload_n 2, 1) := by decide +kernel
theorem dX4_swapGain_137 : decode cX4_swapGain 137 = .ok (.bipush 9, 2) := by decide +kernel
theorem dX4_swapGain_139 : decode cX4_swapGain 139 = .ok (.invokevirtual 71, 3) := by decide +kernel
theorem dX4_swapGain_142 : decode cX4_swapGain 142 = .ok (.iload_n 1, 1) := by decide +kernel
theorem dX4_swapGain_143 : decode cX4_swapGain 143 = .ok (.iload_n 2, 1) := by decide +kernel
theorem dX4_swapGain_144 : decode cX4_swapGain 144 = .ok (.invokevirtual 263, 3) := by decide +kernel
theorem dX4_swapGain_147 : decode cX4_swapGain 147 = .ok (.istore 8, 2) := by decide +kernel
theorem dX4_swapGain_149 : decode cX4_swapGain 149 = .ok (.aload_n 0, 1) := by decide +kernel
theorem dX4_swapGain_150 : decode cX4_swapGain 150 = .ok (.aload_n 0, 1) := by decide +kernel
theorem dX4_swapGain_151 : decode cX4_swapGain 151 = .ok (.iload_n 2, 1) := by decide +kernel
theorem dX4_swapGain_152 : decode cX4_swapGain 152 = .ok (.iconst 1, 1) := by decide +kernel
theorem dX4_swapGain_153 : decode cX4_swapGain 153 = .ok (.invokevirtual 71, 3) := by decide +kernel
theorem dX4_swapGain_156 : decode cX4_swapGain 156 = .ok (.aload_n 0, 1) := by decide +kernel
theorem dX4_swapGain_157 : decode cX4_swapGain 157 = .ok (.iload_n 2, 1) := by decide +kernel
theorem dX4_swapGain_158 : decode cX4_swapGain 158 = .ok (.iconst 2, 1) := by decide +kernel
theorem dX4_swapGain_159 : decode cX4_swapGain 159 = .ok (.invokevirtual 71, 3) := by decide +kernel
theorem dX4_swapGain_162 : decode cX4_swapGain 162 = .ok (.iload_n 3, 1) := by decide +kernel
theorem dX4_swapGain_163 : decode cX4_swapGain 163 = .ok (.aload_n 0, 1) := by decide +kernel
theorem dX4_swapGain_164 : decode cX4_swapGain 164 = .ok (.iload_n 1, 1) := by decide +kernel
theorem dX4_swapGain_165 : decode cX4_swapGain 165 = .ok (.bipush 9, 2) := by decide +kernel
theorem dX4_swapGain_167 : decode cX4_swapGain 167 = .ok (.invokevirtual 71, 3) := by decide +kernel
theorem dX4_swapGain_170 : decode cX4_swapGain 170 = .ok (.iload_n 1, 1) := by decide +kernel
theorem dX4_swapGain_171 : decode cX4_swapGain 171 = .ok (.iload_n 2, 1) := by decide +kernel
theorem dX4_swapGain_172 : decode cX4_swapGain 172 = .ok (.invokevirtual 263, 3) := by decide +kernel
theorem dX4_swapGain_175 : decode cX4_swapGain 175 = .ok (.istore 9, 2) := by decide +kernel
theorem dX4_swapGain_177 : decode cX4_swapGain 177 = .ok (.iload 8, 2) := by decide +kernel
theorem dX4_swapGain_179 : decode cX4_swapGain 179 = .ok (.ifCond .ne 8, 3) := by decide +kernel
theorem dX4_swapGain_182 : decode cX4_swapGain 182 = .ok (.iload 9, 2) := by decide +kernel
theorem dX4_swapGain_184 : decode cX4_swapGain 184 = .ok (.ifCond .eq 7, 3) := by decide +kernel
theorem dX4_swapGain_187 : decode cX4_swapGain 187 = .ok (.iconst 0, 1) := by decide +kernel
theorem dX4_swapGain_188 : decode cX4_swapGain 188 = .ok (.goto 8, 3) := by decide +kernel
theorem dX4_swapGain_191 : decode cX4_swapGain 191 = .ok (.iload 6, 2) := by decide +kernel
theorem dX4_swapGain_193 : decode cX4_swapGain 193 = .ok (.iload 7, 2) := by decide +kernel
theorem dX4_swapGain_195 : decode cX4_swapGain 195 = .ok (.iadd, 1) := by decide +kernel
theorem dX4_swapGain_196 : decode cX4_swapGain 196 = .ok (.ireturn, 1) := by decide +kernel
def w_X4_swapGain_74  (Q : Int32 → V3 → Prop) (v : V3) : Prop := Q 0 v
def w_X4_swapGain_118  (Q : Int32 → V3 → Prop) (v : V3) : Prop := Q 0 v
def w_X4_swapGain_196  (Q : Int32 → V3 → Prop) (s0 : Int32) (v : V3) : Prop := Q s0 v
def w_X4_swapGain_187  (Q : Int32 → V3 → Prop) (v : V3) : Prop := w_X4_swapGain_196 Q 0 v
def w_X4_swapGain_44  (Q : Int32 → V3 → Prop) (x1 : Int32) (x2 : Int32) (x3 : Int32) (x4 : Int32) (s0 : Int32) (v : V3) : Prop := ((s0 = 0 → w_X4_swapGain_74 Q v) ∧ (¬ s0 = 0 → ((x3 < (v 8 7) → w_X4_swapGain_74 Q v) ∧ (¬ x3 < (v 8 7) → (((v 8 7) ≤ x4 → w_X4_joyOf x1 x4 v (fun r14 v13 => w_X4_joyOf x1 x3 v13 (fun r16 v15 => w_X4_joyOf x2 x3 v15 (fun r18 v17 => w_X4_joyOf x2 x4 v17 (fun r20 v19 => (((r14 - r16) ≤ 0 → w_X4_swapGain_118 Q v19) ∧ (¬ (r14 - r16) ≤ 0 → ((0 < (r18 - r20) → w_X4_of x1 1 v19 (fun r24 v23 => w_X4_of x1 2 v23 (fun r26 v25 => w_X4_of x2 9 v25 (fun r28 v27 => w_X4_isTaken r24 r26 x4 r28 x1 x2 v27 (fun r30 v29 => w_X4_of x2 1 v29 (fun r32 v31 => w_X4_of x2 2 v31 (fun r34 v33 => w_X4_of x1 9 v33 (fun r36 v35 => w_X4_isTaken r32 r34 x3 r36 x1 x2 v35 (fun r38 v37 => ((¬ r30 = 0 → w_X4_swapGain_187 Q v37) ∧ (r30 = 0 → ((r38 = 0 → w_X4_swapGain_196 Q ((r14 - r16) + (r18 - r20)) v37) ∧ (¬ r38 = 0 → w_X4_swapGain_187 Q v37))))))))))))) ∧ (¬ 0 < (r18 - r20) → w_X4_swapGain_118 Q v19))))))))) ∧ (¬ (v 8 7) ≤ x4 → w_X4_swapGain_74 Q v))))))
def w_X4_swapGain (a1 : Int32) (a2 : Int32) (v : V3) (Q : Int32 → V3 → Prop) : Prop := w_X4_of a1 8 v (fun r2 v1 => w_X4_of a2 8 v1 (fun r4 v3 => w_X4_of a1 9 v3 (fun r6 v5 => w_X4_of a2 9 v5 (fun r8 v7 => ((¬ (r6 - r2) = (r8 - r4) → w_X4_swapGain_44 Q a1 a2 r2 r4 0 v7) ∧ ((r6 - r2) = (r8 - r4) → w_X4_swapGain_44 Q a1 a2 r2 r4 1 v7))))))
set_option maxRecDepth 100000 in
set_option maxHeartbeats 4000000 in
theorem b_X4_swapGain_74 {p : Program} (l : Launch) {e : Env} {s : State} {m : MethodId} {args : Array Value} {below : List Frame} {meth : Method} {c : Code} {G : zG}   (C0 : Cx G RX4 cX4_swapGain 10 (some .int) p s m args meth c) {Q : Int32 → V3 → Prop} : ∀ (v : V3) (H : Heap) (locs : List Loc) (ls : Array Slot), w_X4_swapGain_74 Q v → Zs G s v H locs → lv_has ls 10 [] → W p l e { frames := 3, cells := 0, slots := 0, locals := 71 } s m args below meth c H locs 0 0 (MQ below (QiZ G Q) args s 0 0 (zA G)) (F0 m 74 ls []) := by
  have hx := C0.1
  have hb := C0.2.1
  intro v H locs ls hw Z hl
  rw [w_X4_swapGain_74] at hw
  refine lv_iconst (v := 0) hx hb dX4_swapGain_74 (by decide) ?_
  exact z_iret C0 Z hw dX4_swapGain_75
set_option maxRecDepth 100000 in
set_option maxHeartbeats 4000000 in
theorem b_X4_swapGain_118 {p : Program} (l : Launch) {e : Env} {s : State} {m : MethodId} {args : Array Value} {below : List Frame} {meth : Method} {c : Code} {G : zG}   (C0 : Cx G RX4 cX4_swapGain 10 (some .int) p s m args meth c) {Q : Int32 → V3 → Prop} : ∀ (v : V3) (H : Heap) (locs : List Loc) (ls : Array Slot), w_X4_swapGain_118 Q v → Zs G s v H locs → lv_has ls 10 [] → W p l e { frames := 3, cells := 0, slots := 0, locals := 71 } s m args below meth c H locs 0 0 (MQ below (QiZ G Q) args s 0 0 (zA G)) (F0 m 118 ls []) := by
  have hx := C0.1
  have hb := C0.2.1
  intro v H locs ls hw Z hl
  rw [w_X4_swapGain_118] at hw
  refine lv_iconst (v := 0) hx hb dX4_swapGain_118 (by decide) ?_
  exact z_iret C0 Z hw dX4_swapGain_119
set_option maxRecDepth 100000 in
set_option maxHeartbeats 4000000 in
theorem b_X4_swapGain_196 {p : Program} (l : Launch) {e : Env} {s : State} {m : MethodId} {args : Array Value} {below : List Frame} {meth : Method} {c : Code} {G : zG}   (C0 : Cx G RX4 cX4_swapGain 10 (some .int) p s m args meth c) {Q : Int32 → V3 → Prop} : ∀ (s0 : Int32) (v : V3) (H : Heap) (locs : List Loc) (ls : Array Slot), w_X4_swapGain_196 Q s0 v → Zs G s v H locs → lv_has ls 10 [] → W p l e { frames := 3, cells := 0, slots := 0, locals := 71 } s m args below meth c H locs 0 0 (MQ below (QiZ G Q) args s 0 0 (zA G)) (F0 m 196 ls [.int s0]) := by
  have hx := C0.1
  have hb := C0.2.1
  intro s0 v H locs ls hw Z hl
  rw [w_X4_swapGain_196] at hw
  exact z_iret C0 Z hw dX4_swapGain_196
set_option maxRecDepth 100000 in
set_option maxHeartbeats 4000000 in
theorem b_X4_swapGain_187 {p : Program} (l : Launch) {e : Env} {s : State} {m : MethodId} {args : Array Value} {below : List Frame} {meth : Method} {c : Code} {G : zG}   (C0 : Cx G RX4 cX4_swapGain 10 (some .int) p s m args meth c) {Q : Int32 → V3 → Prop} : ∀ (v : V3) (H : Heap) (locs : List Loc) (ls : Array Slot), w_X4_swapGain_187 Q v → Zs G s v H locs → lv_has ls 10 [] → W p l e { frames := 3, cells := 0, slots := 0, locals := 71 } s m args below meth c H locs 0 0 (MQ below (QiZ G Q) args s 0 0 (zA G)) (F0 m 187 ls []) := by
  have hx := C0.1
  have hb := C0.2.1
  intro v H locs ls hw Z hl
  rw [w_X4_swapGain_187] at hw
  refine lv_iconst (v := 0) hx hb dX4_swapGain_187 (by decide) ?_
  refine lv_goto (tgt := 196) hx hb dX4_swapGain_188 (by decide) ?_
  exact b_X4_swapGain_196 l C0 _ _ _ _ _ hw Z (lv_sub hl [] rfl)
set_option maxRecDepth 100000 in
set_option maxHeartbeats 4000000 in
theorem b_X4_swapGain_44 {p : Program} (l : Launch) {e : Env} {s : State} {m : MethodId} {args : Array Value} {below : List Frame} {meth : Method} {c : Code} {G : zG}   (C0 : Cx G RX4 cX4_swapGain 10 (some .int) p s m args meth c) {Q : Int32 → V3 → Prop} : ∀ (x1 : Int32) (x2 : Int32) (x3 : Int32) (x4 : Int32) (s0 : Int32) (v : V3) (H : Heap) (locs : List Loc) (ls : Array Slot), w_X4_swapGain_44 Q x1 x2 x3 x4 s0 v → Zs G s v H locs → lv_has ls 10 [(0, .ref (gad G 7)), (1, .int x1), (2, .int x2), (3, .int x3), (4, .int x4)] → W p l e { frames := 3, cells := 0, slots := 0, locals := 71 } s m args below meth c H locs 0 0 (MQ below (QiZ G Q) args s 0 0 (zA G)) (F0 m 44 ls [.int s0]) := by
  have hx := C0.1
  have hb := C0.2.1
  intro x1 x2 x3 x4 s0 v H locs ls hw Z hl
  rw [w_X4_swapGain_44] at hw
  refine lv_istore (lv' := [(5, .int s0), (0, .ref (gad G 7)), (1, .int x1), (2, .int x2), (3, .int x3), (4, .int x4)]) hx hb dX4_swapGain_44 hl (by decide) rfl (fun ls hl => ?_)
  refine lv_iload hx hb dX4_swapGain_46 (lv_at hl 0 rfl) ?_
  refine lv_if_eq (tgt := 74) hx hb dX4_swapGain_48 (by decide) (fun c10 => ?_) (fun c10 => ?_)
  · replace hw := hw.1 c10
    exact b_X4_swapGain_74 l C0 _ _ _ _ hw Z (lv_sub hl [] rfl)
  · replace hw := hw.2 c10
    refine lv_iload_n hx hb dX4_swapGain_51 rfl (lv_at hl 4 rfl) ?_
    refine lv_aload_n hx hb dX4_swapGain_52 rfl (lv_at hl 1 rfl) ?_
    refine z_get C0 Z in_X4 rfl 0 (by decide) rfl tm_4_203 (cx_lt C0 (by decide)) rfl rfl dX4_swapGain_53 ?_
    refine lv_bipush (v := 7) hx hb dX4_swapGain_56 (by decide) ?_
    refine z_ialdk C0 Z (cx_lt C0 (by decide)) rfl in_7_474 nc_7 dX4_swapGain_58 ?_
    refine lv_icmp_lt (tgt := 74) hx hb dX4_swapGain_59 (by decide) (fun c11 => ?_) (fun c11 => ?_)
    · replace hw := hw.1 c11
      exact b_X4_swapGain_74 l C0 _ _ _ _ hw Z (lv_sub hl [] rfl)
    · replace hw := hw.2 c11
      refine lv_iload hx hb dX4_swapGain_62 (lv_at hl 5 rfl) ?_
      refine lv_aload_n hx hb dX4_swapGain_64 rfl (lv_at hl 1 rfl) ?_
      refine z_get C0 Z in_X4 rfl 0 (by decide) rfl tm_4_203 (cx_lt C0 (by decide)) rfl rfl dX4_swapGain_65 ?_
      refine lv_bipush (v := 7) hx hb dX4_swapGain_68 (by decide) ?_
      refine z_ialdk C0 Z (cx_lt C0 (by decide)) rfl in_7_474 nc_7 dX4_swapGain_70 ?_
      refine lv_icmp_ge (tgt := 76) hx hb dX4_swapGain_71 (by decide) (fun c12 => ?_) (fun c12 => ?_)
      · replace hw := hw.1 c12
        refine lv_aload_n hx hb dX4_swapGain_76 rfl (lv_at hl 1 rfl) ?_
        refine lv_iload_n hx hb dX4_swapGain_77 rfl (lv_at hl 2 rfl) ?_
        refine lv_iload hx hb dX4_swapGain_78 (lv_at hl 5 rfl) ?_
        refine z_callVi C0 Z hl.1 (As := [.int x1, .int x4]) (rest := []) (k_X4_joyOf l (cx_g C0) hw) (gv_X4_joyOf tm_6_38) rfl ds_X4_joyOf ⟨Nat.le_of_ble_eq_true rfl, Nat.le_of_ble_eq_true rfl⟩ (ci := 4) rfl (cx_lt C0 (by decide)) rfl rfl rfl (Nat.le_of_ble_eq_true rfl) ⟨Nat.le_of_ble_eq_true rfl, Nat.le_of_ble_eq_true rfl⟩ dX4_swapGain_80 (fun r14 v13 H locs hw Z => ?_)
        refine lv_aload_n hx hb dX4_swapGain_83 rfl (lv_at hl 1 rfl) ?_
        refine lv_iload_n hx hb dX4_swapGain_84 rfl (lv_at hl 2 rfl) ?_
        refine lv_iload_n hx hb dX4_swapGain_85 rfl (lv_at hl 4 rfl) ?_
        refine z_callVi C0 Z hl.1 (As := [.int x1, .int x3]) (rest := [.int r14]) (k_X4_joyOf l (cx_g C0) hw) (gv_X4_joyOf tm_6_38) rfl ds_X4_joyOf ⟨Nat.le_of_ble_eq_true rfl, Nat.le_of_ble_eq_true rfl⟩ (ci := 4) rfl (cx_lt C0 (by decide)) rfl rfl rfl (Nat.le_of_ble_eq_true rfl) ⟨Nat.le_of_ble_eq_true rfl, Nat.le_of_ble_eq_true rfl⟩ dX4_swapGain_86 (fun r16 v15 H locs hw Z => ?_)
        refine lv_isub hx hb dX4_swapGain_89 ?_
        refine lv_istore (lv' := [(6, .int (r14 - r16)), (5, .int s0), (0, .ref (gad G 7)), (1, .int x1), (2, .int x2), (3, .int x3), (4, .int x4)]) hx hb dX4_swapGain_90 hl (by decide) rfl (fun ls hl => ?_)
        refine lv_aload_n hx hb dX4_swapGain_92 rfl (lv_at hl 2 rfl) ?_
        refine lv_iload_n hx hb dX4_swapGain_93 rfl (lv_at hl 4 rfl) ?_
        refine lv_iload_n hx hb dX4_swapGain_94 rfl (lv_at hl 5 rfl) ?_
        refine z_callVi C0 Z hl.1 (As := [.int x2, .int x3]) (rest := []) (k_X4_joyOf l (cx_g C0) hw) (gv_X4_joyOf tm_6_38) rfl ds_X4_joyOf ⟨Nat.le_of_ble_eq_true rfl, Nat.le_of_ble_eq_true rfl⟩ (ci := 4) rfl (cx_lt C0 (by decide)) rfl rfl rfl (Nat.le_of_ble_eq_true rfl) ⟨Nat.le_of_ble_eq_true rfl, Nat.le_of_ble_eq_true rfl⟩ dX4_swapGain_95 (fun r18 v17 H locs hw Z => ?_)
        refine lv_aload_n hx hb dX4_swapGain_98 rfl (lv_at hl 2 rfl) ?_
        refine lv_iload_n hx hb dX4_swapGain_99 rfl (lv_at hl 4 rfl) ?_
        refine lv_iload hx hb dX4_swapGain_100 (lv_at hl 6 rfl) ?_
        refine z_callVi C0 Z hl.1 (As := [.int x2, .int x4]) (rest := [.int r18]) (k_X4_joyOf l (cx_g C0) hw) (gv_X4_joyOf tm_6_38) rfl ds_X4_joyOf ⟨Nat.le_of_ble_eq_true rfl, Nat.le_of_ble_eq_true rfl⟩ (ci := 4) rfl (cx_lt C0 (by decide)) rfl rfl rfl (Nat.le_of_ble_eq_true rfl) ⟨Nat.le_of_ble_eq_true rfl, Nat.le_of_ble_eq_true rfl⟩ dX4_swapGain_102 (fun r20 v19 H locs hw Z => ?_)
        refine lv_isub hx hb dX4_swapGain_105 ?_
        refine lv_istore (lv' := [(7, .int (r18 - r20)), (6, .int (r14 - r16)), (5, .int s0), (0, .ref (gad G 7)), (1, .int x1), (2, .int x2), (3, .int x3), (4, .int x4)]) hx hb dX4_swapGain_106 hl (by decide) rfl (fun ls hl => ?_)
        refine lv_iload hx hb dX4_swapGain_108 (lv_at hl 1 rfl) ?_
        refine lv_if_le (tgt := 118) hx hb dX4_swapGain_110 (by decide) (fun c21 => ?_) (fun c21 => ?_)
        · replace hw := hw.1 c21
          exact b_X4_swapGain_118 l C0 _ _ _ _ hw Z (lv_sub hl [] rfl)
        · replace hw := hw.2 c21
          refine lv_iload hx hb dX4_swapGain_113 (lv_at hl 0 rfl) ?_
          refine lv_if_gt (tgt := 120) hx hb dX4_swapGain_115 (by decide) (fun c22 => ?_) (fun c22 => ?_)
          · replace hw := hw.1 c22
            refine lv_aload_n hx hb dX4_swapGain_120 rfl (lv_at hl 3 rfl) ?_
            refine lv_aload_n hx hb dX4_swapGain_121 rfl (lv_at hl 3 rfl) ?_
            refine lv_iload_n hx hb dX4_swapGain_122 rfl (lv_at hl 4 rfl) ?_
            refine lv_iconst (v := 1) hx hb dX4_swapGain_123 (by decide) ?_
            refine z_callVi C0 Z hl.1 (As := [.int x1, .int 1]) (rest := [.ref (gad G 7)]) (k_X4_of l (cx_g C0) hw) (gv_X4_of tm_5_163) rfl ds_X4_of ⟨Nat.le_of_ble_eq_true rfl, Nat.le_of_ble_eq_true rfl⟩ (ci := 4) rfl (cx_lt C0 (by decide)) rfl rfl rfl (Nat.le_of_ble_eq_true rfl) ⟨Nat.le_of_ble_eq_true rfl, Nat.le_of_ble_eq_true rfl⟩ dX4_swapGain_124 (fun r24 v23 H locs hw Z => ?_)
            refine lv_aload_n hx hb dX4_swapGain_127 rfl (lv_at hl 3 rfl) ?_
            refine lv_iload_n hx hb dX4_swapGain_128 rfl (lv_at hl 4 rfl) ?_
            refine lv_iconst (v := 2) hx hb dX4_swapGain_129 (by decide) ?_
            refine z_callVi C0 Z hl.1 (As := [.int x1, .int 2]) (rest := [.int r24, .ref (gad G 7)]) (k_X4_of l (cx_g C0) hw) (gv_X4_of tm_5_163) rfl ds_X4_of ⟨Nat.le_of_ble_eq_true rfl, Nat.le_of_ble_eq_true rfl⟩ (ci := 4) rfl (cx_lt C0 (by decide)) rfl rfl rfl (Nat.le_of_ble_eq_true rfl) ⟨Nat.le_of_ble_eq_true rfl, Nat.le_of_ble_eq_true rfl⟩ dX4_swapGain_130 (fun r26 v25 H locs hw Z => ?_)
            refine lv_iload hx hb dX4_swapGain_133 (lv_at hl 7 rfl) ?_
            refine lv_aload_n hx hb dX4_swapGain_135 rfl (lv_at hl 3 rfl) ?_
            refine lv_iload_n hx hb dX4_swapGain_136 rfl (lv_at hl 5 rfl) ?_
            refine lv_bipush (v := 9) hx hb dX4_swapGain_137 (by decide) ?_
            refine z_callVi C0 Z hl.1 (As := [.int x2, .int 9]) (rest := [.int x4, .int r26, .int r24, .ref (gad G 7)]) (k_X4_of l (cx_g C0) hw) (gv_X4_of tm_5_163) rfl ds_X4_of ⟨Nat.le_of_ble_eq_true rfl, Nat.le_of_ble_eq_true rfl⟩ (ci := 4) rfl (cx_lt C0 (by decide)) rfl rfl rfl (Nat.le_of_ble_eq_true rfl) ⟨Nat.le_of_ble_eq_true rfl, Nat.le_of_ble_eq_true rfl⟩ dX4_swapGain_139 (fun r28 v27 H locs hw Z => ?_)
            refine lv_iload_n hx hb dX4_swapGain_142 rfl (lv_at hl 4 rfl) ?_
            refine lv_iload_n hx hb dX4_swapGain_143 rfl (lv_at hl 5 rfl) ?_
            refine z_callVi C0 Z hl.1 (As := [.int r24, .int r26, .int x4, .int r28, .int x1, .int x2]) (rest := []) (k_X4_isTaken l (cx_g C0) hw) (gv_X4_isTaken tm_5_198) rfl ds_X4_isTaken ⟨Nat.le_of_ble_eq_true rfl, Nat.le_of_ble_eq_true rfl⟩ (ci := 4) rfl (cx_lt C0 (by decide)) rfl rfl rfl (Nat.le_of_ble_eq_true rfl) ⟨Nat.le_of_ble_eq_true rfl, Nat.le_of_ble_eq_true rfl⟩ dX4_swapGain_144 (fun r30 v29 H locs hw Z => ?_)
            refine lv_istore (lv' := [(8, .int r30), (7, .int (r18 - r20)), (6, .int (r14 - r16)), (5, .int s0), (0, .ref (gad G 7)), (1, .int x1), (2, .int x2), (3, .int x3), (4, .int x4)]) hx hb dX4_swapGain_147 hl (by decide) rfl (fun ls hl => ?_)
            refine lv_aload_n hx hb dX4_swapGain_149 rfl (lv_at hl 4 rfl) ?_
            refine lv_aload_n hx hb dX4_swapGain_150 rfl (lv_at hl 4 rfl) ?_
            refine lv_iload_n hx hb dX4_swapGain_151 rfl (lv_at hl 6 rfl) ?_
            refine lv_iconst (v := 1) hx hb dX4_swapGain_152 (by decide) ?_
            refine z_callVi C0 Z hl.1 (As := [.int x2, .int 1]) (rest := [.ref (gad G 7)]) (k_X4_of l (cx_g C0) hw) (gv_X4_of tm_5_163) rfl ds_X4_of ⟨Nat.le_of_ble_eq_true rfl, Nat.le_of_ble_eq_true rfl⟩ (ci := 4) rfl (cx_lt C0 (by decide)) rfl rfl rfl (Nat.le_of_ble_eq_true rfl) ⟨Nat.le_of_ble_eq_true rfl, Nat.le_of_ble_eq_true rfl⟩ dX4_swapGain_153 (fun r32 v31 H locs hw Z => ?_)
            refine lv_aload_n hx hb dX4_swapGain_156 rfl (lv_at hl 4 rfl) ?_
            refine lv_iload_n hx hb dX4_swapGain_157 rfl (lv_at hl 6 rfl) ?_
            refine lv_iconst (v := 2) hx hb dX4_swapGain_158 (by decide) ?_
            refine z_callVi C0 Z hl.1 (As := [.int x2, .int 2]) (rest := [.int r32, .ref (gad G 7)]) (k_X4_of l (cx_g C0) hw) (gv_X4_of tm_5_163) rfl ds_X4_of ⟨Nat.le_of_ble_eq_true rfl, Nat.le_of_ble_eq_true rfl⟩ (ci := 4) rfl (cx_lt C0 (by decide)) rfl rfl rfl (Nat.le_of_ble_eq_true rfl) ⟨Nat.le_of_ble_eq_true rfl, Nat.le_of_ble_eq_true rfl⟩ dX4_swapGain_159 (fun r34 v33 H locs hw Z => ?_)
            refine lv_iload_n hx hb dX4_swapGain_162 rfl (lv_at hl 7 rfl) ?_
            refine lv_aload_n hx hb dX4_swapGain_163 rfl (lv_at hl 4 rfl) ?_
            refine lv_iload_n hx hb dX4_swapGain_164 rfl (lv_at hl 5 rfl) ?_
            refine lv_bipush (v := 9) hx hb dX4_swapGain_165 (by decide) ?_
            refine z_callVi C0 Z hl.1 (As := [.int x1, .int 9]) (rest := [.int x3, .int r34, .int r32, .ref (gad G 7)]) (k_X4_of l (cx_g C0) hw) (gv_X4_of tm_5_163) rfl ds_X4_of ⟨Nat.le_of_ble_eq_true rfl, Nat.le_of_ble_eq_true rfl⟩ (ci := 4) rfl (cx_lt C0 (by decide)) rfl rfl rfl (Nat.le_of_ble_eq_true rfl) ⟨Nat.le_of_ble_eq_true rfl, Nat.le_of_ble_eq_true rfl⟩ dX4_swapGain_167 (fun r36 v35 H locs hw Z => ?_)
            refine lv_iload_n hx hb dX4_swapGain_170 rfl (lv_at hl 5 rfl) ?_
            refine lv_iload_n hx hb dX4_swapGain_171 rfl (lv_at hl 6 rfl) ?_
            refine z_callVi C0 Z hl.1 (As := [.int r32, .int r34, .int x3, .int r36, .int x1, .int x2]) (rest := []) (k_X4_isTaken l (cx_g C0) hw) (gv_X4_isTaken tm_5_198) rfl ds_X4_isTaken ⟨Nat.le_of_ble_eq_true rfl, Nat.le_of_ble_eq_true rfl⟩ (ci := 4) rfl (cx_lt C0 (by decide)) rfl rfl rfl (Nat.le_of_ble_eq_true rfl) ⟨Nat.le_of_ble_eq_true rfl, Nat.le_of_ble_eq_true rfl⟩ dX4_swapGain_172 (fun r38 v37 H locs hw Z => ?_)
            refine lv_istore (lv' := [(9, .int r38), (8, .int r30), (7, .int (r18 - r20)), (6, .int (r14 - r16)), (5, .int s0), (0, .ref (gad G 7)), (1, .int x1), (2, .int x2), (3, .int x3), (4, .int x4)]) hx hb dX4_swapGain_175 hl (by decide) rfl (fun ls hl => ?_)
            refine lv_iload hx hb dX4_swapGain_177 (lv_at hl 1 rfl) ?_
            refine lv_if_ne (tgt := 187) hx hb dX4_swapGain_179 (by decide) (fun c39 => ?_) (fun c39 => ?_)
            · replace hw := hw.1 c39
              exact b_X4_swapGain_187 l C0 _ _ _ _ hw Z (lv_sub hl [] rfl)
            · replace hw := hw.2 c39
              refine lv_iload hx hb dX4_swapGain_182 (lv_at hl 0 rfl) ?_
              refine lv_if_eq (tgt := 191) hx hb dX4_swapGain_184 (by decide) (fun c40 => ?_) (fun c40 => ?_)
              · replace hw := hw.1 c40
                refine lv_iload hx hb dX4_swapGain_191 (lv_at hl 3 rfl) ?_
                refine lv_iload hx hb dX4_swapGain_193 (lv_at hl 2 rfl) ?_
                refine lv_iadd hx hb dX4_swapGain_195 ?_
                exact b_X4_swapGain_196 l C0 _ _ _ _ _ hw Z (lv_sub hl [] rfl)
              · replace hw := hw.2 c40
                exact b_X4_swapGain_187 l C0 _ _ _ _ hw Z (lv_sub hl [] rfl)
          · replace hw := hw.2 c22
            exact b_X4_swapGain_118 l C0 _ _ _ _ hw Z (lv_sub hl [] rfl)
      · replace hw := hw.2 c12
        exact b_X4_swapGain_74 l C0 _ _ _ _ hw Z (lv_sub hl [] rfl)
set_option maxRecDepth 100000 in
set_option maxHeartbeats 4000000 in
theorem k_X4_swapGain (l : Launch) {G : zG} (hg : 129 ≤ gn G) {a1 : Int32} {a2 : Int32}  {v : V3} {Q : Int32 → V3 → Prop} (hw : w_X4_swapGain a1 a2 v Q) : Mz l yX4_swapGain cX4_swapGain 10 (some .int) 3 71 G [.ref (gad G 7), .int a1, .int a2] v (QiZ G Q) := by
  rw [w_X4_swapGain] at hw
  refine z_ofW hg (by decide) (Nat.le_of_ble_eq_true rfl) ?_
  intro p e s m args below meth c ls C0 Z hl
  have hx := C0.1
  have hb := C0.2.1
  replace hl : lv_has ls 10 [(0, .ref (gad G 7)), (1, .int a1), (2, .int a2)] := hl
  generalize s.heap = H at Z ⊢
  generalize ([] : List Loc) = locs at Z ⊢
  refine lv_aload_n hx hb dX4_swapGain_0 rfl (lv_at hl 0 rfl) ?_
  refine lv_iload_n hx hb dX4_swapGain_1 rfl (lv_at hl 1 rfl) ?_
  refine lv_bipush (v := 8) hx hb dX4_swapGain_2 (by decide) ?_
  refine z_callVi C0 Z hl.1 (As := [.int a1, .int 8]) (rest := []) (k_X4_of l (cx_g C0) hw) (gv_X4_of tm_5_163) rfl ds_X4_of ⟨Nat.le_of_ble_eq_true rfl, Nat.le_of_ble_eq_true rfl⟩ (ci := 4) rfl (cx_lt C0 (by decide)) rfl rfl rfl (Nat.le_of_ble_eq_true rfl) ⟨Nat.le_of_ble_eq_true rfl, Nat.le_of_ble_eq_true rfl⟩ dX4_swapGain_4 (fun r2 v1 H locs hw Z => ?_)
  refine lv_istore_n (lv' := [(3, .int r2), (0, .ref (gad G 7)), (1, .int a1), (2, .int a2)]) hx hb dX4_swapGain_7 rfl hl (by decide) rfl (fun ls hl => ?_)
  refine lv_aload_n hx hb dX4_swapGain_8 rfl (lv_at hl 1 rfl) ?_
  refine lv_iload_n hx hb dX4_swapGain_9 rfl (lv_at hl 3 rfl) ?_
  refine lv_bipush (v := 8) hx hb dX4_swapGain_10 (by decide) ?_
  refine z_callVi C0 Z hl.1 (As := [.int a2, .int 8]) (rest := []) (k_X4_of l (cx_g C0) hw) (gv_X4_of tm_5_163) rfl ds_X4_of ⟨Nat.le_of_ble_eq_true rfl, Nat.le_of_ble_eq_true rfl⟩ (ci := 4) rfl (cx_lt C0 (by decide)) rfl rfl rfl (Nat.le_of_ble_eq_true rfl) ⟨Nat.le_of_ble_eq_true rfl, Nat.le_of_ble_eq_true rfl⟩ dX4_swapGain_12 (fun r4 v3 H locs hw Z => ?_)
  refine lv_istore (lv' := [(4, .int r4), (3, .int r2), (0, .ref (gad G 7)), (1, .int a1), (2, .int a2)]) hx hb dX4_swapGain_15 hl (by decide) rfl (fun ls hl => ?_)
  refine lv_aload_n hx hb dX4_swapGain_17 rfl (lv_at hl 2 rfl) ?_
  refine lv_iload_n hx hb dX4_swapGain_18 rfl (lv_at hl 3 rfl) ?_
  refine lv_bipush (v := 9) hx hb dX4_swapGain_19 (by decide) ?_
  refine z_callVi C0 Z hl.1 (As := [.int a1, .int 9]) (rest := []) (k_X4_of l (cx_g C0) hw) (gv_X4_of tm_5_163) rfl ds_X4_of ⟨Nat.le_of_ble_eq_true rfl, Nat.le_of_ble_eq_true rfl⟩ (ci := 4) rfl (cx_lt C0 (by decide)) rfl rfl rfl (Nat.le_of_ble_eq_true rfl) ⟨Nat.le_of_ble_eq_true rfl, Nat.le_of_ble_eq_true rfl⟩ dX4_swapGain_21 (fun r6 v5 H locs hw Z => ?_)
  refine lv_iload_n hx hb dX4_swapGain_24 rfl (lv_at hl 1 rfl) ?_
  refine lv_isub hx hb dX4_swapGain_25 ?_
  refine lv_aload_n hx hb dX4_swapGain_26 rfl (lv_at hl 2 rfl) ?_
  refine lv_iload_n hx hb dX4_swapGain_27 rfl (lv_at hl 4 rfl) ?_
  refine lv_bipush (v := 9) hx hb dX4_swapGain_28 (by decide) ?_
  refine z_callVi C0 Z hl.1 (As := [.int a2, .int 9]) (rest := [.int (r6 - r2)]) (k_X4_of l (cx_g C0) hw) (gv_X4_of tm_5_163) rfl ds_X4_of ⟨Nat.le_of_ble_eq_true rfl, Nat.le_of_ble_eq_true rfl⟩ (ci := 4) rfl (cx_lt C0 (by decide)) rfl rfl rfl (Nat.le_of_ble_eq_true rfl) ⟨Nat.le_of_ble_eq_true rfl, Nat.le_of_ble_eq_true rfl⟩ dX4_swapGain_30 (fun r8 v7 H locs hw Z => ?_)
  refine lv_iload hx hb dX4_swapGain_33 (lv_at hl 0 rfl) ?_
  refine lv_isub hx hb dX4_swapGain_35 ?_
  refine lv_icmp_ne (tgt := 43) hx hb dX4_swapGain_36 (by decide) (fun c9 => ?_) (fun c9 => ?_)
  · replace hw := hw.1 c9
    refine lv_iconst (v := 0) hx hb dX4_swapGain_43 (by decide) ?_
    exact b_X4_swapGain_44 l C0 _ _ _ _ _ _ _ _ _ hw Z (lv_sub hl [2, 3, 4, 1, 0] rfl)
  · replace hw := hw.2 c9
    refine lv_iconst (v := 1) hx hb dX4_swapGain_39 (by decide) ?_
    refine lv_goto (tgt := 44) hx hb dX4_swapGain_40 (by decide) ?_
    exact b_X4_swapGain_44 l C0 _ _ _ _ _ _ _ _ _ hw Z (lv_sub hl [2, 3, 4, 1, 0] rfl)
-- X4_priceOf: room (3, 67)
theorem dX4_priceOf_0 : decode cX4_priceOf 0 = .ok (.aload_n 0, 1) := by decide +kernel
theorem dX4_priceOf_1 : decode cX4_priceOf 1 = .ok (.iload_n 1, 1) := by decide +kernel
theorem dX4_priceOf_2 : decode cX4_priceOf 2 = .ok (.aload_n 0, 1) := by decide +kernel
theorem dX4_priceOf_3 : decode cX4_priceOf 3 = .ok (.iload_n 2, 1) := by decide +kernel
theorem dX4_priceOf_4 : decode cX4_priceOf 4 = .ok (.bipush 8, 2) := by decide +kernel
theorem dX4_priceOf_6 : decode cX4_priceOf 6 = .ok (.invokevirtual 71, 3) := by decide +kernel
theorem dX4_priceOf_9 : decode cX4_priceOf 9 = .ok (.invokevirtual 239, 3) := by decide +kernel
theorem dX4_priceOf_12 : decode cX4_priceOf 12 = .ok (.aload_n 0, 1) := by decide +kernel
theorem dX4_priceOf_13 : decode cX4_priceOf 13 = .ok (.iload_n 2, 1) := by decide +kernel
theorem dX4_priceOf_14 : decode cX4_priceOf 14 = .ok (.invokevirtual 242, 3) := by decide +kernel
theorem dX4_priceOf_17 : decode cX4_priceOf 17 = .ok (.iadd, 1) := by decide +kernel
theorem dX4_priceOf_18 : decode cX4_priceOf 18 = .ok (.iconst 2, 1) := by decide +kernel
theorem dX4_priceOf_19 : decode cX4_priceOf 19 = .ok (.idiv, 1) := by decide +kernel
theorem dX4_priceOf_20 : decode cX4_priceOf 20 = .ok (.ireturn, 1) := by decide +kernel
def w_X4_priceOf (a1 : Int32) (a2 : Int32) (v : V3) (Q : Int32 → V3 → Prop) : Prop := w_X4_of a2 8 v (fun r2 v1 => w_X4_joyOf a1 r2 v1 (fun r4 v3 => w_X4_joyNow a2 v3 (fun r6 v5 => Q ((r4 + r6) / 2) v5)))
set_option maxRecDepth 100000 in
set_option maxHeartbeats 4000000 in
theorem k_X4_priceOf (l : Launch) {G : zG} (hg : 129 ≤ gn G) {a1 : Int32} {a2 : Int32}  {v : V3} {Q : Int32 → V3 → Prop} (hw : w_X4_priceOf a1 a2 v Q) : Mz l yX4_priceOf cX4_priceOf 3 (some .int) 3 67 G [.ref (gad G 7), .int a1, .int a2] v (QiZ G Q) := by
  rw [w_X4_priceOf] at hw
  refine z_ofW hg (by decide) (Nat.le_of_ble_eq_true rfl) ?_
  intro p e s m args below meth c ls C0 Z hl
  have hx := C0.1
  have hb := C0.2.1
  replace hl : lv_has ls 3 [(0, .ref (gad G 7)), (1, .int a1), (2, .int a2)] := hl
  generalize s.heap = H at Z ⊢
  generalize ([] : List Loc) = locs at Z ⊢
  refine lv_aload_n hx hb dX4_priceOf_0 rfl (lv_at hl 0 rfl) ?_
  refine lv_iload_n hx hb dX4_priceOf_1 rfl (lv_at hl 1 rfl) ?_
  refine lv_aload_n hx hb dX4_priceOf_2 rfl (lv_at hl 0 rfl) ?_
  refine lv_iload_n hx hb dX4_priceOf_3 rfl (lv_at hl 2 rfl) ?_
  refine lv_bipush (v := 8) hx hb dX4_priceOf_4 (by decide) ?_
  refine z_callVi C0 Z hl.1 (As := [.int a2, .int 8]) (rest := [.int a1, .ref (gad G 7)]) (k_X4_of l (cx_g C0) hw) (gv_X4_of tm_5_163) rfl ds_X4_of ⟨Nat.le_of_ble_eq_true rfl, Nat.le_of_ble_eq_true rfl⟩ (ci := 4) rfl (cx_lt C0 (by decide)) rfl rfl rfl (Nat.le_of_ble_eq_true rfl) ⟨Nat.le_of_ble_eq_true rfl, Nat.le_of_ble_eq_true rfl⟩ dX4_priceOf_6 (fun r2 v1 H locs hw Z => ?_)
  refine z_callVi C0 Z hl.1 (As := [.int a1, .int r2]) (rest := []) (k_X4_joyOf l (cx_g C0) hw) (gv_X4_joyOf tm_6_38) rfl ds_X4_joyOf ⟨Nat.le_of_ble_eq_true rfl, Nat.le_of_ble_eq_true rfl⟩ (ci := 4) rfl (cx_lt C0 (by decide)) rfl rfl rfl (Nat.le_of_ble_eq_true rfl) ⟨Nat.le_of_ble_eq_true rfl, Nat.le_of_ble_eq_true rfl⟩ dX4_priceOf_9 (fun r4 v3 H locs hw Z => ?_)
  refine lv_aload_n hx hb dX4_priceOf_12 rfl (lv_at hl 0 rfl) ?_
  refine lv_iload_n hx hb dX4_priceOf_13 rfl (lv_at hl 2 rfl) ?_
  refine z_callVi C0 Z hl.1 (As := [.int a2]) (rest := [.int r4]) (k_X4_joyNow l (cx_g C0) hw) (gv_X4_joyNow tm_6_34) rfl ds_X4_joyNow ⟨Nat.le_of_ble_eq_true rfl, Nat.le_of_ble_eq_true rfl⟩ (ci := 4) rfl (cx_lt C0 (by decide)) rfl rfl rfl (Nat.le_of_ble_eq_true rfl) ⟨Nat.le_of_ble_eq_true rfl, Nat.le_of_ble_eq_true rfl⟩ dX4_priceOf_14 (fun r6 v5 H locs hw Z => ?_)
  refine lv_iadd hx hb dX4_priceOf_17 ?_
  refine lv_iconst (v := 2) hx hb dX4_priceOf_18 (by decide) ?_
  refine lv_idiv hx hb dX4_priceOf_19 (by decide) ?_
  exact z_iret C0 Z hw dX4_priceOf_20
-- X4_buyGain: room (4, 94)
theorem dX4_buyGain_0 : decode cX4_buyGain 0 = .ok (.aload_n 0, 1) := by decide +kernel
theorem dX4_buyGain_1 : decode cX4_buyGain 1 = .ok (.iload_n 2, 1) := by decide +kernel
theorem dX4_buyGain_2 : decode cX4_buyGain 2 = .ok (.bipush 8, 2) := by decide +kernel
theorem dX4_buyGain_4 : decode cX4_buyGain 4 = .ok (.invokevirtual 71, 3) := by decide +kernel
theorem dX4_buyGain_7 : decode cX4_buyGain 7 = .ok (.istore_n 3, 1) := by decide +kernel
theorem dX4_buyGain_8 : decode cX4_buyGain 8 = .ok (.iload_n 3, 1) := by decide +kernel
theorem dX4_buyGain_9 : decode cX4_buyGain 9 = .ok (.aload_n 0, 1) := by decide +kernel
theorem dX4_buyGain_10 : decode cX4_buyGain 10 = .ok (.getfield 7, 3) := by decide +kernel
theorem dX4_buyGain_13 : decode cX4_buyGain 13 = .ok (.bipush 7, 2) := by decide +kernel
theorem dX4_buyGain_15 : decode cX4_buyGain 15 = .ok (.iaload, 1) := by decide +kernel
theorem dX4_buyGain_16 : decode cX4_buyGain 16 = .ok (.if_icmp .lt 33, 3) := by decide +kernel
theorem dX4_buyGain_19 : decode cX4_buyGain 19 = .ok (.iload_n 3, 1) := by decide +kernel
theorem dX4_buyGain_20 : decode cX4_buyGain 20 = .ok (.aload_n 0, 1) := by decide +kernel
theorem dX4_buyGain_21 : decode cX4_buyGain 21 = .ok (.iload_n 1, 1) := by decide +kernel
theorem dX4_buyGain_22 : decode cX4_buyGain 22 = .ok (.iconst 4, 1) := by decide +kernel
theorem dX4_buyGain_23 : decode cX4_buyGain 23 = .ok (.invokevirtual 71, 3) := by decide +kernel
theorem dX4_buyGain_26 : decode cX4_buyGain 26 = .ok (.isub, 1) := by decide +kernel
theorem dX4_buyGain_27 : decode cX4_buyGain 27 = .ok (.invokestatic 231, 3) := by decide +kernel
theorem dX4_buyGain_30 : decode cX4_buyGain 30 = .ok (.aload_n 0, 1) := by decide +kernel
theorem dX4_buyGain_31 : decode cX4_buyGain 31 = .ok (.iload_n 1, 1) := by decide +kernel
theorem dX4_buyGain_32 : decode cX4_buyGain 32 = .ok (.iconst 5, 1) := by decide +kernel
theorem dX4_buyGain_33 : decode cX4_buyGain 33 = .ok (.invokevirtual 71, 3) := by decide +kernel
theorem dX4_buyGain_36 : decode cX4_buyGain 36 = .ok (.if_icmp .gt 13, 3) := by decide +kernel
theorem dX4_buyGain_39 : decode cX4_buyGain 39 = .ok (.aload_n 0, 1) := by decide +kernel
theorem dX4_buyGain_40 : decode cX4_buyGain 40 = .ok (.iload_n 1, 1) := by decide +kernel
theorem dX4_buyGain_41 : decode cX4_buyGain 41 = .ok (.iload_n 3, 1) := by decide +kernel
theorem dX4_buyGain_42 : decode cX4_buyGain 42 = .ok (.iload_n 2, 1) := by decide +kernel
theorem dX4_buyGain_43 : decode cX4_buyGain 43 = .ok (.invokevirtual 267, 3) := by decide +kernel
theorem dX4_buyGain_46 : decode cX4_buyGain 46 = .ok (.ifCond .ne 5, 3) := by decide +kernel
theorem dX4_buyGain_49 : decode cX4_buyGain 49 = .ok (.iconst 0, 1) := by decide +kernel
theorem dX4_buyGain_50 : decode cX4_buyGain 50 = .ok (.ireturn, 1) := by decide +kernel
theorem dX4_buyGain_51 : decode cX4_buyGain 51 = .ok (.aload_n 0, 1) := by decide +kernel
theorem dX4_buyGain_52 : decode cX4_buyGain 52 = .ok (.iload_n 1, 1) := by decide +kernel
theorem dX4_buyGain_53 : decode cX4_buyGain 53 = .ok (.iload_n 3, 1) := by decide +kernel
theorem dX4_buyGain_54 : decode cX4_buyGain 54 = .ok (.invokevirtual 239, 3) := by decide +kernel
theorem dX4_buyGain_57 : decode cX4_buyGain 57 = .ok (.istore 4, 2) := by decide +kernel
theorem dX4_buyGain_59 : decode cX4_buyGain 59 = .ok (.aload_n 0, 1) := by decide +kernel
theorem dX4_buyGain_60 : decode cX4_buyGain 60 = .ok (.iload_n 1, 1) := by decide +kernel
theorem dX4_buyGain_61 : decode cX4_buyGain 61 = .ok (.iload_n 2, 1) := by decide +kernel
theorem dX4_buyGain_62 : decode cX4_buyGain 62 = .ok (.invokevirtual 311, 3) := by decide +kernel
theorem dX4_buyGain_65 : decode cX4_buyGain 65 = .ok (.istore 5, 2) := by decide +kernel
theorem dX4_buyGain_67 : decode cX4_buyGain 67 = .ok (.iload 5, 2) := by decide +kernel
theorem dX4_buyGain_69 : decode cX4_buyGain 69 = .ok (.aload_n 0, 1) := by decide +kernel
theorem dX4_buyGain_70 : decode cX4_buyGain 70 = .ok (.iload_n 2, 1) := by decide +kernel
theorem dX4_buyGain_71 : decode cX4_buyGain 71 = .ok (.invokevirtual 242, 3) := by decide +kernel
theorem dX4_buyGain_74 : decode cX4_buyGain 74 = .ok (.if_icmp .le 30, 3) := by decide +kernel
theorem dX4_buyGain_77 : decode cX4_buyGain 77 = .ok (.iload 5, 2) := by decide +kernel
theorem dX4_buyGain_79 : decode cX4_buyGain 79 = .ok (.iload 4, 2) := by decide +kernel
theorem dX4_buyGain_81 : decode cX4_buyGain 81 = .ok (.if_icmp .ge 23, 3) := by decide +kernel
theorem dX4_buyGain_84 : decode cX4_buyGain 84 = .ok (.aload_n 0, 1) := by decide +kernel
theorem dX4_buyGain_85 : decode cX4_buyGain 85 = .ok (.aload_n 0, 1) := by decide +kernel
theorem dX4_buyGain_86 : decode cX4_buyGain 86 = .ok (.iload_n 1, 1) := by decide +kernel
theorem dX4_buyGain_87 : decode cX4_buyGain 87 = .ok (.iconst 0, 1) := by decide +kernel
theorem dX4_buyGain_88 : decode cX4_buyGain 88 = .ok (.invokevirtual 71, 3) := by decide +kernel
theorem dX4_buyGain_91 : decode cX4_buyGain 91 = .ok (.iconst 0, 1) := by decide +kernel
theorem dX4_buyGain_92 : decode cX4_buyGain 92 = .ok (.invokevirtual 228, 3) := by decide +kernel
theorem dX4_buyGain_95 : decode cX4_buyGain 95 = .ok (.iload 5, 2) := by decide +kernel
theorem dX4_buyGain_97 : decode cX4_buyGain 97 = .ok (.if_icmp .lt 7, 3) := by decide +kernel
theorem dX4_buyGain_100 : decode cX4_buyGain 100 = .ok (.iconst 1, 1) := by decide +kernel
theorem dX4_buyGain_101 : decode cX4_buyGain 101 = .ok (.goto 4, 3) := by decide +kernel
theorem dX4_buyGain_104 : decode cX4_buyGain 104 = .ok (.iconst 0, 1) := by decide +kernel
theorem dX4_buyGain_105 : decode cX4_buyGain 105 = .ok (.istore 6, 2) := by decide +kernel
theorem dX4_buyGain_107 : decode cX4_buyGain 107 = .ok (.iload 6, 2) := by decide +kernel
theorem dX4_buyGain_109 : decode cX4_buyGain 109 = .ok (.ifCond .eq 14, 3) := by decide +kernel
theorem dX4_buyGain_112 : decode cX4_buyGain 112 = .ok (.iload 4, 2) := by decide +kernel
theorem dX4_buyGain_114 : decode cX4_buyGain 114 = .ok (.aload_n 0, 1) := by decide +kernel
theorem dX4_buyGain_115 : decode cX4_buyGain 115 = .ok (.iload_n 2, 1) := by decide +kernel
theorem dX4_buyGain_116 : decode cX4_buyGain 116 = .ok (.invokevirtual 242, 3) := by decide +kernel
theorem dX4_buyGain_119 : decode cX4_buyGain 119 = .ok (.isub, 1) := by decide +kernel
theorem dX4_buyGain_120 : decode cX4_buyGain 120 = .ok (.goto 4, 3) := by decide +kernel
theorem dX4_buyGain_123 : decode cX4_buyGain 123 = .ok (.iconst 0, 1) := by decide +kernel
theorem dX4_buyGain_124 : decode cX4_buyGain 124 = .ok (.ireturn, 1) := by decide +kernel
def w_X4_buyGain_49  (Q : Int32 → V3 → Prop) (v : V3) : Prop := Q 0 v
def w_X4_buyGain_124  (Q : Int32 → V3 → Prop) (s0 : Int32) (v : V3) : Prop := Q s0 v
def w_X4_buyGain_105  (Q : Int32 → V3 → Prop) (x2 : Int32) (x4 : Int32) (s0 : Int32) (v : V3) : Prop := ((s0 = 0 → w_X4_buyGain_124 Q 0 v) ∧ (¬ s0 = 0 → w_X4_joyNow x2 v (fun r21 v20 => w_X4_buyGain_124 Q (x4 - r21) v20)))
def w_X4_buyGain_104  (Q : Int32 → V3 → Prop) (x2 : Int32) (x4 : Int32) (v : V3) : Prop := w_X4_buyGain_105 Q x2 x4 0 v
def w_X4_buyGain (a1 : Int32) (a2 : Int32) (v : V3) (Q : Int32 → V3 → Prop) : Prop := w_X4_of a2 8 v (fun r2 v1 => ((r2 < (v1 8 7) → w_X4_buyGain_49 Q v1) ∧ (¬ r2 < (v1 8 7) → w_X4_of a1 4 v1 (fun r5 v4 => w_X4_of a1 5 v4 (fun r7 v6 => ((r7 < (zabs (r2 - r5)) → w_X4_buyGain_49 Q v6) ∧ (¬ r7 < (zabs (r2 - r5)) → w_X4_fitsAt a1 r2 a2 v6 (fun r10 v9 => ((¬ r10 = 0 → w_X4_joyOf a1 r2 v9 (fun r13 v12 => w_X4_priceOf a1 a2 v12 (fun r15 v14 => w_X4_joyNow a2 v14 (fun r17 v16 => ((r15 ≤ r17 → w_X4_buyGain_104 Q a2 r13 v16) ∧ (¬ r15 ≤ r17 → ((r13 ≤ r15 → w_X4_buyGain_104 Q a2 r13 v16) ∧ (¬ r13 ≤ r15 → w_X4_of a1 0 v16 (fun r24 v23 => w_X4_ofOwner r24 0 v23 (fun r26 v25 => ((r26 < r15 → w_X4_buyGain_104 Q a2 r13 v25) ∧ (¬ r26 < r15 → w_X4_buyGain_105 Q a2 r13 1 v25)))))))))))) ∧ (r10 = 0 → w_X4_buyGain_49 Q v9))))))))))
set_option maxRecDepth 100000 in
set_option maxHeartbeats 4000000 in
theorem b_X4_buyGain_49 {p : Program} (l : Launch) {e : Env} {s : State} {m : MethodId} {args : Array Value} {below : List Frame} {meth : Method} {c : Code} {G : zG}   (C0 : Cx G RX4 cX4_buyGain 7 (some .int) p s m args meth c) {Q : Int32 → V3 → Prop} : ∀ (v : V3) (H : Heap) (locs : List Loc) (ls : Array Slot), w_X4_buyGain_49 Q v → Zs G s v H locs → lv_has ls 7 [] → W p l e { frames := 4, cells := 0, slots := 0, locals := 94 } s m args below meth c H locs 0 0 (MQ below (QiZ G Q) args s 0 0 (zA G)) (F0 m 49 ls []) := by
  have hx := C0.1
  have hb := C0.2.1
  intro v H locs ls hw Z hl
  rw [w_X4_buyGain_49] at hw
  refine lv_iconst (v := 0) hx hb dX4_buyGain_49 (by decide) ?_
  exact z_iret C0 Z hw dX4_buyGain_50
set_option maxRecDepth 100000 in
set_option maxHeartbeats 4000000 in
theorem b_X4_buyGain_124 {p : Program} (l : Launch) {e : Env} {s : State} {m : MethodId} {args : Array Value} {below : List Frame} {meth : Method} {c : Code} {G : zG}   (C0 : Cx G RX4 cX4_buyGain 7 (some .int) p s m args meth c) {Q : Int32 → V3 → Prop} : ∀ (s0 : Int32) (v : V3) (H : Heap) (locs : List Loc) (ls : Array Slot), w_X4_buyGain_124 Q s0 v → Zs G s v H locs → lv_has ls 7 [] → W p l e { frames := 4, cells := 0, slots := 0, locals := 94 } s m args below meth c H locs 0 0 (MQ below (QiZ G Q) args s 0 0 (zA G)) (F0 m 124 ls [.int s0]) := by
  have hx := C0.1
  have hb := C0.2.1
  intro s0 v H locs ls hw Z hl
  rw [w_X4_buyGain_124] at hw
  exact z_iret C0 Z hw dX4_buyGain_124
set_option maxRecDepth 100000 in
set_option maxHeartbeats 4000000 in
theorem b_X4_buyGain_105 {p : Program} (l : Launch) {e : Env} {s : State} {m : MethodId} {args : Array Value} {below : List Frame} {meth : Method} {c : Code} {G : zG}   (C0 : Cx G RX4 cX4_buyGain 7 (some .int) p s m args meth c) {Q : Int32 → V3 → Prop} : ∀ (x2 : Int32) (x4 : Int32) (s0 : Int32) (v : V3) (H : Heap) (locs : List Loc) (ls : Array Slot), w_X4_buyGain_105 Q x2 x4 s0 v → Zs G s v H locs → lv_has ls 7 [(0, .ref (gad G 7)), (2, .int x2), (4, .int x4)] → W p l e { frames := 4, cells := 0, slots := 0, locals := 94 } s m args below meth c H locs 0 0 (MQ below (QiZ G Q) args s 0 0 (zA G)) (F0 m 105 ls [.int s0]) := by
  have hx := C0.1
  have hb := C0.2.1
  intro x2 x4 s0 v H locs ls hw Z hl
  rw [w_X4_buyGain_105] at hw
  refine lv_istore (lv' := [(6, .int s0), (0, .ref (gad G 7)), (2, .int x2), (4, .int x4)]) hx hb dX4_buyGain_105 hl (by decide) rfl (fun ls hl => ?_)
  refine lv_iload hx hb dX4_buyGain_107 (lv_at hl 0 rfl) ?_
  refine lv_if_eq (tgt := 123) hx hb dX4_buyGain_109 (by decide) (fun c19 => ?_) (fun c19 => ?_)
  · replace hw := hw.1 c19
    refine lv_iconst (v := 0) hx hb dX4_buyGain_123 (by decide) ?_
    exact b_X4_buyGain_124 l C0 _ _ _ _ _ hw Z (lv_sub hl [] rfl)
  · replace hw := hw.2 c19
    refine lv_iload hx hb dX4_buyGain_112 (lv_at hl 3 rfl) ?_
    refine lv_aload_n hx hb dX4_buyGain_114 rfl (lv_at hl 1 rfl) ?_
    refine lv_iload_n hx hb dX4_buyGain_115 rfl (lv_at hl 2 rfl) ?_
    refine z_callVi C0 Z hl.1 (As := [.int x2]) (rest := [.int x4]) (k_X4_joyNow l (cx_g C0) hw) (gv_X4_joyNow tm_6_34) rfl ds_X4_joyNow ⟨Nat.le_of_ble_eq_true rfl, Nat.le_of_ble_eq_true rfl⟩ (ci := 4) rfl (cx_lt C0 (by decide)) rfl rfl rfl (Nat.le_of_ble_eq_true rfl) ⟨Nat.le_of_ble_eq_true rfl, Nat.le_of_ble_eq_true rfl⟩ dX4_buyGain_116 (fun r21 v20 H locs hw Z => ?_)
    refine lv_isub hx hb dX4_buyGain_119 ?_
    refine lv_goto (tgt := 124) hx hb dX4_buyGain_120 (by decide) ?_
    exact b_X4_buyGain_124 l C0 _ _ _ _ _ hw Z (lv_sub hl [] rfl)
set_option maxRecDepth 100000 in
set_option maxHeartbeats 4000000 in
theorem b_X4_buyGain_104 {p : Program} (l : Launch) {e : Env} {s : State} {m : MethodId} {args : Array Value} {below : List Frame} {meth : Method} {c : Code} {G : zG}   (C0 : Cx G RX4 cX4_buyGain 7 (some .int) p s m args meth c) {Q : Int32 → V3 → Prop} : ∀ (x2 : Int32) (x4 : Int32) (v : V3) (H : Heap) (locs : List Loc) (ls : Array Slot), w_X4_buyGain_104 Q x2 x4 v → Zs G s v H locs → lv_has ls 7 [(0, .ref (gad G 7)), (2, .int x2), (4, .int x4)] → W p l e { frames := 4, cells := 0, slots := 0, locals := 94 } s m args below meth c H locs 0 0 (MQ below (QiZ G Q) args s 0 0 (zA G)) (F0 m 104 ls []) := by
  have hx := C0.1
  have hb := C0.2.1
  intro x2 x4 v H locs ls hw Z hl
  rw [w_X4_buyGain_104] at hw
  refine lv_iconst (v := 0) hx hb dX4_buyGain_104 (by decide) ?_
  exact b_X4_buyGain_105 l C0 _ _ _ _ _ _ _ hw Z (lv_sub hl [0, 1, 2] rfl)
set_option maxRecDepth 100000 in
set_option maxHeartbeats 4000000 in
theorem k_X4_buyGain (l : Launch) {G : zG} (hg : 129 ≤ gn G) {a1 : Int32} {a2 : Int32}  {v : V3} {Q : Int32 → V3 → Prop} (hw : w_X4_buyGain a1 a2 v Q) : Mz l yX4_buyGain cX4_buyGain 7 (some .int) 4 94 G [.ref (gad G 7), .int a1, .int a2] v (QiZ G Q) := by
  rw [w_X4_buyGain] at hw
  refine z_ofW hg (by decide) (Nat.le_of_ble_eq_true rfl) ?_
  intro p e s m args below meth c ls C0 Z hl
  have hx := C0.1
  have hb := C0.2.1
  replace hl : lv_has ls 7 [(0, .ref (gad G 7)), (1, .int a1), (2, .int a2)] := hl
  generalize s.heap = H at Z ⊢
  generalize ([] : List Loc) = locs at Z ⊢
  refine lv_aload_n hx hb dX4_buyGain_0 rfl (lv_at hl 0 rfl) ?_
  refine lv_iload_n hx hb dX4_buyGain_1 rfl (lv_at hl 2 rfl) ?_
  refine lv_bipush (v := 8) hx hb dX4_buyGain_2 (by decide) ?_
  refine z_callVi C0 Z hl.1 (As := [.int a2, .int 8]) (rest := []) (k_X4_of l (cx_g C0) hw) (gv_X4_of tm_5_163) rfl ds_X4_of ⟨Nat.le_of_ble_eq_true rfl, Nat.le_of_ble_eq_true rfl⟩ (ci := 4) rfl (cx_lt C0 (by decide)) rfl rfl rfl (Nat.le_of_ble_eq_true rfl) ⟨Nat.le_of_ble_eq_true rfl, Nat.le_of_ble_eq_true rfl⟩ dX4_buyGain_4 (fun r2 v1 H locs hw Z => ?_)
  refine lv_istore_n (lv' := [(3, .int r2), (0, .ref (gad G 7)), (1, .int a1), (2, .int a2)]) hx hb dX4_buyGain_7 rfl hl (by decide) rfl (fun ls hl => ?_)
  refine lv_iload_n hx hb dX4_buyGain_8 rfl (lv_at hl 0 rfl) ?_
  refine lv_aload_n hx hb dX4_buyGain_9 rfl (lv_at hl 1 rfl) ?_
  refine z_get C0 Z in_X4 rfl 0 (by decide) rfl tm_4_203 (cx_lt C0 (by decide)) rfl rfl dX4_buyGain_10 ?_
  refine lv_bipush (v := 7) hx hb dX4_buyGain_13 (by decide) ?_
  refine z_ialdk C0 Z (cx_lt C0 (by decide)) rfl in_7_474 nc_7 dX4_buyGain_15 ?_
  refine lv_icmp_lt (tgt := 49) hx hb dX4_buyGain_16 (by decide) (fun c3 => ?_) (fun c3 => ?_)
  · replace hw := hw.1 c3
    exact b_X4_buyGain_49 l C0 _ _ _ _ hw Z (lv_sub hl [] rfl)
  · replace hw := hw.2 c3
    refine lv_iload_n hx hb dX4_buyGain_19 rfl (lv_at hl 0 rfl) ?_
    refine lv_aload_n hx hb dX4_buyGain_20 rfl (lv_at hl 1 rfl) ?_
    refine lv_iload_n hx hb dX4_buyGain_21 rfl (lv_at hl 2 rfl) ?_
    refine lv_iconst (v := 4) hx hb dX4_buyGain_22 (by decide) ?_
    refine z_callVi C0 Z hl.1 (As := [.int a1, .int 4]) (rest := [.int r2]) (k_X4_of l (cx_g C0) hw) (gv_X4_of tm_5_163) rfl ds_X4_of ⟨Nat.le_of_ble_eq_true rfl, Nat.le_of_ble_eq_true rfl⟩ (ci := 4) rfl (cx_lt C0 (by decide)) rfl rfl rfl (Nat.le_of_ble_eq_true rfl) ⟨Nat.le_of_ble_eq_true rfl, Nat.le_of_ble_eq_true rfl⟩ dX4_buyGain_23 (fun r5 v4 H locs hw Z => ?_)
    refine lv_isub hx hb dX4_buyGain_26 ?_
    refine z_abs C0 hl.1 tm_6_42 (Nat.le_of_ble_eq_true rfl) (Nat.le_of_ble_eq_true rfl) (Nat.le_of_ble_eq_true rfl) (Nat.le_of_ble_eq_true rfl) dX4_buyGain_27 ?_
    refine lv_aload_n hx hb dX4_buyGain_30 rfl (lv_at hl 1 rfl) ?_
    refine lv_iload_n hx hb dX4_buyGain_31 rfl (lv_at hl 2 rfl) ?_
    refine lv_iconst (v := 5) hx hb dX4_buyGain_32 (by decide) ?_
    refine z_callVi C0 Z hl.1 (As := [.int a1, .int 5]) (rest := [.int (zabs (r2 - r5))]) (k_X4_of l (cx_g C0) hw) (gv_X4_of tm_5_163) rfl ds_X4_of ⟨Nat.le_of_ble_eq_true rfl, Nat.le_of_ble_eq_true rfl⟩ (ci := 4) rfl (cx_lt C0 (by decide)) rfl rfl rfl (Nat.le_of_ble_eq_true rfl) ⟨Nat.le_of_ble_eq_true rfl, Nat.le_of_ble_eq_true rfl⟩ dX4_buyGain_33 (fun r7 v6 H locs hw Z => ?_)
    refine lv_icmp_gt (tgt := 49) hx hb dX4_buyGain_36 (by decide) (fun c8 => ?_) (fun c8 => ?_)
    · replace hw := hw.1 c8
      exact b_X4_buyGain_49 l C0 _ _ _ _ hw Z (lv_sub hl [] rfl)
    · replace hw := hw.2 c8
      refine lv_aload_n hx hb dX4_buyGain_39 rfl (lv_at hl 1 rfl) ?_
      refine lv_iload_n hx hb dX4_buyGain_40 rfl (lv_at hl 2 rfl) ?_
      refine lv_iload_n hx hb dX4_buyGain_41 rfl (lv_at hl 0 rfl) ?_
      refine lv_iload_n hx hb dX4_buyGain_42 rfl (lv_at hl 3 rfl) ?_
      refine z_callVi C0 Z hl.1 (As := [.int a1, .int r2, .int a2]) (rest := []) (k_X4_fitsAt l (cx_g C0) hw) (gv_X4_fitsAt tm_5_194) rfl ds_X4_fitsAt ⟨Nat.le_of_ble_eq_true rfl, Nat.le_of_ble_eq_true rfl⟩ (ci := 4) rfl (cx_lt C0 (by decide)) rfl rfl rfl (Nat.le_of_ble_eq_true rfl) ⟨Nat.le_of_ble_eq_true rfl, Nat.le_of_ble_eq_true rfl⟩ dX4_buyGain_43 (fun r10 v9 H locs hw Z => ?_)
      refine lv_if_ne (tgt := 51) hx hb dX4_buyGain_46 (by decide) (fun c11 => ?_) (fun c11 => ?_)
      · replace hw := hw.1 c11
        refine lv_aload_n hx hb dX4_buyGain_51 rfl (lv_at hl 1 rfl) ?_
        refine lv_iload_n hx hb dX4_buyGain_52 rfl (lv_at hl 2 rfl) ?_
        refine lv_iload_n hx hb dX4_buyGain_53 rfl (lv_at hl 0 rfl) ?_
        refine z_callVi C0 Z hl.1 (As := [.int a1, .int r2]) (rest := []) (k_X4_joyOf l (cx_g C0) hw) (gv_X4_joyOf tm_6_38) rfl ds_X4_joyOf ⟨Nat.le_of_ble_eq_true rfl, Nat.le_of_ble_eq_true rfl⟩ (ci := 4) rfl (cx_lt C0 (by decide)) rfl rfl rfl (Nat.le_of_ble_eq_true rfl) ⟨Nat.le_of_ble_eq_true rfl, Nat.le_of_ble_eq_true rfl⟩ dX4_buyGain_54 (fun r13 v12 H locs hw Z => ?_)
        refine lv_istore (lv' := [(4, .int r13), (3, .int r2), (0, .ref (gad G 7)), (1, .int a1), (2, .int a2)]) hx hb dX4_buyGain_57 hl (by decide) rfl (fun ls hl => ?_)
        refine lv_aload_n hx hb dX4_buyGain_59 rfl (lv_at hl 2 rfl) ?_
        refine lv_iload_n hx hb dX4_buyGain_60 rfl (lv_at hl 3 rfl) ?_
        refine lv_iload_n hx hb dX4_buyGain_61 rfl (lv_at hl 4 rfl) ?_
        refine z_callVi C0 Z hl.1 (As := [.int a1, .int a2]) (rest := []) (k_X4_priceOf l (cx_g C0) hw) (gv_X4_priceOf tm_6_151) rfl ds_X4_priceOf ⟨Nat.le_of_ble_eq_true rfl, Nat.le_of_ble_eq_true rfl⟩ (ci := 4) rfl (cx_lt C0 (by decide)) rfl rfl rfl (Nat.le_of_ble_eq_true rfl) ⟨Nat.le_of_ble_eq_true rfl, Nat.le_of_ble_eq_true rfl⟩ dX4_buyGain_62 (fun r15 v14 H locs hw Z => ?_)
        refine lv_istore (lv' := [(5, .int r15), (4, .int r13), (3, .int r2), (0, .ref (gad G 7)), (1, .int a1), (2, .int a2)]) hx hb dX4_buyGain_65 hl (by decide) rfl (fun ls hl => ?_)
        refine lv_iload hx hb dX4_buyGain_67 (lv_at hl 0 rfl) ?_
        refine lv_aload_n hx hb dX4_buyGain_69 rfl (lv_at hl 3 rfl) ?_
        refine lv_iload_n hx hb dX4_buyGain_70 rfl (lv_at hl 5 rfl) ?_
        refine z_callVi C0 Z hl.1 (As := [.int a2]) (rest := [.int r15]) (k_X4_joyNow l (cx_g C0) hw) (gv_X4_joyNow tm_6_34) rfl ds_X4_joyNow ⟨Nat.le_of_ble_eq_true rfl, Nat.le_of_ble_eq_true rfl⟩ (ci := 4) rfl (cx_lt C0 (by decide)) rfl rfl rfl (Nat.le_of_ble_eq_true rfl) ⟨Nat.le_of_ble_eq_true rfl, Nat.le_of_ble_eq_true rfl⟩ dX4_buyGain_71 (fun r17 v16 H locs hw Z => ?_)
        refine lv_icmp_le (tgt := 104) hx hb dX4_buyGain_74 (by decide) (fun c18 => ?_) (fun c18 => ?_)
        · replace hw := hw.1 c18
          exact b_X4_buyGain_104 l C0 _ _ _ _ _ _ hw Z (lv_sub hl [3, 5, 1] rfl)
        · replace hw := hw.2 c18
          refine lv_iload hx hb dX4_buyGain_77 (lv_at hl 0 rfl) ?_
          refine lv_iload hx hb dX4_buyGain_79 (lv_at hl 1 rfl) ?_
          refine lv_icmp_ge (tgt := 104) hx hb dX4_buyGain_81 (by decide) (fun c22 => ?_) (fun c22 => ?_)
          · replace hw := hw.1 c22
            exact b_X4_buyGain_104 l C0 _ _ _ _ _ _ hw Z (lv_sub hl [3, 5, 1] rfl)
          · replace hw := hw.2 c22
            refine lv_aload_n hx hb dX4_buyGain_84 rfl (lv_at hl 3 rfl) ?_
            refine lv_aload_n hx hb dX4_buyGain_85 rfl (lv_at hl 3 rfl) ?_
            refine lv_iload_n hx hb dX4_buyGain_86 rfl (lv_at hl 4 rfl) ?_
            refine lv_iconst (v := 0) hx hb dX4_buyGain_87 (by decide) ?_
            refine z_callVi C0 Z hl.1 (As := [.int a1, .int 0]) (rest := [.ref (gad G 7)]) (k_X4_of l (cx_g C0) hw) (gv_X4_of tm_5_163) rfl ds_X4_of ⟨Nat.le_of_ble_eq_true rfl, Nat.le_of_ble_eq_true rfl⟩ (ci := 4) rfl (cx_lt C0 (by decide)) rfl rfl rfl (Nat.le_of_ble_eq_true rfl) ⟨Nat.le_of_ble_eq_true rfl, Nat.le_of_ble_eq_true rfl⟩ dX4_buyGain_88 (fun r24 v23 H locs hw Z => ?_)
            refine lv_iconst (v := 0) hx hb dX4_buyGain_91 (by decide) ?_
            refine z_callVi C0 Z hl.1 (As := [.int r24, .int 0]) (rest := []) (k_X4_ofOwner l (cx_g C0) hw) (gv_X4_ofOwner tm_6_26) rfl ds_X4_ofOwner ⟨Nat.le_of_ble_eq_true rfl, Nat.le_of_ble_eq_true rfl⟩ (ci := 4) rfl (cx_lt C0 (by decide)) rfl rfl rfl (Nat.le_of_ble_eq_true rfl) ⟨Nat.le_of_ble_eq_true rfl, Nat.le_of_ble_eq_true rfl⟩ dX4_buyGain_92 (fun r26 v25 H locs hw Z => ?_)
            refine lv_iload hx hb dX4_buyGain_95 (lv_at hl 0 rfl) ?_
            refine lv_icmp_lt (tgt := 104) hx hb dX4_buyGain_97 (by decide) (fun c27 => ?_) (fun c27 => ?_)
            · replace hw := hw.1 c27
              exact b_X4_buyGain_104 l C0 _ _ _ _ _ _ hw Z (lv_sub hl [3, 5, 1] rfl)
            · replace hw := hw.2 c27
              refine lv_iconst (v := 1) hx hb dX4_buyGain_100 (by decide) ?_
              refine lv_goto (tgt := 105) hx hb dX4_buyGain_101 (by decide) ?_
              exact b_X4_buyGain_105 l C0 _ _ _ _ _ _ _ hw Z (lv_sub hl [3, 5, 1] rfl)
      · replace hw := hw.2 c11
        exact b_X4_buyGain_49 l C0 _ _ _ _ hw Z (lv_sub hl [] rfl)
-- X4_gainOf: room (5, 120)
theorem dX4_gainOf_0 : decode cX4_gainOf 0 = .ok (.iload_n 1, 1) := by decide +kernel
theorem dX4_gainOf_1 : decode cX4_gainOf 1 = .ok (.iload_n 2, 1) := by decide +kernel
theorem dX4_gainOf_2 : decode cX4_gainOf 2 = .ok (.if_icmp .eq 14, 3) := by decide +kernel
theorem dX4_gainOf_5 : decode cX4_gainOf 5 = .ok (.aload_n 0, 1) := by decide +kernel
theorem dX4_gainOf_6 : decode cX4_gainOf 6 = .ok (.iload_n 2, 1) := by decide +kernel
theorem dX4_gainOf_7 : decode cX4_gainOf 7 = .ok (.bipush 7, 2) := by decide +kernel
theorem dX4_gainOf_9 : decode cX4_gainOf 9 = .ok (.invokevirtual 71, 3) := by decide +kernel
theorem dX4_gainOf_12 : decode cX4_gainOf 12 = .ok (.iconst 1, 1) := by decide +kernel
theorem dX4_gainOf_13 : decode cX4_gainOf 13 = .ok (.if_icmp .eq 5, 3) := by decide +kernel
theorem dX4_gainOf_16 : decode cX4_gainOf 16 = .ok (.iconst 0, 1) := by decide +kernel
theorem dX4_gainOf_17 : decode cX4_gainOf 17 = .ok (.ireturn, 1) := by decide +kernel
theorem dX4_gainOf_18 : decode cX4_gainOf 18 = .ok (.aload_n 0, 1) := by decide +kernel
theorem dX4_gainOf_19 : decode cX4_gainOf 19 = .ok (.iload_n 1, 1) := by decide +kernel
theorem dX4_gainOf_20 : decode cX4_gainOf 20 = .ok (.bipush 7, 2) := by decide +kernel
theorem dX4_gainOf_22 : decode cX4_gainOf 22 = .ok (.invokevirtual 71, 3) := by decide +kernel
theorem dX4_gainOf_25 : decode cX4_gainOf 25 = .ok (.iconst 1, 1) := by decide +kernel
theorem dX4_gainOf_26 : decode cX4_gainOf 26 = .ok (.if_icmp .ne 12, 3) := by decide +kernel
theorem dX4_gainOf_29 : decode cX4_gainOf 29 = .ok (.aload_n 0, 1) := by decide +kernel
theorem dX4_gainOf_30 : decode cX4_gainOf 30 = .ok (.iload_n 1, 1) := by decide +kernel
theorem dX4_gainOf_31 : decode cX4_gainOf 31 = .ok (.iload_n 2, 1) := by decide +kernel
theorem dX4_gainOf_32 : decode cX4_gainOf 32 = .ok (.invokevirtual 314, 3) := by decide +kernel
theorem dX4_gainOf_35 : decode cX4_gainOf 35 = .ok (.goto 23, 3) := by decide +kernel
theorem dX4_gainOf_38 : decode cX4_gainOf 38 = .ok (.aload_n 0, 1) := by decide +kernel
theorem dX4_gainOf_39 : decode cX4_gainOf 39 = .ok (.iload_n 1, 1) := by decide +kernel
theorem dX4_gainOf_40 : decode cX4_gainOf 40 = .ok (.bipush 7, 2) := by decide +kernel
theorem dX4_gainOf_42 : decode cX4_gainOf 42 = .ok (.invokevirtual 71, 3) := by decide +kernel
theorem dX4_gainOf_45 : decode cX4_gainOf 45 = .ok (.ifCond .ne 12, 3) := by decide +kernel
theorem dX4_gainOf_48 : decode cX4_gainOf 48 = .ok (.aload_n 0, 1) := by decide +kernel
theorem dX4_gainOf_49 : decode cX4_gainOf 49 = .ok (.iload_n 1, 1) := by decide +kernel
theorem dX4_gainOf_50 : decode cX4_gainOf 50 = .ok (.iload_n 2, 1) := by decide +kernel
theorem dX4_gainOf_51 : decode cX4_gainOf 51 = .ok (.invokevirtual 317, 3) := by decide +kernel
theorem dX4_gainOf_54 : decode cX4_gainOf 54 = .ok (.goto 4, 3) := by decide +kernel
theorem dX4_gainOf_57 : decode cX4_gainOf 57 = .ok (.iconst 0, 1) := by decide +kernel
theorem dX4_gainOf_58 : decode cX4_gainOf 58 = .ok (.ireturn, 1) := by decide +kernel
def w_X4_gainOf_16  (Q : Int32 → V3 → Prop) (v : V3) : Prop := Q 0 v
def w_X4_gainOf_58  (Q : Int32 → V3 → Prop) (s0 : Int32) (v : V3) : Prop := Q s0 v
def w_X4_gainOf (a1 : Int32) (a2 : Int32) (v : V3) (Q : Int32 → V3 → Prop) : Prop := ((a1 = a2 → w_X4_gainOf_16 Q v) ∧ (¬ a1 = a2 → w_X4_of a2 7 v (fun r3 v2 => ((r3 = 1 → w_X4_of a1 7 v2 (fun r6 v5 => ((¬ r6 = 1 → w_X4_of a1 7 v5 (fun r9 v8 => ((¬ r9 = 0 → w_X4_gainOf_58 Q 0 v8) ∧ (r9 = 0 → w_X4_buyGain a1 a2 v8 (fun r12 v11 => w_X4_gainOf_58 Q r12 v11))))) ∧ (r6 = 1 → w_X4_swapGain a1 a2 v5 (fun r14 v13 => w_X4_gainOf_58 Q r14 v13))))) ∧ (¬ r3 = 1 → w_X4_gainOf_16 Q v2)))))
set_option maxRecDepth 100000 in
set_option maxHeartbeats 4000000 in
theorem b_X4_gainOf_16 {p : Program} (l : Launch) {e : Env} {s : State} {m : MethodId} {args : Array Value} {below : List Frame} {meth : Method} {c : Code} {G : zG}   (C0 : Cx G RX4 cX4_gainOf 3 (some .int) p s m args meth c) {Q : Int32 → V3 → Prop} : ∀ (v : V3) (H : Heap) (locs : List Loc) (ls : Array Slot), w_X4_gainOf_16 Q v → Zs G s v H locs → lv_has ls 3 [] → W p l e { frames := 5, cells := 0, slots := 0, locals := 120 } s m args below meth c H locs 0 0 (MQ below (QiZ G Q) args s 0 0 (zA G)) (F0 m 16 ls []) := by
  have hx := C0.1
  have hb := C0.2.1
  intro v H locs ls hw Z hl
  rw [w_X4_gainOf_16] at hw
  refine lv_iconst (v := 0) hx hb dX4_gainOf_16 (by decide) ?_
  exact z_iret C0 Z hw dX4_gainOf_17
set_option maxRecDepth 100000 in
set_option maxHeartbeats 4000000 in
theorem b_X4_gainOf_58 {p : Program} (l : Launch) {e : Env} {s : State} {m : MethodId} {args : Array Value} {below : List Frame} {meth : Method} {c : Code} {G : zG}   (C0 : Cx G RX4 cX4_gainOf 3 (some .int) p s m args meth c) {Q : Int32 → V3 → Prop} : ∀ (s0 : Int32) (v : V3) (H : Heap) (locs : List Loc) (ls : Array Slot), w_X4_gainOf_58 Q s0 v → Zs G s v H locs → lv_has ls 3 [] → W p l e { frames := 5, cells := 0, slots := 0, locals := 120 } s m args below meth c H locs 0 0 (MQ below (QiZ G Q) args s 0 0 (zA G)) (F0 m 58 ls [.int s0]) := by
  have hx := C0.1
  have hb := C0.2.1
  intro s0 v H locs ls hw Z hl
  rw [w_X4_gainOf_58] at hw
  exact z_iret C0 Z hw dX4_gainOf_58
set_option maxRecDepth 100000 in
set_option maxHeartbeats 4000000 in
theorem k_X4_gainOf (l : Launch) {G : zG} (hg : 129 ≤ gn G) {a1 : Int32} {a2 : Int32}  {v : V3} {Q : Int32 → V3 → Prop} (hw : w_X4_gainOf a1 a2 v Q) : Mz l yX4_gainOf cX4_gainOf 3 (some .int) 5 120 G [.ref (gad G 7), .int a1, .int a2] v (QiZ G Q) := by
  rw [w_X4_gainOf] at hw
  refine z_ofW hg (by decide) (Nat.le_of_ble_eq_true rfl) ?_
  intro p e s m args below meth c ls C0 Z hl
  have hx := C0.1
  have hb := C0.2.1
  replace hl : lv_has ls 3 [(0, .ref (gad G 7)), (1, .int a1), (2, .int a2)] := hl
  generalize s.heap = H at Z ⊢
  generalize ([] : List Loc) = locs at Z ⊢
  refine lv_iload_n hx hb dX4_gainOf_0 rfl (lv_at hl 1 rfl) ?_
  refine lv_iload_n hx hb dX4_gainOf_1 rfl (lv_at hl 2 rfl) ?_
  refine lv_icmp_eq (tgt := 16) hx hb dX4_gainOf_2 (by decide) (fun c1 => ?_) (fun c1 => ?_)
  · replace hw := hw.1 c1
    exact b_X4_gainOf_16 l C0 _ _ _ _ hw Z (lv_sub hl [] rfl)
  · replace hw := hw.2 c1
    refine lv_aload_n hx hb dX4_gainOf_5 rfl (lv_at hl 0 rfl) ?_
    refine lv_iload_n hx hb dX4_gainOf_6 rfl (lv_at hl 2 rfl) ?_
    refine lv_bipush (v := 7) hx hb dX4_gainOf_7 (by decide) ?_
    refine z_callVi C0 Z hl.1 (As := [.int a2, .int 7]) (rest := []) (k_X4_of l (cx_g C0) hw) (gv_X4_of tm_5_163) rfl ds_X4_of ⟨Nat.le_of_ble_eq_true rfl, Nat.le_of_ble_eq_true rfl⟩ (ci := 4) rfl (cx_lt C0 (by decide)) rfl rfl rfl (Nat.le_of_ble_eq_true rfl) ⟨Nat.le_of_ble_eq_true rfl, Nat.le_of_ble_eq_true rfl⟩ dX4_gainOf_9 (fun r3 v2 H locs hw Z => ?_)
    refine lv_iconst (v := 1) hx hb dX4_gainOf_12 (by decide) ?_
    refine lv_icmp_eq (tgt := 18) hx hb dX4_gainOf_13 (by decide) (fun c4 => ?_) (fun c4 => ?_)
    · replace hw := hw.1 c4
      refine lv_aload_n hx hb dX4_gainOf_18 rfl (lv_at hl 0 rfl) ?_
      refine lv_iload_n hx hb dX4_gainOf_19 rfl (lv_at hl 1 rfl) ?_
      refine lv_bipush (v := 7) hx hb dX4_gainOf_20 (by decide) ?_
      refine z_callVi C0 Z hl.1 (As := [.int a1, .int 7]) (rest := []) (k_X4_of l (cx_g C0) hw) (gv_X4_of tm_5_163) rfl ds_X4_of ⟨Nat.le_of_ble_eq_true rfl, Nat.le_of_ble_eq_true rfl⟩ (ci := 4) rfl (cx_lt C0 (by decide)) rfl rfl rfl (Nat.le_of_ble_eq_true rfl) ⟨Nat.le_of_ble_eq_true rfl, Nat.le_of_ble_eq_true rfl⟩ dX4_gainOf_22 (fun r6 v5 H locs hw Z => ?_)
      refine lv_iconst (v := 1) hx hb dX4_gainOf_25 (by decide) ?_
      refine lv_icmp_ne (tgt := 38) hx hb dX4_gainOf_26 (by decide) (fun c7 => ?_) (fun c7 => ?_)
      · replace hw := hw.1 c7
        refine lv_aload_n hx hb dX4_gainOf_38 rfl (lv_at hl 0 rfl) ?_
        refine lv_iload_n hx hb dX4_gainOf_39 rfl (lv_at hl 1 rfl) ?_
        refine lv_bipush (v := 7) hx hb dX4_gainOf_40 (by decide) ?_
        refine z_callVi C0 Z hl.1 (As := [.int a1, .int 7]) (rest := []) (k_X4_of l (cx_g C0) hw) (gv_X4_of tm_5_163) rfl ds_X4_of ⟨Nat.le_of_ble_eq_true rfl, Nat.le_of_ble_eq_true rfl⟩ (ci := 4) rfl (cx_lt C0 (by decide)) rfl rfl rfl (Nat.le_of_ble_eq_true rfl) ⟨Nat.le_of_ble_eq_true rfl, Nat.le_of_ble_eq_true rfl⟩ dX4_gainOf_42 (fun r9 v8 H locs hw Z => ?_)
        refine lv_if_ne (tgt := 57) hx hb dX4_gainOf_45 (by decide) (fun c10 => ?_) (fun c10 => ?_)
        · replace hw := hw.1 c10
          refine lv_iconst (v := 0) hx hb dX4_gainOf_57 (by decide) ?_
          exact b_X4_gainOf_58 l C0 _ _ _ _ _ hw Z (lv_sub hl [] rfl)
        · replace hw := hw.2 c10
          refine lv_aload_n hx hb dX4_gainOf_48 rfl (lv_at hl 0 rfl) ?_
          refine lv_iload_n hx hb dX4_gainOf_49 rfl (lv_at hl 1 rfl) ?_
          refine lv_iload_n hx hb dX4_gainOf_50 rfl (lv_at hl 2 rfl) ?_
          refine z_callVi C0 Z hl.1 (As := [.int a1, .int a2]) (rest := []) (k_X4_buyGain l (cx_g C0) hw) (gv_X4_buyGain tm_6_147) rfl ds_X4_buyGain ⟨Nat.le_of_ble_eq_true rfl, Nat.le_of_ble_eq_true rfl⟩ (ci := 4) rfl (cx_lt C0 (by decide)) rfl rfl rfl (Nat.le_of_ble_eq_true rfl) ⟨Nat.le_of_ble_eq_true rfl, Nat.le_of_ble_eq_true rfl⟩ dX4_gainOf_51 (fun r12 v11 H locs hw Z => ?_)
          refine lv_goto (tgt := 58) hx hb dX4_gainOf_54 (by decide) ?_
          exact b_X4_gainOf_58 l C0 _ _ _ _ _ hw Z (lv_sub hl [] rfl)
      · replace hw := hw.2 c7
        refine lv_aload_n hx hb dX4_gainOf_29 rfl (lv_at hl 0 rfl) ?_
        refine lv_iload_n hx hb dX4_gainOf_30 rfl (lv_at hl 1 rfl) ?_
        refine lv_iload_n hx hb dX4_gainOf_31 rfl (lv_at hl 2 rfl) ?_
        refine z_callVi C0 Z hl.1 (As := [.int a1, .int a2]) (rest := []) (k_X4_swapGain l (cx_g C0) hw) (gv_X4_swapGain tm_6_127) rfl ds_X4_swapGain ⟨Nat.le_of_ble_eq_true rfl, Nat.le_of_ble_eq_true rfl⟩ (ci := 4) rfl (cx_lt C0 (by decide)) rfl rfl rfl (Nat.le_of_ble_eq_true rfl) ⟨Nat.le_of_ble_eq_true rfl, Nat.le_of_ble_eq_true rfl⟩ dX4_gainOf_32 (fun r14 v13 H locs hw Z => ?_)
        refine lv_goto (tgt := 58) hx hb dX4_gainOf_35 (by decide) ?_
        exact b_X4_gainOf_58 l C0 _ _ _ _ _ hw Z (lv_sub hl [] rfl)
    · replace hw := hw.2 c4
      exact b_X4_gainOf_16 l C0 _ _ _ _ hw Z (lv_sub hl [] rfl)
-- X4_countBargain: room (1, 23)
theorem dX4_countBargain_0 : decode cX4_countBargain 0 = .ok (.aload_n 0, 1) := by decide +kernel
theorem dX4_countBargain_1 : decode cX4_countBargain 1 = .ok (.aload_n 0, 1) := by decide +kernel
theorem dX4_countBargain_2 : decode cX4_countBargain 2 = .ok (.iload_n 1, 1) := by decide +kernel
theorem dX4_countBargain_3 : decode cX4_countBargain 3 = .ok (.iconst 0, 1) := by decide +kernel
theorem dX4_countBargain_4 : decode cX4_countBargain 4 = .ok (.invokevirtual 71, 3) := by decide +kernel
theorem dX4_countBargain_7 : decode cX4_countBargain 7 = .ok (.bipush 7, 2) := by decide +kernel
theorem dX4_countBargain_9 : decode cX4_countBargain 9 = .ok (.iconst 1, 1) := by decide +kernel
theorem dX4_countBargain_10 : decode cX4_countBargain 10 = .ok (.invokevirtual 254, 3) := by decide +kernel
theorem dX4_countBargain_13 : decode cX4_countBargain 13 = .ok (.aload_n 0, 1) := by decide +kernel
theorem dX4_countBargain_14 : decode cX4_countBargain 14 = .ok (.aload_n 0, 1) := by decide +kernel
theorem dX4_countBargain_15 : decode cX4_countBargain 15 = .ok (.iload_n 2, 1) := by decide +kernel
theorem dX4_countBargain_16 : decode cX4_countBargain 16 = .ok (.iconst 0, 1) := by decide +kernel
theorem dX4_countBargain_17 : decode cX4_countBargain 17 = .ok (.invokevirtual 71, 3) := by decide +kernel
theorem dX4_countBargain_20 : decode cX4_countBargain 20 = .ok (.bipush 7, 2) := by decide +kernel
theorem dX4_countBargain_22 : decode cX4_countBargain 22 = .ok (.iconst 1, 1) := by decide +kernel
theorem dX4_countBargain_23 : decode cX4_countBargain 23 = .ok (.invokevirtual 254, 3) := by decide +kernel
theorem dX4_countBargain_26 : decode cX4_countBargain 26 = .ok (.return_, 1) := by decide +kernel
def w_X4_countBargain (a1 : Int32) (a2 : Int32) (v : V3) (Q : V3 → Prop) : Prop := w_X4_of a1 0 v (fun r2 v1 => w_X4_grow r2 7 1 v1 (fun v3 => w_X4_of a2 0 v3 (fun r5 v4 => w_X4_grow r5 7 1 v4 (fun v6 => Q v6))))
set_option maxRecDepth 100000 in
set_option maxHeartbeats 4000000 in
theorem k_X4_countBargain (l : Launch) {G : zG} (hg : 129 ≤ gn G) {a1 : Int32} {a2 : Int32}  {v : V3} {Q : V3 → Prop} (hw : w_X4_countBargain a1 a2 v Q) : Mz l yX4_countBargain cX4_countBargain 3 none 1 23 G [.ref (gad G 7), .int a1, .int a2] v (QvZ G Q) := by
  rw [w_X4_countBargain] at hw
  refine z_ofW hg (by decide) (Nat.le_of_ble_eq_true rfl) ?_
  intro p e s m args below meth c ls C0 Z hl
  have hx := C0.1
  have hb := C0.2.1
  replace hl : lv_has ls 3 [(0, .ref (gad G 7)), (1, .int a1), (2, .int a2)] := hl
  generalize s.heap = H at Z ⊢
  generalize ([] : List Loc) = locs at Z ⊢
  refine lv_aload_n hx hb dX4_countBargain_0 rfl (lv_at hl 0 rfl) ?_
  refine lv_aload_n hx hb dX4_countBargain_1 rfl (lv_at hl 0 rfl) ?_
  refine lv_iload_n hx hb dX4_countBargain_2 rfl (lv_at hl 1 rfl) ?_
  refine lv_iconst (v := 0) hx hb dX4_countBargain_3 (by decide) ?_
  refine z_callVi C0 Z hl.1 (As := [.int a1, .int 0]) (rest := [.ref (gad G 7)]) (k_X4_of l (cx_g C0) hw) (gv_X4_of tm_5_163) rfl ds_X4_of ⟨Nat.le_of_ble_eq_true rfl, Nat.le_of_ble_eq_true rfl⟩ (ci := 4) rfl (cx_lt C0 (by decide)) rfl rfl rfl (Nat.le_of_ble_eq_true rfl) ⟨Nat.le_of_ble_eq_true rfl, Nat.le_of_ble_eq_true rfl⟩ dX4_countBargain_4 (fun r2 v1 H locs hw Z => ?_)
  refine lv_bipush (v := 7) hx hb dX4_countBargain_7 (by decide) ?_
  refine lv_iconst (v := 1) hx hb dX4_countBargain_9 (by decide) ?_
  refine z_callVv C0 Z hl.1 (As := [.int r2, .int 7, .int 1]) (rest := []) (k_X4_grow l (cx_g C0) hw) (gv_X4_grow tm_6_52) rfl ds_X4_grow ⟨Nat.le_of_ble_eq_true rfl, Nat.le_of_ble_eq_true rfl⟩ (ci := 4) rfl (cx_lt C0 (by decide)) rfl rfl rfl (Nat.le_of_ble_eq_true rfl) ⟨Nat.le_of_ble_eq_true rfl, Nat.le_of_ble_eq_true rfl⟩ dX4_countBargain_10 (fun v3 H locs hw Z => ?_)
  refine lv_aload_n hx hb dX4_countBargain_13 rfl (lv_at hl 0 rfl) ?_
  refine lv_aload_n hx hb dX4_countBargain_14 rfl (lv_at hl 0 rfl) ?_
  refine lv_iload_n hx hb dX4_countBargain_15 rfl (lv_at hl 2 rfl) ?_
  refine lv_iconst (v := 0) hx hb dX4_countBargain_16 (by decide) ?_
  refine z_callVi C0 Z hl.1 (As := [.int a2, .int 0]) (rest := [.ref (gad G 7)]) (k_X4_of l (cx_g C0) hw) (gv_X4_of tm_5_163) rfl ds_X4_of ⟨Nat.le_of_ble_eq_true rfl, Nat.le_of_ble_eq_true rfl⟩ (ci := 4) rfl (cx_lt C0 (by decide)) rfl rfl rfl (Nat.le_of_ble_eq_true rfl) ⟨Nat.le_of_ble_eq_true rfl, Nat.le_of_ble_eq_true rfl⟩ dX4_countBargain_17 (fun r5 v4 H locs hw Z => ?_)
  refine lv_bipush (v := 7) hx hb dX4_countBargain_20 (by decide) ?_
  refine lv_iconst (v := 1) hx hb dX4_countBargain_22 (by decide) ?_
  refine z_callVv C0 Z hl.1 (As := [.int r5, .int 7, .int 1]) (rest := []) (k_X4_grow l (cx_g C0) hw) (gv_X4_grow tm_6_52) rfl ds_X4_grow ⟨Nat.le_of_ble_eq_true rfl, Nat.le_of_ble_eq_true rfl⟩ (ci := 4) rfl (cx_lt C0 (by decide)) rfl rfl rfl (Nat.le_of_ble_eq_true rfl) ⟨Nat.le_of_ble_eq_true rfl, Nat.le_of_ble_eq_true rfl⟩ dX4_countBargain_23 (fun v6 H locs hw Z => ?_)
  exact z_vret C0 Z hw dX4_countBargain_26
-- X4_exchange: room (1, 23)
theorem dX4_exchange_0 : decode cX4_exchange 0 = .ok (.aload_n 0, 1) := by decide +kernel
theorem dX4_exchange_1 : decode cX4_exchange 1 = .ok (.iload_n 1, 1) := by decide +kernel
theorem dX4_exchange_2 : decode cX4_exchange 2 = .ok (.iload_n 3, 1) := by decide +kernel
theorem dX4_exchange_3 : decode cX4_exchange 3 = .ok (.invokevirtual 71, 3) := by decide +kernel
theorem dX4_exchange_6 : decode cX4_exchange 6 = .ok (.istore 4, 2) := by decide +kernel
theorem dX4_exchange_8 : decode cX4_exchange 8 = .ok (.aload_n 0, 1) := by decide +kernel
theorem dX4_exchange_9 : decode cX4_exchange 9 = .ok (.iload_n 1, 1) := by decide +kernel
theorem dX4_exchange_10 : decode cX4_exchange 10 = .ok (.iload_n 3, 1) := by decide +kernel
theorem dX4_exchange_11 : decode cX4_exchange 11 = .ok (.aload_n 0, 1) := by decide +kernel
theorem dX4_exchange_12 : decode cX4_exchange 12 = .ok (.iload_n 2, 1) := by decide +kernel
theorem dX4_exchange_13 : decode cX4_exchange 13 = .ok (.iload_n 3, 1) := by decide +kernel
theorem dX4_exchange_14 : decode cX4_exchange 14 = .ok (.invokevirtual 71, 3) := by decide +kernel
theorem dX4_exchange_17 : decode cX4_exchange 17 = .ok (.invokevirtual 271, 3) := by decide +kernel
theorem dX4_exchange_20 : decode cX4_exchange 20 = .ok (.aload_n 0, 1) := by decide +kernel
theorem dX4_exchange_21 : decode cX4_exchange 21 = .ok (.iload_n 2, 1) := by decide +kernel
theorem dX4_exchange_22 : decode cX4_exchange 22 = .ok (.iload_n 3, 1) := by decide +kernel
theorem dX4_exchange_23 : decode cX4_exchange 23 = .ok (.iload 4, 2) := by decide +kernel
theorem dX4_exchange_25 : decode cX4_exchange 25 = .ok (.invokevirtual 271, 3) := by decide +kernel
theorem dX4_exchange_28 : decode cX4_exchange 28 = .ok (.return_, 1) := by decide +kernel
def w_X4_exchange (a1 : Int32) (a2 : Int32) (a3 : Int32) (v : V3) (Q : V3 → Prop) : Prop := w_X4_of a1 a3 v (fun r2 v1 => w_X4_of a2 a3 v1 (fun r4 v3 => w_X4_put a1 a3 r4 v3 (fun v5 => w_X4_put a2 a3 r2 v5 (fun v6 => Q v6))))
set_option maxRecDepth 100000 in
set_option maxHeartbeats 4000000 in
theorem k_X4_exchange (l : Launch) {G : zG} (hg : 129 ≤ gn G) {a1 : Int32} {a2 : Int32} {a3 : Int32}  {v : V3} {Q : V3 → Prop} (hw : w_X4_exchange a1 a2 a3 v Q) : Mz l yX4_exchange cX4_exchange 5 none 1 23 G [.ref (gad G 7), .int a1, .int a2, .int a3] v (QvZ G Q) := by
  rw [w_X4_exchange] at hw
  refine z_ofW hg (by decide) (Nat.le_of_ble_eq_true rfl) ?_
  intro p e s m args below meth c ls C0 Z hl
  have hx := C0.1
  have hb := C0.2.1
  replace hl : lv_has ls 5 [(0, .ref (gad G 7)), (1, .int a1), (2, .int a2), (3, .int a3)] := hl
  generalize s.heap = H at Z ⊢
  generalize ([] : List Loc) = locs at Z ⊢
  refine lv_aload_n hx hb dX4_exchange_0 rfl (lv_at hl 0 rfl) ?_
  refine lv_iload_n hx hb dX4_exchange_1 rfl (lv_at hl 1 rfl) ?_
  refine lv_iload_n hx hb dX4_exchange_2 rfl (lv_at hl 3 rfl) ?_
  refine z_callVi C0 Z hl.1 (As := [.int a1, .int a3]) (rest := []) (k_X4_of l (cx_g C0) hw) (gv_X4_of tm_5_163) rfl ds_X4_of ⟨Nat.le_of_ble_eq_true rfl, Nat.le_of_ble_eq_true rfl⟩ (ci := 4) rfl (cx_lt C0 (by decide)) rfl rfl rfl (Nat.le_of_ble_eq_true rfl) ⟨Nat.le_of_ble_eq_true rfl, Nat.le_of_ble_eq_true rfl⟩ dX4_exchange_3 (fun r2 v1 H locs hw Z => ?_)
  refine lv_istore (lv' := [(4, .int r2), (0, .ref (gad G 7)), (1, .int a1), (2, .int a2), (3, .int a3)]) hx hb dX4_exchange_6 hl (by decide) rfl (fun ls hl => ?_)
  refine lv_aload_n hx hb dX4_exchange_8 rfl (lv_at hl 1 rfl) ?_
  refine lv_iload_n hx hb dX4_exchange_9 rfl (lv_at hl 2 rfl) ?_
  refine lv_iload_n hx hb dX4_exchange_10 rfl (lv_at hl 4 rfl) ?_
  refine lv_aload_n hx hb dX4_exchange_11 rfl (lv_at hl 1 rfl) ?_
  refine lv_iload_n hx hb dX4_exchange_12 rfl (lv_at hl 3 rfl) ?_
  refine lv_iload_n hx hb dX4_exchange_13 rfl (lv_at hl 4 rfl) ?_
  refine z_callVi C0 Z hl.1 (As := [.int a2, .int a3]) (rest := [.int a3, .int a1, .ref (gad G 7)]) (k_X4_of l (cx_g C0) hw) (gv_X4_of tm_5_163) rfl ds_X4_of ⟨Nat.le_of_ble_eq_true rfl, Nat.le_of_ble_eq_true rfl⟩ (ci := 4) rfl (cx_lt C0 (by decide)) rfl rfl rfl (Nat.le_of_ble_eq_true rfl) ⟨Nat.le_of_ble_eq_true rfl, Nat.le_of_ble_eq_true rfl⟩ dX4_exchange_14 (fun r4 v3 H locs hw Z => ?_)
  refine z_callVv C0 Z hl.1 (As := [.int a1, .int a3, .int r4]) (rest := []) (k_X4_put l (cx_g C0) hw) (gv_X4_put tm_5_178) rfl ds_X4_put ⟨Nat.le_of_ble_eq_true rfl, Nat.le_of_ble_eq_true rfl⟩ (ci := 4) rfl (cx_lt C0 (by decide)) rfl rfl rfl (Nat.le_of_ble_eq_true rfl) ⟨Nat.le_of_ble_eq_true rfl, Nat.le_of_ble_eq_true rfl⟩ dX4_exchange_17 (fun v5 H locs hw Z => ?_)
  refine lv_aload_n hx hb dX4_exchange_20 rfl (lv_at hl 1 rfl) ?_
  refine lv_iload_n hx hb dX4_exchange_21 rfl (lv_at hl 3 rfl) ?_
  refine lv_iload_n hx hb dX4_exchange_22 rfl (lv_at hl 4 rfl) ?_
  refine lv_iload hx hb dX4_exchange_23 (lv_at hl 0 rfl) ?_
  refine z_callVv C0 Z hl.1 (As := [.int a2, .int a3, .int r2]) (rest := []) (k_X4_put l (cx_g C0) hw) (gv_X4_put tm_5_178) rfl ds_X4_put ⟨Nat.le_of_ble_eq_true rfl, Nat.le_of_ble_eq_true rfl⟩ (ci := 4) rfl (cx_lt C0 (by decide)) rfl rfl rfl (Nat.le_of_ble_eq_true rfl) ⟨Nat.le_of_ble_eq_true rfl, Nat.le_of_ble_eq_true rfl⟩ dX4_exchange_25 (fun v6 H locs hw Z => ?_)
  exact z_vret C0 Z hw dX4_exchange_28
-- X4_makeSwap: room (2, 47)
theorem dX4_makeSwap_0 : decode cX4_makeSwap 0 = .ok (.aload_n 0, 1) := by decide +kernel
theorem dX4_makeSwap_1 : decode cX4_makeSwap 1 = .ok (.iload_n 1, 1) := by decide +kernel
theorem dX4_makeSwap_2 : decode cX4_makeSwap 2 = .ok (.iload_n 2, 1) := by decide +kernel
theorem dX4_makeSwap_3 : decode cX4_makeSwap 3 = .ok (.bipush 8, 2) := by decide +kernel
theorem dX4_makeSwap_5 : decode cX4_makeSwap 5 = .ok (.invokevirtual 320, 3) := by decide +kernel
theorem dX4_makeSwap_8 : decode cX4_makeSwap 8 = .ok (.aload_n 0, 1) := by decide +kernel
theorem dX4_makeSwap_9 : decode cX4_makeSwap 9 = .ok (.iload_n 1, 1) := by decide +kernel
theorem dX4_makeSwap_10 : decode cX4_makeSwap 10 = .ok (.iload_n 2, 1) := by decide +kernel
theorem dX4_makeSwap_11 : decode cX4_makeSwap 11 = .ok (.bipush 9, 2) := by decide +kernel
theorem dX4_makeSwap_13 : decode cX4_makeSwap 13 = .ok (.invokevirtual 320, 3) := by decide +kernel
theorem dX4_makeSwap_16 : decode cX4_makeSwap 16 = .ok (.aload_n 0, 1) := by decide +kernel
theorem dX4_makeSwap_17 : decode cX4_makeSwap 17 = .ok (.iload_n 1, 1) := by decide +kernel
theorem dX4_makeSwap_18 : decode cX4_makeSwap 18 = .ok (.iload_n 2, 1) := by decide +kernel
theorem dX4_makeSwap_19 : decode cX4_makeSwap 19 = .ok (.invokevirtual 323, 3) := by decide +kernel
theorem dX4_makeSwap_22 : decode cX4_makeSwap 22 = .ok (.aload_n 0, 1) := by decide +kernel
theorem dX4_makeSwap_23 : decode cX4_makeSwap 23 = .ok (.getfield 7, 3) := by decide +kernel
theorem dX4_makeSwap_26 : decode cX4_makeSwap 26 = .ok (.bipush 8, 2) := by decide +kernel
theorem dX4_makeSwap_28 : decode cX4_makeSwap 28 = .ok (.dup2, 1) := by decide +kernel
theorem dX4_makeSwap_29 : decode cX4_makeSwap 29 = .ok (.iaload, 1) := by decide +kernel
theorem dX4_makeSwap_30 : decode cX4_makeSwap 30 = .ok (.iconst 1, 1) := by decide +kernel
theorem dX4_makeSwap_31 : decode cX4_makeSwap 31 = .ok (.iadd, 1) := by decide +kernel
theorem dX4_makeSwap_32 : decode cX4_makeSwap 32 = .ok (.iastore, 1) := by decide +kernel
theorem dX4_makeSwap_33 : decode cX4_makeSwap 33 = .ok (.return_, 1) := by decide +kernel
def w_X4_makeSwap (a1 : Int32) (a2 : Int32) (v : V3) (Q : V3 → Prop) : Prop := w_X4_exchange a1 a2 8 v (fun v1 => w_X4_exchange a1 a2 9 v1 (fun v2 => w_X4_countBargain a1 a2 v2 (fun v3 => ∀ v4 : V3, v4 = up2 v3 8 8 ((v3 8 8) + 1) → Q v4)))
set_option maxRecDepth 100000 in
set_option maxHeartbeats 4000000 in
theorem k_X4_makeSwap (l : Launch) {G : zG} (hg : 129 ≤ gn G) {a1 : Int32} {a2 : Int32}  {v : V3} {Q : V3 → Prop} (hw : w_X4_makeSwap a1 a2 v Q) : Mz l yX4_makeSwap cX4_makeSwap 3 none 2 47 G [.ref (gad G 7), .int a1, .int a2] v (QvZ G Q) := by
  rw [w_X4_makeSwap] at hw
  refine z_ofW hg (by decide) (Nat.le_of_ble_eq_true rfl) ?_
  intro p e s m args below meth c ls C0 Z hl
  have hx := C0.1
  have hb := C0.2.1
  replace hl : lv_has ls 3 [(0, .ref (gad G 7)), (1, .int a1), (2, .int a2)] := hl
  generalize s.heap = H at Z ⊢
  generalize ([] : List Loc) = locs at Z ⊢
  refine lv_aload_n hx hb dX4_makeSwap_0 rfl (lv_at hl 0 rfl) ?_
  refine lv_iload_n hx hb dX4_makeSwap_1 rfl (lv_at hl 1 rfl) ?_
  refine lv_iload_n hx hb dX4_makeSwap_2 rfl (lv_at hl 2 rfl) ?_
  refine lv_bipush (v := 8) hx hb dX4_makeSwap_3 (by decide) ?_
  refine z_callVv C0 Z hl.1 (As := [.int a1, .int a2, .int 8]) (rest := []) (k_X4_exchange l (cx_g C0) hw) (gv_X4_exchange tm_6_135) rfl ds_X4_exchange ⟨Nat.le_of_ble_eq_true rfl, Nat.le_of_ble_eq_true rfl⟩ (ci := 4) rfl (cx_lt C0 (by decide)) rfl rfl rfl (Nat.le_of_ble_eq_true rfl) ⟨Nat.le_of_ble_eq_true rfl, Nat.le_of_ble_eq_true rfl⟩ dX4_makeSwap_5 (fun v1 H locs hw Z => ?_)
  refine lv_aload_n hx hb dX4_makeSwap_8 rfl (lv_at hl 0 rfl) ?_
  refine lv_iload_n hx hb dX4_makeSwap_9 rfl (lv_at hl 1 rfl) ?_
  refine lv_iload_n hx hb dX4_makeSwap_10 rfl (lv_at hl 2 rfl) ?_
  refine lv_bipush (v := 9) hx hb dX4_makeSwap_11 (by decide) ?_
  refine z_callVv C0 Z hl.1 (As := [.int a1, .int a2, .int 9]) (rest := []) (k_X4_exchange l (cx_g C0) hw) (gv_X4_exchange tm_6_135) rfl ds_X4_exchange ⟨Nat.le_of_ble_eq_true rfl, Nat.le_of_ble_eq_true rfl⟩ (ci := 4) rfl (cx_lt C0 (by decide)) rfl rfl rfl (Nat.le_of_ble_eq_true rfl) ⟨Nat.le_of_ble_eq_true rfl, Nat.le_of_ble_eq_true rfl⟩ dX4_makeSwap_13 (fun v2 H locs hw Z => ?_)
  refine lv_aload_n hx hb dX4_makeSwap_16 rfl (lv_at hl 0 rfl) ?_
  refine lv_iload_n hx hb dX4_makeSwap_17 rfl (lv_at hl 1 rfl) ?_
  refine lv_iload_n hx hb dX4_makeSwap_18 rfl (lv_at hl 2 rfl) ?_
  refine z_callVv C0 Z hl.1 (As := [.int a1, .int a2]) (rest := []) (k_X4_countBargain l (cx_g C0) hw) (gv_X4_countBargain tm_6_139) rfl ds_X4_countBargain ⟨Nat.le_of_ble_eq_true rfl, Nat.le_of_ble_eq_true rfl⟩ (ci := 4) rfl (cx_lt C0 (by decide)) rfl rfl rfl (Nat.le_of_ble_eq_true rfl) ⟨Nat.le_of_ble_eq_true rfl, Nat.le_of_ble_eq_true rfl⟩ dX4_makeSwap_19 (fun v3 H locs hw Z => ?_)
  refine lv_aload_n hx hb dX4_makeSwap_22 rfl (lv_at hl 0 rfl) ?_
  refine z_get C0 Z in_X4 rfl 0 (by decide) rfl tm_4_203 (cx_lt C0 (by decide)) rfl rfl dX4_makeSwap_23 ?_
  refine lv_bipush (v := 8) hx hb dX4_makeSwap_26 (by decide) ?_
  refine lv_dup2_11 hx hb dX4_makeSwap_28 rfl rfl ?_
  refine z_ialdk C0 Z (cx_lt C0 (by decide)) rfl in_8_474 nc_8 dX4_makeSwap_29 ?_
  refine lv_iconst (v := 1) hx hb dX4_makeSwap_30 (by decide) ?_
  refine lv_iadd hx hb dX4_makeSwap_31 ?_
  refine z_iastk C0 Z (cx_lt C0 (by decide)) (fun _ => rfl) in_8_474 nc_8 dX4_makeSwap_32 (fun H locs Z => ?_)
  obtain ⟨v4, ev4⟩ : ∃ z : V3, z = up2 v3 8 8 ((v3 8 8) + 1) := ⟨_, rfl⟩
  rw [← ev4] at Z
  replace hw := hw v4 ev4
  exact z_vret C0 Z hw dX4_makeSwap_33
-- X4_makeBuyout: room (4, 89)
theorem dX4_makeBuyout_0 : decode cX4_makeBuyout 0 = .ok (.aload_n 0, 1) := by decide +kernel
theorem dX4_makeBuyout_1 : decode cX4_makeBuyout 1 = .ok (.iload_n 1, 1) := by decide +kernel
theorem dX4_makeBuyout_2 : decode cX4_makeBuyout 2 = .ok (.iload_n 2, 1) := by decide +kernel
theorem dX4_makeBuyout_3 : decode cX4_makeBuyout 3 = .ok (.invokevirtual 311, 3) := by decide +kernel
theorem dX4_makeBuyout_6 : decode cX4_makeBuyout 6 = .ok (.istore_n 3, 1) := by decide +kernel
theorem dX4_makeBuyout_7 : decode cX4_makeBuyout 7 = .ok (.aload_n 0, 1) := by decide +kernel
theorem dX4_makeBuyout_8 : decode cX4_makeBuyout 8 = .ok (.iload_n 2, 1) := by decide +kernel
theorem dX4_makeBuyout_9 : decode cX4_makeBuyout 9 = .ok (.bipush 8, 2) := by decide +kernel
theorem dX4_makeBuyout_11 : decode cX4_makeBuyout 11 = .ok (.invokevirtual 71, 3) := by decide +kernel
theorem dX4_makeBuyout_14 : decode cX4_makeBuyout 14 = .ok (.istore 4, 2) := by decide +kernel
theorem dX4_makeBuyout_16 : decode cX4_makeBuyout 16 = .ok (.aload_n 0, 1) := by decide +kernel
theorem dX4_makeBuyout_17 : decode cX4_makeBuyout 17 = .ok (.iload_n 2, 1) := by decide +kernel
theorem dX4_makeBuyout_18 : decode cX4_makeBuyout 18 = .ok (.invokevirtual 280, 3) := by decide +kernel
theorem dX4_makeBuyout_21 : decode cX4_makeBuyout 21 = .ok (.aload_n 0, 1) := by decide +kernel
theorem dX4_makeBuyout_22 : decode cX4_makeBuyout 22 = .ok (.iload_n 1, 1) := by decide +kernel
theorem dX4_makeBuyout_23 : decode cX4_makeBuyout 23 = .ok (.iload 4, 2) := by decide +kernel
theorem dX4_makeBuyout_25 : decode cX4_makeBuyout 25 = .ok (.invokevirtual 277, 3) := by decide +kernel
theorem dX4_makeBuyout_28 : decode cX4_makeBuyout 28 = .ok (.aload_n 0, 1) := by decide +kernel
theorem dX4_makeBuyout_29 : decode cX4_makeBuyout 29 = .ok (.aload_n 0, 1) := by decide +kernel
theorem dX4_makeBuyout_30 : decode cX4_makeBuyout 30 = .ok (.iload_n 1, 1) := by decide +kernel
theorem dX4_makeBuyout_31 : decode cX4_makeBuyout 31 = .ok (.iconst 0, 1) := by decide +kernel
theorem dX4_makeBuyout_32 : decode cX4_makeBuyout 32 = .ok (.invokevirtual 71, 3) := by decide +kernel
theorem dX4_makeBuyout_35 : decode cX4_makeBuyout 35 = .ok (.iconst 0, 1) := by decide +kernel
theorem dX4_makeBuyout_36 : decode cX4_makeBuyout 36 = .ok (.iload_n 3, 1) := by decide +kernel
theorem dX4_makeBuyout_37 : decode cX4_makeBuyout 37 = .ok (.ineg, 1) := by decide +kernel
theorem dX4_makeBuyout_38 : decode cX4_makeBuyout 38 = .ok (.invokevirtual 254, 3) := by decide +kernel
theorem dX4_makeBuyout_41 : decode cX4_makeBuyout 41 = .ok (.aload_n 0, 1) := by decide +kernel
theorem dX4_makeBuyout_42 : decode cX4_makeBuyout 42 = .ok (.aload_n 0, 1) := by decide +kernel
theorem dX4_makeBuyout_43 : decode cX4_makeBuyout 43 = .ok (.iload_n 2, 1) := by decide +kernel
theorem dX4_makeBuyout_44 : decode cX4_makeBuyout 44 = .ok (.iconst 0, 1) := by decide +kernel
theorem dX4_makeBuyout_45 : decode cX4_makeBuyout 45 = .ok (.invokevirtual 71, 3) := by decide +kernel
theorem dX4_makeBuyout_48 : decode cX4_makeBuyout 48 = .ok (.iconst 0, 1) := by decide +kernel
theorem dX4_makeBuyout_49 : decode cX4_makeBuyout 49 = .ok (.iload_n 3, 1) := by decide +kernel
theorem dX4_makeBuyout_50 : decode cX4_makeBuyout 50 = .ok (.invokevirtual 254, 3) := by decide +kernel
theorem dX4_makeBuyout_53 : decode cX4_makeBuyout 53 = .ok (.aload_n 0, 1) := by decide +kernel
theorem dX4_makeBuyout_54 : decode cX4_makeBuyout 54 = .ok (.iload_n 1, 1) := by decide +kernel
theorem dX4_makeBuyout_55 : decode cX4_makeBuyout 55 = .ok (.iload_n 2, 1) := by decide +kernel
theorem dX4_makeBuyout_56 : decode cX4_makeBuyout 56 = .ok (.invokevirtual 323, 3) := by decide +kernel
theorem dX4_makeBuyout_59 : decode cX4_makeBuyout 59 = .ok (.aload_n 0, 1) := by decide +kernel
theorem dX4_makeBuyout_60 : decode cX4_makeBuyout 60 = .ok (.getfield 7, 3) := by decide +kernel
theorem dX4_makeBuyout_63 : decode cX4_makeBuyout 63 = .ok (.bipush 9, 2) := by decide +kernel
theorem dX4_makeBuyout_65 : decode cX4_makeBuyout 65 = .ok (.dup2, 1) := by decide +kernel
theorem dX4_makeBuyout_66 : decode cX4_makeBuyout 66 = .ok (.iaload, 1) := by decide +kernel
theorem dX4_makeBuyout_67 : decode cX4_makeBuyout 67 = .ok (.iconst 1, 1) := by decide +kernel
theorem dX4_makeBuyout_68 : decode cX4_makeBuyout 68 = .ok (.iadd, 1) := by decide +kernel
theorem dX4_makeBuyout_69 : decode cX4_makeBuyout 69 = .ok (.iastore, 1) := by decide +kernel
theorem dX4_makeBuyout_70 : decode cX4_makeBuyout 70 = .ok (.return_, 1) := by decide +kernel
def w_X4_makeBuyout (a1 : Int32) (a2 : Int32) (v : V3) (Q : V3 → Prop) : Prop := w_X4_priceOf a1 a2 v (fun r2 v1 => w_X4_of a2 8 v1 (fun r4 v3 => w_X4_await a2 v3 (fun v5 => w_X4_settle a1 r4 v5 (fun v6 => w_X4_of a1 0 v6 (fun r8 v7 => w_X4_grow r8 0 (-r2) v7 (fun v9 => w_X4_of a2 0 v9 (fun r11 v10 => w_X4_grow r11 0 r2 v10 (fun v12 => w_X4_countBargain a1 a2 v12 (fun v13 => ∀ v14 : V3, v14 = up2 v13 8 9 ((v13 8 9) + 1) → Q v14)))))))))
set_option maxRecDepth 100000 in
set_option maxHeartbeats 4000000 in
theorem k_X4_makeBuyout (l : Launch) {G : zG} (hg : 129 ≤ gn G) {a1 : Int32} {a2 : Int32}  {v : V3} {Q : V3 → Prop} (hw : w_X4_makeBuyout a1 a2 v Q) : Mz l yX4_makeBuyout cX4_makeBuyout 5 none 4 89 G [.ref (gad G 7), .int a1, .int a2] v (QvZ G Q) := by
  rw [w_X4_makeBuyout] at hw
  refine z_ofW hg (by decide) (Nat.le_of_ble_eq_true rfl) ?_
  intro p e s m args below meth c ls C0 Z hl
  have hx := C0.1
  have hb := C0.2.1
  replace hl : lv_has ls 5 [(0, .ref (gad G 7)), (1, .int a1), (2, .int a2)] := hl
  generalize s.heap = H at Z ⊢
  generalize ([] : List Loc) = locs at Z ⊢
  refine lv_aload_n hx hb dX4_makeBuyout_0 rfl (lv_at hl 0 rfl) ?_
  refine lv_iload_n hx hb dX4_makeBuyout_1 rfl (lv_at hl 1 rfl) ?_
  refine lv_iload_n hx hb dX4_makeBuyout_2 rfl (lv_at hl 2 rfl) ?_
  refine z_callVi C0 Z hl.1 (As := [.int a1, .int a2]) (rest := []) (k_X4_priceOf l (cx_g C0) hw) (gv_X4_priceOf tm_6_151) rfl ds_X4_priceOf ⟨Nat.le_of_ble_eq_true rfl, Nat.le_of_ble_eq_true rfl⟩ (ci := 4) rfl (cx_lt C0 (by decide)) rfl rfl rfl (Nat.le_of_ble_eq_true rfl) ⟨Nat.le_of_ble_eq_true rfl, Nat.le_of_ble_eq_true rfl⟩ dX4_makeBuyout_3 (fun r2 v1 H locs hw Z => ?_)
  refine lv_istore_n (lv' := [(3, .int r2), (0, .ref (gad G 7)), (1, .int a1), (2, .int a2)]) hx hb dX4_makeBuyout_6 rfl hl (by decide) rfl (fun ls hl => ?_)
  refine lv_aload_n hx hb dX4_makeBuyout_7 rfl (lv_at hl 1 rfl) ?_
  refine lv_iload_n hx hb dX4_makeBuyout_8 rfl (lv_at hl 3 rfl) ?_
  refine lv_bipush (v := 8) hx hb dX4_makeBuyout_9 (by decide) ?_
  refine z_callVi C0 Z hl.1 (As := [.int a2, .int 8]) (rest := []) (k_X4_of l (cx_g C0) hw) (gv_X4_of tm_5_163) rfl ds_X4_of ⟨Nat.le_of_ble_eq_true rfl, Nat.le_of_ble_eq_true rfl⟩ (ci := 4) rfl (cx_lt C0 (by decide)) rfl rfl rfl (Nat.le_of_ble_eq_true rfl) ⟨Nat.le_of_ble_eq_true rfl, Nat.le_of_ble_eq_true rfl⟩ dX4_makeBuyout_11 (fun r4 v3 H locs hw Z => ?_)
  refine lv_istore (lv' := [(4, .int r4), (3, .int r2), (0, .ref (gad G 7)), (1, .int a1), (2, .int a2)]) hx hb dX4_makeBuyout_14 hl (by decide) rfl (fun ls hl => ?_)
  refine lv_aload_n hx hb dX4_makeBuyout_16 rfl (lv_at hl 2 rfl) ?_
  refine lv_iload_n hx hb dX4_makeBuyout_17 rfl (lv_at hl 4 rfl) ?_
  refine z_callVv C0 Z hl.1 (As := [.int a2]) (rest := []) (k_X4_await l (cx_g C0) hw) (gv_X4_await tm_5_182) rfl ds_X4_await ⟨Nat.le_of_ble_eq_true rfl, Nat.le_of_ble_eq_true rfl⟩ (ci := 4) rfl (cx_lt C0 (by decide)) rfl rfl rfl (Nat.le_of_ble_eq_true rfl) ⟨Nat.le_of_ble_eq_true rfl, Nat.le_of_ble_eq_true rfl⟩ dX4_makeBuyout_18 (fun v5 H locs hw Z => ?_)
  refine lv_aload_n hx hb dX4_makeBuyout_21 rfl (lv_at hl 2 rfl) ?_
  refine lv_iload_n hx hb dX4_makeBuyout_22 rfl (lv_at hl 3 rfl) ?_
  refine lv_iload hx hb dX4_makeBuyout_23 (lv_at hl 0 rfl) ?_
  refine z_callVv C0 Z hl.1 (As := [.int a1, .int r4]) (rest := []) (k_X4_settle l (cx_g C0) hw) (gv_X4_settle tm_5_206) rfl ds_X4_settle ⟨Nat.le_of_ble_eq_true rfl, Nat.le_of_ble_eq_true rfl⟩ (ci := 4) rfl (cx_lt C0 (by decide)) rfl rfl rfl (Nat.le_of_ble_eq_true rfl) ⟨Nat.le_of_ble_eq_true rfl, Nat.le_of_ble_eq_true rfl⟩ dX4_makeBuyout_25 (fun v6 H locs hw Z => ?_)
  refine lv_aload_n hx hb dX4_makeBuyout_28 rfl (lv_at hl 2 rfl) ?_
  refine lv_aload_n hx hb dX4_makeBuyout_29 rfl (lv_at hl 2 rfl) ?_
  refine lv_iload_n hx hb dX4_makeBuyout_30 rfl (lv_at hl 3 rfl) ?_
  refine lv_iconst (v := 0) hx hb dX4_makeBuyout_31 (by decide) ?_
  refine z_callVi C0 Z hl.1 (As := [.int a1, .int 0]) (rest := [.ref (gad G 7)]) (k_X4_of l (cx_g C0) hw) (gv_X4_of tm_5_163) rfl ds_X4_of ⟨Nat.le_of_ble_eq_true rfl, Nat.le_of_ble_eq_true rfl⟩ (ci := 4) rfl (cx_lt C0 (by decide)) rfl rfl rfl (Nat.le_of_ble_eq_true rfl) ⟨Nat.le_of_ble_eq_true rfl, Nat.le_of_ble_eq_true rfl⟩ dX4_makeBuyout_32 (fun r8 v7 H locs hw Z => ?_)
  refine lv_iconst (v := 0) hx hb dX4_makeBuyout_35 (by decide) ?_
  refine lv_iload_n hx hb dX4_makeBuyout_36 rfl (lv_at hl 1 rfl) ?_
  refine lv_ineg hx hb dX4_makeBuyout_37 ?_
  refine z_callVv C0 Z hl.1 (As := [.int r8, .int 0, .int (-r2)]) (rest := []) (k_X4_grow l (cx_g C0) hw) (gv_X4_grow tm_6_52) rfl ds_X4_grow ⟨Nat.le_of_ble_eq_true rfl, Nat.le_of_ble_eq_true rfl⟩ (ci := 4) rfl (cx_lt C0 (by decide)) rfl rfl rfl (Nat.le_of_ble_eq_true rfl) ⟨Nat.le_of_ble_eq_true rfl, Nat.le_of_ble_eq_true rfl⟩ dX4_makeBuyout_38 (fun v9 H locs hw Z => ?_)
  refine lv_aload_n hx hb dX4_makeBuyout_41 rfl (lv_at hl 2 rfl) ?_
  refine lv_aload_n hx hb dX4_makeBuyout_42 rfl (lv_at hl 2 rfl) ?_
  refine lv_iload_n hx hb dX4_makeBuyout_43 rfl (lv_at hl 4 rfl) ?_
  refine lv_iconst (v := 0) hx hb dX4_makeBuyout_44 (by decide) ?_
  refine z_callVi C0 Z hl.1 (As := [.int a2, .int 0]) (rest := [.ref (gad G 7)]) (k_X4_of l (cx_g C0) hw) (gv_X4_of tm_5_163) rfl ds_X4_of ⟨Nat.le_of_ble_eq_true rfl, Nat.le_of_ble_eq_true rfl⟩ (ci := 4) rfl (cx_lt C0 (by decide)) rfl rfl rfl (Nat.le_of_ble_eq_true rfl) ⟨Nat.le_of_ble_eq_true rfl, Nat.le_of_ble_eq_true rfl⟩ dX4_makeBuyout_45 (fun r11 v10 H locs hw Z => ?_)
  refine lv_iconst (v := 0) hx hb dX4_makeBuyout_48 (by decide) ?_
  refine lv_iload_n hx hb dX4_makeBuyout_49 rfl (lv_at hl 1 rfl) ?_
  refine z_callVv C0 Z hl.1 (As := [.int r11, .int 0, .int r2]) (rest := []) (k_X4_grow l (cx_g C0) hw) (gv_X4_grow tm_6_52) rfl ds_X4_grow ⟨Nat.le_of_ble_eq_true rfl, Nat.le_of_ble_eq_true rfl⟩ (ci := 4) rfl (cx_lt C0 (by decide)) rfl rfl rfl (Nat.le_of_ble_eq_true rfl) ⟨Nat.le_of_ble_eq_true rfl, Nat.le_of_ble_eq_true rfl⟩ dX4_makeBuyout_50 (fun v12 H locs hw Z => ?_)
  refine lv_aload_n hx hb dX4_makeBuyout_53 rfl (lv_at hl 2 rfl) ?_
  refine lv_iload_n hx hb dX4_makeBuyout_54 rfl (lv_at hl 3 rfl) ?_
  refine lv_iload_n hx hb dX4_makeBuyout_55 rfl (lv_at hl 4 rfl) ?_
  refine z_callVv C0 Z hl.1 (As := [.int a1, .int a2]) (rest := []) (k_X4_countBargain l (cx_g C0) hw) (gv_X4_countBargain tm_6_139) rfl ds_X4_countBargain ⟨Nat.le_of_ble_eq_true rfl, Nat.le_of_ble_eq_true rfl⟩ (ci := 4) rfl (cx_lt C0 (by decide)) rfl rfl rfl (Nat.le_of_ble_eq_true rfl) ⟨Nat.le_of_ble_eq_true rfl, Nat.le_of_ble_eq_true rfl⟩ dX4_makeBuyout_56 (fun v13 H locs hw Z => ?_)
  refine lv_aload_n hx hb dX4_makeBuyout_59 rfl (lv_at hl 2 rfl) ?_
  refine z_get C0 Z in_X4 rfl 0 (by decide) rfl tm_4_203 (cx_lt C0 (by decide)) rfl rfl dX4_makeBuyout_60 ?_
  refine lv_bipush (v := 9) hx hb dX4_makeBuyout_63 (by decide) ?_
  refine lv_dup2_11 hx hb dX4_makeBuyout_65 rfl rfl ?_
  refine z_ialdk C0 Z (cx_lt C0 (by decide)) rfl in_9_474 nc_9 dX4_makeBuyout_66 ?_
  refine lv_iconst (v := 1) hx hb dX4_makeBuyout_67 (by decide) ?_
  refine lv_iadd hx hb dX4_makeBuyout_68 ?_
  refine z_iastk C0 Z (cx_lt C0 (by decide)) (fun _ => rfl) in_9_474 nc_9 dX4_makeBuyout_69 (fun H locs Z => ?_)
  obtain ⟨v14, ev14⟩ : ∃ z : V3, z = up2 v13 8 9 ((v13 8 9) + 1) := ⟨_, rfl⟩
  rw [← ev14] at Z
  replace hw := hw v14 ev14
  exact z_vret C0 Z hw dX4_makeBuyout_70
-- X4_swap: room (8, 180)
theorem dX4_swap_0 : decode cX4_swap 0 = .ok (.aload_n 0, 1) := by decide +kernel
theorem dX4_swap_1 : decode cX4_swap 1 = .ok (.iconst 0, 1) := by decide +kernel
theorem dX4_swap_2 : decode cX4_swap 2 = .ok (.putfield 55, 3) := by decide +kernel
theorem dX4_swap_5 : decode cX4_swap 5 = .ok (.aload_n 0, 1) := by decide +kernel
theorem dX4_swap_6 : decode cX4_swap 6 = .ok (.iload_n 1, 1) := by decide +kernel
theorem dX4_swap_7 : decode cX4_swap 7 = .ok (.invokevirtual 290, 3) := by decide +kernel
theorem dX4_swap_10 : decode cX4_swap 10 = .ok (.ifCond .eq 11, 3) := by decide +kernel
theorem dX4_swap_13 : decode cX4_swap 13 = .ok (.aload_n 0, 1) := by decide +kernel
theorem dX4_swap_14 : decode cX4_swap 14 = .ok (.iload_n 2, 1) := by decide +kernel
theorem dX4_swap_15 : decode cX4_swap 15 = .ok (.invokevirtual 290, 3) := by decide +kernel
theorem dX4_swap_18 : decode cX4_swap 18 = .ok (.ifCond .ne 9, 3) := by decide +kernel
theorem dX4_swap_21 : decode cX4_swap 21 = .ok (.aload_n 0, 1) := by decide +kernel
theorem dX4_swap_22 : decode cX4_swap 22 = .ok (.iconst 1, 1) := by decide +kernel
theorem dX4_swap_23 : decode cX4_swap 23 = .ok (.invokevirtual 78, 3) := by decide +kernel
theorem dX4_swap_26 : decode cX4_swap 26 = .ok (.ireturn, 1) := by decide +kernel
theorem dX4_swap_27 : decode cX4_swap 27 = .ok (.iload_n 1, 1) := by decide +kernel
theorem dX4_swap_28 : decode cX4_swap 28 = .ok (.iload_n 2, 1) := by decide +kernel
theorem dX4_swap_29 : decode cX4_swap 29 = .ok (.if_icmp .ne 9, 3) := by decide +kernel
theorem dX4_swap_32 : decode cX4_swap 32 = .ok (.aload_n 0, 1) := by decide +kernel
theorem dX4_swap_33 : decode cX4_swap 33 = .ok (.iconst 2, 1) := by decide +kernel
theorem dX4_swap_34 : decode cX4_swap 34 = .ok (.invokevirtual 78, 3) := by decide +kernel
theorem dX4_swap_37 : decode cX4_swap 37 = .ok (.ireturn, 1) := by decide +kernel
theorem dX4_swap_38 : decode cX4_swap 38 = .ok (.aload_n 0, 1) := by decide +kernel
theorem dX4_swap_39 : decode cX4_swap 39 = .ok (.iload_n 1, 1) := by decide +kernel
theorem dX4_swap_40 : decode cX4_swap 40 = .ok (.bipush 7, 2) := by decide +kernel
theorem dX4_swap_42 : decode cX4_swap 42 = .ok (.invokevirtual 71, 3) := by decide +kernel
theorem dX4_swap_45 : decode cX4_swap 45 = .ok (.iconst 1, 1) := by decide +kernel
theorem dX4_swap_46 : decode cX4_swap 46 = .ok (.if_icmp .ne 14, 3) := by decide +kernel
theorem dX4_swap_49 : decode cX4_swap 49 = .ok (.aload_n 0, 1) := by decide +kernel
theorem dX4_swap_50 : decode cX4_swap 50 = .ok (.iload_n 2, 1) := by decide +kernel
theorem dX4_swap_51 : decode cX4_swap 51 = .ok (.bipush 7, 2) := by decide +kernel
theorem dX4_swap_53 : decode cX4_swap 53 = .ok (.invokevirtual 71, 3) := by decide +kernel
theorem dX4_swap_56 : decode cX4_swap 56 = .ok (.iconst 1, 1) := by decide +kernel
theorem dX4_swap_57 : decode cX4_swap 57 = .ok (.if_icmp .eq 5, 3) := by decide +kernel
theorem dX4_swap_60 : decode cX4_swap 60 = .ok (.iconst 1, 1) := by decide +kernel
theorem dX4_swap_61 : decode cX4_swap 61 = .ok (.ireturn, 1) := by decide +kernel
theorem dX4_swap_62 : decode cX4_swap 62 = .ok (.aload_n 0, 1) := by decide +kernel
theorem dX4_swap_63 : decode cX4_swap 63 = .ok (.iload_n 1, 1) := by decide +kernel
theorem dX4_swap_64 : decode cX4_swap 64 = .ok (.iload_n 2, 1) := by decide +kernel
theorem dX4_swap_65 : decode cX4_swap 65 = .ok (.invokevirtual 314, 3) := by decide +kernel
theorem dX4_swap_68 : decode cX4_swap 68 = .ok (.ifCond .ne 5, 3) := by decide +kernel
theorem dX4_swap_71 : decode cX4_swap 71 = .ok (.iconst 4, 1) := by decide +kernel
theorem dX4_swap_72 : decode cX4_swap 72 = .ok (.ireturn, 1) := by decide +kernel
theorem dX4_swap_73 : decode cX4_swap 73 = .ok (.aload_n 0, 1) := by decide +kernel
theorem dX4_swap_74 : decode cX4_swap 74 = .ok (.iload_n 1, 1) := by decide +kernel
theorem dX4_swap_75 : decode cX4_swap 75 = .ok (.iload_n 2, 1) := by decide +kernel
theorem dX4_swap_76 : decode cX4_swap 76 = .ok (.invokevirtual 326, 3) := by decide +kernel
theorem dX4_swap_79 : decode cX4_swap 79 = .ok (.aload_n 0, 1) := by decide +kernel
theorem dX4_swap_80 : decode cX4_swap 80 = .ok (.invokevirtual 308, 3) := by decide +kernel
theorem dX4_swap_83 : decode cX4_swap 83 = .ok (.ireturn, 1) := by decide +kernel
def w_X4_swap_21  (Q : Int32 → V3 → Prop) (v : V3) : Prop := w_X4_fail 1 v (fun r6 v5 => Q r6 v5)
def w_X4_swap_60  (Q : Int32 → V3 → Prop) (v : V3) : Prop := Q 1 v
def w_X4_swap (a1 : Int32) (a2 : Int32) (v : V3) (Q : Int32 → V3 → Prop) : Prop := ∀ v1 : V3, v1 = up2 v 7 11 0 → w_X4_isBooking a1 v1 (fun r3 v2 => ((r3 = 0 → w_X4_swap_21 Q v2) ∧ (¬ r3 = 0 → w_X4_isBooking a2 v2 (fun r8 v7 => ((¬ r8 = 0 → ((¬ a1 = a2 → w_X4_of a1 7 v7 (fun r12 v11 => ((¬ r12 = 1 → w_X4_swap_60 Q v11) ∧ (r12 = 1 → w_X4_of a2 7 v11 (fun r15 v14 => ((r15 = 1 → w_X4_swapGain a1 a2 v14 (fun r18 v17 => ((¬ r18 = 0 → w_X4_makeSwap a1 a2 v17 (fun v20 => w_X4_done v20 (fun r22 v21 => Q r22 v21))) ∧ (r18 = 0 → Q 4 v17)))) ∧ (¬ r15 = 1 → w_X4_swap_60 Q v14))))))) ∧ (a1 = a2 → w_X4_fail 2 v7 (fun r24 v23 => Q r24 v23)))) ∧ (r8 = 0 → w_X4_swap_21 Q v7))))))
set_option maxRecDepth 100000 in
set_option maxHeartbeats 4000000 in
theorem b_X4_swap_21 {p : Program} (l : Launch) {e : Env} {s : State} {m : MethodId} {args : Array Value} {below : List Frame} {meth : Method} {c : Code} {G : zG}   (C0 : Cx G RX4 cX4_swap 3 (some .int) p s m args meth c) {Q : Int32 → V3 → Prop} : ∀ (v : V3) (H : Heap) (locs : List Loc) (ls : Array Slot), w_X4_swap_21 Q v → Zs G s v H locs → lv_has ls 3 [(0, .ref (gad G 7))] → W p l e { frames := 8, cells := 0, slots := 0, locals := 180 } s m args below meth c H locs 0 0 (MQ below (QiZ G Q) args s 0 0 (zA G)) (F0 m 21 ls []) := by
  have hx := C0.1
  have hb := C0.2.1
  intro v H locs ls hw Z hl
  rw [w_X4_swap_21] at hw
  refine lv_aload_n hx hb dX4_swap_21 rfl (lv_at hl 0 rfl) ?_
  refine lv_iconst (v := 1) hx hb dX4_swap_22 (by decide) ?_
  refine z_callVi C0 Z hl.1 (As := [.int 1]) (rest := []) (k_X4_fail l (cx_g C0) hw) (gv_X4_fail tm_5_75) rfl ds_X4_fail ⟨Nat.le_of_ble_eq_true rfl, Nat.le_of_ble_eq_true rfl⟩ (ci := 4) rfl (cx_lt C0 (by decide)) rfl rfl rfl (Nat.le_of_ble_eq_true rfl) ⟨Nat.le_of_ble_eq_true rfl, Nat.le_of_ble_eq_true rfl⟩ dX4_swap_23 (fun r6 v5 H locs hw Z => ?_)
  exact z_iret C0 Z hw dX4_swap_26
set_option maxRecDepth 100000 in
set_option maxHeartbeats 4000000 in
theorem b_X4_swap_60 {p : Program} (l : Launch) {e : Env} {s : State} {m : MethodId} {args : Array Value} {below : List Frame} {meth : Method} {c : Code} {G : zG}   (C0 : Cx G RX4 cX4_swap 3 (some .int) p s m args meth c) {Q : Int32 → V3 → Prop} : ∀ (v : V3) (H : Heap) (locs : List Loc) (ls : Array Slot), w_X4_swap_60 Q v → Zs G s v H locs → lv_has ls 3 [] → W p l e { frames := 8, cells := 0, slots := 0, locals := 180 } s m args below meth c H locs 0 0 (MQ below (QiZ G Q) args s 0 0 (zA G)) (F0 m 60 ls []) := by
  have hx := C0.1
  have hb := C0.2.1
  intro v H locs ls hw Z hl
  rw [w_X4_swap_60] at hw
  refine lv_iconst (v := 1) hx hb dX4_swap_60 (by decide) ?_
  exact z_iret C0 Z hw dX4_swap_61
set_option maxRecDepth 100000 in
set_option maxHeartbeats 4000000 in
theorem k_X4_swap (l : Launch) {G : zG} (hg : 129 ≤ gn G) {a1 : Int32} {a2 : Int32}  {v : V3} {Q : Int32 → V3 → Prop} (hw : w_X4_swap a1 a2 v Q) : Mz l yX4_swap cX4_swap 3 (some .int) 8 180 G [.ref (gad G 7), .int a1, .int a2] v (QiZ G Q) := by
  rw [w_X4_swap] at hw
  refine z_ofW hg (by decide) (Nat.le_of_ble_eq_true rfl) ?_
  intro p e s m args below meth c ls C0 Z hl
  have hx := C0.1
  have hb := C0.2.1
  replace hl : lv_has ls 3 [(0, .ref (gad G 7)), (1, .int a1), (2, .int a2)] := hl
  generalize s.heap = H at Z ⊢
  generalize ([] : List Loc) = locs at Z ⊢
  refine lv_aload_n hx hb dX4_swap_0 rfl (lv_at hl 0 rfl) ?_
  refine lv_iconst (v := 0) hx hb dX4_swap_1 (by decide) ?_
  refine z_put C0 Z in_X4 tyX4_ok nmX4 rfl 11 (by decide) rfl rfl tm_4_214 (cx_lt C0 (by decide)) rfl p_X4_11 (fun c' h => up2_off _ _ _ h) rfl rfl (Nat.le_of_ble_eq_true rfl) dX4_swap_2 (fun H locs Z => ?_)
  obtain ⟨v1, ev1⟩ : ∃ z : V3, z = up2 v 7 11 0 := ⟨_, rfl⟩
  rw [← ev1] at Z
  replace hw := hw v1 ev1
  refine lv_aload_n hx hb dX4_swap_5 rfl (lv_at hl 0 rfl) ?_
  refine lv_iload_n hx hb dX4_swap_6 rfl (lv_at hl 1 rfl) ?_
  refine z_callVi C0 Z hl.1 (As := [.int a1]) (rest := []) (k_X4_isBooking l (cx_g C0) hw) (gv_X4_isBooking tm_6_75) rfl ds_X4_isBooking ⟨Nat.le_of_ble_eq_true rfl, Nat.le_of_ble_eq_true rfl⟩ (ci := 4) rfl (cx_lt C0 (by decide)) rfl rfl rfl (Nat.le_of_ble_eq_true rfl) ⟨Nat.le_of_ble_eq_true rfl, Nat.le_of_ble_eq_true rfl⟩ dX4_swap_7 (fun r3 v2 H locs hw Z => ?_)
  refine lv_if_eq (tgt := 21) hx hb dX4_swap_10 (by decide) (fun c4 => ?_) (fun c4 => ?_)
  · replace hw := hw.1 c4
    exact b_X4_swap_21 l C0 _ _ _ _ hw Z (lv_sub hl [0] rfl)
  · replace hw := hw.2 c4
    refine lv_aload_n hx hb dX4_swap_13 rfl (lv_at hl 0 rfl) ?_
    refine lv_iload_n hx hb dX4_swap_14 rfl (lv_at hl 2 rfl) ?_
    refine z_callVi C0 Z hl.1 (As := [.int a2]) (rest := []) (k_X4_isBooking l (cx_g C0) hw) (gv_X4_isBooking tm_6_75) rfl ds_X4_isBooking ⟨Nat.le_of_ble_eq_true rfl, Nat.le_of_ble_eq_true rfl⟩ (ci := 4) rfl (cx_lt C0 (by decide)) rfl rfl rfl (Nat.le_of_ble_eq_true rfl) ⟨Nat.le_of_ble_eq_true rfl, Nat.le_of_ble_eq_true rfl⟩ dX4_swap_15 (fun r8 v7 H locs hw Z => ?_)
    refine lv_if_ne (tgt := 27) hx hb dX4_swap_18 (by decide) (fun c9 => ?_) (fun c9 => ?_)
    · replace hw := hw.1 c9
      refine lv_iload_n hx hb dX4_swap_27 rfl (lv_at hl 1 rfl) ?_
      refine lv_iload_n hx hb dX4_swap_28 rfl (lv_at hl 2 rfl) ?_
      refine lv_icmp_ne (tgt := 38) hx hb dX4_swap_29 (by decide) (fun c10 => ?_) (fun c10 => ?_)
      · replace hw := hw.1 c10
        refine lv_aload_n hx hb dX4_swap_38 rfl (lv_at hl 0 rfl) ?_
        refine lv_iload_n hx hb dX4_swap_39 rfl (lv_at hl 1 rfl) ?_
        refine lv_bipush (v := 7) hx hb dX4_swap_40 (by decide) ?_
        refine z_callVi C0 Z hl.1 (As := [.int a1, .int 7]) (rest := []) (k_X4_of l (cx_g C0) hw) (gv_X4_of tm_5_163) rfl ds_X4_of ⟨Nat.le_of_ble_eq_true rfl, Nat.le_of_ble_eq_true rfl⟩ (ci := 4) rfl (cx_lt C0 (by decide)) rfl rfl rfl (Nat.le_of_ble_eq_true rfl) ⟨Nat.le_of_ble_eq_true rfl, Nat.le_of_ble_eq_true rfl⟩ dX4_swap_42 (fun r12 v11 H locs hw Z => ?_)
        refine lv_iconst (v := 1) hx hb dX4_swap_45 (by decide) ?_
        refine lv_icmp_ne (tgt := 60) hx hb dX4_swap_46 (by decide) (fun c13 => ?_) (fun c13 => ?_)
        · replace hw := hw.1 c13
          exact b_X4_swap_60 l C0 _ _ _ _ hw Z (lv_sub hl [] rfl)
        · replace hw := hw.2 c13
          refine lv_aload_n hx hb dX4_swap_49 rfl (lv_at hl 0 rfl) ?_
          refine lv_iload_n hx hb dX4_swap_50 rfl (lv_at hl 2 rfl) ?_
          refine lv_bipush (v := 7) hx hb dX4_swap_51 (by decide) ?_
          refine z_callVi C0 Z hl.1 (As := [.int a2, .int 7]) (rest := []) (k_X4_of l (cx_g C0) hw) (gv_X4_of tm_5_163) rfl ds_X4_of ⟨Nat.le_of_ble_eq_true rfl, Nat.le_of_ble_eq_true rfl⟩ (ci := 4) rfl (cx_lt C0 (by decide)) rfl rfl rfl (Nat.le_of_ble_eq_true rfl) ⟨Nat.le_of_ble_eq_true rfl, Nat.le_of_ble_eq_true rfl⟩ dX4_swap_53 (fun r15 v14 H locs hw Z => ?_)
          refine lv_iconst (v := 1) hx hb dX4_swap_56 (by decide) ?_
          refine lv_icmp_eq (tgt := 62) hx hb dX4_swap_57 (by decide) (fun c16 => ?_) (fun c16 => ?_)
          · replace hw := hw.1 c16
            refine lv_aload_n hx hb dX4_swap_62 rfl (lv_at hl 0 rfl) ?_
            refine lv_iload_n hx hb dX4_swap_63 rfl (lv_at hl 1 rfl) ?_
            refine lv_iload_n hx hb dX4_swap_64 rfl (lv_at hl 2 rfl) ?_
            refine z_callVi C0 Z hl.1 (As := [.int a1, .int a2]) (rest := []) (k_X4_swapGain l (cx_g C0) hw) (gv_X4_swapGain tm_6_127) rfl ds_X4_swapGain ⟨Nat.le_of_ble_eq_true rfl, Nat.le_of_ble_eq_true rfl⟩ (ci := 4) rfl (cx_lt C0 (by decide)) rfl rfl rfl (Nat.le_of_ble_eq_true rfl) ⟨Nat.le_of_ble_eq_true rfl, Nat.le_of_ble_eq_true rfl⟩ dX4_swap_65 (fun r18 v17 H locs hw Z => ?_)
            refine lv_if_ne (tgt := 73) hx hb dX4_swap_68 (by decide) (fun c19 => ?_) (fun c19 => ?_)
            · replace hw := hw.1 c19
              refine lv_aload_n hx hb dX4_swap_73 rfl (lv_at hl 0 rfl) ?_
              refine lv_iload_n hx hb dX4_swap_74 rfl (lv_at hl 1 rfl) ?_
              refine lv_iload_n hx hb dX4_swap_75 rfl (lv_at hl 2 rfl) ?_
              refine z_callVv C0 Z hl.1 (As := [.int a1, .int a2]) (rest := []) (k_X4_makeSwap l (cx_g C0) hw) (gv_X4_makeSwap tm_6_131) rfl ds_X4_makeSwap ⟨Nat.le_of_ble_eq_true rfl, Nat.le_of_ble_eq_true rfl⟩ (ci := 4) rfl (cx_lt C0 (by decide)) rfl rfl rfl (Nat.le_of_ble_eq_true rfl) ⟨Nat.le_of_ble_eq_true rfl, Nat.le_of_ble_eq_true rfl⟩ dX4_swap_76 (fun v20 H locs hw Z => ?_)
              refine lv_aload_n hx hb dX4_swap_79 rfl (lv_at hl 0 rfl) ?_
              refine z_callVi C0 Z hl.1 (As := []) (rest := []) (k_X4_done l (cx_g C0) hw) (gv_X4_done tm_6_103) rfl ds_X4_done ⟨Nat.le_of_ble_eq_true rfl, Nat.le_of_ble_eq_true rfl⟩ (ci := 4) rfl (cx_lt C0 (by decide)) rfl rfl rfl (Nat.le_of_ble_eq_true rfl) ⟨Nat.le_of_ble_eq_true rfl, Nat.le_of_ble_eq_true rfl⟩ dX4_swap_80 (fun r22 v21 H locs hw Z => ?_)
              exact z_iret C0 Z hw dX4_swap_83
            · replace hw := hw.2 c19
              refine lv_iconst (v := 4) hx hb dX4_swap_71 (by decide) ?_
              exact z_iret C0 Z hw dX4_swap_72
          · replace hw := hw.2 c16
            exact b_X4_swap_60 l C0 _ _ _ _ hw Z (lv_sub hl [] rfl)
      · replace hw := hw.2 c10
        refine lv_aload_n hx hb dX4_swap_32 rfl (lv_at hl 0 rfl) ?_
        refine lv_iconst (v := 2) hx hb dX4_swap_33 (by decide) ?_
        refine z_callVi C0 Z hl.1 (As := [.int 2]) (rest := []) (k_X4_fail l (cx_g C0) hw) (gv_X4_fail tm_5_75) rfl ds_X4_fail ⟨Nat.le_of_ble_eq_true rfl, Nat.le_of_ble_eq_true rfl⟩ (ci := 4) rfl (cx_lt C0 (by decide)) rfl rfl rfl (Nat.le_of_ble_eq_true rfl) ⟨Nat.le_of_ble_eq_true rfl, Nat.le_of_ble_eq_true rfl⟩ dX4_swap_34 (fun r24 v23 H locs hw Z => ?_)
        exact z_iret C0 Z hw dX4_swap_37
    · replace hw := hw.2 c9
      exact b_X4_swap_21 l C0 _ _ _ _ hw Z (lv_sub hl [0] rfl)
-- X4_buy: room (8, 180)
theorem dX4_buy_0 : decode cX4_buy 0 = .ok (.aload_n 0, 1) := by decide +kernel
theorem dX4_buy_1 : decode cX4_buy 1 = .ok (.iconst 0, 1) := by decide +kernel
theorem dX4_buy_2 : decode cX4_buy 2 = .ok (.putfield 55, 3) := by decide +kernel
theorem dX4_buy_5 : decode cX4_buy 5 = .ok (.aload_n 0, 1) := by decide +kernel
theorem dX4_buy_6 : decode cX4_buy 6 = .ok (.iload_n 1, 1) := by decide +kernel
theorem dX4_buy_7 : decode cX4_buy 7 = .ok (.invokevirtual 290, 3) := by decide +kernel
theorem dX4_buy_10 : decode cX4_buy 10 = .ok (.ifCond .eq 11, 3) := by decide +kernel
theorem dX4_buy_13 : decode cX4_buy 13 = .ok (.aload_n 0, 1) := by decide +kernel
theorem dX4_buy_14 : decode cX4_buy 14 = .ok (.iload_n 2, 1) := by decide +kernel
theorem dX4_buy_15 : decode cX4_buy 15 = .ok (.invokevirtual 290, 3) := by decide +kernel
theorem dX4_buy_18 : decode cX4_buy 18 = .ok (.ifCond .ne 9, 3) := by decide +kernel
theorem dX4_buy_21 : decode cX4_buy 21 = .ok (.aload_n 0, 1) := by decide +kernel
theorem dX4_buy_22 : decode cX4_buy 22 = .ok (.iconst 1, 1) := by decide +kernel
theorem dX4_buy_23 : decode cX4_buy 23 = .ok (.invokevirtual 78, 3) := by decide +kernel
theorem dX4_buy_26 : decode cX4_buy 26 = .ok (.ireturn, 1) := by decide +kernel
theorem dX4_buy_27 : decode cX4_buy 27 = .ok (.aload_n 0, 1) := by decide +kernel
theorem dX4_buy_28 : decode cX4_buy 28 = .ok (.iload_n 1, 1) := by decide +kernel
theorem dX4_buy_29 : decode cX4_buy 29 = .ok (.bipush 7, 2) := by decide +kernel
theorem dX4_buy_31 : decode cX4_buy 31 = .ok (.invokevirtual 71, 3) := by decide +kernel
theorem dX4_buy_34 : decode cX4_buy 34 = .ok (.ifCond .ne 14, 3) := by decide +kernel
theorem dX4_buy_37 : decode cX4_buy 37 = .ok (.aload_n 0, 1) := by decide +kernel
theorem dX4_buy_38 : decode cX4_buy 38 = .ok (.iload_n 2, 1) := by decide +kernel
theorem dX4_buy_39 : decode cX4_buy 39 = .ok (.bipush 7, 2) := by decide +kernel
theorem dX4_buy_41 : decode cX4_buy 41 = .ok (.invokevirtual 71, 3) := by decide +kernel
theorem dX4_buy_44 : decode cX4_buy 44 = .ok (.iconst 1, 1) := by decide +kernel
theorem dX4_buy_45 : decode cX4_buy 45 = .ok (.if_icmp .eq 5, 3) := by decide +kernel
theorem dX4_buy_48 : decode cX4_buy 48 = .ok (.iconst 1, 1) := by decide +kernel
theorem dX4_buy_49 : decode cX4_buy 49 = .ok (.ireturn, 1) := by decide +kernel
theorem dX4_buy_50 : decode cX4_buy 50 = .ok (.aload_n 0, 1) := by decide +kernel
theorem dX4_buy_51 : decode cX4_buy 51 = .ok (.iload_n 1, 1) := by decide +kernel
theorem dX4_buy_52 : decode cX4_buy 52 = .ok (.iload_n 2, 1) := by decide +kernel
theorem dX4_buy_53 : decode cX4_buy 53 = .ok (.invokevirtual 317, 3) := by decide +kernel
theorem dX4_buy_56 : decode cX4_buy 56 = .ok (.ifCond .ne 5, 3) := by decide +kernel
theorem dX4_buy_59 : decode cX4_buy 59 = .ok (.iconst 4, 1) := by decide +kernel
theorem dX4_buy_60 : decode cX4_buy 60 = .ok (.ireturn, 1) := by decide +kernel
theorem dX4_buy_61 : decode cX4_buy 61 = .ok (.aload_n 0, 1) := by decide +kernel
theorem dX4_buy_62 : decode cX4_buy 62 = .ok (.iload_n 1, 1) := by decide +kernel
theorem dX4_buy_63 : decode cX4_buy 63 = .ok (.iload_n 2, 1) := by decide +kernel
theorem dX4_buy_64 : decode cX4_buy 64 = .ok (.invokevirtual 329, 3) := by decide +kernel
theorem dX4_buy_67 : decode cX4_buy 67 = .ok (.aload_n 0, 1) := by decide +kernel
theorem dX4_buy_68 : decode cX4_buy 68 = .ok (.invokevirtual 308, 3) := by decide +kernel
theorem dX4_buy_71 : decode cX4_buy 71 = .ok (.ireturn, 1) := by decide +kernel
def w_X4_buy_21  (Q : Int32 → V3 → Prop) (v : V3) : Prop := w_X4_fail 1 v (fun r6 v5 => Q r6 v5)
def w_X4_buy_48  (Q : Int32 → V3 → Prop) (v : V3) : Prop := Q 1 v
def w_X4_buy (a1 : Int32) (a2 : Int32) (v : V3) (Q : Int32 → V3 → Prop) : Prop := ∀ v1 : V3, v1 = up2 v 7 11 0 → w_X4_isBooking a1 v1 (fun r3 v2 => ((r3 = 0 → w_X4_buy_21 Q v2) ∧ (¬ r3 = 0 → w_X4_isBooking a2 v2 (fun r8 v7 => ((¬ r8 = 0 → w_X4_of a1 7 v7 (fun r11 v10 => ((¬ r11 = 0 → w_X4_buy_48 Q v10) ∧ (r11 = 0 → w_X4_of a2 7 v10 (fun r14 v13 => ((r14 = 1 → w_X4_buyGain a1 a2 v13 (fun r17 v16 => ((¬ r17 = 0 → w_X4_makeBuyout a1 a2 v16 (fun v19 => w_X4_done v19 (fun r21 v20 => Q r21 v20))) ∧ (r17 = 0 → Q 4 v16)))) ∧ (¬ r14 = 1 → w_X4_buy_48 Q v13))))))) ∧ (r8 = 0 → w_X4_buy_21 Q v7))))))
set_option maxRecDepth 100000 in
set_option maxHeartbeats 4000000 in
theorem b_X4_buy_21 {p : Program} (l : Launch) {e : Env} {s : State} {m : MethodId} {args : Array Value} {below : List Frame} {meth : Method} {c : Code} {G : zG}   (C0 : Cx G RX4 cX4_buy 3 (some .int) p s m args meth c) {Q : Int32 → V3 → Prop} : ∀ (v : V3) (H : Heap) (locs : List Loc) (ls : Array Slot), w_X4_buy_21 Q v → Zs G s v H locs → lv_has ls 3 [(0, .ref (gad G 7))] → W p l e { frames := 8, cells := 0, slots := 0, locals := 180 } s m args below meth c H locs 0 0 (MQ below (QiZ G Q) args s 0 0 (zA G)) (F0 m 21 ls []) := by
  have hx := C0.1
  have hb := C0.2.1
  intro v H locs ls hw Z hl
  rw [w_X4_buy_21] at hw
  refine lv_aload_n hx hb dX4_buy_21 rfl (lv_at hl 0 rfl) ?_
  refine lv_iconst (v := 1) hx hb dX4_buy_22 (by decide) ?_
  refine z_callVi C0 Z hl.1 (As := [.int 1]) (rest := []) (k_X4_fail l (cx_g C0) hw) (gv_X4_fail tm_5_75) rfl ds_X4_fail ⟨Nat.le_of_ble_eq_true rfl, Nat.le_of_ble_eq_true rfl⟩ (ci := 4) rfl (cx_lt C0 (by decide)) rfl rfl rfl (Nat.le_of_ble_eq_true rfl) ⟨Nat.le_of_ble_eq_true rfl, Nat.le_of_ble_eq_true rfl⟩ dX4_buy_23 (fun r6 v5 H locs hw Z => ?_)
  exact z_iret C0 Z hw dX4_buy_26
set_option maxRecDepth 100000 in
set_option maxHeartbeats 4000000 in
theorem b_X4_buy_48 {p : Program} (l : Launch) {e : Env} {s : State} {m : MethodId} {args : Array Value} {below : List Frame} {meth : Method} {c : Code} {G : zG}   (C0 : Cx G RX4 cX4_buy 3 (some .int) p s m args meth c) {Q : Int32 → V3 → Prop} : ∀ (v : V3) (H : Heap) (locs : List Loc) (ls : Array Slot), w_X4_buy_48 Q v → Zs G s v H locs → lv_has ls 3 [] → W p l e { frames := 8, cells := 0, slots := 0, locals := 180 } s m args below meth c H locs 0 0 (MQ below (QiZ G Q) args s 0 0 (zA G)) (F0 m 48 ls []) := by
  have hx := C0.1
  have hb := C0.2.1
  intro v H locs ls hw Z hl
  rw [w_X4_buy_48] at hw
  refine lv_iconst (v := 1) hx hb dX4_buy_48 (by decide) ?_
  exact z_iret C0 Z hw dX4_buy_49
set_option maxRecDepth 100000 in
set_option maxHeartbeats 4000000 in
theorem k_X4_buy (l : Launch) {G : zG} (hg : 129 ≤ gn G) {a1 : Int32} {a2 : Int32}  {v : V3} {Q : Int32 → V3 → Prop} (hw : w_X4_buy a1 a2 v Q) : Mz l yX4_buy cX4_buy 3 (some .int) 8 180 G [.ref (gad G 7), .int a1, .int a2] v (QiZ G Q) := by
  rw [w_X4_buy] at hw
  refine z_ofW hg (by decide) (Nat.le_of_ble_eq_true rfl) ?_
  intro p e s m args below meth c ls C0 Z hl
  have hx := C0.1
  have hb := C0.2.1
  replace hl : lv_has ls 3 [(0, .ref (gad G 7)), (1, .int a1), (2, .int a2)] := hl
  generalize s.heap = H at Z ⊢
  generalize ([] : List Loc) = locs at Z ⊢
  refine lv_aload_n hx hb dX4_buy_0 rfl (lv_at hl 0 rfl) ?_
  refine lv_iconst (v := 0) hx hb dX4_buy_1 (by decide) ?_
  refine z_put C0 Z in_X4 tyX4_ok nmX4 rfl 11 (by decide) rfl rfl tm_4_214 (cx_lt C0 (by decide)) rfl p_X4_11 (fun c' h => up2_off _ _ _ h) rfl rfl (Nat.le_of_ble_eq_true rfl) dX4_buy_2 (fun H locs Z => ?_)
  obtain ⟨v1, ev1⟩ : ∃ z : V3, z = up2 v 7 11 0 := ⟨_, rfl⟩
  rw [← ev1] at Z
  replace hw := hw v1 ev1
  refine lv_aload_n hx hb dX4_buy_5 rfl (lv_at hl 0 rfl) ?_
  refine lv_iload_n hx hb dX4_buy_6 rfl (lv_at hl 1 rfl) ?_
  refine z_callVi C0 Z hl.1 (As := [.int a1]) (rest := []) (k_X4_isBooking l (cx_g C0) hw) (gv_X4_isBooking tm_6_75) rfl ds_X4_isBooking ⟨Nat.le_of_ble_eq_true rfl, Nat.le_of_ble_eq_true rfl⟩ (ci := 4) rfl (cx_lt C0 (by decide)) rfl rfl rfl (Nat.le_of_ble_eq_true rfl) ⟨Nat.le_of_ble_eq_true rfl, Nat.le_of_ble_eq_true rfl⟩ dX4_buy_7 (fun r3 v2 H locs hw Z => ?_)
  refine lv_if_eq (tgt := 21) hx hb dX4_buy_10 (by decide) (fun c4 => ?_) (fun c4 => ?_)
  · replace hw := hw.1 c4
    exact b_X4_buy_21 l C0 _ _ _ _ hw Z (lv_sub hl [0] rfl)
  · replace hw := hw.2 c4
    refine lv_aload_n hx hb dX4_buy_13 rfl (lv_at hl 0 rfl) ?_
    refine lv_iload_n hx hb dX4_buy_14 rfl (lv_at hl 2 rfl) ?_
    refine z_callVi C0 Z hl.1 (As := [.int a2]) (rest := []) (k_X4_isBooking l (cx_g C0) hw) (gv_X4_isBooking tm_6_75) rfl ds_X4_isBooking ⟨Nat.le_of_ble_eq_true rfl, Nat.le_of_ble_eq_true rfl⟩ (ci := 4) rfl (cx_lt C0 (by decide)) rfl rfl rfl (Nat.le_of_ble_eq_true rfl) ⟨Nat.le_of_ble_eq_true rfl, Nat.le_of_ble_eq_true rfl⟩ dX4_buy_15 (fun r8 v7 H locs hw Z => ?_)
    refine lv_if_ne (tgt := 27) hx hb dX4_buy_18 (by decide) (fun c9 => ?_) (fun c9 => ?_)
    · replace hw := hw.1 c9
      refine lv_aload_n hx hb dX4_buy_27 rfl (lv_at hl 0 rfl) ?_
      refine lv_iload_n hx hb dX4_buy_28 rfl (lv_at hl 1 rfl) ?_
      refine lv_bipush (v := 7) hx hb dX4_buy_29 (by decide) ?_
      refine z_callVi C0 Z hl.1 (As := [.int a1, .int 7]) (rest := []) (k_X4_of l (cx_g C0) hw) (gv_X4_of tm_5_163) rfl ds_X4_of ⟨Nat.le_of_ble_eq_true rfl, Nat.le_of_ble_eq_true rfl⟩ (ci := 4) rfl (cx_lt C0 (by decide)) rfl rfl rfl (Nat.le_of_ble_eq_true rfl) ⟨Nat.le_of_ble_eq_true rfl, Nat.le_of_ble_eq_true rfl⟩ dX4_buy_31 (fun r11 v10 H locs hw Z => ?_)
      refine lv_if_ne (tgt := 48) hx hb dX4_buy_34 (by decide) (fun c12 => ?_) (fun c12 => ?_)
      · replace hw := hw.1 c12
        exact b_X4_buy_48 l C0 _ _ _ _ hw Z (lv_sub hl [] rfl)
      · replace hw := hw.2 c12
        refine lv_aload_n hx hb dX4_buy_37 rfl (lv_at hl 0 rfl) ?_
        refine lv_iload_n hx hb dX4_buy_38 rfl (lv_at hl 2 rfl) ?_
        refine lv_bipush (v := 7) hx hb dX4_buy_39 (by decide) ?_
        refine z_callVi C0 Z hl.1 (As := [.int a2, .int 7]) (rest := []) (k_X4_of l (cx_g C0) hw) (gv_X4_of tm_5_163) rfl ds_X4_of ⟨Nat.le_of_ble_eq_true rfl, Nat.le_of_ble_eq_true rfl⟩ (ci := 4) rfl (cx_lt C0 (by decide)) rfl rfl rfl (Nat.le_of_ble_eq_true rfl) ⟨Nat.le_of_ble_eq_true rfl, Nat.le_of_ble_eq_true rfl⟩ dX4_buy_41 (fun r14 v13 H locs hw Z => ?_)
        refine lv_iconst (v := 1) hx hb dX4_buy_44 (by decide) ?_
        refine lv_icmp_eq (tgt := 50) hx hb dX4_buy_45 (by decide) (fun c15 => ?_) (fun c15 => ?_)
        · replace hw := hw.1 c15
          refine lv_aload_n hx hb dX4_buy_50 rfl (lv_at hl 0 rfl) ?_
          refine lv_iload_n hx hb dX4_buy_51 rfl (lv_at hl 1 rfl) ?_
          refine lv_iload_n hx hb dX4_buy_52 rfl (lv_at hl 2 rfl) ?_
          refine z_callVi C0 Z hl.1 (As := [.int a1, .int a2]) (rest := []) (k_X4_buyGain l (cx_g C0) hw) (gv_X4_buyGain tm_6_147) rfl ds_X4_buyGain ⟨Nat.le_of_ble_eq_true rfl, Nat.le_of_ble_eq_true rfl⟩ (ci := 4) rfl (cx_lt C0 (by decide)) rfl rfl rfl (Nat.le_of_ble_eq_true rfl) ⟨Nat.le_of_ble_eq_true rfl, Nat.le_of_ble_eq_true rfl⟩ dX4_buy_53 (fun r17 v16 H locs hw Z => ?_)
          refine lv_if_ne (tgt := 61) hx hb dX4_buy_56 (by decide) (fun c18 => ?_) (fun c18 => ?_)
          · replace hw := hw.1 c18
            refine lv_aload_n hx hb dX4_buy_61 rfl (lv_at hl 0 rfl) ?_
            refine lv_iload_n hx hb dX4_buy_62 rfl (lv_at hl 1 rfl) ?_
            refine lv_iload_n hx hb dX4_buy_63 rfl (lv_at hl 2 rfl) ?_
            refine z_callVv C0 Z hl.1 (As := [.int a1, .int a2]) (rest := []) (k_X4_makeBuyout l (cx_g C0) hw) (gv_X4_makeBuyout tm_6_155) rfl ds_X4_makeBuyout ⟨Nat.le_of_ble_eq_true rfl, Nat.le_of_ble_eq_true rfl⟩ (ci := 4) rfl (cx_lt C0 (by decide)) rfl rfl rfl (Nat.le_of_ble_eq_true rfl) ⟨Nat.le_of_ble_eq_true rfl, Nat.le_of_ble_eq_true rfl⟩ dX4_buy_64 (fun v19 H locs hw Z => ?_)
            refine lv_aload_n hx hb dX4_buy_67 rfl (lv_at hl 0 rfl) ?_
            refine z_callVi C0 Z hl.1 (As := []) (rest := []) (k_X4_done l (cx_g C0) hw) (gv_X4_done tm_6_103) rfl ds_X4_done ⟨Nat.le_of_ble_eq_true rfl, Nat.le_of_ble_eq_true rfl⟩ (ci := 4) rfl (cx_lt C0 (by decide)) rfl rfl rfl (Nat.le_of_ble_eq_true rfl) ⟨Nat.le_of_ble_eq_true rfl, Nat.le_of_ble_eq_true rfl⟩ dX4_buy_68 (fun r21 v20 H locs hw Z => ?_)
            exact z_iret C0 Z hw dX4_buy_71
          · replace hw := hw.2 c18
            refine lv_iconst (v := 4) hx hb dX4_buy_59 (by decide) ?_
            exact z_iret C0 Z hw dX4_buy_60
        · replace hw := hw.2 c15
          exact b_X4_buy_48 l C0 _ _ _ _ hw Z (lv_sub hl [] rfl)
    · replace hw := hw.2 c9
      exact b_X4_buy_21 l C0 _ _ _ _ hw Z (lv_sub hl [0] rfl)
-- X4_compare: room (6, 142)
theorem dX4_compare_0 : decode cX4_compare 0 = .ok (.aload_n 0, 1) := by decide +kernel
theorem dX4_compare_1 : decode cX4_compare 1 = .ok (.iload_n 1, 1) := by decide +kernel
theorem dX4_compare_2 : decode cX4_compare 2 = .ok (.iload_n 2, 1) := by decide +kernel
theorem dX4_compare_3 : decode cX4_compare 3 = .ok (.invokevirtual 332, 3) := by decide +kernel
theorem dX4_compare_6 : decode cX4_compare 6 = .ok (.istore 4, 2) := by decide +kernel
theorem dX4_compare_8 : decode cX4_compare 8 = .ok (.iload 4, 2) := by decide +kernel
theorem dX4_compare_10 : decode cX4_compare 10 = .ok (.aload_n 0, 1) := by decide +kernel
theorem dX4_compare_11 : decode cX4_compare 11 = .ok (.getfield 335, 3) := by decide +kernel
theorem dX4_compare_14 : decode cX4_compare 14 = .ok (.if_icmp .le 24, 3) := by decide +kernel
theorem dX4_compare_17 : decode cX4_compare 17 = .ok (.aload_n 0, 1) := by decide +kernel
theorem dX4_compare_18 : decode cX4_compare 18 = .ok (.iload 4, 2) := by decide +kernel
theorem dX4_compare_20 : decode cX4_compare 20 = .ok (.putfield 335, 3) := by decide +kernel
theorem dX4_compare_23 : decode cX4_compare 23 = .ok (.aload_n 0, 1) := by decide +kernel
theorem dX4_compare_24 : decode cX4_compare 24 = .ok (.iload_n 3, 1) := by decide +kernel
theorem dX4_compare_25 : decode cX4_compare 25 = .ok (.putfield 338, 3) := by decide +kernel
theorem dX4_compare_28 : decode cX4_compare 28 = .ok (.aload_n 0, 1) := by decide +kernel
theorem dX4_compare_29 : decode cX4_compare 29 = .ok (.iload_n 1, 1) := by decide +kernel
theorem dX4_compare_30 : decode cX4_compare 30 = .ok (.putfield 342, 3) := by decide +kernel
theorem dX4_compare_33 : decode cX4_compare 33 = .ok (.aload_n 0, 1) := by decide +kernel
theorem dX4_compare_34 : decode cX4_compare 34 = .ok (.iload_n 2, 1) := by decide +kernel
theorem dX4_compare_35 : decode cX4_compare 35 = .ok (.putfield 345, 3) := by decide +kernel
theorem dX4_compare_38 : decode cX4_compare 38 = .ok (.return_, 1) := by decide +kernel
def w_X4_compare_38  (Q : V3 → Prop) (v : V3) : Prop := Q v
def w_X4_compare (a1 : Int32) (a2 : Int32) (a3 : Int32) (v : V3) (Q : V3 → Prop) : Prop := w_X4_gainOf a1 a2 v (fun r2 v1 => ((r2 ≤ (v1 7 28) → w_X4_compare_38 Q v1) ∧ (¬ r2 ≤ (v1 7 28) → ∀ v4 : V3, v4 = up2 v1 7 28 r2 → (a3 = 0 ∨ a3 = 1) ∧ ∀ v6 : V3, v6 = up2 v4 7 29 a3 → ∀ v7 : V3, v7 = up2 v6 7 30 a1 → ∀ v8 : V3, v8 = up2 v7 7 31 a2 → w_X4_compare_38 Q v8)))
set_option maxRecDepth 100000 in
set_option maxHeartbeats 4000000 in
theorem b_X4_compare_38 {p : Program} (l : Launch) {e : Env} {s : State} {m : MethodId} {args : Array Value} {below : List Frame} {meth : Method} {c : Code} {G : zG}   (C0 : Cx G RX4 cX4_compare 5 none p s m args meth c) {Q : V3 → Prop} : ∀ (v : V3) (H : Heap) (locs : List Loc) (ls : Array Slot), w_X4_compare_38 Q v → Zs G s v H locs → lv_has ls 5 [] → W p l e { frames := 6, cells := 0, slots := 0, locals := 142 } s m args below meth c H locs 0 0 (MQ below (QvZ G Q) args s 0 0 (zA G)) (F0 m 38 ls []) := by
  have hx := C0.1
  have hb := C0.2.1
  intro v H locs ls hw Z hl
  rw [w_X4_compare_38] at hw
  exact z_vret C0 Z hw dX4_compare_38
set_option maxRecDepth 100000 in
set_option maxHeartbeats 4000000 in
theorem k_X4_compare (l : Launch) {G : zG} (hg : 129 ≤ gn G) {a1 : Int32} {a2 : Int32} {a3 : Int32}  {v : V3} {Q : V3 → Prop} (hw : w_X4_compare a1 a2 a3 v Q) : Mz l yX4_compare cX4_compare 5 none 6 142 G [.ref (gad G 7), .int a1, .int a2, .int a3] v (QvZ G Q) := by
  rw [w_X4_compare] at hw
  refine z_ofW hg (by decide) (Nat.le_of_ble_eq_true rfl) ?_
  intro p e s m args below meth c ls C0 Z hl
  have hx := C0.1
  have hb := C0.2.1
  replace hl : lv_has ls 5 [(0, .ref (gad G 7)), (1, .int a1), (2, .int a2), (3, .int a3)] := hl
  generalize s.heap = H at Z ⊢
  generalize ([] : List Loc) = locs at Z ⊢
  refine lv_aload_n hx hb dX4_compare_0 rfl (lv_at hl 0 rfl) ?_
  refine lv_iload_n hx hb dX4_compare_1 rfl (lv_at hl 1 rfl) ?_
  refine lv_iload_n hx hb dX4_compare_2 rfl (lv_at hl 2 rfl) ?_
  refine z_callVi C0 Z hl.1 (As := [.int a1, .int a2]) (rest := []) (k_X4_gainOf l (cx_g C0) hw) (gv_X4_gainOf tm_6_171) rfl ds_X4_gainOf ⟨Nat.le_of_ble_eq_true rfl, Nat.le_of_ble_eq_true rfl⟩ (ci := 4) rfl (cx_lt C0 (by decide)) rfl rfl rfl (Nat.le_of_ble_eq_true rfl) ⟨Nat.le_of_ble_eq_true rfl, Nat.le_of_ble_eq_true rfl⟩ dX4_compare_3 (fun r2 v1 H locs hw Z => ?_)
  refine lv_istore (lv' := [(4, .int r2), (0, .ref (gad G 7)), (1, .int a1), (2, .int a2), (3, .int a3)]) hx hb dX4_compare_6 hl (by decide) rfl (fun ls hl => ?_)
  refine lv_iload hx hb dX4_compare_8 (lv_at hl 0 rfl) ?_
  refine lv_aload_n hx hb dX4_compare_10 rfl (lv_at hl 1 rfl) ?_
  refine z_get C0 Z in_X4 rfl 28 (by decide) rfl tm_4_231 (cx_lt C0 (by decide)) rfl rfl dX4_compare_11 ?_
  refine lv_icmp_le (tgt := 38) hx hb dX4_compare_14 (by decide) (fun c3 => ?_) (fun c3 => ?_)
  · replace hw := hw.1 c3
    exact b_X4_compare_38 l C0 _ _ _ _ hw Z (lv_sub hl [] rfl)
  · replace hw := hw.2 c3
    refine lv_aload_n hx hb dX4_compare_17 rfl (lv_at hl 1 rfl) ?_
    refine lv_iload hx hb dX4_compare_18 (lv_at hl 0 rfl) ?_
    refine z_put C0 Z in_X4 tyX4_ok nmX4 rfl 28 (by decide) rfl rfl tm_4_231 (cx_lt C0 (by decide)) rfl p_X4_28 (fun c' h => up2_off _ _ _ h) rfl rfl (Nat.le_of_ble_eq_true rfl) dX4_compare_20 (fun H locs Z => ?_)
    obtain ⟨v4, ev4⟩ : ∃ z : V3, z = up2 v1 7 28 r2 := ⟨_, rfl⟩
    rw [← ev4] at Z
    replace hw := hw v4 ev4
    refine lv_aload_n hx hb dX4_compare_23 rfl (lv_at hl 1 rfl) ?_
    refine lv_iload_n hx hb dX4_compare_24 rfl (lv_at hl 4 rfl) ?_
    obtain ⟨h5, hw⟩ := hw
    refine z_put C0 Z in_X4 tyX4_ok nmX4 rfl 29 (by decide) rfl rfl tm_4_232 (cx_lt C0 (by decide)) rfl p_X4_29 (fun c' h => up2_off _ _ _ h) (z_nb h5) (z_fb h5) (Nat.le_of_ble_eq_true rfl) dX4_compare_25 (fun H locs Z => ?_)
    obtain ⟨v6, ev6⟩ : ∃ z : V3, z = up2 v4 7 29 a3 := ⟨_, rfl⟩
    rw [← ev6] at Z
    replace hw := hw v6 ev6
    refine lv_aload_n hx hb dX4_compare_28 rfl (lv_at hl 1 rfl) ?_
    refine lv_iload_n hx hb dX4_compare_29 rfl (lv_at hl 2 rfl) ?_
    refine z_put C0 Z in_X4 tyX4_ok nmX4 rfl 30 (by decide) rfl rfl tm_4_233 (cx_lt C0 (by decide)) rfl p_X4_30 (fun c' h => up2_off _ _ _ h) rfl rfl (Nat.le_of_ble_eq_true rfl) dX4_compare_30 (fun H locs Z => ?_)
    obtain ⟨v7, ev7⟩ : ∃ z : V3, z = up2 v6 7 30 a1 := ⟨_, rfl⟩
    rw [← ev7] at Z
    replace hw := hw v7 ev7
    refine lv_aload_n hx hb dX4_compare_33 rfl (lv_at hl 1 rfl) ?_
    refine lv_iload_n hx hb dX4_compare_34 rfl (lv_at hl 3 rfl) ?_
    refine z_put C0 Z in_X4 tyX4_ok nmX4 rfl 31 (by decide) rfl rfl tm_4_234 (cx_lt C0 (by decide)) rfl p_X4_31 (fun c' h => up2_off _ _ _ h) rfl rfl (Nat.le_of_ble_eq_true rfl) dX4_compare_35 (fun H locs Z => ?_)
    obtain ⟨v8, ev8⟩ : ∃ z : V3, z = up2 v7 7 31 a2 := ⟨_, rfl⟩
    rw [← ev8] at Z
    replace hw := hw v8 ev8
    exact b_X4_compare_38 l C0 _ _ _ _ hw Z (lv_sub hl [] rfl)
-- X4_layBest: room (7, 166)
theorem dX4_layBest_0 : decode cX4_layBest 0 = .ok (.aload_n 0, 1) := by decide +kernel
theorem dX4_layBest_1 : decode cX4_layBest 1 = .ok (.iconst 0, 1) := by decide +kernel
theorem dX4_layBest_2 : decode cX4_layBest 2 = .ok (.putfield 335, 3) := by decide +kernel
theorem dX4_layBest_5 : decode cX4_layBest 5 = .ok (.iconst 0, 1) := by decide +kernel
theorem dX4_layBest_6 : decode cX4_layBest 6 = .ok (.istore_n 1, 1) := by decide +kernel
theorem dX4_layBest_7 : decode cX4_layBest 7 = .ok (.iload_n 1, 1) := by decide +kernel
theorem dX4_layBest_8 : decode cX4_layBest 8 = .ok (.aload_n 0, 1) := by decide +kernel
theorem dX4_layBest_9 : decode cX4_layBest 9 = .ok (.getfield 7, 3) := by decide +kernel
theorem dX4_layBest_12 : decode cX4_layBest 12 = .ok (.bipush 6, 2) := by decide +kernel
theorem dX4_layBest_14 : decode cX4_layBest 14 = .ok (.iaload, 1) := by decide +kernel
theorem dX4_layBest_15 : decode cX4_layBest 15 = .ok (.if_icmp .ge 48, 3) := by decide +kernel
theorem dX4_layBest_18 : decode cX4_layBest 18 = .ok (.iload_n 1, 1) := by decide +kernel
theorem dX4_layBest_19 : decode cX4_layBest 19 = .ok (.iconst 1, 1) := by decide +kernel
theorem dX4_layBest_20 : decode cX4_layBest 20 = .ok (.iadd, 1) := by decide +kernel
theorem dX4_layBest_21 : decode cX4_layBest 21 = .ok (.istore_n 2, 1) := by decide +kernel
theorem dX4_layBest_22 : decode cX4_layBest 22 = .ok (.iload_n 2, 1) := by decide +kernel
theorem dX4_layBest_23 : decode cX4_layBest 23 = .ok (.aload_n 0, 1) := by decide +kernel
theorem dX4_layBest_24 : decode cX4_layBest 24 = .ok (.getfield 7, 3) := by decide +kernel
theorem dX4_layBest_27 : decode cX4_layBest 27 = .ok (.bipush 6, 2) := by decide +kernel
theorem dX4_layBest_29 : decode cX4_layBest 29 = .ok (.iaload, 1) := by decide +kernel
theorem dX4_layBest_30 : decode cX4_layBest 30 = .ok (.if_icmp .ge 27, 3) := by decide +kernel
theorem dX4_layBest_33 : decode cX4_layBest 33 = .ok (.aload_n 0, 1) := by decide +kernel
theorem dX4_layBest_34 : decode cX4_layBest 34 = .ok (.iload_n 1, 1) := by decide +kernel
theorem dX4_layBest_35 : decode cX4_layBest 35 = .ok (.bipush 7, 2) := by decide +kernel
theorem dX4_layBest_37 : decode cX4_layBest 37 = .ok (.invokevirtual 71, 3) := by decide +kernel
theorem dX4_layBest_40 : decode cX4_layBest 40 = .ok (.iconst 1, 1) := by decide +kernel
theorem dX4_layBest_41 : decode cX4_layBest 41 = .ok (.if_icmp .ne 10, 3) := by decide +kernel
theorem dX4_layBest_44 : decode cX4_layBest 44 = .ok (.aload_n 0, 1) := by decide +kernel
theorem dX4_layBest_45 : decode cX4_layBest 45 = .ok (.iload_n 1, 1) := by decide +kernel
theorem dX4_layBest_46 : decode cX4_layBest 46 = .ok (.iload_n 2, 1) := by decide +kernel
theorem dX4_layBest_47 : decode cX4_layBest 47 = .ok (.iconst 0, 1) := by decide +kernel
theorem dX4_layBest_48 : decode cX4_layBest 48 = .ok (.invokevirtual 348, 3) := by decide +kernel
theorem dX4_layBest_51 : decode cX4_layBest 51 = .ok (.iinc 2 1, 3) := by decide +kernel
theorem dX4_layBest_54 : decode cX4_layBest 54 = .ok (.goto (-32), 3) := by decide +kernel
theorem dX4_layBest_57 : decode cX4_layBest 57 = .ok (.iinc 1 1, 3) := by decide +kernel
theorem dX4_layBest_60 : decode cX4_layBest 60 = .ok (.goto (-53), 3) := by decide +kernel
theorem dX4_layBest_63 : decode cX4_layBest 63 = .ok (.iconst 0, 1) := by decide +kernel
theorem dX4_layBest_64 : decode cX4_layBest 64 = .ok (.istore_n 1, 1) := by decide +kernel
theorem dX4_layBest_65 : decode cX4_layBest 65 = .ok (.iload_n 1, 1) := by decide +kernel
theorem dX4_layBest_66 : decode cX4_layBest 66 = .ok (.aload_n 0, 1) := by decide +kernel
theorem dX4_layBest_67 : decode cX4_layBest 67 = .ok (.getfield 7, 3) := by decide +kernel
theorem dX4_layBest_70 : decode cX4_layBest 70 = .ok (.bipush 6, 2) := by decide +kernel
theorem dX4_layBest_72 : decode cX4_layBest 72 = .ok (.iaload, 1) := by decide +kernel
theorem dX4_layBest_73 : decode cX4_layBest 73 = .ok (.if_icmp .ge 45, 3) := by decide +kernel
theorem dX4_layBest_76 : decode cX4_layBest 76 = .ok (.iconst 0, 1) := by decide +kernel
theorem dX4_layBest_77 : decode cX4_layBest 77 = .ok (.istore_n 2, 1) := by decide +kernel
theorem dX4_layBest_78 : decode cX4_layBest 78 = .ok (.iload_n 2, 1) := by decide +kernel
theorem dX4_layBest_79 : decode cX4_layBest 79 = .ok (.aload_n 0, 1) := by decide +kernel
theorem dX4_layBest_80 : decode cX4_layBest 80 = .ok (.getfield 7, 3) := by decide +kernel
theorem dX4_layBest_83 : decode cX4_layBest 83 = .ok (.bipush 6, 2) := by decide +kernel
theorem dX4_layBest_85 : decode cX4_layBest 85 = .ok (.iaload, 1) := by decide +kernel
theorem dX4_layBest_86 : decode cX4_layBest 86 = .ok (.if_icmp .ge 26, 3) := by decide +kernel
theorem dX4_layBest_89 : decode cX4_layBest 89 = .ok (.aload_n 0, 1) := by decide +kernel
theorem dX4_layBest_90 : decode cX4_layBest 90 = .ok (.iload_n 1, 1) := by decide +kernel
theorem dX4_layBest_91 : decode cX4_layBest 91 = .ok (.bipush 7, 2) := by decide +kernel
theorem dX4_layBest_93 : decode cX4_layBest 93 = .ok (.invokevirtual 71, 3) := by decide +kernel
theorem dX4_layBest_96 : decode cX4_layBest 96 = .ok (.ifCond .ne 10, 3) := by decide +kernel
theorem dX4_layBest_99 : decode cX4_layBest 99 = .ok (.aload_n 0, 1) := by decide +kernel
theorem dX4_layBest_100 : decode cX4_layBest 100 = .ok (.iload_n 1, 1) := by decide +kernel
theorem dX4_layBest_101 : decode cX4_layBest 101 = .ok (.iload_n 2, 1) := by decide +kernel
theorem dX4_layBest_102 : decode cX4_layBest 102 = .ok (.iconst 1, 1) := by decide +kernel
theorem dX4_layBest_103 : decode cX4_layBest 103 = .ok (.invokevirtual 348, 3) := by decide +kernel
theorem dX4_layBest_106 : decode cX4_layBest 106 = .ok (.iinc 2 1, 3) := by decide +kernel
theorem dX4_layBest_109 : decode cX4_layBest 109 = .ok (.goto (-31), 3) := by decide +kernel
theorem dX4_layBest_112 : decode cX4_layBest 112 = .ok (.iinc 1 1, 3) := by decide +kernel
theorem dX4_layBest_115 : decode cX4_layBest 115 = .ok (.goto (-50), 3) := by decide +kernel
theorem dX4_layBest_118 : decode cX4_layBest 118 = .ok (.return_, 1) := by decide +kernel
def w_X4_layBest_106  (Q : V3 → Prop) (K65 : Int32 → V3 → Prop) (K78 : Int32 → Int32 → V3 → Prop) (x1 : Int32) (x2 : Int32) (v : V3) : Prop := K78 x1 (x2 + 1) v
def w_X4_layBest_78  (Q : V3 → Prop) (K65 : Int32 → V3 → Prop) : Nat → Int32 → Int32 → V3 → Prop
  | 0, _, _, _ => False
  | n78 + 1, x1, x2, v => (((v 8 6) ≤ x2 → K65 (x1 + 1) v) ∧ (¬ (v 8 6) ≤ x2 → w_X4_of x1 7 v (fun r6 v5 => ((¬ r6 = 0 → w_X4_layBest_106 Q K65 (w_X4_layBest_78 Q K65 n78) x1 x2 v5) ∧ (r6 = 0 → w_X4_compare x1 x2 1 v5 (fun v8 => w_X4_layBest_106 Q K65 (w_X4_layBest_78 Q K65 n78) x1 x2 v8))))))
def w_X4_layBest_65  (Q : V3 → Prop) : Nat → Int32 → V3 → Prop
  | 0, _, _ => False
  | n65 + 1, x1, v => (((v 8 6) ≤ x1 → Q v) ∧ (¬ (v 8 6) ≤ x1 → ∃ m78 : Nat, w_X4_layBest_78 Q (w_X4_layBest_65 Q n65) m78 x1 0 v))
def w_X4_layBest_51  (Q : V3 → Prop) (K7 : Int32 → V3 → Prop) (K22 : Int32 → Int32 → V3 → Prop) (x1 : Int32) (x2 : Int32) (v : V3) : Prop := K22 x1 (x2 + 1) v
def w_X4_layBest_22  (Q : V3 → Prop) (K7 : Int32 → V3 → Prop) : Nat → Int32 → Int32 → V3 → Prop
  | 0, _, _, _ => False
  | n22 + 1, x1, x2, v => (((v 8 6) ≤ x2 → K7 (x1 + 1) v) ∧ (¬ (v 8 6) ≤ x2 → w_X4_of x1 7 v (fun r11 v10 => ((¬ r11 = 1 → w_X4_layBest_51 Q K7 (w_X4_layBest_22 Q K7 n22) x1 x2 v10) ∧ (r11 = 1 → w_X4_compare x1 x2 0 v10 (fun v13 => w_X4_layBest_51 Q K7 (w_X4_layBest_22 Q K7 n22) x1 x2 v13))))))
def w_X4_layBest_7  (Q : V3 → Prop) : Nat → Int32 → V3 → Prop
  | 0, _, _ => False
  | n7 + 1, x1, v => (((v 8 6) ≤ x1 → ∃ m65 : Nat, w_X4_layBest_65 Q m65 0 v) ∧ (¬ (v 8 6) ≤ x1 → ∃ m22 : Nat, w_X4_layBest_22 Q (w_X4_layBest_7 Q n7) m22 x1 (x1 + 1) v))
def w_X4_layBest  (v : V3) (Q : V3 → Prop) : Prop := ∀ v1 : V3, v1 = up2 v 7 28 0 → ∃ m7 : Nat, w_X4_layBest_7 Q m7 0 v1
set_option maxRecDepth 100000 in
set_option maxHeartbeats 4000000 in
theorem b_X4_layBest_106 {p : Program} (l : Launch) {e : Env} {s : State} {m : MethodId} {args : Array Value} {below : List Frame} {meth : Method} {c : Code} {G : zG}   (C0 : Cx G RX4 cX4_layBest 3 none p s m args meth c) {Q : V3 → Prop} {K65 : Int32 → V3 → Prop} (hK65 : ∀ (x1 : Int32) (v : V3) (H : Heap) (locs : List Loc) (ls : Array Slot), K65 x1 v → Zs G s v H locs → lv_has ls 3 [(0, .ref (gad G 7)), (1, .int x1)] → W p l e { frames := 7, cells := 0, slots := 0, locals := 166 } s m args below meth c H locs 0 0 (MQ below (QvZ G Q) args s 0 0 (zA G)) (F0 m 65 ls [])) {K78 : Int32 → Int32 → V3 → Prop} (hK78 : ∀ (x1 : Int32) (x2 : Int32) (v : V3) (H : Heap) (locs : List Loc) (ls : Array Slot), K78 x1 x2 v → Zs G s v H locs → lv_has ls 3 [(0, .ref (gad G 7)), (1, .int x1), (2, .int x2)] → W p l e { frames := 7, cells := 0, slots := 0, locals := 166 } s m args below meth c H locs 0 0 (MQ below (QvZ G Q) args s 0 0 (zA G)) (F0 m 78 ls [])) : ∀ (x1 : Int32) (x2 : Int32) (v : V3) (H : Heap) (locs : List Loc) (ls : Array Slot), w_X4_layBest_106 Q K65 K78 x1 x2 v → Zs G s v H locs → lv_has ls 3 [(0, .ref (gad G 7)), (1, .int x1), (2, .int x2)] → W p l e { frames := 7, cells := 0, slots := 0, locals := 166 } s m args below meth c H locs 0 0 (MQ below (QvZ G Q) args s 0 0 (zA G)) (F0 m 106 ls []) := by
  have hx := C0.1
  have hb := C0.2.1
  intro x1 x2 v H locs ls hw Z hl
  rw [w_X4_layBest_106] at hw
  refine lv_iinc (v := x2 + 1) (lv' := [(2, .int (x2 + 1)), (0, .ref (gad G 7)), (1, .int x1)]) hx hb dX4_layBest_106 hl (k := 2) rfl rfl (by decide) rfl (fun ls hl => ?_)
  refine lv_goto (tgt := 78) hx hb dX4_layBest_109 (by decide) ?_
  exact hK78 _ _ _ _ _ _ hw Z (lv_sub hl [1, 2, 0] rfl)
set_option maxRecDepth 100000 in
set_option maxHeartbeats 4000000 in
theorem b_X4_layBest_78 {p : Program} (l : Launch) {e : Env} {s : State} {m : MethodId} {args : Array Value} {below : List Frame} {meth : Method} {c : Code} {G : zG}   (C0 : Cx G RX4 cX4_layBest 3 none p s m args meth c) {Q : V3 → Prop} {K65 : Int32 → V3 → Prop} (hK65 : ∀ (x1 : Int32) (v : V3) (H : Heap) (locs : List Loc) (ls : Array Slot), K65 x1 v → Zs G s v H locs → lv_has ls 3 [(0, .ref (gad G 7)), (1, .int x1)] → W p l e { frames := 7, cells := 0, slots := 0, locals := 166 } s m args below meth c H locs 0 0 (MQ below (QvZ G Q) args s 0 0 (zA G)) (F0 m 65 ls [])) : ∀ (n : Nat) (x1 : Int32) (x2 : Int32) (v : V3) (H : Heap) (locs : List Loc) (ls : Array Slot), w_X4_layBest_78 Q K65 n x1 x2 v → Zs G s v H locs → lv_has ls 3 [(0, .ref (gad G 7)), (1, .int x1), (2, .int x2)] → W p l e { frames := 7, cells := 0, slots := 0, locals := 166 } s m args below meth c H locs 0 0 (MQ below (QvZ G Q) args s 0 0 (zA G)) (F0 m 78 ls []) := by
  have hx := C0.1
  have hb := C0.2.1
  intro n
  induction n with
  | zero =>
    intro x1 x2 v H locs ls hw Z hl
    exact hw.elim
  | succ n hK78 =>
    intro x1 x2 v H locs ls hw Z hl
    rw [w_X4_layBest_78] at hw
    refine lv_iload_n hx hb dX4_layBest_78 rfl (lv_at hl 2 rfl) ?_
    refine lv_aload_n hx hb dX4_layBest_79 rfl (lv_at hl 0 rfl) ?_
    refine z_get C0 Z in_X4 rfl 0 (by decide) rfl tm_4_203 (cx_lt C0 (by decide)) rfl rfl dX4_layBest_80 ?_
    refine lv_bipush (v := 6) hx hb dX4_layBest_83 (by decide) ?_
    refine z_ialdk C0 Z (cx_lt C0 (by decide)) rfl in_6_474 nc_6 dX4_layBest_85 ?_
    refine lv_icmp_ge (tgt := 112) hx hb dX4_layBest_86 (by decide) (fun c4 => ?_) (fun c4 => ?_)
    · replace hw := hw.1 c4
      refine lv_iinc (v := x1 + 1) (lv' := [(1, .int (x1 + 1)), (0, .ref (gad G 7)), (2, .int x2)]) hx hb dX4_layBest_112 hl (k := 1) rfl rfl (by decide) rfl (fun ls hl => ?_)
      refine lv_goto (tgt := 65) hx hb dX4_layBest_115 (by decide) ?_
      exact hK65 _ _ _ _ _ hw Z (lv_sub hl [1, 0] rfl)
    · replace hw := hw.2 c4
      refine lv_aload_n hx hb dX4_layBest_89 rfl (lv_at hl 0 rfl) ?_
      refine lv_iload_n hx hb dX4_layBest_90 rfl (lv_at hl 1 rfl) ?_
      refine lv_bipush (v := 7) hx hb dX4_layBest_91 (by decide) ?_
      refine z_callVi C0 Z hl.1 (As := [.int x1, .int 7]) (rest := []) (k_X4_of l (cx_g C0) hw) (gv_X4_of tm_5_163) rfl ds_X4_of ⟨Nat.le_of_ble_eq_true rfl, Nat.le_of_ble_eq_true rfl⟩ (ci := 4) rfl (cx_lt C0 (by decide)) rfl rfl rfl (Nat.le_of_ble_eq_true rfl) ⟨Nat.le_of_ble_eq_true rfl, Nat.le_of_ble_eq_true rfl⟩ dX4_layBest_93 (fun r6 v5 H locs hw Z => ?_)
      refine lv_if_ne (tgt := 106) hx hb dX4_layBest_96 (by decide) (fun c7 => ?_) (fun c7 => ?_)
      · replace hw := hw.1 c7
        exact b_X4_layBest_106 l C0 hK65 hK78 _ _ _ _ _ _ hw Z (lv_sub hl [0, 1, 2] rfl)
      · replace hw := hw.2 c7
        refine lv_aload_n hx hb dX4_layBest_99 rfl (lv_at hl 0 rfl) ?_
        refine lv_iload_n hx hb dX4_layBest_100 rfl (lv_at hl 1 rfl) ?_
        refine lv_iload_n hx hb dX4_layBest_101 rfl (lv_at hl 2 rfl) ?_
        refine lv_iconst (v := 1) hx hb dX4_layBest_102 (by decide) ?_
        refine z_callVv C0 Z hl.1 (As := [.int x1, .int x2, .int 1]) (rest := []) (k_X4_compare l (cx_g C0) hw) (gv_X4_compare tm_6_167) rfl ds_X4_compare ⟨Nat.le_of_ble_eq_true rfl, Nat.le_of_ble_eq_true rfl⟩ (ci := 4) rfl (cx_lt C0 (by decide)) rfl rfl rfl (Nat.le_of_ble_eq_true rfl) ⟨Nat.le_of_ble_eq_true rfl, Nat.le_of_ble_eq_true rfl⟩ dX4_layBest_103 (fun v8 H locs hw Z => ?_)
        exact b_X4_layBest_106 l C0 hK65 hK78 _ _ _ _ _ _ hw Z (lv_sub hl [0, 1, 2] rfl)
set_option maxRecDepth 100000 in
set_option maxHeartbeats 4000000 in
theorem b_X4_layBest_65 {p : Program} (l : Launch) {e : Env} {s : State} {m : MethodId} {args : Array Value} {below : List Frame} {meth : Method} {c : Code} {G : zG}   (C0 : Cx G RX4 cX4_layBest 3 none p s m args meth c) {Q : V3 → Prop} : ∀ (n : Nat) (x1 : Int32) (v : V3) (H : Heap) (locs : List Loc) (ls : Array Slot), w_X4_layBest_65 Q n x1 v → Zs G s v H locs → lv_has ls 3 [(0, .ref (gad G 7)), (1, .int x1)] → W p l e { frames := 7, cells := 0, slots := 0, locals := 166 } s m args below meth c H locs 0 0 (MQ below (QvZ G Q) args s 0 0 (zA G)) (F0 m 65 ls []) := by
  have hx := C0.1
  have hb := C0.2.1
  intro n
  induction n with
  | zero =>
    intro x1 v H locs ls hw Z hl
    exact hw.elim
  | succ n hK65 =>
    intro x1 v H locs ls hw Z hl
    rw [w_X4_layBest_65] at hw
    refine lv_iload_n hx hb dX4_layBest_65 rfl (lv_at hl 1 rfl) ?_
    refine lv_aload_n hx hb dX4_layBest_66 rfl (lv_at hl 0 rfl) ?_
    refine z_get C0 Z in_X4 rfl 0 (by decide) rfl tm_4_203 (cx_lt C0 (by decide)) rfl rfl dX4_layBest_67 ?_
    refine lv_bipush (v := 6) hx hb dX4_layBest_70 (by decide) ?_
    refine z_ialdk C0 Z (cx_lt C0 (by decide)) rfl in_6_474 nc_6 dX4_layBest_72 ?_
    refine lv_icmp_ge (tgt := 118) hx hb dX4_layBest_73 (by decide) (fun c3 => ?_) (fun c3 => ?_)
    · replace hw := hw.1 c3
      exact z_vret C0 Z hw dX4_layBest_118
    · replace hw := hw.2 c3
      refine lv_iconst (v := 0) hx hb dX4_layBest_76 (by decide) ?_
      refine lv_istore_n (lv' := [(2, .int 0), (0, .ref (gad G 7)), (1, .int x1)]) hx hb dX4_layBest_77 rfl hl (by decide) rfl (fun ls hl => ?_)
      obtain ⟨m78, hw⟩ := hw
      exact b_X4_layBest_78 l C0 hK65 m78 _ _ _ _ _ _ hw Z (lv_sub hl [1, 2, 0] rfl)
set_option maxRecDepth 100000 in
set_option maxHeartbeats 4000000 in
theorem b_X4_layBest_51 {p : Program} (l : Launch) {e : Env} {s : State} {m : MethodId} {args : Array Value} {below : List Frame} {meth : Method} {c : Code} {G : zG}   (C0 : Cx G RX4 cX4_layBest 3 none p s m args meth c) {Q : V3 → Prop} {K7 : Int32 → V3 → Prop} (hK7 : ∀ (x1 : Int32) (v : V3) (H : Heap) (locs : List Loc) (ls : Array Slot), K7 x1 v → Zs G s v H locs → lv_has ls 3 [(0, .ref (gad G 7)), (1, .int x1)] → W p l e { frames := 7, cells := 0, slots := 0, locals := 166 } s m args below meth c H locs 0 0 (MQ below (QvZ G Q) args s 0 0 (zA G)) (F0 m 7 ls [])) {K22 : Int32 → Int32 → V3 → Prop} (hK22 : ∀ (x1 : Int32) (x2 : Int32) (v : V3) (H : Heap) (locs : List Loc) (ls : Array Slot), K22 x1 x2 v → Zs G s v H locs → lv_has ls 3 [(0, .ref (gad G 7)), (1, .int x1), (2, .int x2)] → W p l e { frames := 7, cells := 0, slots := 0, locals := 166 } s m args below meth c H locs 0 0 (MQ below (QvZ G Q) args s 0 0 (zA G)) (F0 m 22 ls [])) : ∀ (x1 : Int32) (x2 : Int32) (v : V3) (H : Heap) (locs : List Loc) (ls : Array Slot), w_X4_layBest_51 Q K7 K22 x1 x2 v → Zs G s v H locs → lv_has ls 3 [(0, .ref (gad G 7)), (1, .int x1), (2, .int x2)] → W p l e { frames := 7, cells := 0, slots := 0, locals := 166 } s m args below meth c H locs 0 0 (MQ below (QvZ G Q) args s 0 0 (zA G)) (F0 m 51 ls []) := by
  have hx := C0.1
  have hb := C0.2.1
  intro x1 x2 v H locs ls hw Z hl
  rw [w_X4_layBest_51] at hw
  refine lv_iinc (v := x2 + 1) (lv' := [(2, .int (x2 + 1)), (0, .ref (gad G 7)), (1, .int x1)]) hx hb dX4_layBest_51 hl (k := 2) rfl rfl (by decide) rfl (fun ls hl => ?_)
  refine lv_goto (tgt := 22) hx hb dX4_layBest_54 (by decide) ?_
  exact hK22 _ _ _ _ _ _ hw Z (lv_sub hl [1, 2, 0] rfl)
set_option maxRecDepth 100000 in
set_option maxHeartbeats 4000000 in
theorem b_X4_layBest_22 {p : Program} (l : Launch) {e : Env} {s : State} {m : MethodId} {args : Array Value} {below : List Frame} {meth : Method} {c : Code} {G : zG}   (C0 : Cx G RX4 cX4_layBest 3 none p s m args meth c) {Q : V3 → Prop} {K7 : Int32 → V3 → Prop} (hK7 : ∀ (x1 : Int32) (v : V3) (H : Heap) (locs : List Loc) (ls : Array Slot), K7 x1 v → Zs G s v H locs → lv_has ls 3 [(0, .ref (gad G 7)), (1, .int x1)] → W p l e { frames := 7, cells := 0, slots := 0, locals := 166 } s m args below meth c H locs 0 0 (MQ below (QvZ G Q) args s 0 0 (zA G)) (F0 m 7 ls [])) : ∀ (n : Nat) (x1 : Int32) (x2 : Int32) (v : V3) (H : Heap) (locs : List Loc) (ls : Array Slot), w_X4_layBest_22 Q K7 n x1 x2 v → Zs G s v H locs → lv_has ls 3 [(0, .ref (gad G 7)), (1, .int x1), (2, .int x2)] → W p l e { frames := 7, cells := 0, slots := 0, locals := 166 } s m args below meth c H locs 0 0 (MQ below (QvZ G Q) args s 0 0 (zA G)) (F0 m 22 ls []) := by
  have hx := C0.1
  have hb := C0.2.1
  intro n
  induction n with
  | zero =>
    intro x1 x2 v H locs ls hw Z hl
    exact hw.elim
  | succ n hK22 =>
    intro x1 x2 v H locs ls hw Z hl
    rw [w_X4_layBest_22] at hw
    refine lv_iload_n hx hb dX4_layBest_22 rfl (lv_at hl 2 rfl) ?_
    refine lv_aload_n hx hb dX4_layBest_23 rfl (lv_at hl 0 rfl) ?_
    refine z_get C0 Z in_X4 rfl 0 (by decide) rfl tm_4_203 (cx_lt C0 (by decide)) rfl rfl dX4_layBest_24 ?_
    refine lv_bipush (v := 6) hx hb dX4_layBest_27 (by decide) ?_
    refine z_ialdk C0 Z (cx_lt C0 (by decide)) rfl in_6_474 nc_6 dX4_layBest_29 ?_
    refine lv_icmp_ge (tgt := 57) hx hb dX4_layBest_30 (by decide) (fun c9 => ?_) (fun c9 => ?_)
    · replace hw := hw.1 c9
      refine lv_iinc (v := x1 + 1) (lv' := [(1, .int (x1 + 1)), (0, .ref (gad G 7)), (2, .int x2)]) hx hb dX4_layBest_57 hl (k := 1) rfl rfl (by decide) rfl (fun ls hl => ?_)
      refine lv_goto (tgt := 7) hx hb dX4_layBest_60 (by decide) ?_
      exact hK7 _ _ _ _ _ hw Z (lv_sub hl [1, 0] rfl)
    · replace hw := hw.2 c9
      refine lv_aload_n hx hb dX4_layBest_33 rfl (lv_at hl 0 rfl) ?_
      refine lv_iload_n hx hb dX4_layBest_34 rfl (lv_at hl 1 rfl) ?_
      refine lv_bipush (v := 7) hx hb dX4_layBest_35 (by decide) ?_
      refine z_callVi C0 Z hl.1 (As := [.int x1, .int 7]) (rest := []) (k_X4_of l (cx_g C0) hw) (gv_X4_of tm_5_163) rfl ds_X4_of ⟨Nat.le_of_ble_eq_true rfl, Nat.le_of_ble_eq_true rfl⟩ (ci := 4) rfl (cx_lt C0 (by decide)) rfl rfl rfl (Nat.le_of_ble_eq_true rfl) ⟨Nat.le_of_ble_eq_true rfl, Nat.le_of_ble_eq_true rfl⟩ dX4_layBest_37 (fun r11 v10 H locs hw Z => ?_)
      refine lv_iconst (v := 1) hx hb dX4_layBest_40 (by decide) ?_
      refine lv_icmp_ne (tgt := 51) hx hb dX4_layBest_41 (by decide) (fun c12 => ?_) (fun c12 => ?_)
      · replace hw := hw.1 c12
        exact b_X4_layBest_51 l C0 hK7 hK22 _ _ _ _ _ _ hw Z (lv_sub hl [0, 1, 2] rfl)
      · replace hw := hw.2 c12
        refine lv_aload_n hx hb dX4_layBest_44 rfl (lv_at hl 0 rfl) ?_
        refine lv_iload_n hx hb dX4_layBest_45 rfl (lv_at hl 1 rfl) ?_
        refine lv_iload_n hx hb dX4_layBest_46 rfl (lv_at hl 2 rfl) ?_
        refine lv_iconst (v := 0) hx hb dX4_layBest_47 (by decide) ?_
        refine z_callVv C0 Z hl.1 (As := [.int x1, .int x2, .int 0]) (rest := []) (k_X4_compare l (cx_g C0) hw) (gv_X4_compare tm_6_167) rfl ds_X4_compare ⟨Nat.le_of_ble_eq_true rfl, Nat.le_of_ble_eq_true rfl⟩ (ci := 4) rfl (cx_lt C0 (by decide)) rfl rfl rfl (Nat.le_of_ble_eq_true rfl) ⟨Nat.le_of_ble_eq_true rfl, Nat.le_of_ble_eq_true rfl⟩ dX4_layBest_48 (fun v13 H locs hw Z => ?_)
        exact b_X4_layBest_51 l C0 hK7 hK22 _ _ _ _ _ _ hw Z (lv_sub hl [0, 1, 2] rfl)
set_option maxRecDepth 100000 in
set_option maxHeartbeats 4000000 in
theorem b_X4_layBest_7 {p : Program} (l : Launch) {e : Env} {s : State} {m : MethodId} {args : Array Value} {below : List Frame} {meth : Method} {c : Code} {G : zG}   (C0 : Cx G RX4 cX4_layBest 3 none p s m args meth c) {Q : V3 → Prop} : ∀ (n : Nat) (x1 : Int32) (v : V3) (H : Heap) (locs : List Loc) (ls : Array Slot), w_X4_layBest_7 Q n x1 v → Zs G s v H locs → lv_has ls 3 [(0, .ref (gad G 7)), (1, .int x1)] → W p l e { frames := 7, cells := 0, slots := 0, locals := 166 } s m args below meth c H locs 0 0 (MQ below (QvZ G Q) args s 0 0 (zA G)) (F0 m 7 ls []) := by
  have hx := C0.1
  have hb := C0.2.1
  intro n
  induction n with
  | zero =>
    intro x1 v H locs ls hw Z hl
    exact hw.elim
  | succ n hK7 =>
    intro x1 v H locs ls hw Z hl
    rw [w_X4_layBest_7] at hw
    refine lv_iload_n hx hb dX4_layBest_7 rfl (lv_at hl 1 rfl) ?_
    refine lv_aload_n hx hb dX4_layBest_8 rfl (lv_at hl 0 rfl) ?_
    refine z_get C0 Z in_X4 rfl 0 (by decide) rfl tm_4_203 (cx_lt C0 (by decide)) rfl rfl dX4_layBest_9 ?_
    refine lv_bipush (v := 6) hx hb dX4_layBest_12 (by decide) ?_
    refine z_ialdk C0 Z (cx_lt C0 (by decide)) rfl in_6_474 nc_6 dX4_layBest_14 ?_
    refine lv_icmp_ge (tgt := 63) hx hb dX4_layBest_15 (by decide) (fun c2 => ?_) (fun c2 => ?_)
    · replace hw := hw.1 c2
      refine lv_iconst (v := 0) hx hb dX4_layBest_63 (by decide) ?_
      refine lv_istore_n (lv' := [(1, .int 0), (0, .ref (gad G 7))]) hx hb dX4_layBest_64 rfl hl (by decide) rfl (fun ls hl => ?_)
      obtain ⟨m65, hw⟩ := hw
      exact b_X4_layBest_65 l C0 m65 _ _ _ _ _ hw Z (lv_sub hl [1, 0] rfl)
    · replace hw := hw.2 c2
      refine lv_iload_n hx hb dX4_layBest_18 rfl (lv_at hl 1 rfl) ?_
      refine lv_iconst (v := 1) hx hb dX4_layBest_19 (by decide) ?_
      refine lv_iadd hx hb dX4_layBest_20 ?_
      refine lv_istore_n (lv' := [(2, .int (x1 + 1)), (0, .ref (gad G 7)), (1, .int x1)]) hx hb dX4_layBest_21 rfl hl (by decide) rfl (fun ls hl => ?_)
      obtain ⟨m22, hw⟩ := hw
      exact b_X4_layBest_22 l C0 hK7 m22 _ _ _ _ _ _ hw Z (lv_sub hl [1, 2, 0] rfl)
set_option maxRecDepth 100000 in
set_option maxHeartbeats 4000000 in
theorem k_X4_layBest (l : Launch) {G : zG} (hg : 129 ≤ gn G)  {v : V3} {Q : V3 → Prop} (hw : w_X4_layBest v Q) : Mz l yX4_layBest cX4_layBest 3 none 7 166 G [.ref (gad G 7)] v (QvZ G Q) := by
  rw [w_X4_layBest] at hw
  refine z_ofW hg (by decide) (Nat.le_of_ble_eq_true rfl) ?_
  intro p e s m args below meth c ls C0 Z hl
  have hx := C0.1
  have hb := C0.2.1
  replace hl : lv_has ls 3 [(0, .ref (gad G 7))] := hl
  generalize s.heap = H at Z ⊢
  generalize ([] : List Loc) = locs at Z ⊢
  refine lv_aload_n hx hb dX4_layBest_0 rfl (lv_at hl 0 rfl) ?_
  refine lv_iconst (v := 0) hx hb dX4_layBest_1 (by decide) ?_
  refine z_put C0 Z in_X4 tyX4_ok nmX4 rfl 28 (by decide) rfl rfl tm_4_231 (cx_lt C0 (by decide)) rfl p_X4_28 (fun c' h => up2_off _ _ _ h) rfl rfl (Nat.le_of_ble_eq_true rfl) dX4_layBest_2 (fun H locs Z => ?_)
  obtain ⟨v1, ev1⟩ : ∃ z : V3, z = up2 v 7 28 0 := ⟨_, rfl⟩
  rw [← ev1] at Z
  replace hw := hw v1 ev1
  refine lv_iconst (v := 0) hx hb dX4_layBest_5 (by decide) ?_
  refine lv_istore_n (lv' := [(1, .int 0), (0, .ref (gad G 7))]) hx hb dX4_layBest_6 rfl hl (by decide) rfl (fun ls hl => ?_)
  obtain ⟨m7, hw⟩ := hw
  exact b_X4_layBest_7 l C0 m7 _ _ _ _ _ hw Z (lv_sub hl [1, 0] rfl)
-- X4_bargain: room (8, 188)
theorem dX4_bargain_0 : decode cX4_bargain 0 = .ok (.aload_n 0, 1) := by decide +kernel
theorem dX4_bargain_1 : decode cX4_bargain 1 = .ok (.iconst 0, 1) := by decide +kernel
theorem dX4_bargain_2 : decode cX4_bargain 2 = .ok (.putfield 55, 3) := by decide +kernel
theorem dX4_bargain_5 : decode cX4_bargain 5 = .ok (.aload_n 0, 1) := by decide +kernel
theorem dX4_bargain_6 : decode cX4_bargain 6 = .ok (.invokevirtual 352, 3) := by decide +kernel
theorem dX4_bargain_9 : decode cX4_bargain 9 = .ok (.aload_n 0, 1) := by decide +kernel
theorem dX4_bargain_10 : decode cX4_bargain 10 = .ok (.getfield 335, 3) := by decide +kernel
theorem dX4_bargain_13 : decode cX4_bargain 13 = .ok (.ifCond .ne 5, 3) := by decide +kernel
theorem dX4_bargain_16 : decode cX4_bargain 16 = .ok (.iconst 5, 1) := by decide +kernel
theorem dX4_bargain_17 : decode cX4_bargain 17 = .ok (.ireturn, 1) := by decide +kernel
theorem dX4_bargain_18 : decode cX4_bargain 18 = .ok (.aload_n 0, 1) := by decide +kernel
theorem dX4_bargain_19 : decode cX4_bargain 19 = .ok (.getfield 338, 3) := by decide +kernel
theorem dX4_bargain_22 : decode cX4_bargain 22 = .ok (.ifCond .eq 18, 3) := by decide +kernel
theorem dX4_bargain_25 : decode cX4_bargain 25 = .ok (.aload_n 0, 1) := by decide +kernel
theorem dX4_bargain_26 : decode cX4_bargain 26 = .ok (.aload_n 0, 1) := by decide +kernel
theorem dX4_bargain_27 : decode cX4_bargain 27 = .ok (.getfield 342, 3) := by decide +kernel
theorem dX4_bargain_30 : decode cX4_bargain 30 = .ok (.aload_n 0, 1) := by decide +kernel
theorem dX4_bargain_31 : decode cX4_bargain 31 = .ok (.getfield 345, 3) := by decide +kernel
theorem dX4_bargain_34 : decode cX4_bargain 34 = .ok (.invokevirtual 329, 3) := by decide +kernel
theorem dX4_bargain_37 : decode cX4_bargain 37 = .ok (.goto 15, 3) := by decide +kernel
theorem dX4_bargain_40 : decode cX4_bargain 40 = .ok (.aload_n 0, 1) := by decide +kernel
theorem dX4_bargain_41 : decode cX4_bargain 41 = .ok (.aload_n 0, 1) := by decide +kernel
theorem dX4_bargain_42 : decode cX4_bargain 42 = .ok (.getfield 342, 3) := by decide +kernel
theorem dX4_bargain_45 : decode cX4_bargain 45 = .ok (.aload_n 0, 1) := by decide +kernel
theorem dX4_bargain_46 : decode cX4_bargain 46 = .ok (.getfield 345, 3) := by decide +kernel
theorem dX4_bargain_49 : decode cX4_bargain 49 = .ok (.invokevirtual 326, 3) := by decide +kernel
theorem dX4_bargain_52 : decode cX4_bargain 52 = .ok (.aload_n 0, 1) := by decide +kernel
theorem dX4_bargain_53 : decode cX4_bargain 53 = .ok (.invokevirtual 308, 3) := by decide +kernel
theorem dX4_bargain_56 : decode cX4_bargain 56 = .ok (.ireturn, 1) := by decide +kernel
def w_X4_bargain_52  (Q : Int32 → V3 → Prop) (v : V3) : Prop := w_X4_done v (fun r7 v6 => Q r7 v6)
def w_X4_bargain  (v : V3) (Q : Int32 → V3 → Prop) : Prop := ∀ v1 : V3, v1 = up2 v 7 11 0 → w_X4_layBest v1 (fun v2 => ((¬ (v2 7 28) = 0 → (((v2 7 29) = 0 → w_X4_makeSwap (v2 7 30) (v2 7 31) v2 (fun v5 => w_X4_bargain_52 Q v5)) ∧ (¬ (v2 7 29) = 0 → w_X4_makeBuyout (v2 7 30) (v2 7 31) v2 (fun v8 => w_X4_bargain_52 Q v8)))) ∧ ((v2 7 28) = 0 → Q 5 v2)))
set_option maxRecDepth 100000 in
set_option maxHeartbeats 4000000 in
theorem b_X4_bargain_52 {p : Program} (l : Launch) {e : Env} {s : State} {m : MethodId} {args : Array Value} {below : List Frame} {meth : Method} {c : Code} {G : zG}   (C0 : Cx G RX4 cX4_bargain 1 (some .int) p s m args meth c) {Q : Int32 → V3 → Prop} : ∀ (v : V3) (H : Heap) (locs : List Loc) (ls : Array Slot), w_X4_bargain_52 Q v → Zs G s v H locs → lv_has ls 1 [(0, .ref (gad G 7))] → W p l e { frames := 8, cells := 0, slots := 0, locals := 188 } s m args below meth c H locs 0 0 (MQ below (QiZ G Q) args s 0 0 (zA G)) (F0 m 52 ls []) := by
  have hx := C0.1
  have hb := C0.2.1
  intro v H locs ls hw Z hl
  rw [w_X4_bargain_52] at hw
  refine lv_aload_n hx hb dX4_bargain_52 rfl (lv_at hl 0 rfl) ?_
  refine z_callVi C0 Z hl.1 (As := []) (rest := []) (k_X4_done l (cx_g C0) hw) (gv_X4_done tm_6_103) rfl ds_X4_done ⟨Nat.le_of_ble_eq_true rfl, Nat.le_of_ble_eq_true rfl⟩ (ci := 4) rfl (cx_lt C0 (by decide)) rfl rfl rfl (Nat.le_of_ble_eq_true rfl) ⟨Nat.le_of_ble_eq_true rfl, Nat.le_of_ble_eq_true rfl⟩ dX4_bargain_53 (fun r7 v6 H locs hw Z => ?_)
  exact z_iret C0 Z hw dX4_bargain_56
set_option maxRecDepth 100000 in
set_option maxHeartbeats 4000000 in
theorem k_X4_bargain (l : Launch) {G : zG} (hg : 129 ≤ gn G)  {v : V3} {Q : Int32 → V3 → Prop} (hw : w_X4_bargain v Q) : Mz l yX4_bargain cX4_bargain 1 (some .int) 8 188 G [.ref (gad G 7)] v (QiZ G Q) := by
  rw [w_X4_bargain] at hw
  refine z_ofW hg (by decide) (Nat.le_of_ble_eq_true rfl) ?_
  intro p e s m args below meth c ls C0 Z hl
  have hx := C0.1
  have hb := C0.2.1
  replace hl : lv_has ls 1 [(0, .ref (gad G 7))] := hl
  generalize s.heap = H at Z ⊢
  generalize ([] : List Loc) = locs at Z ⊢
  refine lv_aload_n hx hb dX4_bargain_0 rfl (lv_at hl 0 rfl) ?_
  refine lv_iconst (v := 0) hx hb dX4_bargain_1 (by decide) ?_
  refine z_put C0 Z in_X4 tyX4_ok nmX4 rfl 11 (by decide) rfl rfl tm_4_214 (cx_lt C0 (by decide)) rfl p_X4_11 (fun c' h => up2_off _ _ _ h) rfl rfl (Nat.le_of_ble_eq_true rfl) dX4_bargain_2 (fun H locs Z => ?_)
  obtain ⟨v1, ev1⟩ : ∃ z : V3, z = up2 v 7 11 0 := ⟨_, rfl⟩
  rw [← ev1] at Z
  replace hw := hw v1 ev1
  refine lv_aload_n hx hb dX4_bargain_5 rfl (lv_at hl 0 rfl) ?_
  refine z_callVv C0 Z hl.1 (As := []) (rest := []) (k_X4_layBest l (cx_g C0) hw) (gv_X4_layBest tm_6_163) rfl ds_X4_layBest ⟨Nat.le_of_ble_eq_true rfl, Nat.le_of_ble_eq_true rfl⟩ (ci := 4) rfl (cx_lt C0 (by decide)) rfl rfl rfl (Nat.le_of_ble_eq_true rfl) ⟨Nat.le_of_ble_eq_true rfl, Nat.le_of_ble_eq_true rfl⟩ dX4_bargain_6 (fun v2 H locs hw Z => ?_)
  refine lv_aload_n hx hb dX4_bargain_9 rfl (lv_at hl 0 rfl) ?_
  refine z_get C0 Z in_X4 rfl 28 (by decide) rfl tm_4_231 (cx_lt C0 (by decide)) rfl rfl dX4_bargain_10 ?_
  refine lv_if_ne (tgt := 18) hx hb dX4_bargain_13 (by decide) (fun c3 => ?_) (fun c3 => ?_)
  · replace hw := hw.1 c3
    refine lv_aload_n hx hb dX4_bargain_18 rfl (lv_at hl 0 rfl) ?_
    refine z_get C0 Z in_X4 rfl 29 (by decide) rfl tm_4_232 (cx_lt C0 (by decide)) rfl rfl dX4_bargain_19 ?_
    refine lv_if_eq (tgt := 40) hx hb dX4_bargain_22 (by decide) (fun c4 => ?_) (fun c4 => ?_)
    · replace hw := hw.1 c4
      refine lv_aload_n hx hb dX4_bargain_40 rfl (lv_at hl 0 rfl) ?_
      refine lv_aload_n hx hb dX4_bargain_41 rfl (lv_at hl 0 rfl) ?_
      refine z_get C0 Z in_X4 rfl 30 (by decide) rfl tm_4_233 (cx_lt C0 (by decide)) rfl rfl dX4_bargain_42 ?_
      refine lv_aload_n hx hb dX4_bargain_45 rfl (lv_at hl 0 rfl) ?_
      refine z_get C0 Z in_X4 rfl 31 (by decide) rfl tm_4_234 (cx_lt C0 (by decide)) rfl rfl dX4_bargain_46 ?_
      refine z_callVv C0 Z hl.1 (As := [.int (v2 7 30), .int (v2 7 31)]) (rest := []) (k_X4_makeSwap l (cx_g C0) hw) (gv_X4_makeSwap tm_6_131) rfl ds_X4_makeSwap ⟨Nat.le_of_ble_eq_true rfl, Nat.le_of_ble_eq_true rfl⟩ (ci := 4) rfl (cx_lt C0 (by decide)) rfl rfl rfl (Nat.le_of_ble_eq_true rfl) ⟨Nat.le_of_ble_eq_true rfl, Nat.le_of_ble_eq_true rfl⟩ dX4_bargain_49 (fun v5 H locs hw Z => ?_)
      exact b_X4_bargain_52 l C0 _ _ _ _ hw Z (lv_sub hl [0] rfl)
    · replace hw := hw.2 c4
      refine lv_aload_n hx hb dX4_bargain_25 rfl (lv_at hl 0 rfl) ?_
      refine lv_aload_n hx hb dX4_bargain_26 rfl (lv_at hl 0 rfl) ?_
      refine z_get C0 Z in_X4 rfl 30 (by decide) rfl tm_4_233 (cx_lt C0 (by decide)) rfl rfl dX4_bargain_27 ?_
      refine lv_aload_n hx hb dX4_bargain_30 rfl (lv_at hl 0 rfl) ?_
      refine z_get C0 Z in_X4 rfl 31 (by decide) rfl tm_4_234 (cx_lt C0 (by decide)) rfl rfl dX4_bargain_31 ?_
      refine z_callVv C0 Z hl.1 (As := [.int (v2 7 30), .int (v2 7 31)]) (rest := []) (k_X4_makeBuyout l (cx_g C0) hw) (gv_X4_makeBuyout tm_6_155) rfl ds_X4_makeBuyout ⟨Nat.le_of_ble_eq_true rfl, Nat.le_of_ble_eq_true rfl⟩ (ci := 4) rfl (cx_lt C0 (by decide)) rfl rfl rfl (Nat.le_of_ble_eq_true rfl) ⟨Nat.le_of_ble_eq_true rfl, Nat.le_of_ble_eq_true rfl⟩ dX4_bargain_34 (fun v8 H locs hw Z => ?_)
      refine lv_goto (tgt := 52) hx hb dX4_bargain_37 (by decide) ?_
      exact b_X4_bargain_52 l C0 _ _ _ _ hw Z (lv_sub hl [0] rfl)
  · replace hw := hw.2 c3
    refine lv_iconst (v := 5) hx hb dX4_bargain_16 (by decide) ?_
    exact z_iret C0 Z hw dX4_bargain_17
-- X4_endHeld: room (1, 23)
theorem dX4_endHeld_0 : decode cX4_endHeld 0 = .ok (.iconst 0, 1) := by decide +kernel
theorem dX4_endHeld_1 : decode cX4_endHeld 1 = .ok (.istore_n 1, 1) := by decide +kernel
theorem dX4_endHeld_2 : decode cX4_endHeld 2 = .ok (.iload_n 1, 1) := by decide +kernel
theorem dX4_endHeld_3 : decode cX4_endHeld 3 = .ok (.aload_n 0, 1) := by decide +kernel
theorem dX4_endHeld_4 : decode cX4_endHeld 4 = .ok (.getfield 7, 3) := by decide +kernel
theorem dX4_endHeld_7 : decode cX4_endHeld 7 = .ok (.bipush 6, 2) := by decide +kernel
theorem dX4_endHeld_9 : decode cX4_endHeld 9 = .ok (.iaload, 1) := by decide +kernel
theorem dX4_endHeld_10 : decode cX4_endHeld 10 = .ok (.if_icmp .ge 67, 3) := by decide +kernel
theorem dX4_endHeld_13 : decode cX4_endHeld 13 = .ok (.aload_n 0, 1) := by decide +kernel
theorem dX4_endHeld_14 : decode cX4_endHeld 14 = .ok (.iload_n 1, 1) := by decide +kernel
theorem dX4_endHeld_15 : decode cX4_endHeld 15 = .ok (.bipush 7, 2) := by decide +kernel
theorem dX4_endHeld_17 : decode cX4_endHeld 17 = .ok (.invokevirtual 71, 3) := by decide +kernel
theorem dX4_endHeld_20 : decode cX4_endHeld 20 = .ok (.iconst 2, 1) := by decide +kernel
theorem dX4_endHeld_21 : decode cX4_endHeld 21 = .ok (.if_icmp .ne 50, 3) := by decide +kernel
theorem dX4_endHeld_24 : decode cX4_endHeld 24 = .ok (.aload_n 0, 1) := by decide +kernel
theorem dX4_endHeld_25 : decode cX4_endHeld 25 = .ok (.iload_n 1, 1) := by decide +kernel
theorem dX4_endHeld_26 : decode cX4_endHeld 26 = .ok (.bipush 9, 2) := by decide +kernel
theorem dX4_endHeld_28 : decode cX4_endHeld 28 = .ok (.invokevirtual 71, 3) := by decide +kernel
theorem dX4_endHeld_31 : decode cX4_endHeld 31 = .ok (.aload_n 0, 1) := by decide +kernel
theorem dX4_endHeld_32 : decode cX4_endHeld 32 = .ok (.getfield 7, 3) := by decide +kernel
theorem dX4_endHeld_35 : decode cX4_endHeld 35 = .ok (.bipush 7, 2) := by decide +kernel
theorem dX4_endHeld_37 : decode cX4_endHeld 37 = .ok (.iaload, 1) := by decide +kernel
theorem dX4_endHeld_38 : decode cX4_endHeld 38 = .ok (.if_icmp .gt 33, 3) := by decide +kernel
theorem dX4_endHeld_41 : decode cX4_endHeld 41 = .ok (.aload_n 0, 1) := by decide +kernel
theorem dX4_endHeld_42 : decode cX4_endHeld 42 = .ok (.iload_n 1, 1) := by decide +kernel
theorem dX4_endHeld_43 : decode cX4_endHeld 43 = .ok (.bipush 7, 2) := by decide +kernel
theorem dX4_endHeld_45 : decode cX4_endHeld 45 = .ok (.iconst 3, 1) := by decide +kernel
theorem dX4_endHeld_46 : decode cX4_endHeld 46 = .ok (.invokevirtual 271, 3) := by decide +kernel
theorem dX4_endHeld_49 : decode cX4_endHeld 49 = .ok (.aload_n 0, 1) := by decide +kernel
theorem dX4_endHeld_50 : decode cX4_endHeld 50 = .ok (.aload_n 0, 1) := by decide +kernel
theorem dX4_endHeld_51 : decode cX4_endHeld 51 = .ok (.iload_n 1, 1) := by decide +kernel
theorem dX4_endHeld_52 : decode cX4_endHeld 52 = .ok (.iconst 0, 1) := by decide +kernel
theorem dX4_endHeld_53 : decode cX4_endHeld 53 = .ok (.invokevirtual 71, 3) := by decide +kernel
theorem dX4_endHeld_56 : decode cX4_endHeld 56 = .ok (.iconst 1, 1) := by decide +kernel
theorem dX4_endHeld_57 : decode cX4_endHeld 57 = .ok (.iconst 1, 1) := by decide +kernel
theorem dX4_endHeld_58 : decode cX4_endHeld 58 = .ok (.invokevirtual 254, 3) := by decide +kernel
theorem dX4_endHeld_61 : decode cX4_endHeld 61 = .ok (.aload_n 0, 1) := by decide +kernel
theorem dX4_endHeld_62 : decode cX4_endHeld 62 = .ok (.dup, 1) := by decide +kernel
theorem dX4_endHeld_63 : decode cX4_endHeld 63 = .ok (.getfield 355, 3) := by decide +kernel
theorem dX4_endHeld_66 : decode cX4_endHeld 66 = .ok (.iconst 1, 1) := by decide +kernel
theorem dX4_endHeld_67 : decode cX4_endHeld 67 = .ok (.iadd, 1) := by decide +kernel
theorem dX4_endHeld_68 : decode cX4_endHeld 68 = .ok (.putfield 355, 3) := by decide +kernel
theorem dX4_endHeld_71 : decode cX4_endHeld 71 = .ok (.iinc 1 1, 3) := by decide +kernel
theorem dX4_endHeld_74 : decode cX4_endHeld 74 = .ok (.goto (-72), 3) := by decide +kernel
theorem dX4_endHeld_77 : decode cX4_endHeld 77 = .ok (.return_, 1) := by decide +kernel
def w_X4_endHeld_71  (Q : V3 → Prop) (K2 : Int32 → V3 → Prop) (x1 : Int32) (v : V3) : Prop := K2 (x1 + 1) v
def w_X4_endHeld_2  (Q : V3 → Prop) : Nat → Int32 → V3 → Prop
  | 0, _, _ => False
  | n2 + 1, x1, v => (((v 8 6) ≤ x1 → Q v) ∧ (¬ (v 8 6) ≤ x1 → w_X4_of x1 7 v (fun r3 v2 => ((¬ r3 = 2 → w_X4_endHeld_71 Q (w_X4_endHeld_2 Q n2) x1 v2) ∧ (r3 = 2 → w_X4_of x1 9 v2 (fun r6 v5 => (((v5 8 7) < r6 → w_X4_endHeld_71 Q (w_X4_endHeld_2 Q n2) x1 v5) ∧ (¬ (v5 8 7) < r6 → w_X4_put x1 7 3 v5 (fun v8 => w_X4_of x1 0 v8 (fun r10 v9 => w_X4_grow r10 1 1 v9 (fun v11 => ∀ v12 : V3, v12 = up2 v11 7 27 ((v11 7 27) + 1) → w_X4_endHeld_71 Q (w_X4_endHeld_2 Q n2) x1 v12)))))))))))
def w_X4_endHeld  (v : V3) (Q : V3 → Prop) : Prop := ∃ m2 : Nat, w_X4_endHeld_2 Q m2 0 v
set_option maxRecDepth 100000 in
set_option maxHeartbeats 4000000 in
theorem b_X4_endHeld_71 {p : Program} (l : Launch) {e : Env} {s : State} {m : MethodId} {args : Array Value} {below : List Frame} {meth : Method} {c : Code} {G : zG}   (C0 : Cx G RX4 cX4_endHeld 2 none p s m args meth c) {Q : V3 → Prop} {K2 : Int32 → V3 → Prop} (hK2 : ∀ (x1 : Int32) (v : V3) (H : Heap) (locs : List Loc) (ls : Array Slot), K2 x1 v → Zs G s v H locs → lv_has ls 2 [(0, .ref (gad G 7)), (1, .int x1)] → W p l e { frames := 1, cells := 0, slots := 0, locals := 23 } s m args below meth c H locs 0 0 (MQ below (QvZ G Q) args s 0 0 (zA G)) (F0 m 2 ls [])) : ∀ (x1 : Int32) (v : V3) (H : Heap) (locs : List Loc) (ls : Array Slot), w_X4_endHeld_71 Q K2 x1 v → Zs G s v H locs → lv_has ls 2 [(0, .ref (gad G 7)), (1, .int x1)] → W p l e { frames := 1, cells := 0, slots := 0, locals := 23 } s m args below meth c H locs 0 0 (MQ below (QvZ G Q) args s 0 0 (zA G)) (F0 m 71 ls []) := by
  have hx := C0.1
  have hb := C0.2.1
  intro x1 v H locs ls hw Z hl
  rw [w_X4_endHeld_71] at hw
  refine lv_iinc (v := x1 + 1) (lv' := [(1, .int (x1 + 1)), (0, .ref (gad G 7))]) hx hb dX4_endHeld_71 hl (k := 1) rfl rfl (by decide) rfl (fun ls hl => ?_)
  refine lv_goto (tgt := 2) hx hb dX4_endHeld_74 (by decide) ?_
  exact hK2 _ _ _ _ _ hw Z (lv_sub hl [1, 0] rfl)
set_option maxRecDepth 100000 in
set_option maxHeartbeats 4000000 in
theorem b_X4_endHeld_2 {p : Program} (l : Launch) {e : Env} {s : State} {m : MethodId} {args : Array Value} {below : List Frame} {meth : Method} {c : Code} {G : zG}   (C0 : Cx G RX4 cX4_endHeld 2 none p s m args meth c) {Q : V3 → Prop} : ∀ (n : Nat) (x1 : Int32) (v : V3) (H : Heap) (locs : List Loc) (ls : Array Slot), w_X4_endHeld_2 Q n x1 v → Zs G s v H locs → lv_has ls 2 [(0, .ref (gad G 7)), (1, .int x1)] → W p l e { frames := 1, cells := 0, slots := 0, locals := 23 } s m args below meth c H locs 0 0 (MQ below (QvZ G Q) args s 0 0 (zA G)) (F0 m 2 ls []) := by
  have hx := C0.1
  have hb := C0.2.1
  intro n
  induction n with
  | zero =>
    intro x1 v H locs ls hw Z hl
    exact hw.elim
  | succ n hK2 =>
    intro x1 v H locs ls hw Z hl
    rw [w_X4_endHeld_2] at hw
    refine lv_iload_n hx hb dX4_endHeld_2 rfl (lv_at hl 1 rfl) ?_
    refine lv_aload_n hx hb dX4_endHeld_3 rfl (lv_at hl 0 rfl) ?_
    refine z_get C0 Z in_X4 rfl 0 (by decide) rfl tm_4_203 (cx_lt C0 (by decide)) rfl rfl dX4_endHeld_4 ?_
    refine lv_bipush (v := 6) hx hb dX4_endHeld_7 (by decide) ?_
    refine z_ialdk C0 Z (cx_lt C0 (by decide)) rfl in_6_474 nc_6 dX4_endHeld_9 ?_
    refine lv_icmp_ge (tgt := 77) hx hb dX4_endHeld_10 (by decide) (fun c1 => ?_) (fun c1 => ?_)
    · replace hw := hw.1 c1
      exact z_vret C0 Z hw dX4_endHeld_77
    · replace hw := hw.2 c1
      refine lv_aload_n hx hb dX4_endHeld_13 rfl (lv_at hl 0 rfl) ?_
      refine lv_iload_n hx hb dX4_endHeld_14 rfl (lv_at hl 1 rfl) ?_
      refine lv_bipush (v := 7) hx hb dX4_endHeld_15 (by decide) ?_
      refine z_callVi C0 Z hl.1 (As := [.int x1, .int 7]) (rest := []) (k_X4_of l (cx_g C0) hw) (gv_X4_of tm_5_163) rfl ds_X4_of ⟨Nat.le_of_ble_eq_true rfl, Nat.le_of_ble_eq_true rfl⟩ (ci := 4) rfl (cx_lt C0 (by decide)) rfl rfl rfl (Nat.le_of_ble_eq_true rfl) ⟨Nat.le_of_ble_eq_true rfl, Nat.le_of_ble_eq_true rfl⟩ dX4_endHeld_17 (fun r3 v2 H locs hw Z => ?_)
      refine lv_iconst (v := 2) hx hb dX4_endHeld_20 (by decide) ?_
      refine lv_icmp_ne (tgt := 71) hx hb dX4_endHeld_21 (by decide) (fun c4 => ?_) (fun c4 => ?_)
      · replace hw := hw.1 c4
        exact b_X4_endHeld_71 l C0 hK2 _ _ _ _ _ hw Z (lv_sub hl [0, 1] rfl)
      · replace hw := hw.2 c4
        refine lv_aload_n hx hb dX4_endHeld_24 rfl (lv_at hl 0 rfl) ?_
        refine lv_iload_n hx hb dX4_endHeld_25 rfl (lv_at hl 1 rfl) ?_
        refine lv_bipush (v := 9) hx hb dX4_endHeld_26 (by decide) ?_
        refine z_callVi C0 Z hl.1 (As := [.int x1, .int 9]) (rest := []) (k_X4_of l (cx_g C0) hw) (gv_X4_of tm_5_163) rfl ds_X4_of ⟨Nat.le_of_ble_eq_true rfl, Nat.le_of_ble_eq_true rfl⟩ (ci := 4) rfl (cx_lt C0 (by decide)) rfl rfl rfl (Nat.le_of_ble_eq_true rfl) ⟨Nat.le_of_ble_eq_true rfl, Nat.le_of_ble_eq_true rfl⟩ dX4_endHeld_28 (fun r6 v5 H locs hw Z => ?_)
        refine lv_aload_n hx hb dX4_endHeld_31 rfl (lv_at hl 0 rfl) ?_
        refine z_get C0 Z in_X4 rfl 0 (by decide) rfl tm_4_203 (cx_lt C0 (by decide)) rfl rfl dX4_endHeld_32 ?_
        refine lv_bipush (v := 7) hx hb dX4_endHeld_35 (by decide) ?_
        refine z_ialdk C0 Z (cx_lt C0 (by decide)) rfl in_7_474 nc_7 dX4_endHeld_37 ?_
        refine lv_icmp_gt (tgt := 71) hx hb dX4_endHeld_38 (by decide) (fun c7 => ?_) (fun c7 => ?_)
        · replace hw := hw.1 c7
          exact b_X4_endHeld_71 l C0 hK2 _ _ _ _ _ hw Z (lv_sub hl [0, 1] rfl)
        · replace hw := hw.2 c7
          refine lv_aload_n hx hb dX4_endHeld_41 rfl (lv_at hl 0 rfl) ?_
          refine lv_iload_n hx hb dX4_endHeld_42 rfl (lv_at hl 1 rfl) ?_
          refine lv_bipush (v := 7) hx hb dX4_endHeld_43 (by decide) ?_
          refine lv_iconst (v := 3) hx hb dX4_endHeld_45 (by decide) ?_
          refine z_callVv C0 Z hl.1 (As := [.int x1, .int 7, .int 3]) (rest := []) (k_X4_put l (cx_g C0) hw) (gv_X4_put tm_5_178) rfl ds_X4_put ⟨Nat.le_of_ble_eq_true rfl, Nat.le_of_ble_eq_true rfl⟩ (ci := 4) rfl (cx_lt C0 (by decide)) rfl rfl rfl (Nat.le_of_ble_eq_true rfl) ⟨Nat.le_of_ble_eq_true rfl, Nat.le_of_ble_eq_true rfl⟩ dX4_endHeld_46 (fun v8 H locs hw Z => ?_)
          refine lv_aload_n hx hb dX4_endHeld_49 rfl (lv_at hl 0 rfl) ?_
          refine lv_aload_n hx hb dX4_endHeld_50 rfl (lv_at hl 0 rfl) ?_
          refine lv_iload_n hx hb dX4_endHeld_51 rfl (lv_at hl 1 rfl) ?_
          refine lv_iconst (v := 0) hx hb dX4_endHeld_52 (by decide) ?_
          refine z_callVi C0 Z hl.1 (As := [.int x1, .int 0]) (rest := [.ref (gad G 7)]) (k_X4_of l (cx_g C0) hw) (gv_X4_of tm_5_163) rfl ds_X4_of ⟨Nat.le_of_ble_eq_true rfl, Nat.le_of_ble_eq_true rfl⟩ (ci := 4) rfl (cx_lt C0 (by decide)) rfl rfl rfl (Nat.le_of_ble_eq_true rfl) ⟨Nat.le_of_ble_eq_true rfl, Nat.le_of_ble_eq_true rfl⟩ dX4_endHeld_53 (fun r10 v9 H locs hw Z => ?_)
          refine lv_iconst (v := 1) hx hb dX4_endHeld_56 (by decide) ?_
          refine lv_iconst (v := 1) hx hb dX4_endHeld_57 (by decide) ?_
          refine z_callVv C0 Z hl.1 (As := [.int r10, .int 1, .int 1]) (rest := []) (k_X4_grow l (cx_g C0) hw) (gv_X4_grow tm_6_52) rfl ds_X4_grow ⟨Nat.le_of_ble_eq_true rfl, Nat.le_of_ble_eq_true rfl⟩ (ci := 4) rfl (cx_lt C0 (by decide)) rfl rfl rfl (Nat.le_of_ble_eq_true rfl) ⟨Nat.le_of_ble_eq_true rfl, Nat.le_of_ble_eq_true rfl⟩ dX4_endHeld_58 (fun v11 H locs hw Z => ?_)
          refine lv_aload_n hx hb dX4_endHeld_61 rfl (lv_at hl 0 rfl) ?_
          refine lv_dup hx hb dX4_endHeld_62 rfl ?_
          refine z_get C0 Z in_X4 rfl 27 (by decide) rfl tm_4_230 (cx_lt C0 (by decide)) rfl rfl dX4_endHeld_63 ?_
          refine lv_iconst (v := 1) hx hb dX4_endHeld_66 (by decide) ?_
          refine lv_iadd hx hb dX4_endHeld_67 ?_
          refine z_put C0 Z in_X4 tyX4_ok nmX4 rfl 27 (by decide) rfl rfl tm_4_230 (cx_lt C0 (by decide)) rfl p_X4_27 (fun c' h => up2_off _ _ _ h) rfl rfl (Nat.le_of_ble_eq_true rfl) dX4_endHeld_68 (fun H locs Z => ?_)
          obtain ⟨v12, ev12⟩ : ∃ z : V3, z = up2 v11 7 27 ((v11 7 27) + 1) := ⟨_, rfl⟩
          rw [← ev12] at Z
          replace hw := hw v12 ev12
          exact b_X4_endHeld_71 l C0 hK2 _ _ _ _ _ hw Z (lv_sub hl [0, 1] rfl)
set_option maxRecDepth 100000 in
set_option maxHeartbeats 4000000 in
theorem k_X4_endHeld (l : Launch) {G : zG} (hg : 129 ≤ gn G)  {v : V3} {Q : V3 → Prop} (hw : w_X4_endHeld v Q) : Mz l yX4_endHeld cX4_endHeld 2 none 1 23 G [.ref (gad G 7)] v (QvZ G Q) := by
  rw [w_X4_endHeld] at hw
  refine z_ofW hg (by decide) (Nat.le_of_ble_eq_true rfl) ?_
  intro p e s m args below meth c ls C0 Z hl
  have hx := C0.1
  have hb := C0.2.1
  replace hl : lv_has ls 2 [(0, .ref (gad G 7))] := hl
  generalize s.heap = H at Z ⊢
  generalize ([] : List Loc) = locs at Z ⊢
  refine lv_iconst (v := 0) hx hb dX4_endHeld_0 (by decide) ?_
  refine lv_istore_n (lv' := [(1, .int 0), (0, .ref (gad G 7))]) hx hb dX4_endHeld_1 rfl hl (by decide) rfl (fun ls hl => ?_)
  obtain ⟨m2, hw⟩ := hw
  exact b_X4_endHeld_2 l C0 m2 _ _ _ _ _ hw Z (lv_sub hl [1, 0] rfl)
-- X4_bumpLate: room (1, 23)
theorem dX4_bumpLate_0 : decode cX4_bumpLate 0 = .ok (.iconst 0, 1) := by decide +kernel
theorem dX4_bumpLate_1 : decode cX4_bumpLate 1 = .ok (.istore_n 1, 1) := by decide +kernel
theorem dX4_bumpLate_2 : decode cX4_bumpLate 2 = .ok (.iload_n 1, 1) := by decide +kernel
theorem dX4_bumpLate_3 : decode cX4_bumpLate 3 = .ok (.aload_n 0, 1) := by decide +kernel
theorem dX4_bumpLate_4 : decode cX4_bumpLate 4 = .ok (.getfield 7, 3) := by decide +kernel
theorem dX4_bumpLate_7 : decode cX4_bumpLate 7 = .ok (.bipush 6, 2) := by decide +kernel
theorem dX4_bumpLate_9 : decode cX4_bumpLate 9 = .ok (.iaload, 1) := by decide +kernel
theorem dX4_bumpLate_10 : decode cX4_bumpLate 10 = .ok (.if_icmp .ge 74, 3) := by decide +kernel
theorem dX4_bumpLate_13 : decode cX4_bumpLate 13 = .ok (.aload_n 0, 1) := by decide +kernel
theorem dX4_bumpLate_14 : decode cX4_bumpLate 14 = .ok (.iload_n 1, 1) := by decide +kernel
theorem dX4_bumpLate_15 : decode cX4_bumpLate 15 = .ok (.bipush 7, 2) := by decide +kernel
theorem dX4_bumpLate_17 : decode cX4_bumpLate 17 = .ok (.invokevirtual 71, 3) := by decide +kernel
theorem dX4_bumpLate_20 : decode cX4_bumpLate 20 = .ok (.iconst 1, 1) := by decide +kernel
theorem dX4_bumpLate_21 : decode cX4_bumpLate 21 = .ok (.if_icmp .ne 57, 3) := by decide +kernel
theorem dX4_bumpLate_24 : decode cX4_bumpLate 24 = .ok (.aload_n 0, 1) := by decide +kernel
theorem dX4_bumpLate_25 : decode cX4_bumpLate 25 = .ok (.iload_n 1, 1) := by decide +kernel
theorem dX4_bumpLate_26 : decode cX4_bumpLate 26 = .ok (.bipush 8, 2) := by decide +kernel
theorem dX4_bumpLate_28 : decode cX4_bumpLate 28 = .ok (.invokevirtual 71, 3) := by decide +kernel
theorem dX4_bumpLate_31 : decode cX4_bumpLate 31 = .ok (.aload_n 0, 1) := by decide +kernel
theorem dX4_bumpLate_32 : decode cX4_bumpLate 32 = .ok (.getfield 7, 3) := by decide +kernel
theorem dX4_bumpLate_35 : decode cX4_bumpLate 35 = .ok (.iconst 0, 1) := by decide +kernel
theorem dX4_bumpLate_36 : decode cX4_bumpLate 36 = .ok (.iaload, 1) := by decide +kernel
theorem dX4_bumpLate_37 : decode cX4_bumpLate 37 = .ok (.iadd, 1) := by decide +kernel
theorem dX4_bumpLate_38 : decode cX4_bumpLate 38 = .ok (.aload_n 0, 1) := by decide +kernel
theorem dX4_bumpLate_39 : decode cX4_bumpLate 39 = .ok (.getfield 7, 3) := by decide +kernel
theorem dX4_bumpLate_42 : decode cX4_bumpLate 42 = .ok (.bipush 7, 2) := by decide +kernel
theorem dX4_bumpLate_44 : decode cX4_bumpLate 44 = .ok (.iaload, 1) := by decide +kernel
theorem dX4_bumpLate_45 : decode cX4_bumpLate 45 = .ok (.if_icmp .ge 33, 3) := by decide +kernel
theorem dX4_bumpLate_48 : decode cX4_bumpLate 48 = .ok (.aload_n 0, 1) := by decide +kernel
theorem dX4_bumpLate_49 : decode cX4_bumpLate 49 = .ok (.iload_n 1, 1) := by decide +kernel
theorem dX4_bumpLate_50 : decode cX4_bumpLate 50 = .ok (.bipush 7, 2) := by decide +kernel
theorem dX4_bumpLate_52 : decode cX4_bumpLate 52 = .ok (.iconst 5, 1) := by decide +kernel
theorem dX4_bumpLate_53 : decode cX4_bumpLate 53 = .ok (.invokevirtual 271, 3) := by decide +kernel
theorem dX4_bumpLate_56 : decode cX4_bumpLate 56 = .ok (.aload_n 0, 1) := by decide +kernel
theorem dX4_bumpLate_57 : decode cX4_bumpLate 57 = .ok (.aload_n 0, 1) := by decide +kernel
theorem dX4_bumpLate_58 : decode cX4_bumpLate 58 = .ok (.iload_n 1, 1) := by decide +kernel
theorem dX4_bumpLate_59 : decode cX4_bumpLate 59 = .ok (.iconst 0, 1) := by decide +kernel
theorem dX4_bumpLate_60 : decode cX4_bumpLate 60 = .ok (.invokevirtual 71, 3) := by decide +kernel
theorem dX4_bumpLate_63 : decode cX4_bumpLate 63 = .ok (.iconst 2, 1) := by decide +kernel
theorem dX4_bumpLate_64 : decode cX4_bumpLate 64 = .ok (.iconst 1, 1) := by decide +kernel
theorem dX4_bumpLate_65 : decode cX4_bumpLate 65 = .ok (.invokevirtual 254, 3) := by decide +kernel
theorem dX4_bumpLate_68 : decode cX4_bumpLate 68 = .ok (.aload_n 0, 1) := by decide +kernel
theorem dX4_bumpLate_69 : decode cX4_bumpLate 69 = .ok (.dup, 1) := by decide +kernel
theorem dX4_bumpLate_70 : decode cX4_bumpLate 70 = .ok (.getfield 358, 3) := by decide +kernel
theorem dX4_bumpLate_73 : decode cX4_bumpLate 73 = .ok (.iconst 1, 1) := by decide +kernel
theorem dX4_bumpLate_74 : decode cX4_bumpLate 74 = .ok (.iadd, 1) := by decide +kernel
theorem dX4_bumpLate_75 : decode cX4_bumpLate 75 = .ok (.putfield 358, 3) := by decide +kernel
theorem dX4_bumpLate_78 : decode cX4_bumpLate 78 = .ok (.iinc 1 1, 3) := by decide +kernel
theorem dX4_bumpLate_81 : decode cX4_bumpLate 81 = .ok (.goto (-79), 3) := by decide +kernel
theorem dX4_bumpLate_84 : decode cX4_bumpLate 84 = .ok (.return_, 1) := by decide +kernel
def w_X4_bumpLate_78  (Q : V3 → Prop) (K2 : Int32 → V3 → Prop) (x1 : Int32) (v : V3) : Prop := K2 (x1 + 1) v
def w_X4_bumpLate_2  (Q : V3 → Prop) : Nat → Int32 → V3 → Prop
  | 0, _, _ => False
  | n2 + 1, x1, v => (((v 8 6) ≤ x1 → Q v) ∧ (¬ (v 8 6) ≤ x1 → w_X4_of x1 7 v (fun r3 v2 => ((¬ r3 = 1 → w_X4_bumpLate_78 Q (w_X4_bumpLate_2 Q n2) x1 v2) ∧ (r3 = 1 → w_X4_of x1 8 v2 (fun r6 v5 => (((v5 8 7) ≤ (r6 + (v5 8 0)) → w_X4_bumpLate_78 Q (w_X4_bumpLate_2 Q n2) x1 v5) ∧ (¬ (v5 8 7) ≤ (r6 + (v5 8 0)) → w_X4_put x1 7 5 v5 (fun v8 => w_X4_of x1 0 v8 (fun r10 v9 => w_X4_grow r10 2 1 v9 (fun v11 => ∀ v12 : V3, v12 = up2 v11 7 25 ((v11 7 25) + 1) → w_X4_bumpLate_78 Q (w_X4_bumpLate_2 Q n2) x1 v12)))))))))))
def w_X4_bumpLate  (v : V3) (Q : V3 → Prop) : Prop := ∃ m2 : Nat, w_X4_bumpLate_2 Q m2 0 v
set_option maxRecDepth 100000 in
set_option maxHeartbeats 4000000 in
theorem b_X4_bumpLate_78 {p : Program} (l : Launch) {e : Env} {s : State} {m : MethodId} {args : Array Value} {below : List Frame} {meth : Method} {c : Code} {G : zG}   (C0 : Cx G RX4 cX4_bumpLate 2 none p s m args meth c) {Q : V3 → Prop} {K2 : Int32 → V3 → Prop} (hK2 : ∀ (x1 : Int32) (v : V3) (H : Heap) (locs : List Loc) (ls : Array Slot), K2 x1 v → Zs G s v H locs → lv_has ls 2 [(0, .ref (gad G 7)), (1, .int x1)] → W p l e { frames := 1, cells := 0, slots := 0, locals := 23 } s m args below meth c H locs 0 0 (MQ below (QvZ G Q) args s 0 0 (zA G)) (F0 m 2 ls [])) : ∀ (x1 : Int32) (v : V3) (H : Heap) (locs : List Loc) (ls : Array Slot), w_X4_bumpLate_78 Q K2 x1 v → Zs G s v H locs → lv_has ls 2 [(0, .ref (gad G 7)), (1, .int x1)] → W p l e { frames := 1, cells := 0, slots := 0, locals := 23 } s m args below meth c H locs 0 0 (MQ below (QvZ G Q) args s 0 0 (zA G)) (F0 m 78 ls []) := by
  have hx := C0.1
  have hb := C0.2.1
  intro x1 v H locs ls hw Z hl
  rw [w_X4_bumpLate_78] at hw
  refine lv_iinc (v := x1 + 1) (lv' := [(1, .int (x1 + 1)), (0, .ref (gad G 7))]) hx hb dX4_bumpLate_78 hl (k := 1) rfl rfl (by decide) rfl (fun ls hl => ?_)
  refine lv_goto (tgt := 2) hx hb dX4_bumpLate_81 (by decide) ?_
  exact hK2 _ _ _ _ _ hw Z (lv_sub hl [1, 0] rfl)
set_option maxRecDepth 100000 in
set_option maxHeartbeats 4000000 in
theorem b_X4_bumpLate_2 {p : Program} (l : Launch) {e : Env} {s : State} {m : MethodId} {args : Array Value} {below : List Frame} {meth : Method} {c : Code} {G : zG}   (C0 : Cx G RX4 cX4_bumpLate 2 none p s m args meth c) {Q : V3 → Prop} : ∀ (n : Nat) (x1 : Int32) (v : V3) (H : Heap) (locs : List Loc) (ls : Array Slot), w_X4_bumpLate_2 Q n x1 v → Zs G s v H locs → lv_has ls 2 [(0, .ref (gad G 7)), (1, .int x1)] → W p l e { frames := 1, cells := 0, slots := 0, locals := 23 } s m args below meth c H locs 0 0 (MQ below (QvZ G Q) args s 0 0 (zA G)) (F0 m 2 ls []) := by
  have hx := C0.1
  have hb := C0.2.1
  intro n
  induction n with
  | zero =>
    intro x1 v H locs ls hw Z hl
    exact hw.elim
  | succ n hK2 =>
    intro x1 v H locs ls hw Z hl
    rw [w_X4_bumpLate_2] at hw
    refine lv_iload_n hx hb dX4_bumpLate_2 rfl (lv_at hl 1 rfl) ?_
    refine lv_aload_n hx hb dX4_bumpLate_3 rfl (lv_at hl 0 rfl) ?_
    refine z_get C0 Z in_X4 rfl 0 (by decide) rfl tm_4_203 (cx_lt C0 (by decide)) rfl rfl dX4_bumpLate_4 ?_
    refine lv_bipush (v := 6) hx hb dX4_bumpLate_7 (by decide) ?_
    refine z_ialdk C0 Z (cx_lt C0 (by decide)) rfl in_6_474 nc_6 dX4_bumpLate_9 ?_
    refine lv_icmp_ge (tgt := 84) hx hb dX4_bumpLate_10 (by decide) (fun c1 => ?_) (fun c1 => ?_)
    · replace hw := hw.1 c1
      exact z_vret C0 Z hw dX4_bumpLate_84
    · replace hw := hw.2 c1
      refine lv_aload_n hx hb dX4_bumpLate_13 rfl (lv_at hl 0 rfl) ?_
      refine lv_iload_n hx hb dX4_bumpLate_14 rfl (lv_at hl 1 rfl) ?_
      refine lv_bipush (v := 7) hx hb dX4_bumpLate_15 (by decide) ?_
      refine z_callVi C0 Z hl.1 (As := [.int x1, .int 7]) (rest := []) (k_X4_of l (cx_g C0) hw) (gv_X4_of tm_5_163) rfl ds_X4_of ⟨Nat.le_of_ble_eq_true rfl, Nat.le_of_ble_eq_true rfl⟩ (ci := 4) rfl (cx_lt C0 (by decide)) rfl rfl rfl (Nat.le_of_ble_eq_true rfl) ⟨Nat.le_of_ble_eq_true rfl, Nat.le_of_ble_eq_true rfl⟩ dX4_bumpLate_17 (fun r3 v2 H locs hw Z => ?_)
      refine lv_iconst (v := 1) hx hb dX4_bumpLate_20 (by decide) ?_
      refine lv_icmp_ne (tgt := 78) hx hb dX4_bumpLate_21 (by decide) (fun c4 => ?_) (fun c4 => ?_)
      · replace hw := hw.1 c4
        exact b_X4_bumpLate_78 l C0 hK2 _ _ _ _ _ hw Z (lv_sub hl [0, 1] rfl)
      · replace hw := hw.2 c4
        refine lv_aload_n hx hb dX4_bumpLate_24 rfl (lv_at hl 0 rfl) ?_
        refine lv_iload_n hx hb dX4_bumpLate_25 rfl (lv_at hl 1 rfl) ?_
        refine lv_bipush (v := 8) hx hb dX4_bumpLate_26 (by decide) ?_
        refine z_callVi C0 Z hl.1 (As := [.int x1, .int 8]) (rest := []) (k_X4_of l (cx_g C0) hw) (gv_X4_of tm_5_163) rfl ds_X4_of ⟨Nat.le_of_ble_eq_true rfl, Nat.le_of_ble_eq_true rfl⟩ (ci := 4) rfl (cx_lt C0 (by decide)) rfl rfl rfl (Nat.le_of_ble_eq_true rfl) ⟨Nat.le_of_ble_eq_true rfl, Nat.le_of_ble_eq_true rfl⟩ dX4_bumpLate_28 (fun r6 v5 H locs hw Z => ?_)
        refine lv_aload_n hx hb dX4_bumpLate_31 rfl (lv_at hl 0 rfl) ?_
        refine z_get C0 Z in_X4 rfl 0 (by decide) rfl tm_4_203 (cx_lt C0 (by decide)) rfl rfl dX4_bumpLate_32 ?_
        refine lv_iconst (v := 0) hx hb dX4_bumpLate_35 (by decide) ?_
        refine z_ialdk C0 Z (cx_lt C0 (by decide)) rfl in_0_474 nc_0 dX4_bumpLate_36 ?_
        refine lv_iadd hx hb dX4_bumpLate_37 ?_
        refine lv_aload_n hx hb dX4_bumpLate_38 rfl (lv_at hl 0 rfl) ?_
        refine z_get C0 Z in_X4 rfl 0 (by decide) rfl tm_4_203 (cx_lt C0 (by decide)) rfl rfl dX4_bumpLate_39 ?_
        refine lv_bipush (v := 7) hx hb dX4_bumpLate_42 (by decide) ?_
        refine z_ialdk C0 Z (cx_lt C0 (by decide)) rfl in_7_474 nc_7 dX4_bumpLate_44 ?_
        refine lv_icmp_ge (tgt := 78) hx hb dX4_bumpLate_45 (by decide) (fun c7 => ?_) (fun c7 => ?_)
        · replace hw := hw.1 c7
          exact b_X4_bumpLate_78 l C0 hK2 _ _ _ _ _ hw Z (lv_sub hl [0, 1] rfl)
        · replace hw := hw.2 c7
          refine lv_aload_n hx hb dX4_bumpLate_48 rfl (lv_at hl 0 rfl) ?_
          refine lv_iload_n hx hb dX4_bumpLate_49 rfl (lv_at hl 1 rfl) ?_
          refine lv_bipush (v := 7) hx hb dX4_bumpLate_50 (by decide) ?_
          refine lv_iconst (v := 5) hx hb dX4_bumpLate_52 (by decide) ?_
          refine z_callVv C0 Z hl.1 (As := [.int x1, .int 7, .int 5]) (rest := []) (k_X4_put l (cx_g C0) hw) (gv_X4_put tm_5_178) rfl ds_X4_put ⟨Nat.le_of_ble_eq_true rfl, Nat.le_of_ble_eq_true rfl⟩ (ci := 4) rfl (cx_lt C0 (by decide)) rfl rfl rfl (Nat.le_of_ble_eq_true rfl) ⟨Nat.le_of_ble_eq_true rfl, Nat.le_of_ble_eq_true rfl⟩ dX4_bumpLate_53 (fun v8 H locs hw Z => ?_)
          refine lv_aload_n hx hb dX4_bumpLate_56 rfl (lv_at hl 0 rfl) ?_
          refine lv_aload_n hx hb dX4_bumpLate_57 rfl (lv_at hl 0 rfl) ?_
          refine lv_iload_n hx hb dX4_bumpLate_58 rfl (lv_at hl 1 rfl) ?_
          refine lv_iconst (v := 0) hx hb dX4_bumpLate_59 (by decide) ?_
          refine z_callVi C0 Z hl.1 (As := [.int x1, .int 0]) (rest := [.ref (gad G 7)]) (k_X4_of l (cx_g C0) hw) (gv_X4_of tm_5_163) rfl ds_X4_of ⟨Nat.le_of_ble_eq_true rfl, Nat.le_of_ble_eq_true rfl⟩ (ci := 4) rfl (cx_lt C0 (by decide)) rfl rfl rfl (Nat.le_of_ble_eq_true rfl) ⟨Nat.le_of_ble_eq_true rfl, Nat.le_of_ble_eq_true rfl⟩ dX4_bumpLate_60 (fun r10 v9 H locs hw Z => ?_)
          refine lv_iconst (v := 2) hx hb dX4_bumpLate_63 (by decide) ?_
          refine lv_iconst (v := 1) hx hb dX4_bumpLate_64 (by decide) ?_
          refine z_callVv C0 Z hl.1 (As := [.int r10, .int 2, .int 1]) (rest := []) (k_X4_grow l (cx_g C0) hw) (gv_X4_grow tm_6_52) rfl ds_X4_grow ⟨Nat.le_of_ble_eq_true rfl, Nat.le_of_ble_eq_true rfl⟩ (ci := 4) rfl (cx_lt C0 (by decide)) rfl rfl rfl (Nat.le_of_ble_eq_true rfl) ⟨Nat.le_of_ble_eq_true rfl, Nat.le_of_ble_eq_true rfl⟩ dX4_bumpLate_65 (fun v11 H locs hw Z => ?_)
          refine lv_aload_n hx hb dX4_bumpLate_68 rfl (lv_at hl 0 rfl) ?_
          refine lv_dup hx hb dX4_bumpLate_69 rfl ?_
          refine z_get C0 Z in_X4 rfl 25 (by decide) rfl tm_4_228 (cx_lt C0 (by decide)) rfl rfl dX4_bumpLate_70 ?_
          refine lv_iconst (v := 1) hx hb dX4_bumpLate_73 (by decide) ?_
          refine lv_iadd hx hb dX4_bumpLate_74 ?_
          refine z_put C0 Z in_X4 tyX4_ok nmX4 rfl 25 (by decide) rfl rfl tm_4_228 (cx_lt C0 (by decide)) rfl p_X4_25 (fun c' h => up2_off _ _ _ h) rfl rfl (Nat.le_of_ble_eq_true rfl) dX4_bumpLate_75 (fun H locs Z => ?_)
          obtain ⟨v12, ev12⟩ : ∃ z : V3, z = up2 v11 7 25 ((v11 7 25) + 1) := ⟨_, rfl⟩
          rw [← ev12] at Z
          replace hw := hw v12 ev12
          exact b_X4_bumpLate_78 l C0 hK2 _ _ _ _ _ hw Z (lv_sub hl [0, 1] rfl)
set_option maxRecDepth 100000 in
set_option maxHeartbeats 4000000 in
theorem k_X4_bumpLate (l : Launch) {G : zG} (hg : 129 ≤ gn G)  {v : V3} {Q : V3 → Prop} (hw : w_X4_bumpLate v Q) : Mz l yX4_bumpLate cX4_bumpLate 2 none 1 23 G [.ref (gad G 7)] v (QvZ G Q) := by
  rw [w_X4_bumpLate] at hw
  refine z_ofW hg (by decide) (Nat.le_of_ble_eq_true rfl) ?_
  intro p e s m args below meth c ls C0 Z hl
  have hx := C0.1
  have hb := C0.2.1
  replace hl : lv_has ls 2 [(0, .ref (gad G 7))] := hl
  generalize s.heap = H at Z ⊢
  generalize ([] : List Loc) = locs at Z ⊢
  refine lv_iconst (v := 0) hx hb dX4_bumpLate_0 (by decide) ?_
  refine lv_istore_n (lv' := [(1, .int 0), (0, .ref (gad G 7))]) hx hb dX4_bumpLate_1 rfl hl (by decide) rfl (fun ls hl => ?_)
  obtain ⟨m2, hw⟩ := hw
  exact b_X4_bumpLate_2 l C0 m2 _ _ _ _ _ hw Z (lv_sub hl [1, 0] rfl)
-- X4_expire: room (1, 23)
theorem dX4_expire_0 : decode cX4_expire 0 = .ok (.iconst 0, 1) := by decide +kernel
theorem dX4_expire_1 : decode cX4_expire 1 = .ok (.istore_n 1, 1) := by decide +kernel
theorem dX4_expire_2 : decode cX4_expire 2 = .ok (.iload_n 1, 1) := by decide +kernel
theorem dX4_expire_3 : decode cX4_expire 3 = .ok (.aload_n 0, 1) := by decide +kernel
theorem dX4_expire_4 : decode cX4_expire 4 = .ok (.getfield 7, 3) := by decide +kernel
theorem dX4_expire_7 : decode cX4_expire 7 = .ok (.bipush 6, 2) := by decide +kernel
theorem dX4_expire_9 : decode cX4_expire 9 = .ok (.iaload, 1) := by decide +kernel
theorem dX4_expire_10 : decode cX4_expire 10 = .ok (.if_icmp .ge 73, 3) := by decide +kernel
theorem dX4_expire_13 : decode cX4_expire 13 = .ok (.aload_n 0, 1) := by decide +kernel
theorem dX4_expire_14 : decode cX4_expire 14 = .ok (.iload_n 1, 1) := by decide +kernel
theorem dX4_expire_15 : decode cX4_expire 15 = .ok (.bipush 7, 2) := by decide +kernel
theorem dX4_expire_17 : decode cX4_expire 17 = .ok (.invokevirtual 71, 3) := by decide +kernel
theorem dX4_expire_20 : decode cX4_expire 20 = .ok (.ifCond .ne 57, 3) := by decide +kernel
theorem dX4_expire_23 : decode cX4_expire 23 = .ok (.aload_n 0, 1) := by decide +kernel
theorem dX4_expire_24 : decode cX4_expire 24 = .ok (.iload_n 1, 1) := by decide +kernel
theorem dX4_expire_25 : decode cX4_expire 25 = .ok (.iconst 4, 1) := by decide +kernel
theorem dX4_expire_26 : decode cX4_expire 26 = .ok (.invokevirtual 71, 3) := by decide +kernel
theorem dX4_expire_29 : decode cX4_expire 29 = .ok (.aload_n 0, 1) := by decide +kernel
theorem dX4_expire_30 : decode cX4_expire 30 = .ok (.iload_n 1, 1) := by decide +kernel
theorem dX4_expire_31 : decode cX4_expire 31 = .ok (.iconst 5, 1) := by decide +kernel
theorem dX4_expire_32 : decode cX4_expire 32 = .ok (.invokevirtual 71, 3) := by decide +kernel
theorem dX4_expire_35 : decode cX4_expire 35 = .ok (.iadd, 1) := by decide +kernel
theorem dX4_expire_36 : decode cX4_expire 36 = .ok (.aload_n 0, 1) := by decide +kernel
theorem dX4_expire_37 : decode cX4_expire 37 = .ok (.getfield 7, 3) := by decide +kernel
theorem dX4_expire_40 : decode cX4_expire 40 = .ok (.bipush 7, 2) := by decide +kernel
theorem dX4_expire_42 : decode cX4_expire 42 = .ok (.iaload, 1) := by decide +kernel
theorem dX4_expire_43 : decode cX4_expire 43 = .ok (.if_icmp .ge 34, 3) := by decide +kernel
theorem dX4_expire_46 : decode cX4_expire 46 = .ok (.aload_n 0, 1) := by decide +kernel
theorem dX4_expire_47 : decode cX4_expire 47 = .ok (.iload_n 1, 1) := by decide +kernel
theorem dX4_expire_48 : decode cX4_expire 48 = .ok (.bipush 7, 2) := by decide +kernel
theorem dX4_expire_50 : decode cX4_expire 50 = .ok (.bipush 6, 2) := by decide +kernel
theorem dX4_expire_52 : decode cX4_expire 52 = .ok (.invokevirtual 271, 3) := by decide +kernel
theorem dX4_expire_55 : decode cX4_expire 55 = .ok (.aload_n 0, 1) := by decide +kernel
theorem dX4_expire_56 : decode cX4_expire 56 = .ok (.aload_n 0, 1) := by decide +kernel
theorem dX4_expire_57 : decode cX4_expire 57 = .ok (.iload_n 1, 1) := by decide +kernel
theorem dX4_expire_58 : decode cX4_expire 58 = .ok (.iconst 0, 1) := by decide +kernel
theorem dX4_expire_59 : decode cX4_expire 59 = .ok (.invokevirtual 71, 3) := by decide +kernel
theorem dX4_expire_62 : decode cX4_expire 62 = .ok (.iconst 5, 1) := by decide +kernel
theorem dX4_expire_63 : decode cX4_expire 63 = .ok (.iconst 1, 1) := by decide +kernel
theorem dX4_expire_64 : decode cX4_expire 64 = .ok (.invokevirtual 254, 3) := by decide +kernel
theorem dX4_expire_67 : decode cX4_expire 67 = .ok (.aload_n 0, 1) := by decide +kernel
theorem dX4_expire_68 : decode cX4_expire 68 = .ok (.dup, 1) := by decide +kernel
theorem dX4_expire_69 : decode cX4_expire 69 = .ok (.getfield 361, 3) := by decide +kernel
theorem dX4_expire_72 : decode cX4_expire 72 = .ok (.iconst 1, 1) := by decide +kernel
theorem dX4_expire_73 : decode cX4_expire 73 = .ok (.iadd, 1) := by decide +kernel
theorem dX4_expire_74 : decode cX4_expire 74 = .ok (.putfield 361, 3) := by decide +kernel
theorem dX4_expire_77 : decode cX4_expire 77 = .ok (.iinc 1 1, 3) := by decide +kernel
theorem dX4_expire_80 : decode cX4_expire 80 = .ok (.goto (-78), 3) := by decide +kernel
theorem dX4_expire_83 : decode cX4_expire 83 = .ok (.return_, 1) := by decide +kernel
def w_X4_expire_77  (Q : V3 → Prop) (K2 : Int32 → V3 → Prop) (x1 : Int32) (v : V3) : Prop := K2 (x1 + 1) v
def w_X4_expire_2  (Q : V3 → Prop) : Nat → Int32 → V3 → Prop
  | 0, _, _ => False
  | n2 + 1, x1, v => (((v 8 6) ≤ x1 → Q v) ∧ (¬ (v 8 6) ≤ x1 → w_X4_of x1 7 v (fun r3 v2 => ((¬ r3 = 0 → w_X4_expire_77 Q (w_X4_expire_2 Q n2) x1 v2) ∧ (r3 = 0 → w_X4_of x1 4 v2 (fun r6 v5 => w_X4_of x1 5 v5 (fun r8 v7 => (((v7 8 7) ≤ (r6 + r8) → w_X4_expire_77 Q (w_X4_expire_2 Q n2) x1 v7) ∧ (¬ (v7 8 7) ≤ (r6 + r8) → w_X4_put x1 7 6 v7 (fun v10 => w_X4_of x1 0 v10 (fun r12 v11 => w_X4_grow r12 5 1 v11 (fun v13 => ∀ v14 : V3, v14 = up2 v13 7 26 ((v13 7 26) + 1) → w_X4_expire_77 Q (w_X4_expire_2 Q n2) x1 v14))))))))))))
def w_X4_expire  (v : V3) (Q : V3 → Prop) : Prop := ∃ m2 : Nat, w_X4_expire_2 Q m2 0 v
set_option maxRecDepth 100000 in
set_option maxHeartbeats 4000000 in
theorem b_X4_expire_77 {p : Program} (l : Launch) {e : Env} {s : State} {m : MethodId} {args : Array Value} {below : List Frame} {meth : Method} {c : Code} {G : zG}   (C0 : Cx G RX4 cX4_expire 2 none p s m args meth c) {Q : V3 → Prop} {K2 : Int32 → V3 → Prop} (hK2 : ∀ (x1 : Int32) (v : V3) (H : Heap) (locs : List Loc) (ls : Array Slot), K2 x1 v → Zs G s v H locs → lv_has ls 2 [(0, .ref (gad G 7)), (1, .int x1)] → W p l e { frames := 1, cells := 0, slots := 0, locals := 23 } s m args below meth c H locs 0 0 (MQ below (QvZ G Q) args s 0 0 (zA G)) (F0 m 2 ls [])) : ∀ (x1 : Int32) (v : V3) (H : Heap) (locs : List Loc) (ls : Array Slot), w_X4_expire_77 Q K2 x1 v → Zs G s v H locs → lv_has ls 2 [(0, .ref (gad G 7)), (1, .int x1)] → W p l e { frames := 1, cells := 0, slots := 0, locals := 23 } s m args below meth c H locs 0 0 (MQ below (QvZ G Q) args s 0 0 (zA G)) (F0 m 77 ls []) := by
  have hx := C0.1
  have hb := C0.2.1
  intro x1 v H locs ls hw Z hl
  rw [w_X4_expire_77] at hw
  refine lv_iinc (v := x1 + 1) (lv' := [(1, .int (x1 + 1)), (0, .ref (gad G 7))]) hx hb dX4_expire_77 hl (k := 1) rfl rfl (by decide) rfl (fun ls hl => ?_)
  refine lv_goto (tgt := 2) hx hb dX4_expire_80 (by decide) ?_
  exact hK2 _ _ _ _ _ hw Z (lv_sub hl [1, 0] rfl)
set_option maxRecDepth 100000 in
set_option maxHeartbeats 4000000 in
theorem b_X4_expire_2 {p : Program} (l : Launch) {e : Env} {s : State} {m : MethodId} {args : Array Value} {below : List Frame} {meth : Method} {c : Code} {G : zG}   (C0 : Cx G RX4 cX4_expire 2 none p s m args meth c) {Q : V3 → Prop} : ∀ (n : Nat) (x1 : Int32) (v : V3) (H : Heap) (locs : List Loc) (ls : Array Slot), w_X4_expire_2 Q n x1 v → Zs G s v H locs → lv_has ls 2 [(0, .ref (gad G 7)), (1, .int x1)] → W p l e { frames := 1, cells := 0, slots := 0, locals := 23 } s m args below meth c H locs 0 0 (MQ below (QvZ G Q) args s 0 0 (zA G)) (F0 m 2 ls []) := by
  have hx := C0.1
  have hb := C0.2.1
  intro n
  induction n with
  | zero =>
    intro x1 v H locs ls hw Z hl
    exact hw.elim
  | succ n hK2 =>
    intro x1 v H locs ls hw Z hl
    rw [w_X4_expire_2] at hw
    refine lv_iload_n hx hb dX4_expire_2 rfl (lv_at hl 1 rfl) ?_
    refine lv_aload_n hx hb dX4_expire_3 rfl (lv_at hl 0 rfl) ?_
    refine z_get C0 Z in_X4 rfl 0 (by decide) rfl tm_4_203 (cx_lt C0 (by decide)) rfl rfl dX4_expire_4 ?_
    refine lv_bipush (v := 6) hx hb dX4_expire_7 (by decide) ?_
    refine z_ialdk C0 Z (cx_lt C0 (by decide)) rfl in_6_474 nc_6 dX4_expire_9 ?_
    refine lv_icmp_ge (tgt := 83) hx hb dX4_expire_10 (by decide) (fun c1 => ?_) (fun c1 => ?_)
    · replace hw := hw.1 c1
      exact z_vret C0 Z hw dX4_expire_83
    · replace hw := hw.2 c1
      refine lv_aload_n hx hb dX4_expire_13 rfl (lv_at hl 0 rfl) ?_
      refine lv_iload_n hx hb dX4_expire_14 rfl (lv_at hl 1 rfl) ?_
      refine lv_bipush (v := 7) hx hb dX4_expire_15 (by decide) ?_
      refine z_callVi C0 Z hl.1 (As := [.int x1, .int 7]) (rest := []) (k_X4_of l (cx_g C0) hw) (gv_X4_of tm_5_163) rfl ds_X4_of ⟨Nat.le_of_ble_eq_true rfl, Nat.le_of_ble_eq_true rfl⟩ (ci := 4) rfl (cx_lt C0 (by decide)) rfl rfl rfl (Nat.le_of_ble_eq_true rfl) ⟨Nat.le_of_ble_eq_true rfl, Nat.le_of_ble_eq_true rfl⟩ dX4_expire_17 (fun r3 v2 H locs hw Z => ?_)
      refine lv_if_ne (tgt := 77) hx hb dX4_expire_20 (by decide) (fun c4 => ?_) (fun c4 => ?_)
      · replace hw := hw.1 c4
        exact b_X4_expire_77 l C0 hK2 _ _ _ _ _ hw Z (lv_sub hl [0, 1] rfl)
      · replace hw := hw.2 c4
        refine lv_aload_n hx hb dX4_expire_23 rfl (lv_at hl 0 rfl) ?_
        refine lv_iload_n hx hb dX4_expire_24 rfl (lv_at hl 1 rfl) ?_
        refine lv_iconst (v := 4) hx hb dX4_expire_25 (by decide) ?_
        refine z_callVi C0 Z hl.1 (As := [.int x1, .int 4]) (rest := []) (k_X4_of l (cx_g C0) hw) (gv_X4_of tm_5_163) rfl ds_X4_of ⟨Nat.le_of_ble_eq_true rfl, Nat.le_of_ble_eq_true rfl⟩ (ci := 4) rfl (cx_lt C0 (by decide)) rfl rfl rfl (Nat.le_of_ble_eq_true rfl) ⟨Nat.le_of_ble_eq_true rfl, Nat.le_of_ble_eq_true rfl⟩ dX4_expire_26 (fun r6 v5 H locs hw Z => ?_)
        refine lv_aload_n hx hb dX4_expire_29 rfl (lv_at hl 0 rfl) ?_
        refine lv_iload_n hx hb dX4_expire_30 rfl (lv_at hl 1 rfl) ?_
        refine lv_iconst (v := 5) hx hb dX4_expire_31 (by decide) ?_
        refine z_callVi C0 Z hl.1 (As := [.int x1, .int 5]) (rest := [.int r6]) (k_X4_of l (cx_g C0) hw) (gv_X4_of tm_5_163) rfl ds_X4_of ⟨Nat.le_of_ble_eq_true rfl, Nat.le_of_ble_eq_true rfl⟩ (ci := 4) rfl (cx_lt C0 (by decide)) rfl rfl rfl (Nat.le_of_ble_eq_true rfl) ⟨Nat.le_of_ble_eq_true rfl, Nat.le_of_ble_eq_true rfl⟩ dX4_expire_32 (fun r8 v7 H locs hw Z => ?_)
        refine lv_iadd hx hb dX4_expire_35 ?_
        refine lv_aload_n hx hb dX4_expire_36 rfl (lv_at hl 0 rfl) ?_
        refine z_get C0 Z in_X4 rfl 0 (by decide) rfl tm_4_203 (cx_lt C0 (by decide)) rfl rfl dX4_expire_37 ?_
        refine lv_bipush (v := 7) hx hb dX4_expire_40 (by decide) ?_
        refine z_ialdk C0 Z (cx_lt C0 (by decide)) rfl in_7_474 nc_7 dX4_expire_42 ?_
        refine lv_icmp_ge (tgt := 77) hx hb dX4_expire_43 (by decide) (fun c9 => ?_) (fun c9 => ?_)
        · replace hw := hw.1 c9
          exact b_X4_expire_77 l C0 hK2 _ _ _ _ _ hw Z (lv_sub hl [0, 1] rfl)
        · replace hw := hw.2 c9
          refine lv_aload_n hx hb dX4_expire_46 rfl (lv_at hl 0 rfl) ?_
          refine lv_iload_n hx hb dX4_expire_47 rfl (lv_at hl 1 rfl) ?_
          refine lv_bipush (v := 7) hx hb dX4_expire_48 (by decide) ?_
          refine lv_bipush (v := 6) hx hb dX4_expire_50 (by decide) ?_
          refine z_callVv C0 Z hl.1 (As := [.int x1, .int 7, .int 6]) (rest := []) (k_X4_put l (cx_g C0) hw) (gv_X4_put tm_5_178) rfl ds_X4_put ⟨Nat.le_of_ble_eq_true rfl, Nat.le_of_ble_eq_true rfl⟩ (ci := 4) rfl (cx_lt C0 (by decide)) rfl rfl rfl (Nat.le_of_ble_eq_true rfl) ⟨Nat.le_of_ble_eq_true rfl, Nat.le_of_ble_eq_true rfl⟩ dX4_expire_52 (fun v10 H locs hw Z => ?_)
          refine lv_aload_n hx hb dX4_expire_55 rfl (lv_at hl 0 rfl) ?_
          refine lv_aload_n hx hb dX4_expire_56 rfl (lv_at hl 0 rfl) ?_
          refine lv_iload_n hx hb dX4_expire_57 rfl (lv_at hl 1 rfl) ?_
          refine lv_iconst (v := 0) hx hb dX4_expire_58 (by decide) ?_
          refine z_callVi C0 Z hl.1 (As := [.int x1, .int 0]) (rest := [.ref (gad G 7)]) (k_X4_of l (cx_g C0) hw) (gv_X4_of tm_5_163) rfl ds_X4_of ⟨Nat.le_of_ble_eq_true rfl, Nat.le_of_ble_eq_true rfl⟩ (ci := 4) rfl (cx_lt C0 (by decide)) rfl rfl rfl (Nat.le_of_ble_eq_true rfl) ⟨Nat.le_of_ble_eq_true rfl, Nat.le_of_ble_eq_true rfl⟩ dX4_expire_59 (fun r12 v11 H locs hw Z => ?_)
          refine lv_iconst (v := 5) hx hb dX4_expire_62 (by decide) ?_
          refine lv_iconst (v := 1) hx hb dX4_expire_63 (by decide) ?_
          refine z_callVv C0 Z hl.1 (As := [.int r12, .int 5, .int 1]) (rest := []) (k_X4_grow l (cx_g C0) hw) (gv_X4_grow tm_6_52) rfl ds_X4_grow ⟨Nat.le_of_ble_eq_true rfl, Nat.le_of_ble_eq_true rfl⟩ (ci := 4) rfl (cx_lt C0 (by decide)) rfl rfl rfl (Nat.le_of_ble_eq_true rfl) ⟨Nat.le_of_ble_eq_true rfl, Nat.le_of_ble_eq_true rfl⟩ dX4_expire_64 (fun v13 H locs hw Z => ?_)
          refine lv_aload_n hx hb dX4_expire_67 rfl (lv_at hl 0 rfl) ?_
          refine lv_dup hx hb dX4_expire_68 rfl ?_
          refine z_get C0 Z in_X4 rfl 26 (by decide) rfl tm_4_229 (cx_lt C0 (by decide)) rfl rfl dX4_expire_69 ?_
          refine lv_iconst (v := 1) hx hb dX4_expire_72 (by decide) ?_
          refine lv_iadd hx hb dX4_expire_73 ?_
          refine z_put C0 Z in_X4 tyX4_ok nmX4 rfl 26 (by decide) rfl rfl tm_4_229 (cx_lt C0 (by decide)) rfl p_X4_26 (fun c' h => up2_off _ _ _ h) rfl rfl (Nat.le_of_ble_eq_true rfl) dX4_expire_74 (fun H locs Z => ?_)
          obtain ⟨v14, ev14⟩ : ∃ z : V3, z = up2 v13 7 26 ((v13 7 26) + 1) := ⟨_, rfl⟩
          rw [← ev14] at Z
          replace hw := hw v14 ev14
          exact b_X4_expire_77 l C0 hK2 _ _ _ _ _ hw Z (lv_sub hl [0, 1] rfl)
set_option maxRecDepth 100000 in
set_option maxHeartbeats 4000000 in
theorem k_X4_expire (l : Launch) {G : zG} (hg : 129 ≤ gn G)  {v : V3} {Q : V3 → Prop} (hw : w_X4_expire v Q) : Mz l yX4_expire cX4_expire 2 none 1 23 G [.ref (gad G 7)] v (QvZ G Q) := by
  rw [w_X4_expire] at hw
  refine z_ofW hg (by decide) (Nat.le_of_ble_eq_true rfl) ?_
  intro p e s m args below meth c ls C0 Z hl
  have hx := C0.1
  have hb := C0.2.1
  replace hl : lv_has ls 2 [(0, .ref (gad G 7))] := hl
  generalize s.heap = H at Z ⊢
  generalize ([] : List Loc) = locs at Z ⊢
  refine lv_iconst (v := 0) hx hb dX4_expire_0 (by decide) ?_
  refine lv_istore_n (lv' := [(1, .int 0), (0, .ref (gad G 7))]) hx hb dX4_expire_1 rfl hl (by decide) rfl (fun ls hl => ?_)
  obtain ⟨m2, hw⟩ := hw
  exact b_X4_expire_2 l C0 m2 _ _ _ _ _ hw Z (lv_sub hl [1, 0] rfl)
-- X4_passTick: room (7, 160)
theorem dX4_passTick_0 : decode cX4_passTick 0 = .ok (.aload_n 0, 1) := by decide +kernel
theorem dX4_passTick_1 : decode cX4_passTick 1 = .ok (.getfield 7, 3) := by decide +kernel
theorem dX4_passTick_4 : decode cX4_passTick 4 = .ok (.bipush 7, 2) := by decide +kernel
theorem dX4_passTick_6 : decode cX4_passTick 6 = .ok (.dup2, 1) := by decide +kernel
theorem dX4_passTick_7 : decode cX4_passTick 7 = .ok (.iaload, 1) := by decide +kernel
theorem dX4_passTick_8 : decode cX4_passTick 8 = .ok (.iconst 1, 1) := by decide +kernel
theorem dX4_passTick_9 : decode cX4_passTick 9 = .ok (.iadd, 1) := by decide +kernel
theorem dX4_passTick_10 : decode cX4_passTick 10 = .ok (.iastore, 1) := by decide +kernel
theorem dX4_passTick_11 : decode cX4_passTick 11 = .ok (.aload_n 0, 1) := by decide +kernel
theorem dX4_passTick_12 : decode cX4_passTick 12 = .ok (.invokevirtual 364, 3) := by decide +kernel
theorem dX4_passTick_15 : decode cX4_passTick 15 = .ok (.aload_n 0, 1) := by decide +kernel
theorem dX4_passTick_16 : decode cX4_passTick 16 = .ok (.invokevirtual 367, 3) := by decide +kernel
theorem dX4_passTick_19 : decode cX4_passTick 19 = .ok (.aload_n 0, 1) := by decide +kernel
theorem dX4_passTick_20 : decode cX4_passTick 20 = .ok (.invokevirtual 370, 3) := by decide +kernel
theorem dX4_passTick_23 : decode cX4_passTick 23 = .ok (.aload_n 0, 1) := by decide +kernel
theorem dX4_passTick_24 : decode cX4_passTick 24 = .ok (.invokevirtual 305, 3) := by decide +kernel
theorem dX4_passTick_27 : decode cX4_passTick 27 = .ok (.return_, 1) := by decide +kernel
def w_X4_passTick  (v : V3) (Q : V3 → Prop) : Prop := ∀ v1 : V3, v1 = up2 v 8 7 ((v 8 7) + 1) → w_X4_endHeld v1 (fun v2 => w_X4_bumpLate v2 (fun v3 => w_X4_expire v3 (fun v4 => w_X4_placeAll v4 (fun v5 => Q v5))))
set_option maxRecDepth 100000 in
set_option maxHeartbeats 4000000 in
theorem k_X4_passTick (l : Launch) {G : zG} (hg : 129 ≤ gn G)  {v : V3} {Q : V3 → Prop} (hw : w_X4_passTick v Q) : Mz l yX4_passTick cX4_passTick 1 none 7 160 G [.ref (gad G 7)] v (QvZ G Q) := by
  rw [w_X4_passTick] at hw
  refine z_ofW hg (by decide) (Nat.le_of_ble_eq_true rfl) ?_
  intro p e s m args below meth c ls C0 Z hl
  have hx := C0.1
  have hb := C0.2.1
  replace hl : lv_has ls 1 [(0, .ref (gad G 7))] := hl
  generalize s.heap = H at Z ⊢
  generalize ([] : List Loc) = locs at Z ⊢
  refine lv_aload_n hx hb dX4_passTick_0 rfl (lv_at hl 0 rfl) ?_
  refine z_get C0 Z in_X4 rfl 0 (by decide) rfl tm_4_203 (cx_lt C0 (by decide)) rfl rfl dX4_passTick_1 ?_
  refine lv_bipush (v := 7) hx hb dX4_passTick_4 (by decide) ?_
  refine lv_dup2_11 hx hb dX4_passTick_6 rfl rfl ?_
  refine z_ialdk C0 Z (cx_lt C0 (by decide)) rfl in_7_474 nc_7 dX4_passTick_7 ?_
  refine lv_iconst (v := 1) hx hb dX4_passTick_8 (by decide) ?_
  refine lv_iadd hx hb dX4_passTick_9 ?_
  refine z_iastk C0 Z (cx_lt C0 (by decide)) (fun _ => rfl) in_7_474 nc_7 dX4_passTick_10 (fun H locs Z => ?_)
  obtain ⟨v1, ev1⟩ : ∃ z : V3, z = up2 v 8 7 ((v 8 7) + 1) := ⟨_, rfl⟩
  rw [← ev1] at Z
  replace hw := hw v1 ev1
  refine lv_aload_n hx hb dX4_passTick_11 rfl (lv_at hl 0 rfl) ?_
  refine z_callVv C0 Z hl.1 (As := []) (rest := []) (k_X4_endHeld l (cx_g C0) hw) (gv_X4_endHeld tm_6_188) rfl ds_X4_endHeld ⟨Nat.le_of_ble_eq_true rfl, Nat.le_of_ble_eq_true rfl⟩ (ci := 4) rfl (cx_lt C0 (by decide)) rfl rfl rfl (Nat.le_of_ble_eq_true rfl) ⟨Nat.le_of_ble_eq_true rfl, Nat.le_of_ble_eq_true rfl⟩ dX4_passTick_12 (fun v2 H locs hw Z => ?_)
  refine lv_aload_n hx hb dX4_passTick_15 rfl (lv_at hl 0 rfl) ?_
  refine z_callVv C0 Z hl.1 (As := []) (rest := []) (k_X4_bumpLate l (cx_g C0) hw) (gv_X4_bumpLate tm_6_192) rfl ds_X4_bumpLate ⟨Nat.le_of_ble_eq_true rfl, Nat.le_of_ble_eq_true rfl⟩ (ci := 4) rfl (cx_lt C0 (by decide)) rfl rfl rfl (Nat.le_of_ble_eq_true rfl) ⟨Nat.le_of_ble_eq_true rfl, Nat.le_of_ble_eq_true rfl⟩ dX4_passTick_16 (fun v3 H locs hw Z => ?_)
  refine lv_aload_n hx hb dX4_passTick_19 rfl (lv_at hl 0 rfl) ?_
  refine z_callVv C0 Z hl.1 (As := []) (rest := []) (k_X4_expire l (cx_g C0) hw) (gv_X4_expire tm_6_196) rfl ds_X4_expire ⟨Nat.le_of_ble_eq_true rfl, Nat.le_of_ble_eq_true rfl⟩ (ci := 4) rfl (cx_lt C0 (by decide)) rfl rfl rfl (Nat.le_of_ble_eq_true rfl) ⟨Nat.le_of_ble_eq_true rfl, Nat.le_of_ble_eq_true rfl⟩ dX4_passTick_20 (fun v4 H locs hw Z => ?_)
  refine lv_aload_n hx hb dX4_passTick_23 rfl (lv_at hl 0 rfl) ?_
  refine z_callVv C0 Z hl.1 (As := []) (rest := []) (k_X4_placeAll l (cx_g C0) hw) (gv_X4_placeAll tm_6_107) rfl ds_X4_placeAll ⟨Nat.le_of_ble_eq_true rfl, Nat.le_of_ble_eq_true rfl⟩ (ci := 4) rfl (cx_lt C0 (by decide)) rfl rfl rfl (Nat.le_of_ble_eq_true rfl) ⟨Nat.le_of_ble_eq_true rfl, Nat.le_of_ble_eq_true rfl⟩ dX4_passTick_24 (fun v5 H locs hw Z => ?_)
  exact z_vret C0 Z hw dX4_passTick_27
-- X4_passTicks: room (8, 180)
theorem dX4_passTicks_0 : decode cX4_passTicks 0 = .ok (.aload_n 0, 1) := by decide +kernel
theorem dX4_passTicks_1 : decode cX4_passTicks 1 = .ok (.iconst 0, 1) := by decide +kernel
theorem dX4_passTicks_2 : decode cX4_passTicks 2 = .ok (.putfield 302, 3) := by decide +kernel
theorem dX4_passTicks_5 : decode cX4_passTicks 5 = .ok (.aload_n 0, 1) := by decide +kernel
theorem dX4_passTicks_6 : decode cX4_passTicks 6 = .ok (.iconst 0, 1) := by decide +kernel
theorem dX4_passTicks_7 : decode cX4_passTicks 7 = .ok (.putfield 358, 3) := by decide +kernel
theorem dX4_passTicks_10 : decode cX4_passTicks 10 = .ok (.aload_n 0, 1) := by decide +kernel
theorem dX4_passTicks_11 : decode cX4_passTicks 11 = .ok (.iconst 0, 1) := by decide +kernel
theorem dX4_passTicks_12 : decode cX4_passTicks 12 = .ok (.putfield 361, 3) := by decide +kernel
theorem dX4_passTicks_15 : decode cX4_passTicks 15 = .ok (.aload_n 0, 1) := by decide +kernel
theorem dX4_passTicks_16 : decode cX4_passTicks 16 = .ok (.iconst 0, 1) := by decide +kernel
theorem dX4_passTicks_17 : decode cX4_passTicks 17 = .ok (.putfield 355, 3) := by decide +kernel
theorem dX4_passTicks_20 : decode cX4_passTicks 20 = .ok (.iconst 0, 1) := by decide +kernel
theorem dX4_passTicks_21 : decode cX4_passTicks 21 = .ok (.istore_n 2, 1) := by decide +kernel
theorem dX4_passTicks_22 : decode cX4_passTicks 22 = .ok (.iload_n 2, 1) := by decide +kernel
theorem dX4_passTicks_23 : decode cX4_passTicks 23 = .ok (.iload_n 1, 1) := by decide +kernel
theorem dX4_passTicks_24 : decode cX4_passTicks 24 = .ok (.if_icmp .ge 13, 3) := by decide +kernel
theorem dX4_passTicks_27 : decode cX4_passTicks 27 = .ok (.aload_n 0, 1) := by decide +kernel
theorem dX4_passTicks_28 : decode cX4_passTicks 28 = .ok (.invokevirtual 373, 3) := by decide +kernel
theorem dX4_passTicks_31 : decode cX4_passTicks 31 = .ok (.iinc 2 1, 3) := by decide +kernel
theorem dX4_passTicks_34 : decode cX4_passTicks 34 = .ok (.goto (-12), 3) := by decide +kernel
theorem dX4_passTicks_37 : decode cX4_passTicks 37 = .ok (.return_, 1) := by decide +kernel
def w_X4_passTicks_22  (Q : V3 → Prop) : Nat → Int32 → Int32 → V3 → Prop
  | 0, _, _, _ => False
  | n22 + 1, x1, x2, v => ((x1 ≤ x2 → Q v) ∧ (¬ x1 ≤ x2 → w_X4_passTick v (fun v6 => (w_X4_passTicks_22 Q n22) x1 (x2 + 1) v6)))
def w_X4_passTicks (a1 : Int32) (v : V3) (Q : V3 → Prop) : Prop := ∀ v1 : V3, v1 = up2 v 7 24 0 → ∀ v2 : V3, v2 = up2 v1 7 25 0 → ∀ v3 : V3, v3 = up2 v2 7 26 0 → ∀ v4 : V3, v4 = up2 v3 7 27 0 → ∃ m22 : Nat, w_X4_passTicks_22 Q m22 a1 0 v4
set_option maxRecDepth 100000 in
set_option maxHeartbeats 4000000 in
theorem b_X4_passTicks_22 {p : Program} (l : Launch) {e : Env} {s : State} {m : MethodId} {args : Array Value} {below : List Frame} {meth : Method} {c : Code} {G : zG}   (C0 : Cx G RX4 cX4_passTicks 3 none p s m args meth c) {Q : V3 → Prop} : ∀ (n : Nat) (x1 : Int32) (x2 : Int32) (v : V3) (H : Heap) (locs : List Loc) (ls : Array Slot), w_X4_passTicks_22 Q n x1 x2 v → Zs G s v H locs → lv_has ls 3 [(0, .ref (gad G 7)), (1, .int x1), (2, .int x2)] → W p l e { frames := 8, cells := 0, slots := 0, locals := 180 } s m args below meth c H locs 0 0 (MQ below (QvZ G Q) args s 0 0 (zA G)) (F0 m 22 ls []) := by
  have hx := C0.1
  have hb := C0.2.1
  intro n
  induction n with
  | zero =>
    intro x1 x2 v H locs ls hw Z hl
    exact hw.elim
  | succ n hK22 =>
    intro x1 x2 v H locs ls hw Z hl
    rw [w_X4_passTicks_22] at hw
    refine lv_iload_n hx hb dX4_passTicks_22 rfl (lv_at hl 2 rfl) ?_
    refine lv_iload_n hx hb dX4_passTicks_23 rfl (lv_at hl 1 rfl) ?_
    refine lv_icmp_ge (tgt := 37) hx hb dX4_passTicks_24 (by decide) (fun c5 => ?_) (fun c5 => ?_)
    · replace hw := hw.1 c5
      exact z_vret C0 Z hw dX4_passTicks_37
    · replace hw := hw.2 c5
      refine lv_aload_n hx hb dX4_passTicks_27 rfl (lv_at hl 0 rfl) ?_
      refine z_callVv C0 Z hl.1 (As := []) (rest := []) (k_X4_passTick l (cx_g C0) hw) (gv_X4_passTick tm_6_184) rfl ds_X4_passTick ⟨Nat.le_of_ble_eq_true rfl, Nat.le_of_ble_eq_true rfl⟩ (ci := 4) rfl (cx_lt C0 (by decide)) rfl rfl rfl (Nat.le_of_ble_eq_true rfl) ⟨Nat.le_of_ble_eq_true rfl, Nat.le_of_ble_eq_true rfl⟩ dX4_passTicks_28 (fun v6 H locs hw Z => ?_)
      refine lv_iinc (v := x2 + 1) (lv' := [(2, .int (x2 + 1)), (0, .ref (gad G 7)), (1, .int x1)]) hx hb dX4_passTicks_31 hl (k := 2) rfl rfl (by decide) rfl (fun ls hl => ?_)
      refine lv_goto (tgt := 22) hx hb dX4_passTicks_34 (by decide) ?_
      exact hK22 _ _ _ _ _ _ hw Z (lv_sub hl [1, 2, 0] rfl)
set_option maxRecDepth 100000 in
set_option maxHeartbeats 4000000 in
theorem k_X4_passTicks (l : Launch) {G : zG} (hg : 129 ≤ gn G) {a1 : Int32}  {v : V3} {Q : V3 → Prop} (hw : w_X4_passTicks a1 v Q) : Mz l yX4_passTicks cX4_passTicks 3 none 8 180 G [.ref (gad G 7), .int a1] v (QvZ G Q) := by
  rw [w_X4_passTicks] at hw
  refine z_ofW hg (by decide) (Nat.le_of_ble_eq_true rfl) ?_
  intro p e s m args below meth c ls C0 Z hl
  have hx := C0.1
  have hb := C0.2.1
  replace hl : lv_has ls 3 [(0, .ref (gad G 7)), (1, .int a1)] := hl
  generalize s.heap = H at Z ⊢
  generalize ([] : List Loc) = locs at Z ⊢
  refine lv_aload_n hx hb dX4_passTicks_0 rfl (lv_at hl 0 rfl) ?_
  refine lv_iconst (v := 0) hx hb dX4_passTicks_1 (by decide) ?_
  refine z_put C0 Z in_X4 tyX4_ok nmX4 rfl 24 (by decide) rfl rfl tm_4_227 (cx_lt C0 (by decide)) rfl p_X4_24 (fun c' h => up2_off _ _ _ h) rfl rfl (Nat.le_of_ble_eq_true rfl) dX4_passTicks_2 (fun H locs Z => ?_)
  obtain ⟨v1, ev1⟩ : ∃ z : V3, z = up2 v 7 24 0 := ⟨_, rfl⟩
  rw [← ev1] at Z
  replace hw := hw v1 ev1
  refine lv_aload_n hx hb dX4_passTicks_5 rfl (lv_at hl 0 rfl) ?_
  refine lv_iconst (v := 0) hx hb dX4_passTicks_6 (by decide) ?_
  refine z_put C0 Z in_X4 tyX4_ok nmX4 rfl 25 (by decide) rfl rfl tm_4_228 (cx_lt C0 (by decide)) rfl p_X4_25 (fun c' h => up2_off _ _ _ h) rfl rfl (Nat.le_of_ble_eq_true rfl) dX4_passTicks_7 (fun H locs Z => ?_)
  obtain ⟨v2, ev2⟩ : ∃ z : V3, z = up2 v1 7 25 0 := ⟨_, rfl⟩
  rw [← ev2] at Z
  replace hw := hw v2 ev2
  refine lv_aload_n hx hb dX4_passTicks_10 rfl (lv_at hl 0 rfl) ?_
  refine lv_iconst (v := 0) hx hb dX4_passTicks_11 (by decide) ?_
  refine z_put C0 Z in_X4 tyX4_ok nmX4 rfl 26 (by decide) rfl rfl tm_4_229 (cx_lt C0 (by decide)) rfl p_X4_26 (fun c' h => up2_off _ _ _ h) rfl rfl (Nat.le_of_ble_eq_true rfl) dX4_passTicks_12 (fun H locs Z => ?_)
  obtain ⟨v3, ev3⟩ : ∃ z : V3, z = up2 v2 7 26 0 := ⟨_, rfl⟩
  rw [← ev3] at Z
  replace hw := hw v3 ev3
  refine lv_aload_n hx hb dX4_passTicks_15 rfl (lv_at hl 0 rfl) ?_
  refine lv_iconst (v := 0) hx hb dX4_passTicks_16 (by decide) ?_
  refine z_put C0 Z in_X4 tyX4_ok nmX4 rfl 27 (by decide) rfl rfl tm_4_230 (cx_lt C0 (by decide)) rfl p_X4_27 (fun c' h => up2_off _ _ _ h) rfl rfl (Nat.le_of_ble_eq_true rfl) dX4_passTicks_17 (fun H locs Z => ?_)
  obtain ⟨v4, ev4⟩ : ∃ z : V3, z = up2 v3 7 27 0 := ⟨_, rfl⟩
  rw [← ev4] at Z
  replace hw := hw v4 ev4
  refine lv_iconst (v := 0) hx hb dX4_passTicks_20 (by decide) ?_
  refine lv_istore_n (lv' := [(2, .int 0), (0, .ref (gad G 7)), (1, .int a1)]) hx hb dX4_passTicks_21 rfl hl (by decide) rfl (fun ls hl => ?_)
  obtain ⟨m22, hw⟩ := hw
  exact b_X4_passTicks_22 l C0 m22 _ _ _ _ _ _ hw Z (lv_sub hl [1, 2, 0] rfl)
-- X4_pass: room (9, 202)
theorem dX4_pass_0 : decode cX4_pass 0 = .ok (.aload_n 0, 1) := by decide +kernel
theorem dX4_pass_1 : decode cX4_pass 1 = .ok (.iconst 0, 1) := by decide +kernel
theorem dX4_pass_2 : decode cX4_pass 2 = .ok (.putfield 55, 3) := by decide +kernel
theorem dX4_pass_5 : decode cX4_pass 5 = .ok (.iload_n 1, 1) := by decide +kernel
theorem dX4_pass_6 : decode cX4_pass 6 = .ok (.i2l, 1) := by decide +kernel
theorem dX4_pass_7 : decode cX4_pass 7 = .ok (.lconst 1, 1) := by decide +kernel
theorem dX4_pass_8 : decode cX4_pass 8 = .ok (.ldc2_w 376, 3) := by decide +kernel
theorem dX4_pass_11 : decode cX4_pass 11 = .ok (.invokestatic 67, 3) := by decide +kernel
theorem dX4_pass_14 : decode cX4_pass 14 = .ok (.ifCond .ne 9, 3) := by decide +kernel
theorem dX4_pass_17 : decode cX4_pass 17 = .ok (.aload_n 0, 1) := by decide +kernel
theorem dX4_pass_18 : decode cX4_pass 18 = .ok (.iconst 1, 1) := by decide +kernel
theorem dX4_pass_19 : decode cX4_pass 19 = .ok (.invokevirtual 78, 3) := by decide +kernel
theorem dX4_pass_22 : decode cX4_pass 22 = .ok (.ireturn, 1) := by decide +kernel
theorem dX4_pass_23 : decode cX4_pass 23 = .ok (.aload_n 0, 1) := by decide +kernel
theorem dX4_pass_24 : decode cX4_pass 24 = .ok (.getfield 7, 3) := by decide +kernel
theorem dX4_pass_27 : decode cX4_pass 27 = .ok (.bipush 7, 2) := by decide +kernel
theorem dX4_pass_29 : decode cX4_pass 29 = .ok (.iaload, 1) := by decide +kernel
theorem dX4_pass_30 : decode cX4_pass 30 = .ok (.iload_n 1, 1) := by decide +kernel
theorem dX4_pass_31 : decode cX4_pass 31 = .ok (.iadd, 1) := by decide +kernel
theorem dX4_pass_32 : decode cX4_pass 32 = .ok (.sipush 20000, 3) := by decide +kernel
theorem dX4_pass_35 : decode cX4_pass 35 = .ok (.if_icmp .le 9, 3) := by decide +kernel
theorem dX4_pass_38 : decode cX4_pass 38 = .ok (.aload_n 0, 1) := by decide +kernel
theorem dX4_pass_39 : decode cX4_pass 39 = .ok (.iconst 2, 1) := by decide +kernel
theorem dX4_pass_40 : decode cX4_pass 40 = .ok (.invokevirtual 78, 3) := by decide +kernel
theorem dX4_pass_43 : decode cX4_pass 43 = .ok (.ireturn, 1) := by decide +kernel
theorem dX4_pass_44 : decode cX4_pass 44 = .ok (.aload_n 0, 1) := by decide +kernel
theorem dX4_pass_45 : decode cX4_pass 45 = .ok (.iload_n 1, 1) := by decide +kernel
theorem dX4_pass_46 : decode cX4_pass 46 = .ok (.invokevirtual 378, 3) := by decide +kernel
theorem dX4_pass_49 : decode cX4_pass 49 = .ok (.aload_n 0, 1) := by decide +kernel
theorem dX4_pass_50 : decode cX4_pass 50 = .ok (.getfield 358, 3) := by decide +kernel
theorem dX4_pass_53 : decode cX4_pass 53 = .ok (.ireturn, 1) := by decide +kernel
def w_X4_pass (a1 : Int32) (v : V3) (Q : Int32 → V3 → Prop) : Prop := ∀ v1 : V3, v1 = up2 v 7 11 0 → w_X4_isBetween ((a1).toInt64) 1 200 v1 (fun r3 v2 => ((¬ r3 = 0 → ((((v2 8 7) + a1) ≤ 20000 → w_X4_passTicks a1 v2 (fun v6 => Q (v6 7 25) v6)) ∧ (¬ ((v2 8 7) + a1) ≤ 20000 → w_X4_fail 2 v2 (fun r8 v7 => Q r8 v7)))) ∧ (r3 = 0 → w_X4_fail 1 v2 (fun r10 v9 => Q r10 v9))))
set_option maxRecDepth 100000 in
set_option maxHeartbeats 4000000 in
theorem k_X4_pass (l : Launch) {G : zG} (hg : 129 ≤ gn G) {a1 : Int32}  {v : V3} {Q : Int32 → V3 → Prop} (hw : w_X4_pass a1 v Q) : Mz l yX4_pass cX4_pass 2 (some .int) 9 202 G [.ref (gad G 7), .int a1] v (QiZ G Q) := by
  rw [w_X4_pass] at hw
  refine z_ofW hg (by decide) (Nat.le_of_ble_eq_true rfl) ?_
  intro p e s m args below meth c ls C0 Z hl
  have hx := C0.1
  have hb := C0.2.1
  replace hl : lv_has ls 2 [(0, .ref (gad G 7)), (1, .int a1)] := hl
  generalize s.heap = H at Z ⊢
  generalize ([] : List Loc) = locs at Z ⊢
  refine lv_aload_n hx hb dX4_pass_0 rfl (lv_at hl 0 rfl) ?_
  refine lv_iconst (v := 0) hx hb dX4_pass_1 (by decide) ?_
  refine z_put C0 Z in_X4 tyX4_ok nmX4 rfl 11 (by decide) rfl rfl tm_4_214 (cx_lt C0 (by decide)) rfl p_X4_11 (fun c' h => up2_off _ _ _ h) rfl rfl (Nat.le_of_ble_eq_true rfl) dX4_pass_2 (fun H locs Z => ?_)
  obtain ⟨v1, ev1⟩ : ∃ z : V3, z = up2 v 7 11 0 := ⟨_, rfl⟩
  rw [← ev1] at Z
  replace hw := hw v1 ev1
  refine lv_iload_n hx hb dX4_pass_5 rfl (lv_at hl 1 rfl) ?_
  refine lv_i2l (v := (a1).toInt64) hx hb dX4_pass_6 rfl ?_
  refine lv_lconst (v := 1) hx hb dX4_pass_7 (by decide) ?_
  refine lv_ldc2 hx hb (cx_own C0) (cx_w C0 tm_6_179) dX4_pass_8 ?_
  refine z_callSi C0 Z hl.1 (As := [.long ((a1).toInt64), .long 1, .long 200]) (rest := []) (k_X4_isBetween l (cx_g C0) hw) (gv_X4_isBetween tm_5_83) ds_X4_isBetween ⟨Nat.le_of_ble_eq_true rfl, Nat.le_of_ble_eq_true rfl⟩ rfl rfl (Nat.le_of_ble_eq_true rfl) ⟨Nat.le_of_ble_eq_true rfl, Nat.le_of_ble_eq_true rfl⟩ dX4_pass_11 (fun r3 v2 H locs hw Z => ?_)
  refine lv_if_ne (tgt := 23) hx hb dX4_pass_14 (by decide) (fun c4 => ?_) (fun c4 => ?_)
  · replace hw := hw.1 c4
    refine lv_aload_n hx hb dX4_pass_23 rfl (lv_at hl 0 rfl) ?_
    refine z_get C0 Z in_X4 rfl 0 (by decide) rfl tm_4_203 (cx_lt C0 (by decide)) rfl rfl dX4_pass_24 ?_
    refine lv_bipush (v := 7) hx hb dX4_pass_27 (by decide) ?_
    refine z_ialdk C0 Z (cx_lt C0 (by decide)) rfl in_7_474 nc_7 dX4_pass_29 ?_
    refine lv_iload_n hx hb dX4_pass_30 rfl (lv_at hl 1 rfl) ?_
    refine lv_iadd hx hb dX4_pass_31 ?_
    refine lv_sipush (v := 20000) hx hb dX4_pass_32 (by decide) ?_
    refine lv_icmp_le (tgt := 44) hx hb dX4_pass_35 (by decide) (fun c5 => ?_) (fun c5 => ?_)
    · replace hw := hw.1 c5
      refine lv_aload_n hx hb dX4_pass_44 rfl (lv_at hl 0 rfl) ?_
      refine lv_iload_n hx hb dX4_pass_45 rfl (lv_at hl 1 rfl) ?_
      refine z_callVv C0 Z hl.1 (As := [.int a1]) (rest := []) (k_X4_passTicks l (cx_g C0) hw) (gv_X4_passTicks tm_6_180) rfl ds_X4_passTicks ⟨Nat.le_of_ble_eq_true rfl, Nat.le_of_ble_eq_true rfl⟩ (ci := 4) rfl (cx_lt C0 (by decide)) rfl rfl rfl (Nat.le_of_ble_eq_true rfl) ⟨Nat.le_of_ble_eq_true rfl, Nat.le_of_ble_eq_true rfl⟩ dX4_pass_46 (fun v6 H locs hw Z => ?_)
      refine lv_aload_n hx hb dX4_pass_49 rfl (lv_at hl 0 rfl) ?_
      refine z_get C0 Z in_X4 rfl 25 (by decide) rfl tm_4_228 (cx_lt C0 (by decide)) rfl rfl dX4_pass_50 ?_
      exact z_iret C0 Z hw dX4_pass_53
    · replace hw := hw.2 c5
      refine lv_aload_n hx hb dX4_pass_38 rfl (lv_at hl 0 rfl) ?_
      refine lv_iconst (v := 2) hx hb dX4_pass_39 (by decide) ?_
      refine z_callVi C0 Z hl.1 (As := [.int 2]) (rest := []) (k_X4_fail l (cx_g C0) hw) (gv_X4_fail tm_5_75) rfl ds_X4_fail ⟨Nat.le_of_ble_eq_true rfl, Nat.le_of_ble_eq_true rfl⟩ (ci := 4) rfl (cx_lt C0 (by decide)) rfl rfl rfl (Nat.le_of_ble_eq_true rfl) ⟨Nat.le_of_ble_eq_true rfl, Nat.le_of_ble_eq_true rfl⟩ dX4_pass_40 (fun r8 v7 H locs hw Z => ?_)
      exact z_iret C0 Z hw dX4_pass_43
  · replace hw := hw.2 c4
    refine lv_aload_n hx hb dX4_pass_17 rfl (lv_at hl 0 rfl) ?_
    refine lv_iconst (v := 1) hx hb dX4_pass_18 (by decide) ?_
    refine z_callVi C0 Z hl.1 (As := [.int 1]) (rest := []) (k_X4_fail l (cx_g C0) hw) (gv_X4_fail tm_5_75) rfl ds_X4_fail ⟨Nat.le_of_ble_eq_true rfl, Nat.le_of_ble_eq_true rfl⟩ (ci := 4) rfl (cx_lt C0 (by decide)) rfl rfl rfl (Nat.le_of_ble_eq_true rfl) ⟨Nat.le_of_ble_eq_true rfl, Nat.le_of_ble_eq_true rfl⟩ dX4_pass_19 (fun r10 v9 H locs hw Z => ?_)
    exact z_iret C0 Z hw dX4_pass_22
-- X4_gain: room (6, 142)
theorem dX4_gain_0 : decode cX4_gain 0 = .ok (.aload_n 0, 1) := by decide +kernel
theorem dX4_gain_1 : decode cX4_gain 1 = .ok (.iconst 0, 1) := by decide +kernel
theorem dX4_gain_2 : decode cX4_gain 2 = .ok (.putfield 55, 3) := by decide +kernel
theorem dX4_gain_5 : decode cX4_gain 5 = .ok (.aload_n 0, 1) := by decide +kernel
theorem dX4_gain_6 : decode cX4_gain 6 = .ok (.iload_n 1, 1) := by decide +kernel
theorem dX4_gain_7 : decode cX4_gain 7 = .ok (.invokevirtual 290, 3) := by decide +kernel
theorem dX4_gain_10 : decode cX4_gain 10 = .ok (.ifCond .eq 20, 3) := by decide +kernel
theorem dX4_gain_13 : decode cX4_gain 13 = .ok (.aload_n 0, 1) := by decide +kernel
theorem dX4_gain_14 : decode cX4_gain 14 = .ok (.iload_n 2, 1) := by decide +kernel
theorem dX4_gain_15 : decode cX4_gain 15 = .ok (.invokevirtual 290, 3) := by decide +kernel
theorem dX4_gain_18 : decode cX4_gain 18 = .ok (.ifCond .eq 12, 3) := by decide +kernel
theorem dX4_gain_21 : decode cX4_gain 21 = .ok (.aload_n 0, 1) := by decide +kernel
theorem dX4_gain_22 : decode cX4_gain 22 = .ok (.iload_n 1, 1) := by decide +kernel
theorem dX4_gain_23 : decode cX4_gain 23 = .ok (.iload_n 2, 1) := by decide +kernel
theorem dX4_gain_24 : decode cX4_gain 24 = .ok (.invokevirtual 332, 3) := by decide +kernel
theorem dX4_gain_27 : decode cX4_gain 27 = .ok (.goto 8, 3) := by decide +kernel
theorem dX4_gain_30 : decode cX4_gain 30 = .ok (.aload_n 0, 1) := by decide +kernel
theorem dX4_gain_31 : decode cX4_gain 31 = .ok (.iconst 1, 1) := by decide +kernel
theorem dX4_gain_32 : decode cX4_gain 32 = .ok (.invokevirtual 78, 3) := by decide +kernel
theorem dX4_gain_35 : decode cX4_gain 35 = .ok (.ireturn, 1) := by decide +kernel
def w_X4_gain_35  (Q : Int32 → V3 → Prop) (s0 : Int32) (v : V3) : Prop := Q s0 v
def w_X4_gain_30  (Q : Int32 → V3 → Prop) (v : V3) : Prop := w_X4_fail 1 v (fun r6 v5 => w_X4_gain_35 Q r6 v5)
def w_X4_gain (a1 : Int32) (a2 : Int32) (v : V3) (Q : Int32 → V3 → Prop) : Prop := ∀ v1 : V3, v1 = up2 v 7 11 0 → w_X4_isBooking a1 v1 (fun r3 v2 => ((r3 = 0 → w_X4_gain_30 Q v2) ∧ (¬ r3 = 0 → w_X4_isBooking a2 v2 (fun r8 v7 => ((r8 = 0 → w_X4_gain_30 Q v7) ∧ (¬ r8 = 0 → w_X4_gainOf a1 a2 v7 (fun r11 v10 => w_X4_gain_35 Q r11 v10)))))))
set_option maxRecDepth 100000 in
set_option maxHeartbeats 4000000 in
theorem b_X4_gain_35 {p : Program} (l : Launch) {e : Env} {s : State} {m : MethodId} {args : Array Value} {below : List Frame} {meth : Method} {c : Code} {G : zG}   (C0 : Cx G RX4 cX4_gain 3 (some .int) p s m args meth c) {Q : Int32 → V3 → Prop} : ∀ (s0 : Int32) (v : V3) (H : Heap) (locs : List Loc) (ls : Array Slot), w_X4_gain_35 Q s0 v → Zs G s v H locs → lv_has ls 3 [] → W p l e { frames := 6, cells := 0, slots := 0, locals := 142 } s m args below meth c H locs 0 0 (MQ below (QiZ G Q) args s 0 0 (zA G)) (F0 m 35 ls [.int s0]) := by
  have hx := C0.1
  have hb := C0.2.1
  intro s0 v H locs ls hw Z hl
  rw [w_X4_gain_35] at hw
  exact z_iret C0 Z hw dX4_gain_35
set_option maxRecDepth 100000 in
set_option maxHeartbeats 4000000 in
theorem b_X4_gain_30 {p : Program} (l : Launch) {e : Env} {s : State} {m : MethodId} {args : Array Value} {below : List Frame} {meth : Method} {c : Code} {G : zG}   (C0 : Cx G RX4 cX4_gain 3 (some .int) p s m args meth c) {Q : Int32 → V3 → Prop} : ∀ (v : V3) (H : Heap) (locs : List Loc) (ls : Array Slot), w_X4_gain_30 Q v → Zs G s v H locs → lv_has ls 3 [(0, .ref (gad G 7))] → W p l e { frames := 6, cells := 0, slots := 0, locals := 142 } s m args below meth c H locs 0 0 (MQ below (QiZ G Q) args s 0 0 (zA G)) (F0 m 30 ls []) := by
  have hx := C0.1
  have hb := C0.2.1
  intro v H locs ls hw Z hl
  rw [w_X4_gain_30] at hw
  refine lv_aload_n hx hb dX4_gain_30 rfl (lv_at hl 0 rfl) ?_
  refine lv_iconst (v := 1) hx hb dX4_gain_31 (by decide) ?_
  refine z_callVi C0 Z hl.1 (As := [.int 1]) (rest := []) (k_X4_fail l (cx_g C0) hw) (gv_X4_fail tm_5_75) rfl ds_X4_fail ⟨Nat.le_of_ble_eq_true rfl, Nat.le_of_ble_eq_true rfl⟩ (ci := 4) rfl (cx_lt C0 (by decide)) rfl rfl rfl (Nat.le_of_ble_eq_true rfl) ⟨Nat.le_of_ble_eq_true rfl, Nat.le_of_ble_eq_true rfl⟩ dX4_gain_32 (fun r6 v5 H locs hw Z => ?_)
  exact b_X4_gain_35 l C0 _ _ _ _ _ hw Z (lv_sub hl [] rfl)
set_option maxRecDepth 100000 in
set_option maxHeartbeats 4000000 in
theorem k_X4_gain (l : Launch) {G : zG} (hg : 129 ≤ gn G) {a1 : Int32} {a2 : Int32}  {v : V3} {Q : Int32 → V3 → Prop} (hw : w_X4_gain a1 a2 v Q) : Mz l yX4_gain cX4_gain 3 (some .int) 6 142 G [.ref (gad G 7), .int a1, .int a2] v (QiZ G Q) := by
  rw [w_X4_gain] at hw
  refine z_ofW hg (by decide) (Nat.le_of_ble_eq_true rfl) ?_
  intro p e s m args below meth c ls C0 Z hl
  have hx := C0.1
  have hb := C0.2.1
  replace hl : lv_has ls 3 [(0, .ref (gad G 7)), (1, .int a1), (2, .int a2)] := hl
  generalize s.heap = H at Z ⊢
  generalize ([] : List Loc) = locs at Z ⊢
  refine lv_aload_n hx hb dX4_gain_0 rfl (lv_at hl 0 rfl) ?_
  refine lv_iconst (v := 0) hx hb dX4_gain_1 (by decide) ?_
  refine z_put C0 Z in_X4 tyX4_ok nmX4 rfl 11 (by decide) rfl rfl tm_4_214 (cx_lt C0 (by decide)) rfl p_X4_11 (fun c' h => up2_off _ _ _ h) rfl rfl (Nat.le_of_ble_eq_true rfl) dX4_gain_2 (fun H locs Z => ?_)
  obtain ⟨v1, ev1⟩ : ∃ z : V3, z = up2 v 7 11 0 := ⟨_, rfl⟩
  rw [← ev1] at Z
  replace hw := hw v1 ev1
  refine lv_aload_n hx hb dX4_gain_5 rfl (lv_at hl 0 rfl) ?_
  refine lv_iload_n hx hb dX4_gain_6 rfl (lv_at hl 1 rfl) ?_
  refine z_callVi C0 Z hl.1 (As := [.int a1]) (rest := []) (k_X4_isBooking l (cx_g C0) hw) (gv_X4_isBooking tm_6_75) rfl ds_X4_isBooking ⟨Nat.le_of_ble_eq_true rfl, Nat.le_of_ble_eq_true rfl⟩ (ci := 4) rfl (cx_lt C0 (by decide)) rfl rfl rfl (Nat.le_of_ble_eq_true rfl) ⟨Nat.le_of_ble_eq_true rfl, Nat.le_of_ble_eq_true rfl⟩ dX4_gain_7 (fun r3 v2 H locs hw Z => ?_)
  refine lv_if_eq (tgt := 30) hx hb dX4_gain_10 (by decide) (fun c4 => ?_) (fun c4 => ?_)
  · replace hw := hw.1 c4
    exact b_X4_gain_30 l C0 _ _ _ _ hw Z (lv_sub hl [0] rfl)
  · replace hw := hw.2 c4
    refine lv_aload_n hx hb dX4_gain_13 rfl (lv_at hl 0 rfl) ?_
    refine lv_iload_n hx hb dX4_gain_14 rfl (lv_at hl 2 rfl) ?_
    refine z_callVi C0 Z hl.1 (As := [.int a2]) (rest := []) (k_X4_isBooking l (cx_g C0) hw) (gv_X4_isBooking tm_6_75) rfl ds_X4_isBooking ⟨Nat.le_of_ble_eq_true rfl, Nat.le_of_ble_eq_true rfl⟩ (ci := 4) rfl (cx_lt C0 (by decide)) rfl rfl rfl (Nat.le_of_ble_eq_true rfl) ⟨Nat.le_of_ble_eq_true rfl, Nat.le_of_ble_eq_true rfl⟩ dX4_gain_15 (fun r8 v7 H locs hw Z => ?_)
    refine lv_if_eq (tgt := 30) hx hb dX4_gain_18 (by decide) (fun c9 => ?_) (fun c9 => ?_)
    · replace hw := hw.1 c9
      exact b_X4_gain_30 l C0 _ _ _ _ hw Z (lv_sub hl [0] rfl)
    · replace hw := hw.2 c9
      refine lv_aload_n hx hb dX4_gain_21 rfl (lv_at hl 0 rfl) ?_
      refine lv_iload_n hx hb dX4_gain_22 rfl (lv_at hl 1 rfl) ?_
      refine lv_iload_n hx hb dX4_gain_23 rfl (lv_at hl 2 rfl) ?_
      refine z_callVi C0 Z hl.1 (As := [.int a1, .int a2]) (rest := []) (k_X4_gainOf l (cx_g C0) hw) (gv_X4_gainOf tm_6_171) rfl ds_X4_gainOf ⟨Nat.le_of_ble_eq_true rfl, Nat.le_of_ble_eq_true rfl⟩ (ci := 4) rfl (cx_lt C0 (by decide)) rfl rfl rfl (Nat.le_of_ble_eq_true rfl) ⟨Nat.le_of_ble_eq_true rfl, Nat.le_of_ble_eq_true rfl⟩ dX4_gain_24 (fun r11 v10 H locs hw Z => ?_)
      refine lv_goto (tgt := 35) hx hb dX4_gain_27 (by decide) ?_
      exact b_X4_gain_35 l C0 _ _ _ _ _ hw Z (lv_sub hl [] rfl)
