-- L_at: room (0, 0) cells (0, 0)
theorem dL_at_0 : decode cL_at 0 = .ok (.iload_n 1, 1) := by decide +kernel
theorem dL_at_1 : decode cL_at 1 = .ok (.aload_n 0, 1) := by decide +kernel
theorem dL_at_2 : decode cL_at 2 = .ok (.arraylength, 1) := by decide +kernel
theorem dL_at_3 : decode cL_at 3 = .ok (.if_icmp .ge 9, 3) := by decide +kernel
theorem dL_at_6 : decode cL_at 6 = .ok (.aload_n 0, 1) := by decide +kernel
theorem dL_at_7 : decode cL_at 7 = .ok (.iload_n 1, 1) := by decide +kernel
theorem dL_at_8 : decode cL_at 8 = .ok (.iaload, 1) := by decide +kernel
theorem dL_at_9 : decode cL_at 9 = .ok (.goto 4, 3) := by decide +kernel
theorem dL_at_12 : decode cL_at 12 = .ok (.iconst 0, 1) := by decide +kernel
theorem dL_at_13 : decode cL_at 13 = .ok (.istore_n 2, 1) := by decide +kernel
theorem dL_at_14 : decode cL_at 14 = .ok (.iload_n 2, 1) := by decide +kernel
theorem dL_at_15 : decode cL_at 15 = .ok (.ifCond .le 22, 3) := by decide +kernel
theorem dL_at_18 : decode cL_at 18 = .ok (.iload_n 2, 1) := by decide +kernel
theorem dL_at_19 : decode cL_at 19 = .ok (.sipush 512, 3) := by decide +kernel
theorem dL_at_22 : decode cL_at 22 = .ok (.if_icmp .ge 15, 3) := by decide +kernel
theorem dL_at_25 : decode cL_at 25 = .ok (.iload_n 2, 1) := by decide +kernel
theorem dL_at_26 : decode cL_at 26 = .ok (.ldc 16, 2) := by decide +kernel
theorem dL_at_28 : decode cL_at 28 = .ok (.imul, 1) := by decide +kernel
theorem dL_at_29 : decode cL_at 29 = .ok (.iload_n 1, 1) := by decide +kernel
theorem dL_at_30 : decode cL_at 30 = .ok (.ldc 17, 2) := by decide +kernel
theorem dL_at_32 : decode cL_at 32 = .ok (.imul, 1) := by decide +kernel
theorem dL_at_33 : decode cL_at 33 = .ok (.ixor, 1) := by decide +kernel
theorem dL_at_34 : decode cL_at 34 = .ok (.goto 4, 3) := by decide +kernel
theorem dL_at_37 : decode cL_at 37 = .ok (.iload_n 2, 1) := by decide +kernel
theorem dL_at_38 : decode cL_at 38 = .ok (.ireturn, 1) := by decide +kernel
def w_L_at_38  (Q : Int32 → V3 → Prop) (s0 : Int32) (v : V3) : Prop := Q s0 v
def w_L_at_37  (Q : Int32 → V3 → Prop) (x2 : Int32) (v : V3) : Prop := w_L_at_38 Q x2 v
def w_L_at_13  (Q : Int32 → V3 → Prop) (x1 : Int32) (s0 : Int32) (v : V3) : Prop := ((s0 ≤ 0 → w_L_at_37 Q s0 v) ∧ (¬ s0 ≤ 0 → ((512 ≤ s0 → w_L_at_37 Q s0 v) ∧ (¬ 512 ≤ s0 → w_L_at_38 Q ((s0 * (-1640531535)) ^^^ (x1 * (-2048144789))) v))))
def w_L_at (a2 : Int32) (v : V3) (Q : Int32 → V3 → Prop) : Prop := ∀ (L : Nat) (xs : Nat → Int32), L ≤ 260 → (((nI L) ≤ a2 → w_L_at_13 Q a2 0 v) ∧ (¬ (nI L) ≤ a2 → vp_in a2 L ∧ w_L_at_13 Q a2 (xs (ix a2)) v))
set_option maxRecDepth 100000 in
set_option maxHeartbeats 4000000 in
theorem b_L_at_38 {p : Program} (l : Launch) {e : Env} {s : State} {m : MethodId} {args : Array Value} {below : List Frame} {meth : Method} {c : Code} {G : zG}   (C0 : Cx G RL cL_at 3 (some .int) p s m args meth c) {Q : Int32 → V3 → Prop} : ∀ (s0 : Int32) (v : V3) (H : Heap) (locs : List Loc) (ls : Array Slot), w_L_at_38 Q s0 v → Zs G s v H locs → lv_has ls 3 [] → W p l e { frames := 0, cells := 0, slots := 0, locals := 0 } s m args below meth c H locs 0 0 (MQ below (QiZ G Q) args s 0 0 (zA G)) (F0 m 38 ls [.int s0]) := by
  have hx := C0.1
  have hb := C0.2.1
  intro s0 v H locs ls hw Z hl
  rw [w_L_at_38] at hw
  exact z_iret C0 Z hw dL_at_38
set_option maxRecDepth 100000 in
set_option maxHeartbeats 4000000 in
theorem b_L_at_37 {p : Program} (l : Launch) {e : Env} {s : State} {m : MethodId} {args : Array Value} {below : List Frame} {meth : Method} {c : Code} {G : zG}   (C0 : Cx G RL cL_at 3 (some .int) p s m args meth c) {Q : Int32 → V3 → Prop} : ∀ (x2 : Int32) (v : V3) (H : Heap) (locs : List Loc) (ls : Array Slot), w_L_at_37 Q x2 v → Zs G s v H locs → lv_has ls 3 [(2, .int x2)] → W p l e { frames := 0, cells := 0, slots := 0, locals := 0 } s m args below meth c H locs 0 0 (MQ below (QiZ G Q) args s 0 0 (zA G)) (F0 m 37 ls []) := by
  have hx := C0.1
  have hb := C0.2.1
  intro x2 v H locs ls hw Z hl
  rw [w_L_at_37] at hw
  refine lv_iload_n hx hb dL_at_37 rfl (lv_at hl 0 rfl) ?_
  exact b_L_at_38 l C0 _ _ _ _ _ hw Z (lv_sub hl [] rfl)
set_option maxRecDepth 100000 in
set_option maxHeartbeats 4000000 in
theorem b_L_at_13 {p : Program} (l : Launch) {e : Env} {s : State} {m : MethodId} {args : Array Value} {below : List Frame} {meth : Method} {c : Code} {G : zG}   (C0 : Cx G RL cL_at 3 (some .int) p s m args meth c) {Q : Int32 → V3 → Prop} : ∀ (x1 : Int32) (s0 : Int32) (v : V3) (H : Heap) (locs : List Loc) (ls : Array Slot), w_L_at_13 Q x1 s0 v → Zs G s v H locs → lv_has ls 3 [(1, .int x1)] → W p l e { frames := 0, cells := 0, slots := 0, locals := 0 } s m args below meth c H locs 0 0 (MQ below (QiZ G Q) args s 0 0 (zA G)) (F0 m 13 ls [.int s0]) := by
  have hx := C0.1
  have hb := C0.2.1
  intro x1 s0 v H locs ls hw Z hl
  rw [w_L_at_13] at hw
  refine lv_istore_n (lv' := [(2, .int s0), (1, .int x1)]) hx hb dL_at_13 rfl hl (by decide) rfl (fun ls hl => ?_)
  refine lv_iload_n hx hb dL_at_14 rfl (lv_at hl 0 rfl) ?_
  refine lv_if_le (tgt := 37) hx hb dL_at_15 (by decide) (fun c2 => ?_) (fun c2 => ?_)
  · replace hw := hw.1 c2
    exact b_L_at_37 l C0 _ _ _ _ _ hw Z (lv_sub hl [0] rfl)
  · replace hw := hw.2 c2
    refine lv_iload_n hx hb dL_at_18 rfl (lv_at hl 0 rfl) ?_
    refine lv_sipush (v := 512) hx hb dL_at_19 (by decide) ?_
    refine lv_icmp_ge (tgt := 37) hx hb dL_at_22 (by decide) (fun c3 => ?_) (fun c3 => ?_)
    · replace hw := hw.1 c3
      exact b_L_at_37 l C0 _ _ _ _ _ hw Z (lv_sub hl [0] rfl)
    · replace hw := hw.2 c3
      refine lv_iload_n hx hb dL_at_25 rfl (lv_at hl 0 rfl) ?_
      refine lv_ldc hx hb (cx_own C0) (cx_w C0 tm_1_214) dL_at_26 ?_
      refine lv_imul hx hb dL_at_28 ?_
      refine lv_iload_n hx hb dL_at_29 rfl (lv_at hl 1 rfl) ?_
      refine lv_ldc hx hb (cx_own C0) (cx_w C0 tm_1_215) dL_at_30 ?_
      refine lv_imul hx hb dL_at_32 ?_
      refine lv_ixor hx hb dL_at_33 ?_
      refine lv_goto (tgt := 38) hx hb dL_at_34 (by decide) ?_
      exact b_L_at_38 l C0 _ _ _ _ _ hw Z (lv_sub hl [] rfl)
set_option maxRecDepth 100000 in
set_option maxHeartbeats 4000000 in
theorem k_L_at (l : Launch) {G : zG} (hg : 116 ≤ gn G) {a2 : Int32}  {v : V3} {Q : Int32 → V3 → Prop} (hw : w_L_at a2 v Q) : Mz l yL_at cL_at 3 (some .int) 0 0 G [.ref (gk G 3), .int a2] v (QiZ G Q) := by
  rw [w_L_at] at hw
  refine z_ofW hg (by decide) (Nat.le_of_ble_eq_true rfl) ?_
  intro p e s m args below meth c ls C0 Z hl
  have hx := C0.1
  have hb := C0.2.1
  replace hl : lv_has ls 3 [(0, .ref (gk G 3)), (1, .int a2)] := hl
  generalize s.heap = H at Z ⊢
  generalize ([] : List Loc) = locs at Z ⊢
  obtain ⟨L, xs, hL, hX⟩ := (cx_K C0).2.1.2.2
  replace hw := hw L xs hL
  refine lv_iload_n hx hb dL_at_0 rfl (lv_at hl 1 rfl) ?_
  refine lv_aload_n hx hb dL_at_1 rfl (lv_at hl 0 rfl) ?_
  refine va_tlen hx hb hX Z.2.2 rfl dL_at_2 ?_
  refine lv_icmp_ge (tgt := 12) hx hb dL_at_3 (by decide) (fun c1 => ?_) (fun c1 => ?_)
  · replace hw := hw.1 c1
    refine lv_iconst (v := 0) hx hb dL_at_12 (by decide) ?_
    exact b_L_at_13 l C0 _ _ _ _ _ _ hw Z (lv_sub hl [1] rfl)
  · replace hw := hw.2 c1
    refine lv_aload_n hx hb dL_at_6 rfl (lv_at hl 0 rfl) ?_
    refine lv_iload_n hx hb dL_at_7 rfl (lv_at hl 1 rfl) ?_
    obtain ⟨h4, hw⟩ := hw
    refine va_ti hx hb hX Z.2.2 h4 rfl dL_at_8 ?_
    refine lv_goto (tgt := 13) hx hb dL_at_9 (by decide) ?_
    exact b_L_at_13 l C0 _ _ _ _ _ _ hw Z (lv_sub hl [1] rfl)
-- L_draw: room (1, 24) cells (0, 0)
theorem dL_draw_0 : decode cL_draw 0 = .ok (.aload_n 0, 1) := by decide +kernel
theorem dL_draw_1 : decode cL_draw 1 = .ok (.getfield 18, 3) := by decide +kernel
theorem dL_draw_4 : decode cL_draw 4 = .ok (.aload_n 0, 1) := by decide +kernel
theorem dL_draw_5 : decode cL_draw 5 = .ok (.getfield 22, 3) := by decide +kernel
theorem dL_draw_8 : decode cL_draw 8 = .ok (.iconst 1, 1) := by decide +kernel
theorem dL_draw_9 : decode cL_draw 9 = .ok (.aload_n 0, 1) := by decide +kernel
theorem dL_draw_10 : decode cL_draw 10 = .ok (.getfield 18, 3) := by decide +kernel
theorem dL_draw_13 : decode cL_draw 13 = .ok (.arraylength, 1) := by decide +kernel
theorem dL_draw_14 : decode cL_draw 14 = .ok (.invokestatic 26, 3) := by decide +kernel
theorem dL_draw_17 : decode cL_draw 17 = .ok (.irem, 1) := by decide +kernel
theorem dL_draw_18 : decode cL_draw 18 = .ok (.invokestatic 32, 3) := by decide +kernel
theorem dL_draw_21 : decode cL_draw 21 = .ok (.aload_n 0, 1) := by decide +kernel
theorem dL_draw_22 : decode cL_draw 22 = .ok (.getfield 22, 3) := by decide +kernel
theorem dL_draw_25 : decode cL_draw 25 = .ok (.ldc 36, 2) := by decide +kernel
theorem dL_draw_27 : decode cL_draw 27 = .ok (.imul, 1) := by decide +kernel
theorem dL_draw_28 : decode cL_draw 28 = .ok (.iadd, 1) := by decide +kernel
theorem dL_draw_29 : decode cL_draw 29 = .ok (.istore_n 2, 1) := by decide +kernel
theorem dL_draw_30 : decode cL_draw 30 = .ok (.aload_n 0, 1) := by decide +kernel
theorem dL_draw_31 : decode cL_draw 31 = .ok (.dup, 1) := by decide +kernel
theorem dL_draw_32 : decode cL_draw 32 = .ok (.getfield 22, 3) := by decide +kernel
theorem dL_draw_35 : decode cL_draw 35 = .ok (.iconst 1, 1) := by decide +kernel
theorem dL_draw_36 : decode cL_draw 36 = .ok (.iadd, 1) := by decide +kernel
theorem dL_draw_37 : decode cL_draw 37 = .ok (.putfield 22, 3) := by decide +kernel
theorem dL_draw_40 : decode cL_draw 40 = .ok (.iload_n 2, 1) := by decide +kernel
theorem dL_draw_41 : decode cL_draw 41 = .ok (.iload_n 2, 1) := by decide +kernel
theorem dL_draw_42 : decode cL_draw 42 = .ok (.bipush 15, 2) := by decide +kernel
theorem dL_draw_44 : decode cL_draw 44 = .ok (.iushr, 1) := by decide +kernel
theorem dL_draw_45 : decode cL_draw 45 = .ok (.ixor, 1) := by decide +kernel
theorem dL_draw_46 : decode cL_draw 46 = .ok (.istore_n 2, 1) := by decide +kernel
theorem dL_draw_47 : decode cL_draw 47 = .ok (.iload_n 2, 1) := by decide +kernel
theorem dL_draw_48 : decode cL_draw 48 = .ok (.ldc 37, 2) := by decide +kernel
theorem dL_draw_50 : decode cL_draw 50 = .ok (.imul, 1) := by decide +kernel
theorem dL_draw_51 : decode cL_draw 51 = .ok (.istore_n 2, 1) := by decide +kernel
theorem dL_draw_52 : decode cL_draw 52 = .ok (.iload_n 2, 1) := by decide +kernel
theorem dL_draw_53 : decode cL_draw 53 = .ok (.iload_n 2, 1) := by decide +kernel
theorem dL_draw_54 : decode cL_draw 54 = .ok (.bipush 13, 2) := by decide +kernel
theorem dL_draw_56 : decode cL_draw 56 = .ok (.iushr, 1) := by decide +kernel
theorem dL_draw_57 : decode cL_draw 57 = .ok (.ixor, 1) := by decide +kernel
theorem dL_draw_58 : decode cL_draw 58 = .ok (.istore_n 2, 1) := by decide +kernel
theorem dL_draw_59 : decode cL_draw 59 = .ok (.iload_n 2, 1) := by decide +kernel
theorem dL_draw_60 : decode cL_draw 60 = .ok (.ldc 38, 2) := by decide +kernel
theorem dL_draw_62 : decode cL_draw 62 = .ok (.iand, 1) := by decide +kernel
theorem dL_draw_63 : decode cL_draw 63 = .ok (.iload_n 1, 1) := by decide +kernel
theorem dL_draw_64 : decode cL_draw 64 = .ok (.irem, 1) := by decide +kernel
theorem dL_draw_65 : decode cL_draw 65 = .ok (.ireturn, 1) := by decide +kernel
def w_L_draw (a1 : Int32) (v : V3) (Q : Int32 → V3 → Prop) : Prop := ∀ (L : Nat) (xs : Nat → Int32), L ≤ 260 → ¬ v 7 1 = 0 ∧ ¬ v 7 1 = 0 ∧ ¬ (zmax 1 (nI L)) = 0 ∧ w_L_at ((v 7 2) - (v 7 2) / (zmax 1 (nI L)) * (zmax 1 (nI L))) v (fun r5 v4 => ∀ v6 : V3, v6 = up2 v4 7 2 ((v4 7 2) + 1) → ¬ a1 = 0 ∧ Q ((((((r5 + ((v4 7 2) * 668265263)) ^^^ (zushr (r5 + ((v4 7 2) * 668265263)) 15)) * 739982445) ^^^ (zushr (((r5 + ((v4 7 2) * 668265263)) ^^^ (zushr (r5 + ((v4 7 2) * 668265263)) 15)) * 739982445) 13)) &&& 2147483647) - (((((r5 + ((v4 7 2) * 668265263)) ^^^ (zushr (r5 + ((v4 7 2) * 668265263)) 15)) * 739982445) ^^^ (zushr (((r5 + ((v4 7 2) * 668265263)) ^^^ (zushr (r5 + ((v4 7 2) * 668265263)) 15)) * 739982445) 13)) &&& 2147483647) / a1 * a1) v6)
set_option maxRecDepth 100000 in
set_option maxHeartbeats 4000000 in
theorem k_L_draw (l : Launch) {G : zG} (hg : 116 ≤ gn G) {a1 : Int32}  {v : V3} {Q : Int32 → V3 → Prop} (hw : w_L_draw a1 v Q) : Mz l yL_draw cL_draw 3 (some .int) 1 24 G [.ref (gad G 7), .int a1] v (QiZ G Q) := by
  rw [w_L_draw] at hw
  refine z_ofW hg (by decide) (Nat.le_of_ble_eq_true rfl) ?_
  intro p e s m args below meth c ls C0 Z hl
  have hx := C0.1
  have hb := C0.2.1
  replace hl : lv_has ls 3 [(0, .ref (gad G 7)), (1, .int a1)] := hl
  generalize s.heap = H at Z ⊢
  generalize ([] : List Loc) = locs at Z ⊢
  obtain ⟨L, xs, hL, hX⟩ := (cx_K C0).2.1.2.2
  replace hw := hw L xs hL
  refine lv_aload_n hx hb dL_draw_0 rfl (lv_at hl 0 rfl) ?_
  obtain ⟨h1, hw⟩ := hw
  refine z_get C0 Z in_L rfl 1 (by decide) rfl tm_1_182 (cx_lt C0 (by decide)) (eL_1 h1) rfl dL_draw_1 ?_
  refine lv_aload_n hx hb dL_draw_4 rfl (lv_at hl 0 rfl) ?_
  refine z_get C0 Z in_L rfl 2 (by decide) rfl tm_1_183 (cx_lt C0 (by decide)) rfl rfl dL_draw_5 ?_
  refine lv_iconst (v := 1) hx hb dL_draw_8 (by decide) ?_
  refine lv_aload_n hx hb dL_draw_9 rfl (lv_at hl 0 rfl) ?_
  obtain ⟨h2, hw⟩ := hw
  refine z_get C0 Z in_L rfl 1 (by decide) rfl tm_1_182 (cx_lt C0 (by decide)) (eL_1 h2) rfl dL_draw_10 ?_
  refine va_tlen hx hb hX Z.2.2 rfl dL_draw_13 ?_
  refine z_max C0 hl.1 tm_1_208 (Nat.le_of_ble_eq_true rfl) (Nat.le_of_ble_eq_true rfl) (Nat.le_of_ble_eq_true rfl) (Nat.le_of_ble_eq_true rfl) dL_draw_14 ?_
  obtain ⟨h3, hw⟩ := hw
  refine lv_irem hx hb dL_draw_17 h3 ?_
  refine z_callSi C0 Z hl.1 (As := [.ref (gk G 3), .int ((v 7 2) - (v 7 2) / (zmax 1 (nI L)) * (zmax 1 (nI L)))]) (rest := []) (k_L_at l (cx_g C0) hw) (gv_L_at tm_1_211) ds_L_at ⟨Nat.le_of_ble_eq_true rfl, Nat.le_of_ble_eq_true rfl⟩ rfl rfl (Nat.le_of_ble_eq_true rfl) ⟨Nat.le_of_ble_eq_true rfl, Nat.le_of_ble_eq_true rfl⟩ dL_draw_18 (fun r5 v4 H locs hw Z => ?_)
  refine lv_aload_n hx hb dL_draw_21 rfl (lv_at hl 0 rfl) ?_
  refine z_get C0 Z in_L rfl 2 (by decide) rfl tm_1_183 (cx_lt C0 (by decide)) rfl rfl dL_draw_22 ?_
  refine lv_ldc hx hb (cx_own C0) (cx_w C0 tm_1_216) dL_draw_25 ?_
  refine lv_imul hx hb dL_draw_27 ?_
  refine lv_iadd hx hb dL_draw_28 ?_
  refine lv_istore_n (lv' := [(2, .int (r5 + ((v4 7 2) * 668265263))), (0, .ref (gad G 7)), (1, .int a1)]) hx hb dL_draw_29 rfl hl (by decide) rfl (fun ls hl => ?_)
  refine lv_aload_n hx hb dL_draw_30 rfl (lv_at hl 1 rfl) ?_
  refine lv_dup hx hb dL_draw_31 rfl ?_
  refine z_get C0 Z in_L rfl 2 (by decide) rfl tm_1_183 (cx_lt C0 (by decide)) rfl rfl dL_draw_32 ?_
  refine lv_iconst (v := 1) hx hb dL_draw_35 (by decide) ?_
  refine lv_iadd hx hb dL_draw_36 ?_
  refine z_put C0 Z in_L tyL_ok nmL rfl 2 (by decide) rfl rfl tm_1_183 (cx_lt C0 (by decide)) rfl p_L_2 (fun c' h => up2_off _ _ _ h) rfl rfl (Nat.le_of_ble_eq_true rfl) dL_draw_37 (fun H locs Z => ?_)
  obtain ⟨v6, ev6⟩ : ∃ z : V3, z = up2 v4 7 2 ((v4 7 2) + 1) := ⟨_, rfl⟩
  rw [← ev6] at Z
  replace hw := hw v6 ev6
  refine lv_iload_n hx hb dL_draw_40 rfl (lv_at hl 0 rfl) ?_
  refine lv_iload_n hx hb dL_draw_41 rfl (lv_at hl 0 rfl) ?_
  refine lv_bipush (v := 15) hx hb dL_draw_42 (by decide) ?_
  refine lv_iushr (v := zushr (r5 + ((v4 7 2) * 668265263)) 15) hx hb dL_draw_44 rfl ?_
  refine lv_ixor hx hb dL_draw_45 ?_
  refine lv_istore_n (lv' := [(2, .int ((r5 + ((v4 7 2) * 668265263)) ^^^ (zushr (r5 + ((v4 7 2) * 668265263)) 15))), (0, .ref (gad G 7)), (1, .int a1)]) hx hb dL_draw_46 rfl hl (by decide) rfl (fun ls hl => ?_)
  refine lv_iload_n hx hb dL_draw_47 rfl (lv_at hl 0 rfl) ?_
  refine lv_ldc hx hb (cx_own C0) (cx_w C0 tm_1_217) dL_draw_48 ?_
  refine lv_imul hx hb dL_draw_50 ?_
  refine lv_istore_n (lv' := [(2, .int (((r5 + ((v4 7 2) * 668265263)) ^^^ (zushr (r5 + ((v4 7 2) * 668265263)) 15)) * 739982445)), (0, .ref (gad G 7)), (1, .int a1)]) hx hb dL_draw_51 rfl hl (by decide) rfl (fun ls hl => ?_)
  refine lv_iload_n hx hb dL_draw_52 rfl (lv_at hl 0 rfl) ?_
  refine lv_iload_n hx hb dL_draw_53 rfl (lv_at hl 0 rfl) ?_
  refine lv_bipush (v := 13) hx hb dL_draw_54 (by decide) ?_
  refine lv_iushr (v := zushr (((r5 + ((v4 7 2) * 668265263)) ^^^ (zushr (r5 + ((v4 7 2) * 668265263)) 15)) * 739982445) 13) hx hb dL_draw_56 rfl ?_
  refine lv_ixor hx hb dL_draw_57 ?_
  refine lv_istore_n (lv' := [(2, .int ((((r5 + ((v4 7 2) * 668265263)) ^^^ (zushr (r5 + ((v4 7 2) * 668265263)) 15)) * 739982445) ^^^ (zushr (((r5 + ((v4 7 2) * 668265263)) ^^^ (zushr (r5 + ((v4 7 2) * 668265263)) 15)) * 739982445) 13))), (0, .ref (gad G 7)), (1, .int a1)]) hx hb dL_draw_58 rfl hl (by decide) rfl (fun ls hl => ?_)
  refine lv_iload_n hx hb dL_draw_59 rfl (lv_at hl 0 rfl) ?_
  refine lv_ldc hx hb (cx_own C0) (cx_w C0 tm_1_218) dL_draw_60 ?_
  refine lv_iand hx hb dL_draw_62 ?_
  refine lv_iload_n hx hb dL_draw_63 rfl (lv_at hl 2 rfl) ?_
  obtain ⟨h7, hw⟩ := hw
  refine lv_irem hx hb dL_draw_64 h7 ?_
  exact z_iret C0 Z hw dL_draw_65
