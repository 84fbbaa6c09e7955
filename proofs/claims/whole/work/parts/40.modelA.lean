-- X4_thrown: room (0, 0)
theorem dX4_thrown_0 : decode cX4_thrown 0 = .ok (.aload_n 0, 1) := by decide +kernel
theorem dX4_thrown_1 : decode cX4_thrown 1 = .ok (.getfield 55, 3) := by decide +kernel
theorem dX4_thrown_4 : decode cX4_thrown 4 = .ok (.ireturn, 1) := by decide +kernel
def w_X4_thrown  (v : V3) (Q : Int32 → V3 → Prop) : Prop := Q (v 7 11) v
set_option maxRecDepth 100000 in
set_option maxHeartbeats 4000000 in
theorem k_X4_thrown (l : Launch) {G : zG} (hg : 129 ≤ gn G)  {v : V3} {Q : Int32 → V3 → Prop} (hw : w_X4_thrown v Q) : Mz l yX4_thrown cX4_thrown 1 (some .int) 0 0 G [.ref (gad G 7)] v (QiZ G Q) := by
  rw [w_X4_thrown] at hw
  refine z_ofW hg (by decide) (Nat.le_of_ble_eq_true rfl) ?_
  intro p e s m args below meth c ls C0 Z hl
  have hx := C0.1
  have hb := C0.2.1
  replace hl : lv_has ls 1 [(0, .ref (gad G 7))] := hl
  generalize s.heap = H at Z ⊢
  generalize ([] : List Loc) = locs at Z ⊢
  refine lv_aload_n hx hb dX4_thrown_0 rfl (lv_at hl 0 rfl) ?_
  refine z_get C0 Z in_X4 rfl 11 (by decide) rfl tm_4_214 (cx_lt C0 (by decide)) rfl rfl dX4_thrown_1 ?_
  exact z_iret C0 Z hw dX4_thrown_4
-- X4_fail: room (0, 0)
theorem dX4_fail_0 : decode cX4_fail 0 = .ok (.aload_n 0, 1) := by decide +kernel
theorem dX4_fail_1 : decode cX4_fail 1 = .ok (.iload_n 1, 1) := by decide +kernel
theorem dX4_fail_2 : decode cX4_fail 2 = .ok (.putfield 55, 3) := by decide +kernel
theorem dX4_fail_5 : decode cX4_fail 5 = .ok (.iconst 0, 1) := by decide +kernel
theorem dX4_fail_6 : decode cX4_fail 6 = .ok (.ireturn, 1) := by decide +kernel
def w_X4_fail (a1 : Int32) (v : V3) (Q : Int32 → V3 → Prop) : Prop := ∀ v1 : V3, v1 = up2 v 7 11 a1 → Q 0 v1
set_option maxRecDepth 100000 in
set_option maxHeartbeats 4000000 in
theorem k_X4_fail (l : Launch) {G : zG} (hg : 129 ≤ gn G) {a1 : Int32}  {v : V3} {Q : Int32 → V3 → Prop} (hw : w_X4_fail a1 v Q) : Mz l yX4_fail cX4_fail 2 (some .int) 0 0 G [.ref (gad G 7), .int a1] v (QiZ G Q) := by
  rw [w_X4_fail] at hw
  refine z_ofW hg (by decide) (Nat.le_of_ble_eq_true rfl) ?_
  intro p e s m args below meth c ls C0 Z hl
  have hx := C0.1
  have hb := C0.2.1
  replace hl : lv_has ls 2 [(0, .ref (gad G 7)), (1, .int a1)] := hl
  generalize s.heap = H at Z ⊢
  generalize ([] : List Loc) = locs at Z ⊢
  refine lv_aload_n hx hb dX4_fail_0 rfl (lv_at hl 0 rfl) ?_
  refine lv_iload_n hx hb dX4_fail_1 rfl (lv_at hl 1 rfl) ?_
  refine z_put C0 Z in_X4 tyX4_ok nmX4 rfl 11 (by decide) rfl rfl tm_4_214 (cx_lt C0 (by decide)) rfl p_X4_11 (fun c' h => up2_off _ _ _ h) rfl rfl (Nat.le_of_ble_eq_true rfl) dX4_fail_2 (fun H locs Z => ?_)
  obtain ⟨v1, ev1⟩ : ∃ z : V3, z = up2 v 7 11 a1 := ⟨_, rfl⟩
  rw [← ev1] at Z
  replace hw := hw v1 ev1
  refine lv_iconst (v := 0) hx hb dX4_fail_5 (by decide) ?_
  exact z_iret C0 Z hw dX4_fail_6
-- X4_isBetween: room (0, 0)
theorem dX4_isBetween_0 : decode cX4_isBetween 0 = .ok (.lload_n 0, 1) := by decide +kernel
theorem dX4_isBetween_1 : decode cX4_isBetween 1 = .ok (.lload_n 2, 1) := by decide +kernel
theorem dX4_isBetween_2 : decode cX4_isBetween 2 = .ok (.lcmp, 1) := by decide +kernel
theorem dX4_isBetween_3 : decode cX4_isBetween 3 = .ok (.ifCond .lt 14, 3) := by decide +kernel
theorem dX4_isBetween_6 : decode cX4_isBetween 6 = .ok (.lload_n 0, 1) := by decide +kernel
theorem dX4_isBetween_7 : decode cX4_isBetween 7 = .ok (.lload 4, 2) := by decide +kernel
theorem dX4_isBetween_9 : decode cX4_isBetween 9 = .ok (.lcmp, 1) := by decide +kernel
theorem dX4_isBetween_10 : decode cX4_isBetween 10 = .ok (.ifCond .gt 7, 3) := by decide +kernel
theorem dX4_isBetween_13 : decode cX4_isBetween 13 = .ok (.iconst 1, 1) := by decide +kernel
theorem dX4_isBetween_14 : decode cX4_isBetween 14 = .ok (.goto 4, 3) := by decide +kernel
theorem dX4_isBetween_17 : decode cX4_isBetween 17 = .ok (.iconst 0, 1) := by decide +kernel
theorem dX4_isBetween_18 : decode cX4_isBetween 18 = .ok (.ireturn, 1) := by decide +kernel
def w_X4_isBetween_18  (Q : Int32 → V3 → Prop) (s0 : Int32) (v : V3) : Prop := (s0 = 0 ∨ s0 = 1) ∧ Q s0 v
def w_X4_isBetween_17  (Q : Int32 → V3 → Prop) (v : V3) : Prop := w_X4_isBetween_18 Q 0 v
def w_X4_isBetween (a1 : Int64) (a2 : Int64) (a3 : Int64) (v : V3) (Q : Int32 → V3 → Prop) : Prop := (((lg_cmp a1 a2) < 0 → w_X4_isBetween_17 Q v) ∧ (¬ (lg_cmp a1 a2) < 0 → ((0 < (lg_cmp a1 a3) → w_X4_isBetween_17 Q v) ∧ (¬ 0 < (lg_cmp a1 a3) → w_X4_isBetween_18 Q 1 v))))
set_option maxRecDepth 100000 in
set_option maxHeartbeats 4000000 in
theorem b_X4_isBetween_18 {p : Program} (l : Launch) {e : Env} {s : State} {m : MethodId} {args : Array Value} {below : List Frame} {meth : Method} {c : Code} {G : zG}   (C0 : Cx G RX4 cX4_isBetween 6 (some .boolean) p s m args meth c) {Q : Int32 → V3 → Prop} : ∀ (s0 : Int32) (v : V3) (H : Heap) (locs : List Loc) (ls : Array Slot), w_X4_isBetween_18 Q s0 v → Zs G s v H locs → lv_has ls 6 [] → W p l e { frames := 0, cells := 0, slots := 0, locals := 0 } s m args below meth c H locs 0 0 (MQ below (QiZ G Q) args s 0 0 (zA G)) (F0 m 18 ls [.int s0]) := by
  have hx := C0.1
  have hb := C0.2.1
  intro s0 v H locs ls hw Z hl
  rw [w_X4_isBetween_18] at hw
  obtain ⟨h2, hw⟩ := hw
  exact z_zret C0 Z h2 hw dX4_isBetween_18
set_option maxRecDepth 100000 in
set_option maxHeartbeats 4000000 in
theorem b_X4_isBetween_17 {p : Program} (l : Launch) {e : Env} {s : State} {m : MethodId} {args : Array Value} {below : List Frame} {meth : Method} {c : Code} {G : zG}   (C0 : Cx G RX4 cX4_isBetween 6 (some .boolean) p s m args meth c) {Q : Int32 → V3 → Prop} : ∀ (v : V3) (H : Heap) (locs : List Loc) (ls : Array Slot), w_X4_isBetween_17 Q v → Zs G s v H locs → lv_has ls 6 [] → W p l e { frames := 0, cells := 0, slots := 0, locals := 0 } s m args below meth c H locs 0 0 (MQ below (QiZ G Q) args s 0 0 (zA G)) (F0 m 17 ls []) := by
  have hx := C0.1
  have hb := C0.2.1
  intro v H locs ls hw Z hl
  rw [w_X4_isBetween_17] at hw
  refine lv_iconst (v := 0) hx hb dX4_isBetween_17 (by decide) ?_
  exact b_X4_isBetween_18 l C0 _ _ _ _ _ hw Z (lv_sub hl [] rfl)
set_option maxRecDepth 100000 in
set_option maxHeartbeats 4000000 in
theorem k_X4_isBetween (l : Launch) {G : zG} (hg : 129 ≤ gn G) {a1 : Int64} {a2 : Int64} {a3 : Int64}  {v : V3} {Q : Int32 → V3 → Prop} (hw : w_X4_isBetween a1 a2 a3 v Q) : Mz l yX4_isBetween cX4_isBetween 6 (some .boolean) 0 0 G [.long a1, .long a2, .long a3] v (QiZ G Q) := by
  rw [w_X4_isBetween] at hw
  refine z_ofW hg (by decide) (Nat.le_of_ble_eq_true rfl) ?_
  intro p e s m args below meth c ls C0 Z hl
  have hx := C0.1
  have hb := C0.2.1
  replace hl : lv_has ls 6 [(0, .long a1), (2, .long a2), (4, .long a3)] := hl
  generalize s.heap = H at Z ⊢
  generalize ([] : List Loc) = locs at Z ⊢
  refine lv_lload_n hx hb dX4_isBetween_0 rfl (lv_at hl 0 rfl) ?_
  refine lv_lload_n hx hb dX4_isBetween_1 rfl (lv_at hl 1 rfl) ?_
  refine W.lcmp hx hb dX4_isBetween_2 ?_
  refine lv_if_lt (tgt := 17) hx hb dX4_isBetween_3 (by decide) (fun c1 => ?_) (fun c1 => ?_)
  · replace hw := hw.1 c1
    exact b_X4_isBetween_17 l C0 _ _ _ _ hw Z (lv_sub hl [] rfl)
  · replace hw := hw.2 c1
    refine lv_lload_n hx hb dX4_isBetween_6 rfl (lv_at hl 0 rfl) ?_
    refine lv_lload hx hb dX4_isBetween_7 (lv_at hl 2 rfl) ?_
    refine W.lcmp hx hb dX4_isBetween_9 ?_
    refine lv_if_gt (tgt := 17) hx hb dX4_isBetween_10 (by decide) (fun c3 => ?_) (fun c3 => ?_)
    · replace hw := hw.1 c3
      exact b_X4_isBetween_17 l C0 _ _ _ _ hw Z (lv_sub hl [] rfl)
    · replace hw := hw.2 c3
      refine lv_iconst (v := 1) hx hb dX4_isBetween_13 (by decide) ?_
      refine lv_goto (tgt := 18) hx hb dX4_isBetween_14 (by decide) ?_
      exact b_X4_isBetween_18 l C0 _ _ _ _ _ hw Z (lv_sub hl [] rfl)
-- X4_clear: room (0, 0)
theorem dX4_clear_0 : decode cX4_clear 0 = .ok (.iconst 0, 1) := by decide +kernel
theorem dX4_clear_1 : decode cX4_clear 1 = .ok (.istore_n 2, 1) := by decide +kernel
theorem dX4_clear_2 : decode cX4_clear 2 = .ok (.iload_n 2, 1) := by decide +kernel
theorem dX4_clear_3 : decode cX4_clear 3 = .ok (.sipush 474, 3) := by decide +kernel
theorem dX4_clear_6 : decode cX4_clear 6 = .ok (.if_icmp .ge 16, 3) := by decide +kernel
theorem dX4_clear_9 : decode cX4_clear 9 = .ok (.aload_n 0, 1) := by decide +kernel
theorem dX4_clear_10 : decode cX4_clear 10 = .ok (.getfield 7, 3) := by decide +kernel
theorem dX4_clear_13 : decode cX4_clear 13 = .ok (.iload_n 2, 1) := by decide +kernel
theorem dX4_clear_14 : decode cX4_clear 14 = .ok (.iconst 0, 1) := by decide +kernel
theorem dX4_clear_15 : decode cX4_clear 15 = .ok (.iastore, 1) := by decide +kernel
theorem dX4_clear_16 : decode cX4_clear 16 = .ok (.iinc 2 1, 3) := by decide +kernel
theorem dX4_clear_19 : decode cX4_clear 19 = .ok (.goto (-17), 3) := by decide +kernel
theorem dX4_clear_22 : decode cX4_clear 22 = .ok (.iconst 0, 1) := by decide +kernel
theorem dX4_clear_23 : decode cX4_clear 23 = .ok (.istore_n 2, 1) := by decide +kernel
theorem dX4_clear_24 : decode cX4_clear 24 = .ok (.iload_n 2, 1) := by decide +kernel
theorem dX4_clear_25 : decode cX4_clear 25 = .ok (.iconst 4, 1) := by decide +kernel
theorem dX4_clear_26 : decode cX4_clear 26 = .ok (.if_icmp .ge 21, 3) := by decide +kernel
theorem dX4_clear_29 : decode cX4_clear 29 = .ok (.aload_n 0, 1) := by decide +kernel
theorem dX4_clear_30 : decode cX4_clear 30 = .ok (.getfield 7, 3) := by decide +kernel
theorem dX4_clear_33 : decode cX4_clear 33 = .ok (.iload_n 2, 1) := by decide +kernel
theorem dX4_clear_34 : decode cX4_clear 34 = .ok (.aload_n 0, 1) := by decide +kernel
theorem dX4_clear_35 : decode cX4_clear 35 = .ok (.getfield 26, 3) := by decide +kernel
theorem dX4_clear_38 : decode cX4_clear 38 = .ok (.iload_n 2, 1) := by decide +kernel
theorem dX4_clear_39 : decode cX4_clear 39 = .ok (.iaload, 1) := by decide +kernel
theorem dX4_clear_40 : decode cX4_clear 40 = .ok (.iastore, 1) := by decide +kernel
theorem dX4_clear_41 : decode cX4_clear 41 = .ok (.iinc 2 1, 3) := by decide +kernel
theorem dX4_clear_44 : decode cX4_clear 44 = .ok (.goto (-20), 3) := by decide +kernel
theorem dX4_clear_47 : decode cX4_clear 47 = .ok (.aload_n 0, 1) := by decide +kernel
theorem dX4_clear_48 : decode cX4_clear 48 = .ok (.getfield 7, 3) := by decide +kernel
theorem dX4_clear_51 : decode cX4_clear 51 = .ok (.iconst 4, 1) := by decide +kernel
theorem dX4_clear_52 : decode cX4_clear 52 = .ok (.iload_n 1, 1) := by decide +kernel
theorem dX4_clear_53 : decode cX4_clear 53 = .ok (.iastore, 1) := by decide +kernel
theorem dX4_clear_54 : decode cX4_clear 54 = .ok (.return_, 1) := by decide +kernel
def w_X4_clear_24  (Q : V3 → Prop) : Nat → Int32 → Int32 → V3 → Prop
  | 0, _, _, _ => False
  | n24 + 1, x1, x2, v => ((4 ≤ x2 → ∀ v3 : V3, v3 = up2 v 8 4 x1 → Q v3) ∧ (¬ 4 ≤ x2 → vp_in x2 4 ∧ vp_in x2 474 ∧ ∀ v6 : V3, v6 = up2 v 8 (ix x2) (v 13 (ix x2)) → (w_X4_clear_24 Q n24) x1 (x2 + 1) v6))
def w_X4_clear_2  (Q : V3 → Prop) : Nat → Int32 → Int32 → V3 → Prop
  | 0, _, _, _ => False
  | n2 + 1, x1, x2, v => ((474 ≤ x2 → ∃ m24 : Nat, w_X4_clear_24 Q m24 x1 0 v) ∧ (¬ 474 ≤ x2 → vp_in x2 474 ∧ ∀ v8 : V3, v8 = up2 v 8 (ix x2) 0 → (w_X4_clear_2 Q n2) x1 (x2 + 1) v8))
def w_X4_clear (a1 : Int32) (v : V3) (Q : V3 → Prop) : Prop := ∃ m2 : Nat, w_X4_clear_2 Q m2 a1 0 v
set_option maxRecDepth 100000 in
set_option maxHeartbeats 4000000 in
theorem b_X4_clear_24 {p : Program} (l : Launch) {e : Env} {s : State} {m : MethodId} {args : Array Value} {below : List Frame} {meth : Method} {c : Code} {G : zG}   (C0 : Cx G RX4 cX4_clear 3 none p s m args meth c) {Q : V3 → Prop} : ∀ (n : Nat) (x1 : Int32) (x2 : Int32) (v : V3) (H : Heap) (locs : List Loc) (ls : Array Slot), w_X4_clear_24 Q n x1 x2 v → Zs G s v H locs → lv_has ls 3 [(0, .ref (gad G 7)), (1, .int x1), (2, .int x2)] → W p l e { frames := 0, cells := 0, slots := 0, locals := 0 } s m args below meth c H locs 0 0 (MQ below (QvZ G Q) args s 0 0 (zA G)) (F0 m 24 ls []) := by
  have hx := C0.1
  have hb := C0.2.1
  intro n
  induction n with
  | zero =>
    intro x1 x2 v H locs ls hw Z hl
    exact hw.elim
  | succ n hK24 =>
    intro x1 x2 v H locs ls hw Z hl
    rw [w_X4_clear_24] at hw
    refine lv_iload_n hx hb dX4_clear_24 rfl (lv_at hl 2 rfl) ?_
    refine lv_iconst (v := 4) hx hb dX4_clear_25 (by decide) ?_
    refine lv_icmp_ge (tgt := 47) hx hb dX4_clear_26 (by decide) (fun c2 => ?_) (fun c2 => ?_)
    · replace hw := hw.1 c2
      refine lv_aload_n hx hb dX4_clear_47 rfl (lv_at hl 0 rfl) ?_
      refine z_get C0 Z in_X4 rfl 0 (by decide) rfl tm_4_203 (cx_lt C0 (by decide)) rfl rfl dX4_clear_48 ?_
      refine lv_iconst (v := 4) hx hb dX4_clear_51 (by decide) ?_
      refine lv_iload_n hx hb dX4_clear_52 rfl (lv_at hl 1 rfl) ?_
      refine z_iastk C0 Z (cx_lt C0 (by decide)) (fun _ => rfl) in_4_474 nc_4 dX4_clear_53 (fun H locs Z => ?_)
      obtain ⟨v3, ev3⟩ : ∃ z : V3, z = up2 v 8 4 x1 := ⟨_, rfl⟩
      rw [← ev3] at Z
      replace hw := hw v3 ev3
      exact z_vret C0 Z hw dX4_clear_54
    · replace hw := hw.2 c2
      refine lv_aload_n hx hb dX4_clear_29 rfl (lv_at hl 0 rfl) ?_
      refine z_get C0 Z in_X4 rfl 0 (by decide) rfl tm_4_203 (cx_lt C0 (by decide)) rfl rfl dX4_clear_30 ?_
      refine lv_iload_n hx hb dX4_clear_33 rfl (lv_at hl 2 rfl) ?_
      refine lv_aload_n hx hb dX4_clear_34 rfl (lv_at hl 0 rfl) ?_
      refine z_get C0 Z in_X4 rfl 5 (by decide) rfl tm_4_208 (cx_lt C0 (by decide)) rfl rfl dX4_clear_35 ?_
      refine lv_iload_n hx hb dX4_clear_38 rfl (lv_at hl 2 rfl) ?_
      obtain ⟨h4, hw⟩ := hw
      refine z_iald C0 Z (cx_lt C0 (by decide)) rfl h4 dX4_clear_39 ?_
      obtain ⟨h5, hw⟩ := hw
      refine z_iast C0 Z (cx_lt C0 (by decide)) (fun _ => rfl) h5 dX4_clear_40 (fun H locs Z => ?_)
      obtain ⟨v6, ev6⟩ : ∃ z : V3, z = up2 v 8 (ix x2) (v 13 (ix x2)) := ⟨_, rfl⟩
      rw [← ev6] at Z
      replace hw := hw v6 ev6
      refine lv_iinc (v := x2 + 1) (lv' := [(2, .int (x2 + 1)), (0, .ref (gad G 7)), (1, .int x1)]) hx hb dX4_clear_41 hl (k := 2) rfl rfl (by decide) rfl (fun ls hl => ?_)
      refine lv_goto (tgt := 24) hx hb dX4_clear_44 (by decide) ?_
      exact hK24 _ _ _ _ _ _ hw Z (lv_sub hl [1, 2, 0] rfl)
set_option maxRecDepth 100000 in
set_option maxHeartbeats 4000000 in
theorem b_X4_clear_2 {p : Program} (l : Launch) {e : Env} {s : State} {m : MethodId} {args : Array Value} {below : List Frame} {meth : Method} {c : Code} {G : zG}   (C0 : Cx G RX4 cX4_clear 3 none p s m args meth c) {Q : V3 → Prop} : ∀ (n : Nat) (x1 : Int32) (x2 : Int32) (v : V3) (H : Heap) (locs : List Loc) (ls : Array Slot), w_X4_clear_2 Q n x1 x2 v → Zs G s v H locs → lv_has ls 3 [(0, .ref (gad G 7)), (1, .int x1), (2, .int x2)] → W p l e { frames := 0, cells := 0, slots := 0, locals := 0 } s m args below meth c H locs 0 0 (MQ below (QvZ G Q) args s 0 0 (zA G)) (F0 m 2 ls []) := by
  have hx := C0.1
  have hb := C0.2.1
  intro n
  induction n with
  | zero =>
    intro x1 x2 v H locs ls hw Z hl
    exact hw.elim
  | succ n hK2 =>
    intro x1 x2 v H locs ls hw Z hl
    rw [w_X4_clear_2] at hw
    refine lv_iload_n hx hb dX4_clear_2 rfl (lv_at hl 2 rfl) ?_
    refine lv_sipush (v := 474) hx hb dX4_clear_3 (by decide) ?_
    refine lv_icmp_ge (tgt := 22) hx hb dX4_clear_6 (by decide) (fun c1 => ?_) (fun c1 => ?_)
    · replace hw := hw.1 c1
      refine lv_iconst (v := 0) hx hb dX4_clear_22 (by decide) ?_
      refine lv_istore_n (lv' := [(2, .int 0), (0, .ref (gad G 7)), (1, .int x1)]) hx hb dX4_clear_23 rfl hl (by decide) rfl (fun ls hl => ?_)
      obtain ⟨m24, hw⟩ := hw
      exact b_X4_clear_24 l C0 m24 _ _ _ _ _ _ hw Z (lv_sub hl [1, 2, 0] rfl)
    · replace hw := hw.2 c1
      refine lv_aload_n hx hb dX4_clear_9 rfl (lv_at hl 0 rfl) ?_
      refine z_get C0 Z in_X4 rfl 0 (by decide) rfl tm_4_203 (cx_lt C0 (by decide)) rfl rfl dX4_clear_10 ?_
      refine lv_iload_n hx hb dX4_clear_13 rfl (lv_at hl 2 rfl) ?_
      refine lv_iconst (v := 0) hx hb dX4_clear_14 (by decide) ?_
      obtain ⟨h7, hw⟩ := hw
      refine z_iast C0 Z (cx_lt C0 (by decide)) (fun _ => rfl) h7 dX4_clear_15 (fun H locs Z => ?_)
      obtain ⟨v8, ev8⟩ : ∃ z : V3, z = up2 v 8 (ix x2) 0 := ⟨_, rfl⟩
      rw [← ev8] at Z
      replace hw := hw v8 ev8
      refine lv_iinc (v := x2 + 1) (lv' := [(2, .int (x2 + 1)), (0, .ref (gad G 7)), (1, .int x1)]) hx hb dX4_clear_16 hl (k := 2) rfl rfl (by decide) rfl (fun ls hl => ?_)
      refine lv_goto (tgt := 2) hx hb dX4_clear_19 (by decide) ?_
      exact hK2 _ _ _ _ _ _ hw Z (lv_sub hl [1, 2, 0] rfl)
set_option maxRecDepth 100000 in
set_option maxHeartbeats 4000000 in
theorem k_X4_clear (l : Launch) {G : zG} (hg : 129 ≤ gn G) {a1 : Int32}  {v : V3} {Q : V3 → Prop} (hw : w_X4_clear a1 v Q) : Mz l yX4_clear cX4_clear 3 none 0 0 G [.ref (gad G 7), .int a1] v (QvZ G Q) := by
  rw [w_X4_clear] at hw
  refine z_ofW hg (by decide) (Nat.le_of_ble_eq_true rfl) ?_
  intro p e s m args below meth c ls C0 Z hl
  have hx := C0.1
  have hb := C0.2.1
  replace hl : lv_has ls 3 [(0, .ref (gad G 7)), (1, .int a1)] := hl
  generalize s.heap = H at Z ⊢
  generalize ([] : List Loc) = locs at Z ⊢
  refine lv_iconst (v := 0) hx hb dX4_clear_0 (by decide) ?_
  refine lv_istore_n (lv' := [(2, .int 0), (0, .ref (gad G 7)), (1, .int a1)]) hx hb dX4_clear_1 rfl hl (by decide) rfl (fun ls hl => ?_)
  obtain ⟨m2, hw⟩ := hw
  exact b_X4_clear_2 l C0 m2 _ _ _ _ _ _ hw Z (lv_sub hl [1, 2, 0] rfl)
-- X4_clearDraft: room (0, 0)
theorem dX4_clearDraft_0 : decode cX4_clearDraft 0 = .ok (.aload_n 0, 1) := by decide +kernel
theorem dX4_clearDraft_1 : decode cX4_clearDraft 1 = .ok (.iconst 0, 1) := by decide +kernel
theorem dX4_clearDraft_2 : decode cX4_clearDraft 2 = .ok (.putfield 58, 3) := by decide +kernel
theorem dX4_clearDraft_5 : decode cX4_clearDraft 5 = .ok (.aload_n 0, 1) := by decide +kernel
theorem dX4_clearDraft_6 : decode cX4_clearDraft 6 = .ok (.iconst 1, 1) := by decide +kernel
theorem dX4_clearDraft_7 : decode cX4_clearDraft 7 = .ok (.putfield 61, 3) := by decide +kernel
theorem dX4_clearDraft_10 : decode cX4_clearDraft 10 = .ok (.aload_n 0, 1) := by decide +kernel
theorem dX4_clearDraft_11 : decode cX4_clearDraft 11 = .ok (.iconst 1, 1) := by decide +kernel
theorem dX4_clearDraft_12 : decode cX4_clearDraft 12 = .ok (.putfield 64, 3) := by decide +kernel
theorem dX4_clearDraft_15 : decode cX4_clearDraft 15 = .ok (.return_, 1) := by decide +kernel
def w_X4_clearDraft  (v : V3) (Q : V3 → Prop) : Prop := ∀ v1 : V3, v1 = up2 v 7 8 0 → ∀ v2 : V3, v2 = up2 v1 7 9 1 → ∀ v3 : V3, v3 = up2 v2 7 10 1 → Q v3
set_option maxRecDepth 100000 in
set_option maxHeartbeats 4000000 in
theorem k_X4_clearDraft (l : Launch) {G : zG} (hg : 129 ≤ gn G)  {v : V3} {Q : V3 → Prop} (hw : w_X4_clearDraft v Q) : Mz l yX4_clearDraft cX4_clearDraft 1 none 0 0 G [.ref (gad G 7)] v (QvZ G Q) := by
  rw [w_X4_clearDraft] at hw
  refine z_ofW hg (by decide) (Nat.le_of_ble_eq_true rfl) ?_
  intro p e s m args below meth c ls C0 Z hl
  have hx := C0.1
  have hb := C0.2.1
  replace hl : lv_has ls 1 [(0, .ref (gad G 7))] := hl
  generalize s.heap = H at Z ⊢
  generalize ([] : List Loc) = locs at Z ⊢
  refine lv_aload_n hx hb dX4_clearDraft_0 rfl (lv_at hl 0 rfl) ?_
  refine lv_iconst (v := 0) hx hb dX4_clearDraft_1 (by decide) ?_
  refine z_put C0 Z in_X4 tyX4_ok nmX4 rfl 8 (by decide) rfl rfl tm_4_211 (cx_lt C0 (by decide)) rfl p_X4_8 (fun c' h => up2_off _ _ _ h) rfl rfl (Nat.le_of_ble_eq_true rfl) dX4_clearDraft_2 (fun H locs Z => ?_)
  obtain ⟨v1, ev1⟩ : ∃ z : V3, z = up2 v 7 8 0 := ⟨_, rfl⟩
  rw [← ev1] at Z
  replace hw := hw v1 ev1
  refine lv_aload_n hx hb dX4_clearDraft_5 rfl (lv_at hl 0 rfl) ?_
  refine lv_iconst (v := 1) hx hb dX4_clearDraft_6 (by decide) ?_
  refine z_put C0 Z in_X4 tyX4_ok nmX4 rfl 9 (by decide) rfl rfl tm_4_212 (cx_lt C0 (by decide)) rfl p_X4_9 (fun c' h => up2_off _ _ _ h) rfl rfl (Nat.le_of_ble_eq_true rfl) dX4_clearDraft_7 (fun H locs Z => ?_)
  obtain ⟨v2, ev2⟩ : ∃ z : V3, z = up2 v1 7 9 1 := ⟨_, rfl⟩
  rw [← ev2] at Z
  replace hw := hw v2 ev2
  refine lv_aload_n hx hb dX4_clearDraft_10 rfl (lv_at hl 0 rfl) ?_
  refine lv_iconst (v := 1) hx hb dX4_clearDraft_11 (by decide) ?_
  refine z_put C0 Z in_X4 tyX4_ok nmX4 rfl 10 (by decide) rfl rfl tm_4_213 (cx_lt C0 (by decide)) rfl p_X4_10 (fun c' h => up2_off _ _ _ h) rfl rfl (Nat.le_of_ble_eq_true rfl) dX4_clearDraft_12 (fun H locs Z => ?_)
  obtain ⟨v3, ev3⟩ : ∃ z : V3, z = up2 v2 7 10 1 := ⟨_, rfl⟩
  rw [← ev3] at Z
  replace hw := hw v3 ev3
  exact z_vret C0 Z hw dX4_clearDraft_15
-- X4_copy: room (0, 0)
theorem dX4_copy_0 : decode cX4_copy 0 = .ok (.iconst 0, 1) := by decide +kernel
theorem dX4_copy_1 : decode cX4_copy 1 = .ok (.istore 4, 2) := by decide +kernel
theorem dX4_copy_3 : decode cX4_copy 3 = .ok (.iload 4, 2) := by decide +kernel
theorem dX4_copy_5 : decode cX4_copy 5 = .ok (.sipush 474, 3) := by decide +kernel
theorem dX4_copy_8 : decode cX4_copy 8 = .ok (.if_icmp .ge 21, 3) := by decide +kernel
theorem dX4_copy_11 : decode cX4_copy 11 = .ok (.aload_n 2, 1) := by decide +kernel
theorem dX4_copy_12 : decode cX4_copy 12 = .ok (.iload_n 3, 1) := by decide +kernel
theorem dX4_copy_13 : decode cX4_copy 13 = .ok (.iload 4, 2) := by decide +kernel
theorem dX4_copy_15 : decode cX4_copy 15 = .ok (.iadd, 1) := by decide +kernel
theorem dX4_copy_16 : decode cX4_copy 16 = .ok (.aload_n 0, 1) := by decide +kernel
theorem dX4_copy_17 : decode cX4_copy 17 = .ok (.iload_n 1, 1) := by decide +kernel
theorem dX4_copy_18 : decode cX4_copy 18 = .ok (.iload 4, 2) := by decide +kernel
theorem dX4_copy_20 : decode cX4_copy 20 = .ok (.iadd, 1) := by decide +kernel
theorem dX4_copy_21 : decode cX4_copy 21 = .ok (.iaload, 1) := by decide +kernel
theorem dX4_copy_22 : decode cX4_copy 22 = .ok (.iastore, 1) := by decide +kernel
theorem dX4_copy_23 : decode cX4_copy 23 = .ok (.iinc 4 1, 3) := by decide +kernel
theorem dX4_copy_26 : decode cX4_copy 26 = .ok (.goto (-23), 3) := by decide +kernel
theorem dX4_copy_29 : decode cX4_copy 29 = .ok (.return_, 1) := by decide +kernel
def w_X4_copy_3 (a1 : Nat) (Na1 : Nat) (a3 : Nat) (Na3 : Nat) (Q : V3 → Prop) : Nat → Int32 → Int32 → Int32 → V3 → Prop
  | 0, _, _, _, _ => False
  | n3 + 1, x1, x3, x4, v => ((474 ≤ x4 → Q v) ∧ (¬ 474 ≤ x4 → vp_in (x1 + x4) Na1 ∧ vp_in (x3 + x4) Na3 ∧ ∀ v4 : V3, v4 = up2 v a3 (ix (x3 + x4)) (v a1 (ix (x1 + x4))) → (w_X4_copy_3 a1 Na1 a3 Na3 Q n3) x1 x3 (x4 + 1) v4))
def w_X4_copy (a1 : Nat) (Na1 : Nat) (a2 : Int32) (a3 : Nat) (Na3 : Nat) (a4 : Int32) (v : V3) (Q : V3 → Prop) : Prop := ∃ m3 : Nat, w_X4_copy_3 a1 Na1 a3 Na3 Q m3 a2 a4 0 v
set_option maxRecDepth 100000 in
set_option maxHeartbeats 4000000 in
theorem b_X4_copy_3 {p : Program} (l : Launch) {e : Env} {s : State} {m : MethodId} {args : Array Value} {below : List Frame} {meth : Method} {c : Code} {G : zG} {a1 : Nat} {Na1 : Nat} {a3 : Nat} {Na3 : Nat} (hAa1 : isIA G a1 Na1) (hAa3 : isIA G a3 Na3) (C0 : Cx G RX4 cX4_copy 5 none p s m args meth c) {Q : V3 → Prop} : ∀ (n : Nat) (x1 : Int32) (x3 : Int32) (x4 : Int32) (v : V3) (H : Heap) (locs : List Loc) (ls : Array Slot), w_X4_copy_3 a1 Na1 a3 Na3 Q n x1 x3 x4 v → Zs G s v H locs → lv_has ls 5 [(0, .ref (gad G a1)), (1, .int x1), (2, .ref (gad G a3)), (3, .int x3), (4, .int x4)] → W p l e { frames := 0, cells := 0, slots := 0, locals := 0 } s m args below meth c H locs 0 0 (MQ below (QvZ G Q) args s 0 0 (zA G)) (F0 m 3 ls []) := by
  have hx := C0.1
  have hb := C0.2.1
  intro n
  induction n with
  | zero =>
    intro x1 x3 x4 v H locs ls hw Z hl
    exact hw.elim
  | succ n hK3 =>
    intro x1 x3 x4 v H locs ls hw Z hl
    rw [w_X4_copy_3] at hw
    refine lv_iload hx hb dX4_copy_3 (lv_at hl 4 rfl) ?_
    refine lv_sipush (v := 474) hx hb dX4_copy_5 (by decide) ?_
    refine lv_icmp_ge (tgt := 29) hx hb dX4_copy_8 (by decide) (fun c1 => ?_) (fun c1 => ?_)
    · replace hw := hw.1 c1
      exact z_vret C0 Z hw dX4_copy_29
    · replace hw := hw.2 c1
      refine lv_aload_n hx hb dX4_copy_11 rfl (lv_at hl 2 rfl) ?_
      refine lv_iload_n hx hb dX4_copy_12 rfl (lv_at hl 3 rfl) ?_
      refine lv_iload hx hb dX4_copy_13 (lv_at hl 4 rfl) ?_
      refine lv_iadd hx hb dX4_copy_15 ?_
      refine lv_aload_n hx hb dX4_copy_16 rfl (lv_at hl 0 rfl) ?_
      refine lv_iload_n hx hb dX4_copy_17 rfl (lv_at hl 1 rfl) ?_
      refine lv_iload hx hb dX4_copy_18 (lv_at hl 4 rfl) ?_
      refine lv_iadd hx hb dX4_copy_20 ?_
      obtain ⟨h2, hw⟩ := hw
      refine z_iald C0 Z hAa1.1 (hAa1.2 _) h2 dX4_copy_21 ?_
      obtain ⟨h3, hw⟩ := hw
      refine z_iast C0 Z hAa3.1 hAa3.2 h3 dX4_copy_22 (fun H locs Z => ?_)
      obtain ⟨v4, ev4⟩ : ∃ z : V3, z = up2 v a3 (ix (x3 + x4)) (v a1 (ix (x1 + x4))) := ⟨_, rfl⟩
      rw [← ev4] at Z
      replace hw := hw v4 ev4
      refine lv_iinc (v := x4 + 1) (lv' := [(4, .int (x4 + 1)), (0, .ref (gad G a1)), (1, .int x1), (2, .ref (gad G a3)), (3, .int x3)]) hx hb dX4_copy_23 hl (k := 4) rfl rfl (by decide) rfl (fun ls hl => ?_)
      refine lv_goto (tgt := 3) hx hb dX4_copy_26 (by decide) ?_
      exact hK3 _ _ _ _ _ _ _ hw Z (lv_sub hl [1, 2, 3, 4, 0] rfl)
set_option maxRecDepth 100000 in
set_option maxHeartbeats 4000000 in
theorem k_X4_copy (l : Launch) {G : zG} (hg : 129 ≤ gn G) {a1 : Nat} {Na1 : Nat} {a2 : Int32} {a3 : Nat} {Na3 : Nat} {a4 : Int32} (hAa1 : isIA G a1 Na1) (hAa3 : isIA G a3 Na3) {v : V3} {Q : V3 → Prop} (hw : w_X4_copy a1 Na1 a2 a3 Na3 a4 v Q) : Mz l yX4_copy cX4_copy 5 none 0 0 G [.ref (gad G a1), .int a2, .ref (gad G a3), .int a4] v (QvZ G Q) := by
  rw [w_X4_copy] at hw
  refine z_ofW hg (by decide) (Nat.le_of_ble_eq_true rfl) ?_
  intro p e s m args below meth c ls C0 Z hl
  have hx := C0.1
  have hb := C0.2.1
  replace hl : lv_has ls 5 [(0, .ref (gad G a1)), (1, .int a2), (2, .ref (gad G a3)), (3, .int a4)] := hl
  generalize s.heap = H at Z ⊢
  generalize ([] : List Loc) = locs at Z ⊢
  refine lv_iconst (v := 0) hx hb dX4_copy_0 (by decide) ?_
  refine lv_istore (lv' := [(4, .int 0), (0, .ref (gad G a1)), (1, .int a2), (2, .ref (gad G a3)), (3, .int a4)]) hx hb dX4_copy_1 hl (by decide) rfl (fun ls hl => ?_)
  obtain ⟨m3, hw⟩ := hw
  exact b_X4_copy_3 l hAa1 hAa3 C0 m3 _ _ _ _ _ _ _ hw Z (lv_sub hl [1, 2, 3, 4, 0] rfl)
-- X4_isOwner: room (1, 25)
theorem dX4_isOwner_0 : decode cX4_isOwner 0 = .ok (.iload_n 1, 1) := by decide +kernel
theorem dX4_isOwner_1 : decode cX4_isOwner 1 = .ok (.i2l, 1) := by decide +kernel
theorem dX4_isOwner_2 : decode cX4_isOwner 2 = .ok (.lconst 0, 1) := by decide +kernel
theorem dX4_isOwner_3 : decode cX4_isOwner 3 = .ok (.aload_n 0, 1) := by decide +kernel
theorem dX4_isOwner_4 : decode cX4_isOwner 4 = .ok (.getfield 7, 3) := by decide +kernel
theorem dX4_isOwner_7 : decode cX4_isOwner 7 = .ok (.iconst 5, 1) := by decide +kernel
theorem dX4_isOwner_8 : decode cX4_isOwner 8 = .ok (.iaload, 1) := by decide +kernel
theorem dX4_isOwner_9 : decode cX4_isOwner 9 = .ok (.iconst 1, 1) := by decide +kernel
theorem dX4_isOwner_10 : decode cX4_isOwner 10 = .ok (.isub, 1) := by decide +kernel
theorem dX4_isOwner_11 : decode cX4_isOwner 11 = .ok (.i2l, 1) := by decide +kernel
theorem dX4_isOwner_12 : decode cX4_isOwner 12 = .ok (.invokestatic 67, 3) := by decide +kernel
theorem dX4_isOwner_15 : decode cX4_isOwner 15 = .ok (.ireturn, 1) := by decide +kernel
def w_X4_isOwner (a1 : Int32) (v : V3) (Q : Int32 → V3 → Prop) : Prop := w_X4_isBetween ((a1).toInt64) 0 (((v 8 5) - 1).toInt64) v (fun r2 v1 => (r2 = 0 ∨ r2 = 1) ∧ Q r2 v1)
set_option maxRecDepth 100000 in
set_option maxHeartbeats 4000000 in
theorem k_X4_isOwner (l : Launch) {G : zG} (hg : 129 ≤ gn G) {a1 : Int32}  {v : V3} {Q : Int32 → V3 → Prop} (hw : w_X4_isOwner a1 v Q) : Mz l yX4_isOwner cX4_isOwner 2 (some .boolean) 1 25 G [.ref (gad G 7), .int a1] v (QiZ G Q) := by
  rw [w_X4_isOwner] at hw
  refine z_ofW hg (by decide) (Nat.le_of_ble_eq_true rfl) ?_
  intro p e s m args below meth c ls C0 Z hl
  have hx := C0.1
  have hb := C0.2.1
  replace hl : lv_has ls 2 [(0, .ref (gad G 7)), (1, .int a1)] := hl
  generalize s.heap = H at Z ⊢
  generalize ([] : List Loc) = locs at Z ⊢
  refine lv_iload_n hx hb dX4_isOwner_0 rfl (lv_at hl 1 rfl) ?_
  refine lv_i2l (v := (a1).toInt64) hx hb dX4_isOwner_1 rfl ?_
  refine lv_lconst (v := 0) hx hb dX4_isOwner_2 (by decide) ?_
  refine lv_aload_n hx hb dX4_isOwner_3 rfl (lv_at hl 0 rfl) ?_
  refine z_get C0 Z in_X4 rfl 0 (by decide) rfl tm_4_203 (cx_lt C0 (by decide)) rfl rfl dX4_isOwner_4 ?_
  refine lv_iconst (v := 5) hx hb dX4_isOwner_7 (by decide) ?_
  refine z_ialdk C0 Z (cx_lt C0 (by decide)) rfl in_5_474 nc_5 dX4_isOwner_8 ?_
  refine lv_iconst (v := 1) hx hb dX4_isOwner_9 (by decide) ?_
  refine lv_isub hx hb dX4_isOwner_10 ?_
  refine lv_i2l (v := ((v 8 5) - 1).toInt64) hx hb dX4_isOwner_11 rfl ?_
  refine z_callSi C0 Z hl.1 (As := [.long ((a1).toInt64), .long 0, .long (((v 8 5) - 1).toInt64)]) (rest := []) (k_X4_isBetween l (cx_g C0) hw) (gv_X4_isBetween tm_5_83) ds_X4_isBetween ⟨Nat.le_of_ble_eq_true rfl, Nat.le_of_ble_eq_true rfl⟩ rfl rfl (Nat.le_of_ble_eq_true rfl) ⟨Nat.le_of_ble_eq_true rfl, Nat.le_of_ble_eq_true rfl⟩ dX4_isOwner_12 (fun r2 v1 H locs hw Z => ?_)
  obtain ⟨h3, hw⟩ := hw
  exact z_zret C0 Z h3 hw dX4_isOwner_15
-- X4_isBooking: room (1, 25)
theorem dX4_isBooking_0 : decode cX4_isBooking 0 = .ok (.iload_n 1, 1) := by decide +kernel
theorem dX4_isBooking_1 : decode cX4_isBooking 1 = .ok (.i2l, 1) := by decide +kernel
theorem dX4_isBooking_2 : decode cX4_isBooking 2 = .ok (.lconst 0, 1) := by decide +kernel
theorem dX4_isBooking_3 : decode cX4_isBooking 3 = .ok (.aload_n 0, 1) := by decide +kernel
theorem dX4_isBooking_4 : decode cX4_isBooking 4 = .ok (.getfield 7, 3) := by decide +kernel
theorem dX4_isBooking_7 : decode cX4_isBooking 7 = .ok (.bipush 6, 2) := by decide +kernel
theorem dX4_isBooking_9 : decode cX4_isBooking 9 = .ok (.iaload, 1) := by decide +kernel
theorem dX4_isBooking_10 : decode cX4_isBooking 10 = .ok (.iconst 1, 1) := by decide +kernel
theorem dX4_isBooking_11 : decode cX4_isBooking 11 = .ok (.isub, 1) := by decide +kernel
theorem dX4_isBooking_12 : decode cX4_isBooking 12 = .ok (.i2l, 1) := by decide +kernel
theorem dX4_isBooking_13 : decode cX4_isBooking 13 = .ok (.invokestatic 67, 3) := by decide +kernel
theorem dX4_isBooking_16 : decode cX4_isBooking 16 = .ok (.ireturn, 1) := by decide +kernel
def w_X4_isBooking (a1 : Int32) (v : V3) (Q : Int32 → V3 → Prop) : Prop := w_X4_isBetween ((a1).toInt64) 0 (((v 8 6) - 1).toInt64) v (fun r2 v1 => (r2 = 0 ∨ r2 = 1) ∧ Q r2 v1)
set_option maxRecDepth 100000 in
set_option maxHeartbeats 4000000 in
theorem k_X4_isBooking (l : Launch) {G : zG} (hg : 129 ≤ gn G) {a1 : Int32}  {v : V3} {Q : Int32 → V3 → Prop} (hw : w_X4_isBooking a1 v Q) : Mz l yX4_isBooking cX4_isBooking 2 (some .boolean) 1 25 G [.ref (gad G 7), .int a1] v (QiZ G Q) := by
  rw [w_X4_isBooking] at hw
  refine z_ofW hg (by decide) (Nat.le_of_ble_eq_true rfl) ?_
  intro p e s m args below meth c ls C0 Z hl
  have hx := C0.1
  have hb := C0.2.1
  replace hl : lv_has ls 2 [(0, .ref (gad G 7)), (1, .int a1)] := hl
  generalize s.heap = H at Z ⊢
  generalize ([] : List Loc) = locs at Z ⊢
  refine lv_iload_n hx hb dX4_isBooking_0 rfl (lv_at hl 1 rfl) ?_
  refine lv_i2l (v := (a1).toInt64) hx hb dX4_isBooking_1 rfl ?_
  refine lv_lconst (v := 0) hx hb dX4_isBooking_2 (by decide) ?_
  refine lv_aload_n hx hb dX4_isBooking_3 rfl (lv_at hl 0 rfl) ?_
  refine z_get C0 Z in_X4 rfl 0 (by decide) rfl tm_4_203 (cx_lt C0 (by decide)) rfl rfl dX4_isBooking_4 ?_
  refine lv_bipush (v := 6) hx hb dX4_isBooking_7 (by decide) ?_
  refine z_ialdk C0 Z (cx_lt C0 (by decide)) rfl in_6_474 nc_6 dX4_isBooking_9 ?_
  refine lv_iconst (v := 1) hx hb dX4_isBooking_10 (by decide) ?_
  refine lv_isub hx hb dX4_isBooking_11 ?_
  refine lv_i2l (v := ((v 8 6) - 1).toInt64) hx hb dX4_isBooking_12 rfl ?_
  refine z_callSi C0 Z hl.1 (As := [.long ((a1).toInt64), .long 0, .long (((v 8 6) - 1).toInt64)]) (rest := []) (k_X4_isBetween l (cx_g C0) hw) (gv_X4_isBetween tm_5_83) ds_X4_isBetween ⟨Nat.le_of_ble_eq_true rfl, Nat.le_of_ble_eq_true rfl⟩ rfl rfl (Nat.le_of_ble_eq_true rfl) ⟨Nat.le_of_ble_eq_true rfl, Nat.le_of_ble_eq_true rfl⟩ dX4_isBooking_13 (fun r2 v1 H locs hw Z => ?_)
  obtain ⟨h3, hw⟩ := hw
  exact z_zret C0 Z h3 hw dX4_isBooking_16
-- X4_ofOwner: room (0, 0)
theorem dX4_ofOwner_0 : decode cX4_ofOwner 0 = .ok (.aload_n 0, 1) := by decide +kernel
theorem dX4_ofOwner_1 : decode cX4_ofOwner 1 = .ok (.getfield 7, 3) := by decide +kernel
theorem dX4_ofOwner_4 : decode cX4_ofOwner 4 = .ok (.bipush 10, 2) := by decide +kernel
theorem dX4_ofOwner_6 : decode cX4_ofOwner 6 = .ok (.bipush 8, 2) := by decide +kernel
theorem dX4_ofOwner_8 : decode cX4_ofOwner 8 = .ok (.iload_n 1, 1) := by decide +kernel
theorem dX4_ofOwner_9 : decode cX4_ofOwner 9 = .ok (.imul, 1) := by decide +kernel
theorem dX4_ofOwner_10 : decode cX4_ofOwner 10 = .ok (.iadd, 1) := by decide +kernel
theorem dX4_ofOwner_11 : decode cX4_ofOwner 11 = .ok (.iload_n 2, 1) := by decide +kernel
theorem dX4_ofOwner_12 : decode cX4_ofOwner 12 = .ok (.iadd, 1) := by decide +kernel
theorem dX4_ofOwner_13 : decode cX4_ofOwner 13 = .ok (.iaload, 1) := by decide +kernel
theorem dX4_ofOwner_14 : decode cX4_ofOwner 14 = .ok (.ireturn, 1) := by decide +kernel
def w_X4_ofOwner (a1 : Int32) (a2 : Int32) (v : V3) (Q : Int32 → V3 → Prop) : Prop := vp_in ((10 + (8 * a1)) + a2) 474 ∧ Q (v 8 (ix ((10 + (8 * a1)) + a2))) v
set_option maxRecDepth 100000 in
set_option maxHeartbeats 4000000 in
theorem k_X4_ofOwner (l : Launch) {G : zG} (hg : 129 ≤ gn G) {a1 : Int32} {a2 : Int32}  {v : V3} {Q : Int32 → V3 → Prop} (hw : w_X4_ofOwner a1 a2 v Q) : Mz l yX4_ofOwner cX4_ofOwner 3 (some .int) 0 0 G [.ref (gad G 7), .int a1, .int a2] v (QiZ G Q) := by
  rw [w_X4_ofOwner] at hw
  refine z_ofW hg (by decide) (Nat.le_of_ble_eq_true rfl) ?_
  intro p e s m args below meth c ls C0 Z hl
  have hx := C0.1
  have hb := C0.2.1
  replace hl : lv_has ls 3 [(0, .ref (gad G 7)), (1, .int a1), (2, .int a2)] := hl
  generalize s.heap = H at Z ⊢
  generalize ([] : List Loc) = locs at Z ⊢
  refine lv_aload_n hx hb dX4_ofOwner_0 rfl (lv_at hl 0 rfl) ?_
  refine z_get C0 Z in_X4 rfl 0 (by decide) rfl tm_4_203 (cx_lt C0 (by decide)) rfl rfl dX4_ofOwner_1 ?_
  refine lv_bipush (v := 10) hx hb dX4_ofOwner_4 (by decide) ?_
  refine lv_bipush (v := 8) hx hb dX4_ofOwner_6 (by decide) ?_
  refine lv_iload_n hx hb dX4_ofOwner_8 rfl (lv_at hl 1 rfl) ?_
  refine lv_imul hx hb dX4_ofOwner_9 ?_
  refine lv_iadd hx hb dX4_ofOwner_10 ?_
  refine lv_iload_n hx hb dX4_ofOwner_11 rfl (lv_at hl 2 rfl) ?_
  refine lv_iadd hx hb dX4_ofOwner_12 ?_
  obtain ⟨h1, hw⟩ := hw
  refine z_iald C0 Z (cx_lt C0 (by decide)) rfl h1 dX4_ofOwner_13 ?_
  exact z_iret C0 Z hw dX4_ofOwner_14
-- X4_grow: room (0, 0)
theorem dX4_grow_0 : decode cX4_grow 0 = .ok (.aload_n 0, 1) := by decide +kernel
theorem dX4_grow_1 : decode cX4_grow 1 = .ok (.getfield 7, 3) := by decide +kernel
theorem dX4_grow_4 : decode cX4_grow 4 = .ok (.bipush 10, 2) := by decide +kernel
theorem dX4_grow_6 : decode cX4_grow 6 = .ok (.bipush 8, 2) := by decide +kernel
theorem dX4_grow_8 : decode cX4_grow 8 = .ok (.iload_n 1, 1) := by decide +kernel
theorem dX4_grow_9 : decode cX4_grow 9 = .ok (.imul, 1) := by decide +kernel
theorem dX4_grow_10 : decode cX4_grow 10 = .ok (.iadd, 1) := by decide +kernel
theorem dX4_grow_11 : decode cX4_grow 11 = .ok (.iload_n 2, 1) := by decide +kernel
theorem dX4_grow_12 : decode cX4_grow 12 = .ok (.iadd, 1) := by decide +kernel
theorem dX4_grow_13 : decode cX4_grow 13 = .ok (.dup2, 1) := by decide +kernel
theorem dX4_grow_14 : decode cX4_grow 14 = .ok (.iaload, 1) := by decide +kernel
theorem dX4_grow_15 : decode cX4_grow 15 = .ok (.iload_n 3, 1) := by decide +kernel
theorem dX4_grow_16 : decode cX4_grow 16 = .ok (.iadd, 1) := by decide +kernel
theorem dX4_grow_17 : decode cX4_grow 17 = .ok (.iastore, 1) := by decide +kernel
theorem dX4_grow_18 : decode cX4_grow 18 = .ok (.return_, 1) := by decide +kernel
def w_X4_grow (a1 : Int32) (a2 : Int32) (a3 : Int32) (v : V3) (Q : V3 → Prop) : Prop := vp_in ((10 + (8 * a1)) + a2) 474 ∧ vp_in ((10 + (8 * a1)) + a2) 474 ∧ ∀ v3 : V3, v3 = up2 v 8 (ix ((10 + (8 * a1)) + a2)) ((v 8 (ix ((10 + (8 * a1)) + a2))) + a3) → Q v3
set_option maxRecDepth 100000 in
set_option maxHeartbeats 4000000 in
theorem k_X4_grow (l : Launch) {G : zG} (hg : 129 ≤ gn G) {a1 : Int32} {a2 : Int32} {a3 : Int32}  {v : V3} {Q : V3 → Prop} (hw : w_X4_grow a1 a2 a3 v Q) : Mz l yX4_grow cX4_grow 4 none 0 0 G [.ref (gad G 7), .int a1, .int a2, .int a3] v (QvZ G Q) := by
  rw [w_X4_grow] at hw
  refine z_ofW hg (by decide) (Nat.le_of_ble_eq_true rfl) ?_
  intro p e s m args below meth c ls C0 Z hl
  have hx := C0.1
  have hb := C0.2.1
  replace hl : lv_has ls 4 [(0, .ref (gad G 7)), (1, .int a1), (2, .int a2), (3, .int a3)] := hl
  generalize s.heap = H at Z ⊢
  generalize ([] : List Loc) = locs at Z ⊢
  refine lv_aload_n hx hb dX4_grow_0 rfl (lv_at hl 0 rfl) ?_
  refine z_get C0 Z in_X4 rfl 0 (by decide) rfl tm_4_203 (cx_lt C0 (by decide)) rfl rfl dX4_grow_1 ?_
  refine lv_bipush (v := 10) hx hb dX4_grow_4 (by decide) ?_
  refine lv_bipush (v := 8) hx hb dX4_grow_6 (by decide) ?_
  refine lv_iload_n hx hb dX4_grow_8 rfl (lv_at hl 1 rfl) ?_
  refine lv_imul hx hb dX4_grow_9 ?_
  refine lv_iadd hx hb dX4_grow_10 ?_
  refine lv_iload_n hx hb dX4_grow_11 rfl (lv_at hl 2 rfl) ?_
  refine lv_iadd hx hb dX4_grow_12 ?_
  refine lv_dup2_11 hx hb dX4_grow_13 rfl rfl ?_
  obtain ⟨h1, hw⟩ := hw
  refine z_iald C0 Z (cx_lt C0 (by decide)) rfl h1 dX4_grow_14 ?_
  refine lv_iload_n hx hb dX4_grow_15 rfl (lv_at hl 3 rfl) ?_
  refine lv_iadd hx hb dX4_grow_16 ?_
  obtain ⟨h2, hw⟩ := hw
  refine z_iast C0 Z (cx_lt C0 (by decide)) (fun _ => rfl) h2 dX4_grow_17 (fun H locs Z => ?_)
  obtain ⟨v3, ev3⟩ : ∃ z : V3, z = up2 v 8 (ix ((10 + (8 * a1)) + a2)) ((v 8 (ix ((10 + (8 * a1)) + a2))) + a3) := ⟨_, rfl⟩
  rw [← ev3] at Z
  replace hw := hw v3 ev3
  exact z_vret C0 Z hw dX4_grow_18
-- X4_of: room (0, 0)
theorem dX4_of_0 : decode cX4_of 0 = .ok (.aload_n 0, 1) := by decide +kernel
theorem dX4_of_1 : decode cX4_of 1 = .ok (.getfield 7, 3) := by decide +kernel
theorem dX4_of_4 : decode cX4_of 4 = .ok (.bipush 74, 2) := by decide +kernel
theorem dX4_of_6 : decode cX4_of 6 = .ok (.bipush 10, 2) := by decide +kernel
theorem dX4_of_8 : decode cX4_of 8 = .ok (.iload_n 1, 1) := by decide +kernel
theorem dX4_of_9 : decode cX4_of 9 = .ok (.imul, 1) := by decide +kernel
theorem dX4_of_10 : decode cX4_of 10 = .ok (.iadd, 1) := by decide +kernel
theorem dX4_of_11 : decode cX4_of 11 = .ok (.iload_n 2, 1) := by decide +kernel
theorem dX4_of_12 : decode cX4_of 12 = .ok (.iadd, 1) := by decide +kernel
theorem dX4_of_13 : decode cX4_of 13 = .ok (.iaload, 1) := by decide +kernel
theorem dX4_of_14 : decode cX4_of 14 = .ok (.ireturn, 1) := by decide +kernel
def w_X4_of (a1 : Int32) (a2 : Int32) (v : V3) (Q : Int32 → V3 → Prop) : Prop := vp_in ((74 + (10 * a1)) + a2) 474 ∧ Q (v 8 (ix ((74 + (10 * a1)) + a2))) v
set_option maxRecDepth 100000 in
set_option maxHeartbeats 4000000 in
theorem k_X4_of (l : Launch) {G : zG} (hg : 129 ≤ gn G) {a1 : Int32} {a2 : Int32}  {v : V3} {Q : Int32 → V3 → Prop} (hw : w_X4_of a1 a2 v Q) : Mz l yX4_of cX4_of 3 (some .int) 0 0 G [.ref (gad G 7), .int a1, .int a2] v (QiZ G Q) := by
  rw [w_X4_of] at hw
  refine z_ofW hg (by decide) (Nat.le_of_ble_eq_true rfl) ?_
  intro p e s m args below meth c ls C0 Z hl
  have hx := C0.1
  have hb := C0.2.1
  replace hl : lv_has ls 3 [(0, .ref (gad G 7)), (1, .int a1), (2, .int a2)] := hl
  generalize s.heap = H at Z ⊢
  generalize ([] : List Loc) = locs at Z ⊢
  refine lv_aload_n hx hb dX4_of_0 rfl (lv_at hl 0 rfl) ?_
  refine z_get C0 Z in_X4 rfl 0 (by decide) rfl tm_4_203 (cx_lt C0 (by decide)) rfl rfl dX4_of_1 ?_
  refine lv_bipush (v := 74) hx hb dX4_of_4 (by decide) ?_
  refine lv_bipush (v := 10) hx hb dX4_of_6 (by decide) ?_
  refine lv_iload_n hx hb dX4_of_8 rfl (lv_at hl 1 rfl) ?_
  refine lv_imul hx hb dX4_of_9 ?_
  refine lv_iadd hx hb dX4_of_10 ?_
  refine lv_iload_n hx hb dX4_of_11 rfl (lv_at hl 2 rfl) ?_
  refine lv_iadd hx hb dX4_of_12 ?_
  obtain ⟨h1, hw⟩ := hw
  refine z_iald C0 Z (cx_lt C0 (by decide)) rfl h1 dX4_of_13 ?_
  exact z_iret C0 Z hw dX4_of_14
-- X4_put: room (0, 0)
theorem dX4_put_0 : decode cX4_put 0 = .ok (.aload_n 0, 1) := by decide +kernel
theorem dX4_put_1 : decode cX4_put 1 = .ok (.getfield 7, 3) := by decide +kernel
theorem dX4_put_4 : decode cX4_put 4 = .ok (.bipush 74, 2) := by decide +kernel
theorem dX4_put_6 : decode cX4_put 6 = .ok (.bipush 10, 2) := by decide +kernel
theorem dX4_put_8 : decode cX4_put 8 = .ok (.iload_n 1, 1) := by decide +kernel
theorem dX4_put_9 : decode cX4_put 9 = .ok (.imul, 1) := by decide +kernel
theorem dX4_put_10 : decode cX4_put 10 = .ok (.iadd, 1) := by decide +kernel
theorem dX4_put_11 : decode cX4_put 11 = .ok (.iload_n 2, 1) := by decide +kernel
theorem dX4_put_12 : decode cX4_put 12 = .ok (.iadd, 1) := by decide +kernel
theorem dX4_put_13 : decode cX4_put 13 = .ok (.iload_n 3, 1) := by decide +kernel
theorem dX4_put_14 : decode cX4_put 14 = .ok (.iastore, 1) := by decide +kernel
theorem dX4_put_15 : decode cX4_put 15 = .ok (.return_, 1) := by decide +kernel
def w_X4_put (a1 : Int32) (a2 : Int32) (a3 : Int32) (v : V3) (Q : V3 → Prop) : Prop := vp_in ((74 + (10 * a1)) + a2) 474 ∧ ∀ v2 : V3, v2 = up2 v 8 (ix ((74 + (10 * a1)) + a2)) a3 → Q v2
set_option maxRecDepth 100000 in
set_option maxHeartbeats 4000000 in
theorem k_X4_put (l : Launch) {G : zG} (hg : 129 ≤ gn G) {a1 : Int32} {a2 : Int32} {a3 : Int32}  {v : V3} {Q : V3 → Prop} (hw : w_X4_put a1 a2 a3 v Q) : Mz l yX4_put cX4_put 4 none 0 0 G [.ref (gad G 7), .int a1, .int a2, .int a3] v (QvZ G Q) := by
  rw [w_X4_put] at hw
  refine z_ofW hg (by decide) (Nat.le_of_ble_eq_true rfl) ?_
  intro p e s m args below meth c ls C0 Z hl
  have hx := C0.1
  have hb := C0.2.1
  replace hl : lv_has ls 4 [(0, .ref (gad G 7)), (1, .int a1), (2, .int a2), (3, .int a3)] := hl
  generalize s.heap = H at Z ⊢
  generalize ([] : List Loc) = locs at Z ⊢
  refine lv_aload_n hx hb dX4_put_0 rfl (lv_at hl 0 rfl) ?_
  refine z_get C0 Z in_X4 rfl 0 (by decide) rfl tm_4_203 (cx_lt C0 (by decide)) rfl rfl dX4_put_1 ?_
  refine lv_bipush (v := 74) hx hb dX4_put_4 (by decide) ?_
  refine lv_bipush (v := 10) hx hb dX4_put_6 (by decide) ?_
  refine lv_iload_n hx hb dX4_put_8 rfl (lv_at hl 1 rfl) ?_
  refine lv_imul hx hb dX4_put_9 ?_
  refine lv_iadd hx hb dX4_put_10 ?_
  refine lv_iload_n hx hb dX4_put_11 rfl (lv_at hl 2 rfl) ?_
  refine lv_iadd hx hb dX4_put_12 ?_
  refine lv_iload_n hx hb dX4_put_13 rfl (lv_at hl 3 rfl) ?_
  obtain ⟨h1, hw⟩ := hw
  refine z_iast C0 Z (cx_lt C0 (by decide)) (fun _ => rfl) h1 dX4_put_14 (fun H locs Z => ?_)
  obtain ⟨v2, ev2⟩ : ∃ z : V3, z = up2 v 8 (ix ((74 + (10 * a1)) + a2)) a3 := ⟨_, rfl⟩
  rw [← ev2] at Z
  replace hw := hw v2 ev2
  exact z_vret C0 Z hw dX4_put_15
-- X4_isLive: room (1, 22)
theorem dX4_isLive_0 : decode cX4_isLive 0 = .ok (.aload_n 0, 1) := by decide +kernel
theorem dX4_isLive_1 : decode cX4_isLive 1 = .ok (.iload_n 1, 1) := by decide +kernel
theorem dX4_isLive_2 : decode cX4_isLive 2 = .ok (.bipush 7, 2) := by decide +kernel
theorem dX4_isLive_4 : decode cX4_isLive 4 = .ok (.invokevirtual 71, 3) := by decide +kernel
theorem dX4_isLive_7 : decode cX4_isLive 7 = .ok (.iconst 1, 1) := by decide +kernel
theorem dX4_isLive_8 : decode cX4_isLive 8 = .ok (.if_icmp .eq 14, 3) := by decide +kernel
theorem dX4_isLive_11 : decode cX4_isLive 11 = .ok (.aload_n 0, 1) := by decide +kernel
theorem dX4_isLive_12 : decode cX4_isLive 12 = .ok (.iload_n 1, 1) := by decide +kernel
theorem dX4_isLive_13 : decode cX4_isLive 13 = .ok (.bipush 7, 2) := by decide +kernel
theorem dX4_isLive_15 : decode cX4_isLive 15 = .ok (.invokevirtual 71, 3) := by decide +kernel
theorem dX4_isLive_18 : decode cX4_isLive 18 = .ok (.iconst 2, 1) := by decide +kernel
theorem dX4_isLive_19 : decode cX4_isLive 19 = .ok (.if_icmp .ne 7, 3) := by decide +kernel
theorem dX4_isLive_22 : decode cX4_isLive 22 = .ok (.iconst 1, 1) := by decide +kernel
theorem dX4_isLive_23 : decode cX4_isLive 23 = .ok (.goto 4, 3) := by decide +kernel
theorem dX4_isLive_26 : decode cX4_isLive 26 = .ok (.iconst 0, 1) := by decide +kernel
theorem dX4_isLive_27 : decode cX4_isLive 27 = .ok (.ireturn, 1) := by decide +kernel
def w_X4_isLive_27  (Q : Int32 → V3 → Prop) (s0 : Int32) (v : V3) : Prop := (s0 = 0 ∨ s0 = 1) ∧ Q s0 v
def w_X4_isLive_22  (Q : Int32 → V3 → Prop) (v : V3) : Prop := w_X4_isLive_27 Q 1 v
def w_X4_isLive (a1 : Int32) (v : V3) (Q : Int32 → V3 → Prop) : Prop := w_X4_of a1 7 v (fun r2 v1 => ((r2 = 1 → w_X4_isLive_22 Q v1) ∧ (¬ r2 = 1 → w_X4_of a1 7 v1 (fun r6 v5 => ((¬ r6 = 2 → w_X4_isLive_27 Q 0 v5) ∧ (r6 = 2 → w_X4_isLive_22 Q v5))))))
set_option maxRecDepth 100000 in
set_option maxHeartbeats 4000000 in
theorem b_X4_isLive_27 {p : Program} (l : Launch) {e : Env} {s : State} {m : MethodId} {args : Array Value} {below : List Frame} {meth : Method} {c : Code} {G : zG}   (C0 : Cx G RX4 cX4_isLive 2 (some .boolean) p s m args meth c) {Q : Int32 → V3 → Prop} : ∀ (s0 : Int32) (v : V3) (H : Heap) (locs : List Loc) (ls : Array Slot), w_X4_isLive_27 Q s0 v → Zs G s v H locs → lv_has ls 2 [] → W p l e { frames := 1, cells := 0, slots := 0, locals := 22 } s m args below meth c H locs 0 0 (MQ below (QiZ G Q) args s 0 0 (zA G)) (F0 m 27 ls [.int s0]) := by
  have hx := C0.1
  have hb := C0.2.1
  intro s0 v H locs ls hw Z hl
  rw [w_X4_isLive_27] at hw
  obtain ⟨h4, hw⟩ := hw
  exact z_zret C0 Z h4 hw dX4_isLive_27
set_option maxRecDepth 100000 in
set_option maxHeartbeats 4000000 in
theorem b_X4_isLive_22 {p : Program} (l : Launch) {e : Env} {s : State} {m : MethodId} {args : Array Value} {below : List Frame} {meth : Method} {c : Code} {G : zG}   (C0 : Cx G RX4 cX4_isLive 2 (some .boolean) p s m args meth c) {Q : Int32 → V3 → Prop} : ∀ (v : V3) (H : Heap) (locs : List Loc) (ls : Array Slot), w_X4_isLive_22 Q v → Zs G s v H locs → lv_has ls 2 [] → W p l e { frames := 1, cells := 0, slots := 0, locals := 22 } s m args below meth c H locs 0 0 (MQ below (QiZ G Q) args s 0 0 (zA G)) (F0 m 22 ls []) := by
  have hx := C0.1
  have hb := C0.2.1
  intro v H locs ls hw Z hl
  rw [w_X4_isLive_22] at hw
  refine lv_iconst (v := 1) hx hb dX4_isLive_22 (by decide) ?_
  refine lv_goto (tgt := 27) hx hb dX4_isLive_23 (by decide) ?_
  exact b_X4_isLive_27 l C0 _ _ _ _ _ hw Z (lv_sub hl [] rfl)
set_option maxRecDepth 100000 in
set_option maxHeartbeats 4000000 in
theorem k_X4_isLive (l : Launch) {G : zG} (hg : 129 ≤ gn G) {a1 : Int32}  {v : V3} {Q : Int32 → V3 → Prop} (hw : w_X4_isLive a1 v Q) : Mz l yX4_isLive cX4_isLive 2 (some .boolean) 1 22 G [.ref (gad G 7), .int a1] v (QiZ G Q) := by
  rw [w_X4_isLive] at hw
  refine z_ofW hg (by decide) (Nat.le_of_ble_eq_true rfl) ?_
  intro p e s m args below meth c ls C0 Z hl
  have hx := C0.1
  have hb := C0.2.1
  replace hl : lv_has ls 2 [(0, .ref (gad G 7)), (1, .int a1)] := hl
  generalize s.heap = H at Z ⊢
  generalize ([] : List Loc) = locs at Z ⊢
  refine lv_aload_n hx hb dX4_isLive_0 rfl (lv_at hl 0 rfl) ?_
  refine lv_iload_n hx hb dX4_isLive_1 rfl (lv_at hl 1 rfl) ?_
  refine lv_bipush (v := 7) hx hb dX4_isLive_2 (by decide) ?_
  refine z_callVi C0 Z hl.1 (As := [.int a1, .int 7]) (rest := []) (k_X4_of l (cx_g C0) hw) (gv_X4_of tm_5_163) rfl ds_X4_of ⟨Nat.le_of_ble_eq_true rfl, Nat.le_of_ble_eq_true rfl⟩ (ci := 4) rfl (cx_lt C0 (by decide)) rfl rfl rfl (Nat.le_of_ble_eq_true rfl) ⟨Nat.le_of_ble_eq_true rfl, Nat.le_of_ble_eq_true rfl⟩ dX4_isLive_4 (fun r2 v1 H locs hw Z => ?_)
  refine lv_iconst (v := 1) hx hb dX4_isLive_7 (by decide) ?_
  refine lv_icmp_eq (tgt := 22) hx hb dX4_isLive_8 (by decide) (fun c3 => ?_) (fun c3 => ?_)
  · replace hw := hw.1 c3
    exact b_X4_isLive_22 l C0 _ _ _ _ hw Z (lv_sub hl [] rfl)
  · replace hw := hw.2 c3
    refine lv_aload_n hx hb dX4_isLive_11 rfl (lv_at hl 0 rfl) ?_
    refine lv_iload_n hx hb dX4_isLive_12 rfl (lv_at hl 1 rfl) ?_
    refine lv_bipush (v := 7) hx hb dX4_isLive_13 (by decide) ?_
    refine z_callVi C0 Z hl.1 (As := [.int a1, .int 7]) (rest := []) (k_X4_of l (cx_g C0) hw) (gv_X4_of tm_5_163) rfl ds_X4_of ⟨Nat.le_of_ble_eq_true rfl, Nat.le_of_ble_eq_true rfl⟩ (ci := 4) rfl (cx_lt C0 (by decide)) rfl rfl rfl (Nat.le_of_ble_eq_true rfl) ⟨Nat.le_of_ble_eq_true rfl, Nat.le_of_ble_eq_true rfl⟩ dX4_isLive_15 (fun r6 v5 H locs hw Z => ?_)
    refine lv_iconst (v := 2) hx hb dX4_isLive_18 (by decide) ?_
    refine lv_icmp_ne (tgt := 26) hx hb dX4_isLive_19 (by decide) (fun c7 => ?_) (fun c7 => ?_)
    · replace hw := hw.1 c7
      refine lv_iconst (v := 0) hx hb dX4_isLive_26 (by decide) ?_
      exact b_X4_isLive_27 l C0 _ _ _ _ _ hw Z (lv_sub hl [] rfl)
    · replace hw := hw.2 c7
      exact b_X4_isLive_22 l C0 _ _ _ _ hw Z (lv_sub hl [] rfl)
-- X4_appendText: room (1, 21)
theorem dX4_appendText_0 : decode cX4_appendText 0 = .ok (.aload_n 0, 1) := by decide +kernel
theorem dX4_appendText_1 : decode cX4_appendText 1 = .ok (.iconst 0, 1) := by decide +kernel
theorem dX4_appendText_2 : decode cX4_appendText 2 = .ok (.putfield 55, 3) := by decide +kernel
theorem dX4_appendText_5 : decode cX4_appendText 5 = .ok (.aload_n 0, 1) := by decide +kernel
theorem dX4_appendText_6 : decode cX4_appendText 6 = .ok (.getfield 75, 3) := by decide +kernel
theorem dX4_appendText_9 : decode cX4_appendText 9 = .ok (.iconst 4, 1) := by decide +kernel
theorem dX4_appendText_10 : decode cX4_appendText 10 = .ok (.iadd, 1) := by decide +kernel
theorem dX4_appendText_11 : decode cX4_appendText 11 = .ok (.sipush 800, 3) := by decide +kernel
theorem dX4_appendText_14 : decode cX4_appendText 14 = .ok (.if_icmp .le 9, 3) := by decide +kernel
theorem dX4_appendText_17 : decode cX4_appendText 17 = .ok (.aload_n 0, 1) := by decide +kernel
theorem dX4_appendText_18 : decode cX4_appendText 18 = .ok (.iconst 1, 1) := by decide +kernel
theorem dX4_appendText_19 : decode cX4_appendText 19 = .ok (.invokevirtual 78, 3) := by decide +kernel
theorem dX4_appendText_22 : decode cX4_appendText 22 = .ok (.ireturn, 1) := by decide +kernel
theorem dX4_appendText_23 : decode cX4_appendText 23 = .ok (.bipush 24, 2) := by decide +kernel
theorem dX4_appendText_25 : decode cX4_appendText 25 = .ok (.istore_n 2, 1) := by decide +kernel
theorem dX4_appendText_26 : decode cX4_appendText 26 = .ok (.iload_n 2, 1) := by decide +kernel
theorem dX4_appendText_27 : decode cX4_appendText 27 = .ok (.ifCond .lt 35, 3) := by decide +kernel
theorem dX4_appendText_30 : decode cX4_appendText 30 = .ok (.aload_n 0, 1) := by decide +kernel
theorem dX4_appendText_31 : decode cX4_appendText 31 = .ok (.getfield 35, 3) := by decide +kernel
theorem dX4_appendText_34 : decode cX4_appendText 34 = .ok (.aload_n 0, 1) := by decide +kernel
theorem dX4_appendText_35 : decode cX4_appendText 35 = .ok (.getfield 75, 3) := by decide +kernel
theorem dX4_appendText_38 : decode cX4_appendText 38 = .ok (.iload_n 1, 1) := by decide +kernel
theorem dX4_appendText_39 : decode cX4_appendText 39 = .ok (.iload_n 2, 1) := by decide +kernel
theorem dX4_appendText_40 : decode cX4_appendText 40 = .ok (.ishr, 1) := by decide +kernel
theorem dX4_appendText_41 : decode cX4_appendText 41 = .ok (.sipush 255, 3) := by decide +kernel
theorem dX4_appendText_44 : decode cX4_appendText 44 = .ok (.iand, 1) := by decide +kernel
theorem dX4_appendText_45 : decode cX4_appendText 45 = .ok (.iastore, 1) := by decide +kernel
theorem dX4_appendText_46 : decode cX4_appendText 46 = .ok (.aload_n 0, 1) := by decide +kernel
theorem dX4_appendText_47 : decode cX4_appendText 47 = .ok (.dup, 1) := by decide +kernel
theorem dX4_appendText_48 : decode cX4_appendText 48 = .ok (.getfield 75, 3) := by decide +kernel
theorem dX4_appendText_51 : decode cX4_appendText 51 = .ok (.iconst 1, 1) := by decide +kernel
theorem dX4_appendText_52 : decode cX4_appendText 52 = .ok (.iadd, 1) := by decide +kernel
theorem dX4_appendText_53 : decode cX4_appendText 53 = .ok (.putfield 75, 3) := by decide +kernel
theorem dX4_appendText_56 : decode cX4_appendText 56 = .ok (.iinc 2 (-8), 3) := by decide +kernel
theorem dX4_appendText_59 : decode cX4_appendText 59 = .ok (.goto (-33), 3) := by decide +kernel
theorem dX4_appendText_62 : decode cX4_appendText 62 = .ok (.aload_n 0, 1) := by decide +kernel
theorem dX4_appendText_63 : decode cX4_appendText 63 = .ok (.getfield 75, 3) := by decide +kernel
theorem dX4_appendText_66 : decode cX4_appendText 66 = .ok (.ireturn, 1) := by decide +kernel
def w_X4_appendText_26  (Q : Int32 → V3 → Prop) : Nat → Int32 → Int32 → V3 → Prop
  | 0, _, _, _ => False
  | n26 + 1, x1, x2, v => ((x2 < 0 → Q (v 7 13) v) ∧ (¬ x2 < 0 → vp_in (v 7 13) 800 ∧ ∀ v5 : V3, v5 = up2 v 16 (ix (v 7 13)) ((x1 >>> (x2 &&& 31)) &&& 255) → ∀ v6 : V3, v6 = up2 v5 7 13 ((v5 7 13) + 1) → (w_X4_appendText_26 Q n26) x1 (x2 + (-8)) v6))
def w_X4_appendText (a1 : Int32) (v : V3) (Q : Int32 → V3 → Prop) : Prop := ∀ v1 : V3, v1 = up2 v 7 11 0 → ((((v1 7 13) + 4) ≤ 800 → ∃ m26 : Nat, w_X4_appendText_26 Q m26 a1 24 v1) ∧ (¬ ((v1 7 13) + 4) ≤ 800 → w_X4_fail 1 v1 (fun r8 v7 => Q r8 v7)))
set_option maxRecDepth 100000 in
set_option maxHeartbeats 4000000 in
theorem b_X4_appendText_26 {p : Program} (l : Launch) {e : Env} {s : State} {m : MethodId} {args : Array Value} {below : List Frame} {meth : Method} {c : Code} {G : zG}   (C0 : Cx G RX4 cX4_appendText 3 (some .int) p s m args meth c) {Q : Int32 → V3 → Prop} : ∀ (n : Nat) (x1 : Int32) (x2 : Int32) (v : V3) (H : Heap) (locs : List Loc) (ls : Array Slot), w_X4_appendText_26 Q n x1 x2 v → Zs G s v H locs → lv_has ls 3 [(0, .ref (gad G 7)), (1, .int x1), (2, .int x2)] → W p l e { frames := 1, cells := 0, slots := 0, locals := 21 } s m args below meth c H locs 0 0 (MQ below (QiZ G Q) args s 0 0 (zA G)) (F0 m 26 ls []) := by
  have hx := C0.1
  have hb := C0.2.1
  intro n
  induction n with
  | zero =>
    intro x1 x2 v H locs ls hw Z hl
    exact hw.elim
  | succ n hK26 =>
    intro x1 x2 v H locs ls hw Z hl
    rw [w_X4_appendText_26] at hw
    refine lv_iload_n hx hb dX4_appendText_26 rfl (lv_at hl 2 rfl) ?_
    refine lv_if_lt (tgt := 62) hx hb dX4_appendText_27 (by decide) (fun c3 => ?_) (fun c3 => ?_)
    · replace hw := hw.1 c3
      refine lv_aload_n hx hb dX4_appendText_62 rfl (lv_at hl 0 rfl) ?_
      refine z_get C0 Z in_X4 rfl 13 (by decide) rfl tm_4_216 (cx_lt C0 (by decide)) rfl rfl dX4_appendText_63 ?_
      exact z_iret C0 Z hw dX4_appendText_66
    · replace hw := hw.2 c3
      refine lv_aload_n hx hb dX4_appendText_30 rfl (lv_at hl 0 rfl) ?_
      refine z_get C0 Z in_X4 rfl 12 (by decide) rfl tm_4_215 (cx_lt C0 (by decide)) rfl rfl dX4_appendText_31 ?_
      refine lv_aload_n hx hb dX4_appendText_34 rfl (lv_at hl 0 rfl) ?_
      refine z_get C0 Z in_X4 rfl 13 (by decide) rfl tm_4_216 (cx_lt C0 (by decide)) rfl rfl dX4_appendText_35 ?_
      refine lv_iload_n hx hb dX4_appendText_38 rfl (lv_at hl 1 rfl) ?_
      refine lv_iload_n hx hb dX4_appendText_39 rfl (lv_at hl 2 rfl) ?_
      refine lv_ishr hx hb dX4_appendText_40 ?_
      refine lv_sipush (v := 255) hx hb dX4_appendText_41 (by decide) ?_
      refine lv_iand hx hb dX4_appendText_44 ?_
      obtain ⟨h4, hw⟩ := hw
      refine z_iast C0 Z (cx_lt C0 (by decide)) (fun _ => rfl) h4 dX4_appendText_45 (fun H locs Z => ?_)
      obtain ⟨v5, ev5⟩ : ∃ z : V3, z = up2 v 16 (ix (v 7 13)) ((x1 >>> (x2 &&& 31)) &&& 255) := ⟨_, rfl⟩
      rw [← ev5] at Z
      replace hw := hw v5 ev5
      refine lv_aload_n hx hb dX4_appendText_46 rfl (lv_at hl 0 rfl) ?_
      refine lv_dup hx hb dX4_appendText_47 rfl ?_
      refine z_get C0 Z in_X4 rfl 13 (by decide) rfl tm_4_216 (cx_lt C0 (by decide)) rfl rfl dX4_appendText_48 ?_
      refine lv_iconst (v := 1) hx hb dX4_appendText_51 (by decide) ?_
      refine lv_iadd hx hb dX4_appendText_52 ?_
      refine z_put C0 Z in_X4 tyX4_ok nmX4 rfl 13 (by decide) rfl rfl tm_4_216 (cx_lt C0 (by decide)) rfl p_X4_13 (fun c' h => up2_off _ _ _ h) rfl rfl (Nat.le_of_ble_eq_true rfl) dX4_appendText_53 (fun H locs Z => ?_)
      obtain ⟨v6, ev6⟩ : ∃ z : V3, z = up2 v5 7 13 ((v5 7 13) + 1) := ⟨_, rfl⟩
      rw [← ev6] at Z
      replace hw := hw v6 ev6
      refine lv_iinc (v := x2 + (-8)) (lv' := [(2, .int (x2 + (-8))), (0, .ref (gad G 7)), (1, .int x1)]) hx hb dX4_appendText_56 hl (k := 2) rfl rfl (by decide) rfl (fun ls hl => ?_)
      refine lv_goto (tgt := 26) hx hb dX4_appendText_59 (by decide) ?_
      exact hK26 _ _ _ _ _ _ hw Z (lv_sub hl [1, 2, 0] rfl)
set_option maxRecDepth 100000 in
set_option maxHeartbeats 4000000 in
theorem k_X4_appendText (l : Launch) {G : zG} (hg : 129 ≤ gn G) {a1 : Int32}  {v : V3} {Q : Int32 → V3 → Prop} (hw : w_X4_appendText a1 v Q) : Mz l yX4_appendText cX4_appendText 3 (some .int) 1 21 G [.ref (gad G 7), .int a1] v (QiZ G Q) := by
  rw [w_X4_appendText] at hw
  refine z_ofW hg (by decide) (Nat.le_of_ble_eq_true rfl) ?_
  intro p e s m args below meth c ls C0 Z hl
  have hx := C0.1
  have hb := C0.2.1
  replace hl : lv_has ls 3 [(0, .ref (gad G 7)), (1, .int a1)] := hl
  generalize s.heap = H at Z ⊢
  generalize ([] : List Loc) = locs at Z ⊢
  refine lv_aload_n hx hb dX4_appendText_0 rfl (lv_at hl 0 rfl) ?_
  refine lv_iconst (v := 0) hx hb dX4_appendText_1 (by decide) ?_
  refine z_put C0 Z in_X4 tyX4_ok nmX4 rfl 11 (by decide) rfl rfl tm_4_214 (cx_lt C0 (by decide)) rfl p_X4_11 (fun c' h => up2_off _ _ _ h) rfl rfl (Nat.le_of_ble_eq_true rfl) dX4_appendText_2 (fun H locs Z => ?_)
  obtain ⟨v1, ev1⟩ : ∃ z : V3, z = up2 v 7 11 0 := ⟨_, rfl⟩
  rw [← ev1] at Z
  replace hw := hw v1 ev1
  refine lv_aload_n hx hb dX4_appendText_5 rfl (lv_at hl 0 rfl) ?_
  refine z_get C0 Z in_X4 rfl 13 (by decide) rfl tm_4_216 (cx_lt C0 (by decide)) rfl rfl dX4_appendText_6 ?_
  refine lv_iconst (v := 4) hx hb dX4_appendText_9 (by decide) ?_
  refine lv_iadd hx hb dX4_appendText_10 ?_
  refine lv_sipush (v := 800) hx hb dX4_appendText_11 (by decide) ?_
  refine lv_icmp_le (tgt := 23) hx hb dX4_appendText_14 (by decide) (fun c2 => ?_) (fun c2 => ?_)
  · replace hw := hw.1 c2
    refine lv_bipush (v := 24) hx hb dX4_appendText_23 (by decide) ?_
    refine lv_istore_n (lv' := [(2, .int 24), (0, .ref (gad G 7)), (1, .int a1)]) hx hb dX4_appendText_25 rfl hl (by decide) rfl (fun ls hl => ?_)
    obtain ⟨m26, hw⟩ := hw
    exact b_X4_appendText_26 l C0 m26 _ _ _ _ _ _ hw Z (lv_sub hl [1, 2, 0] rfl)
  · replace hw := hw.2 c2
    refine lv_aload_n hx hb dX4_appendText_17 rfl (lv_at hl 0 rfl) ?_
    refine lv_iconst (v := 1) hx hb dX4_appendText_18 (by decide) ?_
    refine z_callVi C0 Z hl.1 (As := [.int 1]) (rest := []) (k_X4_fail l (cx_g C0) hw) (gv_X4_fail tm_5_75) rfl ds_X4_fail ⟨Nat.le_of_ble_eq_true rfl, Nat.le_of_ble_eq_true rfl⟩ (ci := 4) rfl (cx_lt C0 (by decide)) rfl rfl rfl (Nat.le_of_ble_eq_true rfl) ⟨Nat.le_of_ble_eq_true rfl, Nat.le_of_ble_eq_true rfl⟩ dX4_appendText_19 (fun r8 v7 H locs hw Z => ?_)
    exact z_iret C0 Z hw dX4_appendText_22
-- X4_truncateText: room (1, 25)
theorem dX4_truncateText_0 : decode cX4_truncateText 0 = .ok (.aload_n 0, 1) := by decide +kernel
theorem dX4_truncateText_1 : decode cX4_truncateText 1 = .ok (.iconst 0, 1) := by decide +kernel
theorem dX4_truncateText_2 : decode cX4_truncateText 2 = .ok (.putfield 55, 3) := by decide +kernel
theorem dX4_truncateText_5 : decode cX4_truncateText 5 = .ok (.iload_n 1, 1) := by decide +kernel
theorem dX4_truncateText_6 : decode cX4_truncateText 6 = .ok (.i2l, 1) := by decide +kernel
theorem dX4_truncateText_7 : decode cX4_truncateText 7 = .ok (.lconst 0, 1) := by decide +kernel
theorem dX4_truncateText_8 : decode cX4_truncateText 8 = .ok (.aload_n 0, 1) := by decide +kernel
theorem dX4_truncateText_9 : decode cX4_truncateText 9 = .ok (.getfield 75, 3) := by decide +kernel
theorem dX4_truncateText_12 : decode cX4_truncateText 12 = .ok (.i2l, 1) := by decide +kernel
theorem dX4_truncateText_13 : decode cX4_truncateText 13 = .ok (.invokestatic 67, 3) := by decide +kernel
theorem dX4_truncateText_16 : decode cX4_truncateText 16 = .ok (.ifCond .ne 9, 3) := by decide +kernel
theorem dX4_truncateText_19 : decode cX4_truncateText 19 = .ok (.aload_n 0, 1) := by decide +kernel
theorem dX4_truncateText_20 : decode cX4_truncateText 20 = .ok (.iconst 1, 1) := by decide +kernel
theorem dX4_truncateText_21 : decode cX4_truncateText 21 = .ok (.invokevirtual 78, 3) := by decide +kernel
theorem dX4_truncateText_24 : decode cX4_truncateText 24 = .ok (.ireturn, 1) := by decide +kernel
theorem dX4_truncateText_25 : decode cX4_truncateText 25 = .ok (.aload_n 0, 1) := by decide +kernel
theorem dX4_truncateText_26 : decode cX4_truncateText 26 = .ok (.iload_n 1, 1) := by decide +kernel
theorem dX4_truncateText_27 : decode cX4_truncateText 27 = .ok (.putfield 75, 3) := by decide +kernel
theorem dX4_truncateText_30 : decode cX4_truncateText 30 = .ok (.aload_n 0, 1) := by decide +kernel
theorem dX4_truncateText_31 : decode cX4_truncateText 31 = .ok (.getfield 75, 3) := by decide +kernel
theorem dX4_truncateText_34 : decode cX4_truncateText 34 = .ok (.ireturn, 1) := by decide +kernel
def w_X4_truncateText (a1 : Int32) (v : V3) (Q : Int32 → V3 → Prop) : Prop := ∀ v1 : V3, v1 = up2 v 7 11 0 → w_X4_isBetween ((a1).toInt64) 0 ((v1 7 13).toInt64) v1 (fun r3 v2 => ((¬ r3 = 0 → ∀ v5 : V3, v5 = up2 v2 7 13 a1 → Q (v5 7 13) v5) ∧ (r3 = 0 → w_X4_fail 1 v2 (fun r7 v6 => Q r7 v6))))
set_option maxRecDepth 100000 in
set_option maxHeartbeats 4000000 in
theorem k_X4_truncateText (l : Launch) {G : zG} (hg : 129 ≤ gn G) {a1 : Int32}  {v : V3} {Q : Int32 → V3 → Prop} (hw : w_X4_truncateText a1 v Q) : Mz l yX4_truncateText cX4_truncateText 2 (some .int) 1 25 G [.ref (gad G 7), .int a1] v (QiZ G Q) := by
  rw [w_X4_truncateText] at hw
  refine z_ofW hg (by decide) (Nat.le_of_ble_eq_true rfl) ?_
  intro p e s m args below meth c ls C0 Z hl
  have hx := C0.1
  have hb := C0.2.1
  replace hl : lv_has ls 2 [(0, .ref (gad G 7)), (1, .int a1)] := hl
  generalize s.heap = H at Z ⊢
  generalize ([] : List Loc) = locs at Z ⊢
  refine lv_aload_n hx hb dX4_truncateText_0 rfl (lv_at hl 0 rfl) ?_
  refine lv_iconst (v := 0) hx hb dX4_truncateText_1 (by decide) ?_
  refine z_put C0 Z in_X4 tyX4_ok nmX4 rfl 11 (by decide) rfl rfl tm_4_214 (cx_lt C0 (by decide)) rfl p_X4_11 (fun c' h => up2_off _ _ _ h) rfl rfl (Nat.le_of_ble_eq_true rfl) dX4_truncateText_2 (fun H locs Z => ?_)
  obtain ⟨v1, ev1⟩ : ∃ z : V3, z = up2 v 7 11 0 := ⟨_, rfl⟩
  rw [← ev1] at Z
  replace hw := hw v1 ev1
  refine lv_iload_n hx hb dX4_truncateText_5 rfl (lv_at hl 1 rfl) ?_
  refine lv_i2l (v := (a1).toInt64) hx hb dX4_truncateText_6 rfl ?_
  refine lv_lconst (v := 0) hx hb dX4_truncateText_7 (by decide) ?_
  refine lv_aload_n hx hb dX4_truncateText_8 rfl (lv_at hl 0 rfl) ?_
  refine z_get C0 Z in_X4 rfl 13 (by decide) rfl tm_4_216 (cx_lt C0 (by decide)) rfl rfl dX4_truncateText_9 ?_
  refine lv_i2l (v := (v1 7 13).toInt64) hx hb dX4_truncateText_12 rfl ?_
  refine z_callSi C0 Z hl.1 (As := [.long ((a1).toInt64), .long 0, .long ((v1 7 13).toInt64)]) (rest := []) (k_X4_isBetween l (cx_g C0) hw) (gv_X4_isBetween tm_5_83) ds_X4_isBetween ⟨Nat.le_of_ble_eq_true rfl, Nat.le_of_ble_eq_true rfl⟩ rfl rfl (Nat.le_of_ble_eq_true rfl) ⟨Nat.le_of_ble_eq_true rfl, Nat.le_of_ble_eq_true rfl⟩ dX4_truncateText_13 (fun r3 v2 H locs hw Z => ?_)
  refine lv_if_ne (tgt := 25) hx hb dX4_truncateText_16 (by decide) (fun c4 => ?_) (fun c4 => ?_)
  · replace hw := hw.1 c4
    refine lv_aload_n hx hb dX4_truncateText_25 rfl (lv_at hl 0 rfl) ?_
    refine lv_iload_n hx hb dX4_truncateText_26 rfl (lv_at hl 1 rfl) ?_
    refine z_put C0 Z in_X4 tyX4_ok nmX4 rfl 13 (by decide) rfl rfl tm_4_216 (cx_lt C0 (by decide)) rfl p_X4_13 (fun c' h => up2_off _ _ _ h) rfl rfl (Nat.le_of_ble_eq_true rfl) dX4_truncateText_27 (fun H locs Z => ?_)
    obtain ⟨v5, ev5⟩ : ∃ z : V3, z = up2 v2 7 13 a1 := ⟨_, rfl⟩
    rw [← ev5] at Z
    replace hw := hw v5 ev5
    refine lv_aload_n hx hb dX4_truncateText_30 rfl (lv_at hl 0 rfl) ?_
    refine z_get C0 Z in_X4 rfl 13 (by decide) rfl tm_4_216 (cx_lt C0 (by decide)) rfl rfl dX4_truncateText_31 ?_
    exact z_iret C0 Z hw dX4_truncateText_34
  · replace hw := hw.2 c4
    refine lv_aload_n hx hb dX4_truncateText_19 rfl (lv_at hl 0 rfl) ?_
    refine lv_iconst (v := 1) hx hb dX4_truncateText_20 (by decide) ?_
    refine z_callVi C0 Z hl.1 (As := [.int 1]) (rest := []) (k_X4_fail l (cx_g C0) hw) (gv_X4_fail tm_5_75) rfl ds_X4_fail ⟨Nat.le_of_ble_eq_true rfl, Nat.le_of_ble_eq_true rfl⟩ (ci := 4) rfl (cx_lt C0 (by decide)) rfl rfl rfl (Nat.le_of_ble_eq_true rfl) ⟨Nat.le_of_ble_eq_true rfl, Nat.le_of_ble_eq_true rfl⟩ dX4_truncateText_21 (fun r7 v6 H locs hw Z => ?_)
    exact z_iret C0 Z hw dX4_truncateText_24
-- X4_byteAt: room (0, 0)
theorem dX4_byteAt_0 : decode cX4_byteAt 0 = .ok (.iload_n 1, 1) := by decide +kernel
theorem dX4_byteAt_1 : decode cX4_byteAt 1 = .ok (.aload_n 0, 1) := by decide +kernel
theorem dX4_byteAt_2 : decode cX4_byteAt 2 = .ok (.getfield 75, 3) := by decide +kernel
theorem dX4_byteAt_5 : decode cX4_byteAt 5 = .ok (.if_icmp .ge 12, 3) := by decide +kernel
theorem dX4_byteAt_8 : decode cX4_byteAt 8 = .ok (.aload_n 0, 1) := by decide +kernel
theorem dX4_byteAt_9 : decode cX4_byteAt 9 = .ok (.getfield 35, 3) := by decide +kernel
theorem dX4_byteAt_12 : decode cX4_byteAt 12 = .ok (.iload_n 1, 1) := by decide +kernel
theorem dX4_byteAt_13 : decode cX4_byteAt 13 = .ok (.iaload, 1) := by decide +kernel
theorem dX4_byteAt_14 : decode cX4_byteAt 14 = .ok (.goto 4, 3) := by decide +kernel
theorem dX4_byteAt_17 : decode cX4_byteAt 17 = .ok (.iconst (-1), 1) := by decide +kernel
theorem dX4_byteAt_18 : decode cX4_byteAt 18 = .ok (.ireturn, 1) := by decide +kernel
def w_X4_byteAt_18  (Q : Int32 → V3 → Prop) (s0 : Int32) (v : V3) : Prop := Q s0 v
def w_X4_byteAt (a1 : Int32) (v : V3) (Q : Int32 → V3 → Prop) : Prop := (((v 7 13) ≤ a1 → w_X4_byteAt_18 Q (-1) v) ∧ (¬ (v 7 13) ≤ a1 → vp_in a1 800 ∧ w_X4_byteAt_18 Q (v 16 (ix a1)) v))
set_option maxRecDepth 100000 in
set_option maxHeartbeats 4000000 in
theorem b_X4_byteAt_18 {p : Program} (l : Launch) {e : Env} {s : State} {m : MethodId} {args : Array Value} {below : List Frame} {meth : Method} {c : Code} {G : zG}   (C0 : Cx G RX4 cX4_byteAt 2 (some .int) p s m args meth c) {Q : Int32 → V3 → Prop} : ∀ (s0 : Int32) (v : V3) (H : Heap) (locs : List Loc) (ls : Array Slot), w_X4_byteAt_18 Q s0 v → Zs G s v H locs → lv_has ls 2 [] → W p l e { frames := 0, cells := 0, slots := 0, locals := 0 } s m args below meth c H locs 0 0 (MQ below (QiZ G Q) args s 0 0 (zA G)) (F0 m 18 ls [.int s0]) := by
  have hx := C0.1
  have hb := C0.2.1
  intro s0 v H locs ls hw Z hl
  rw [w_X4_byteAt_18] at hw
  exact z_iret C0 Z hw dX4_byteAt_18
set_option maxRecDepth 100000 in
set_option maxHeartbeats 4000000 in
theorem k_X4_byteAt (l : Launch) {G : zG} (hg : 129 ≤ gn G) {a1 : Int32}  {v : V3} {Q : Int32 → V3 → Prop} (hw : w_X4_byteAt a1 v Q) : Mz l yX4_byteAt cX4_byteAt 2 (some .int) 0 0 G [.ref (gad G 7), .int a1] v (QiZ G Q) := by
  rw [w_X4_byteAt] at hw
  refine z_ofW hg (by decide) (Nat.le_of_ble_eq_true rfl) ?_
  intro p e s m args below meth c ls C0 Z hl
  have hx := C0.1
  have hb := C0.2.1
  replace hl : lv_has ls 2 [(0, .ref (gad G 7)), (1, .int a1)] := hl
  generalize s.heap = H at Z ⊢
  generalize ([] : List Loc) = locs at Z ⊢
  refine lv_iload_n hx hb dX4_byteAt_0 rfl (lv_at hl 1 rfl) ?_
  refine lv_aload_n hx hb dX4_byteAt_1 rfl (lv_at hl 0 rfl) ?_
  refine z_get C0 Z in_X4 rfl 13 (by decide) rfl tm_4_216 (cx_lt C0 (by decide)) rfl rfl dX4_byteAt_2 ?_
  refine lv_icmp_ge (tgt := 17) hx hb dX4_byteAt_5 (by decide) (fun c1 => ?_) (fun c1 => ?_)
  · replace hw := hw.1 c1
    refine lv_iconst (v := (-1)) hx hb dX4_byteAt_17 (by decide) ?_
    exact b_X4_byteAt_18 l C0 _ _ _ _ _ hw Z (lv_sub hl [] rfl)
  · replace hw := hw.2 c1
    refine lv_aload_n hx hb dX4_byteAt_8 rfl (lv_at hl 0 rfl) ?_
    refine z_get C0 Z in_X4 rfl 12 (by decide) rfl tm_4_215 (cx_lt C0 (by decide)) rfl rfl dX4_byteAt_9 ?_
    refine lv_iload_n hx hb dX4_byteAt_12 rfl (lv_at hl 1 rfl) ?_
    obtain ⟨h2, hw⟩ := hw
    refine z_iald C0 Z (cx_lt C0 (by decide)) rfl h2 dX4_byteAt_13 ?_
    refine lv_goto (tgt := 18) hx hb dX4_byteAt_14 (by decide) ?_
    exact b_X4_byteAt_18 l C0 _ _ _ _ _ hw Z (lv_sub hl [] rfl)
-- X4_isLetter: room (1, 25)
theorem dX4_isLetter_0 : decode cX4_isLetter 0 = .ok (.iload_n 0, 1) := by decide +kernel
theorem dX4_isLetter_1 : decode cX4_isLetter 1 = .ok (.i2l, 1) := by decide +kernel
theorem dX4_isLetter_2 : decode cX4_isLetter 2 = .ok (.ldc2_w 82, 3) := by decide +kernel
theorem dX4_isLetter_5 : decode cX4_isLetter 5 = .ok (.ldc2_w 84, 3) := by decide +kernel
theorem dX4_isLetter_8 : decode cX4_isLetter 8 = .ok (.invokestatic 67, 3) := by decide +kernel
theorem dX4_isLetter_11 : decode cX4_isLetter 11 = .ok (.ireturn, 1) := by decide +kernel
def w_X4_isLetter (a1 : Int32) (v : V3) (Q : Int32 → V3 → Prop) : Prop := w_X4_isBetween ((a1).toInt64) 97 122 v (fun r2 v1 => (r2 = 0 ∨ r2 = 1) ∧ Q r2 v1)
set_option maxRecDepth 100000 in
set_option maxHeartbeats 4000000 in
theorem k_X4_isLetter (l : Launch) {G : zG} (hg : 129 ≤ gn G) {a1 : Int32}  {v : V3} {Q : Int32 → V3 → Prop} (hw : w_X4_isLetter a1 v Q) : Mz l yX4_isLetter cX4_isLetter 1 (some .boolean) 1 25 G [.int a1] v (QiZ G Q) := by
  rw [w_X4_isLetter] at hw
  refine z_ofW hg (by decide) (Nat.le_of_ble_eq_true rfl) ?_
  intro p e s m args below meth c ls C0 Z hl
  have hx := C0.1
  have hb := C0.2.1
  replace hl : lv_has ls 1 [(0, .int a1)] := hl
  generalize s.heap = H at Z ⊢
  generalize ([] : List Loc) = locs at Z ⊢
  refine lv_iload_n hx hb dX4_isLetter_0 rfl (lv_at hl 0 rfl) ?_
  refine lv_i2l (v := (a1).toInt64) hx hb dX4_isLetter_1 rfl ?_
  refine lv_ldc2 hx hb (cx_own C0) (cx_w C0 tm_5_104) dX4_isLetter_2 ?_
  refine lv_ldc2 hx hb (cx_own C0) (cx_w C0 tm_5_105) dX4_isLetter_5 ?_
  refine z_callSi C0 Z hl.1 (As := [.long ((a1).toInt64), .long 97, .long 122]) (rest := []) (k_X4_isBetween l (cx_g C0) hw) (gv_X4_isBetween tm_5_83) ds_X4_isBetween ⟨Nat.le_of_ble_eq_true rfl, Nat.le_of_ble_eq_true rfl⟩ rfl rfl (Nat.le_of_ble_eq_true rfl) ⟨Nat.le_of_ble_eq_true rfl, Nat.le_of_ble_eq_true rfl⟩ dX4_isLetter_8 (fun r2 v1 H locs hw Z => ?_)
  obtain ⟨h3, hw⟩ := hw
  exact z_zret C0 Z h3 hw dX4_isLetter_11
-- X4_isDigit: room (1, 25)
theorem dX4_isDigit_0 : decode cX4_isDigit 0 = .ok (.iload_n 0, 1) := by decide +kernel
theorem dX4_isDigit_1 : decode cX4_isDigit 1 = .ok (.i2l, 1) := by decide +kernel
theorem dX4_isDigit_2 : decode cX4_isDigit 2 = .ok (.ldc2_w 86, 3) := by decide +kernel
theorem dX4_isDigit_5 : decode cX4_isDigit 5 = .ok (.ldc2_w 88, 3) := by decide +kernel
theorem dX4_isDigit_8 : decode cX4_isDigit 8 = .ok (.invokestatic 67, 3) := by decide +kernel
theorem dX4_isDigit_11 : decode cX4_isDigit 11 = .ok (.ireturn, 1) := by decide +kernel
def w_X4_isDigit (a1 : Int32) (v : V3) (Q : Int32 → V3 → Prop) : Prop := w_X4_isBetween ((a1).toInt64) 48 57 v (fun r2 v1 => (r2 = 0 ∨ r2 = 1) ∧ Q r2 v1)
set_option maxRecDepth 100000 in
set_option maxHeartbeats 4000000 in
theorem k_X4_isDigit (l : Launch) {G : zG} (hg : 129 ≤ gn G) {a1 : Int32}  {v : V3} {Q : Int32 → V3 → Prop} (hw : w_X4_isDigit a1 v Q) : Mz l yX4_isDigit cX4_isDigit 1 (some .boolean) 1 25 G [.int a1] v (QiZ G Q) := by
  rw [w_X4_isDigit] at hw
  refine z_ofW hg (by decide) (Nat.le_of_ble_eq_true rfl) ?_
  intro p e s m args below meth c ls C0 Z hl
  have hx := C0.1
  have hb := C0.2.1
  replace hl : lv_has ls 1 [(0, .int a1)] := hl
  generalize s.heap = H at Z ⊢
  generalize ([] : List Loc) = locs at Z ⊢
  refine lv_iload_n hx hb dX4_isDigit_0 rfl (lv_at hl 0 rfl) ?_
  refine lv_i2l (v := (a1).toInt64) hx hb dX4_isDigit_1 rfl ?_
  refine lv_ldc2 hx hb (cx_own C0) (cx_w C0 tm_5_111) dX4_isDigit_2 ?_
  refine lv_ldc2 hx hb (cx_own C0) (cx_w C0 tm_5_112) dX4_isDigit_5 ?_
  refine z_callSi C0 Z hl.1 (As := [.long ((a1).toInt64), .long 48, .long 57]) (rest := []) (k_X4_isBetween l (cx_g C0) hw) (gv_X4_isBetween tm_5_83) ds_X4_isBetween ⟨Nat.le_of_ble_eq_true rfl, Nat.le_of_ble_eq_true rfl⟩ rfl rfl (Nat.le_of_ble_eq_true rfl) ⟨Nat.le_of_ble_eq_true rfl, Nat.le_of_ble_eq_true rfl⟩ dX4_isDigit_8 (fun r2 v1 H locs hw Z => ?_)
  obtain ⟨h3, hw⟩ := hw
  exact z_zret C0 Z h3 hw dX4_isDigit_11
-- X4_errorCode: room (0, 0)
theorem dX4_errorCode_0 : decode cX4_errorCode 0 = .ok (.aload_n 0, 1) := by decide +kernel
theorem dX4_errorCode_1 : decode cX4_errorCode 1 = .ok (.iconst 0, 1) := by decide +kernel
theorem dX4_errorCode_2 : decode cX4_errorCode 2 = .ok (.putfield 55, 3) := by decide +kernel
theorem dX4_errorCode_5 : decode cX4_errorCode 5 = .ok (.aload_n 0, 1) := by decide +kernel
theorem dX4_errorCode_6 : decode cX4_errorCode 6 = .ok (.getfield 134, 3) := by decide +kernel
theorem dX4_errorCode_9 : decode cX4_errorCode 9 = .ok (.ireturn, 1) := by decide +kernel
def w_X4_errorCode  (v : V3) (Q : Int32 → V3 → Prop) : Prop := ∀ v1 : V3, v1 = up2 v 7 11 0 → Q (v1 7 19) v1
set_option maxRecDepth 100000 in
set_option maxHeartbeats 4000000 in
theorem k_X4_errorCode (l : Launch) {G : zG} (hg : 129 ≤ gn G)  {v : V3} {Q : Int32 → V3 → Prop} (hw : w_X4_errorCode v Q) : Mz l yX4_errorCode cX4_errorCode 1 (some .int) 0 0 G [.ref (gad G 7)] v (QiZ G Q) := by
  rw [w_X4_errorCode] at hw
  refine z_ofW hg (by decide) (Nat.le_of_ble_eq_true rfl) ?_
  intro p e s m args below meth c ls C0 Z hl
  have hx := C0.1
  have hb := C0.2.1
  replace hl : lv_has ls 1 [(0, .ref (gad G 7))] := hl
  generalize s.heap = H at Z ⊢
  generalize ([] : List Loc) = locs at Z ⊢
  refine lv_aload_n hx hb dX4_errorCode_0 rfl (lv_at hl 0 rfl) ?_
  refine lv_iconst (v := 0) hx hb dX4_errorCode_1 (by decide) ?_
  refine z_put C0 Z in_X4 tyX4_ok nmX4 rfl 11 (by decide) rfl rfl tm_4_214 (cx_lt C0 (by decide)) rfl p_X4_11 (fun c' h => up2_off _ _ _ h) rfl rfl (Nat.le_of_ble_eq_true rfl) dX4_errorCode_2 (fun H locs Z => ?_)
  obtain ⟨v1, ev1⟩ : ∃ z : V3, z = up2 v 7 11 0 := ⟨_, rfl⟩
  rw [← ev1] at Z
  replace hw := hw v1 ev1
  refine lv_aload_n hx hb dX4_errorCode_5 rfl (lv_at hl 0 rfl) ?_
  refine z_get C0 Z in_X4 rfl 19 (by decide) rfl tm_4_222 (cx_lt C0 (by decide)) rfl rfl dX4_errorCode_6 ?_
  exact z_iret C0 Z hw dX4_errorCode_9
-- X4_errorPosition: room (0, 0)
theorem dX4_errorPosition_0 : decode cX4_errorPosition 0 = .ok (.aload_n 0, 1) := by decide +kernel
theorem dX4_errorPosition_1 : decode cX4_errorPosition 1 = .ok (.iconst 0, 1) := by decide +kernel
theorem dX4_errorPosition_2 : decode cX4_errorPosition 2 = .ok (.putfield 55, 3) := by decide +kernel
theorem dX4_errorPosition_5 : decode cX4_errorPosition 5 = .ok (.aload_n 0, 1) := by decide +kernel
theorem dX4_errorPosition_6 : decode cX4_errorPosition 6 = .ok (.getfield 38, 3) := by decide +kernel
theorem dX4_errorPosition_9 : decode cX4_errorPosition 9 = .ok (.ireturn, 1) := by decide +kernel
def w_X4_errorPosition  (v : V3) (Q : Int32 → V3 → Prop) : Prop := ∀ v1 : V3, v1 = up2 v 7 11 0 → Q (v1 7 20) v1
set_option maxRecDepth 100000 in
set_option maxHeartbeats 4000000 in
theorem k_X4_errorPosition (l : Launch) {G : zG} (hg : 129 ≤ gn G)  {v : V3} {Q : Int32 → V3 → Prop} (hw : w_X4_errorPosition v Q) : Mz l yX4_errorPosition cX4_errorPosition 1 (some .int) 0 0 G [.ref (gad G 7)] v (QiZ G Q) := by
  rw [w_X4_errorPosition] at hw
  refine z_ofW hg (by decide) (Nat.le_of_ble_eq_true rfl) ?_
  intro p e s m args below meth c ls C0 Z hl
  have hx := C0.1
  have hb := C0.2.1
  replace hl : lv_has ls 1 [(0, .ref (gad G 7))] := hl
  generalize s.heap = H at Z ⊢
  generalize ([] : List Loc) = locs at Z ⊢
  refine lv_aload_n hx hb dX4_errorPosition_0 rfl (lv_at hl 0 rfl) ?_
  refine lv_iconst (v := 0) hx hb dX4_errorPosition_1 (by decide) ?_
  refine z_put C0 Z in_X4 tyX4_ok nmX4 rfl 11 (by decide) rfl rfl tm_4_214 (cx_lt C0 (by decide)) rfl p_X4_11 (fun c' h => up2_off _ _ _ h) rfl rfl (Nat.le_of_ble_eq_true rfl) dX4_errorPosition_2 (fun H locs Z => ?_)
  obtain ⟨v1, ev1⟩ : ∃ z : V3, z = up2 v 7 11 0 := ⟨_, rfl⟩
  rw [← ev1] at Z
  replace hw := hw v1 ev1
  refine lv_aload_n hx hb dX4_errorPosition_5 rfl (lv_at hl 0 rfl) ?_
  refine z_get C0 Z in_X4 rfl 20 (by decide) rfl tm_4_223 (cx_lt C0 (by decide)) rfl rfl dX4_errorPosition_6 ?_
  exact z_iret C0 Z hw dX4_errorPosition_9
-- X4_appendOwner: room (0, 0)
theorem dX4_appendOwner_0 : decode cX4_appendOwner 0 = .ok (.aload_n 0, 1) := by decide +kernel
theorem dX4_appendOwner_1 : decode cX4_appendOwner 1 = .ok (.getfield 7, 3) := by decide +kernel
theorem dX4_appendOwner_4 : decode cX4_appendOwner 4 = .ok (.iconst 5, 1) := by decide +kernel
theorem dX4_appendOwner_5 : decode cX4_appendOwner 5 = .ok (.iaload, 1) := by decide +kernel
theorem dX4_appendOwner_6 : decode cX4_appendOwner 6 = .ok (.istore_n 2, 1) := by decide +kernel
theorem dX4_appendOwner_7 : decode cX4_appendOwner 7 = .ok (.iconst 0, 1) := by decide +kernel
theorem dX4_appendOwner_8 : decode cX4_appendOwner 8 = .ok (.istore_n 3, 1) := by decide +kernel
theorem dX4_appendOwner_9 : decode cX4_appendOwner 9 = .ok (.iload_n 3, 1) := by decide +kernel
theorem dX4_appendOwner_10 : decode cX4_appendOwner 10 = .ok (.bipush 8, 2) := by decide +kernel
theorem dX4_appendOwner_12 : decode cX4_appendOwner 12 = .ok (.if_icmp .ge 24, 3) := by decide +kernel
theorem dX4_appendOwner_15 : decode cX4_appendOwner 15 = .ok (.aload_n 0, 1) := by decide +kernel
theorem dX4_appendOwner_16 : decode cX4_appendOwner 16 = .ok (.getfield 7, 3) := by decide +kernel
theorem dX4_appendOwner_19 : decode cX4_appendOwner 19 = .ok (.bipush 10, 2) := by decide +kernel
theorem dX4_appendOwner_21 : decode cX4_appendOwner 21 = .ok (.bipush 8, 2) := by decide +kernel
theorem dX4_appendOwner_23 : decode cX4_appendOwner 23 = .ok (.iload_n 2, 1) := by decide +kernel
theorem dX4_appendOwner_24 : decode cX4_appendOwner 24 = .ok (.imul, 1) := by decide +kernel
theorem dX4_appendOwner_25 : decode cX4_appendOwner 25 = .ok (.iadd, 1) := by decide +kernel
theorem dX4_appendOwner_26 : decode cX4_appendOwner 26 = .ok (.iload_n 3, 1) := by decide +kernel
theorem dX4_appendOwner_27 : decode cX4_appendOwner 27 = .ok (.iadd, 1) := by decide +kernel
theorem dX4_appendOwner_28 : decode cX4_appendOwner 28 = .ok (.iconst 0, 1) := by decide +kernel
theorem dX4_appendOwner_29 : decode cX4_appendOwner 29 = .ok (.iastore, 1) := by decide +kernel
theorem dX4_appendOwner_30 : decode cX4_appendOwner 30 = .ok (.iinc 3 1, 3) := by decide +kernel
theorem dX4_appendOwner_33 : decode cX4_appendOwner 33 = .ok (.goto (-24), 3) := by decide +kernel
theorem dX4_appendOwner_36 : decode cX4_appendOwner 36 = .ok (.aload_n 0, 1) := by decide +kernel
theorem dX4_appendOwner_37 : decode cX4_appendOwner 37 = .ok (.getfield 7, 3) := by decide +kernel
theorem dX4_appendOwner_40 : decode cX4_appendOwner 40 = .ok (.bipush 10, 2) := by decide +kernel
theorem dX4_appendOwner_42 : decode cX4_appendOwner 42 = .ok (.bipush 8, 2) := by decide +kernel
theorem dX4_appendOwner_44 : decode cX4_appendOwner 44 = .ok (.iload_n 2, 1) := by decide +kernel
theorem dX4_appendOwner_45 : decode cX4_appendOwner 45 = .ok (.imul, 1) := by decide +kernel
theorem dX4_appendOwner_46 : decode cX4_appendOwner 46 = .ok (.iadd, 1) := by decide +kernel
theorem dX4_appendOwner_47 : decode cX4_appendOwner 47 = .ok (.iconst 0, 1) := by decide +kernel
theorem dX4_appendOwner_48 : decode cX4_appendOwner 48 = .ok (.iadd, 1) := by decide +kernel
theorem dX4_appendOwner_49 : decode cX4_appendOwner 49 = .ok (.iload_n 1, 1) := by decide +kernel
theorem dX4_appendOwner_50 : decode cX4_appendOwner 50 = .ok (.iastore, 1) := by decide +kernel
theorem dX4_appendOwner_51 : decode cX4_appendOwner 51 = .ok (.aload_n 0, 1) := by decide +kernel
theorem dX4_appendOwner_52 : decode cX4_appendOwner 52 = .ok (.getfield 7, 3) := by decide +kernel
theorem dX4_appendOwner_55 : decode cX4_appendOwner 55 = .ok (.iconst 5, 1) := by decide +kernel
theorem dX4_appendOwner_56 : decode cX4_appendOwner 56 = .ok (.dup2, 1) := by decide +kernel
theorem dX4_appendOwner_57 : decode cX4_appendOwner 57 = .ok (.iaload, 1) := by decide +kernel
theorem dX4_appendOwner_58 : decode cX4_appendOwner 58 = .ok (.iconst 1, 1) := by decide +kernel
theorem dX4_appendOwner_59 : decode cX4_appendOwner 59 = .ok (.iadd, 1) := by decide +kernel
theorem dX4_appendOwner_60 : decode cX4_appendOwner 60 = .ok (.iastore, 1) := by decide +kernel
theorem dX4_appendOwner_61 : decode cX4_appendOwner 61 = .ok (.iload_n 2, 1) := by decide +kernel
theorem dX4_appendOwner_62 : decode cX4_appendOwner 62 = .ok (.ireturn, 1) := by decide +kernel
def w_X4_appendOwner_9  (Q : Int32 → V3 → Prop) : Nat → Int32 → Int32 → Int32 → V3 → Prop
  | 0, _, _, _, _ => False
  | n9 + 1, x1, x2, x3, v => ((8 ≤ x3 → vp_in ((10 + (8 * x2)) + 0) 474 ∧ ∀ v3 : V3, v3 = up2 v 8 (ix ((10 + (8 * x2)) + 0)) x1 → ∀ v4 : V3, v4 = up2 v3 8 5 ((v3 8 5) + 1) → Q x2 v4) ∧ (¬ 8 ≤ x3 → vp_in ((10 + (8 * x2)) + x3) 474 ∧ ∀ v6 : V3, v6 = up2 v 8 (ix ((10 + (8 * x2)) + x3)) 0 → (w_X4_appendOwner_9 Q n9) x1 x2 (x3 + 1) v6))
def w_X4_appendOwner (a1 : Int32) (v : V3) (Q : Int32 → V3 → Prop) : Prop := ∃ m9 : Nat, w_X4_appendOwner_9 Q m9 a1 (v 8 5) 0 v
set_option maxRecDepth 100000 in
set_option maxHeartbeats 4000000 in
theorem b_X4_appendOwner_9 {p : Program} (l : Launch) {e : Env} {s : State} {m : MethodId} {args : Array Value} {below : List Frame} {meth : Method} {c : Code} {G : zG}   (C0 : Cx G RX4 cX4_appendOwner 4 (some .int) p s m args meth c) {Q : Int32 → V3 → Prop} : ∀ (n : Nat) (x1 : Int32) (x2 : Int32) (x3 : Int32) (v : V3) (H : Heap) (locs : List Loc) (ls : Array Slot), w_X4_appendOwner_9 Q n x1 x2 x3 v → Zs G s v H locs → lv_has ls 4 [(0, .ref (gad G 7)), (1, .int x1), (2, .int x2), (3, .int x3)] → W p l e { frames := 0, cells := 0, slots := 0, locals := 0 } s m args below meth c H locs 0 0 (MQ below (QiZ G Q) args s 0 0 (zA G)) (F0 m 9 ls []) := by
  have hx := C0.1
  have hb := C0.2.1
  intro n
  induction n with
  | zero =>
    intro x1 x2 x3 v H locs ls hw Z hl
    exact hw.elim
  | succ n hK9 =>
    intro x1 x2 x3 v H locs ls hw Z hl
    rw [w_X4_appendOwner_9] at hw
    refine lv_iload_n hx hb dX4_appendOwner_9 rfl (lv_at hl 3 rfl) ?_
    refine lv_bipush (v := 8) hx hb dX4_appendOwner_10 (by decide) ?_
    refine lv_icmp_ge (tgt := 36) hx hb dX4_appendOwner_12 (by decide) (fun c1 => ?_) (fun c1 => ?_)
    · replace hw := hw.1 c1
      refine lv_aload_n hx hb dX4_appendOwner_36 rfl (lv_at hl 0 rfl) ?_
      refine z_get C0 Z in_X4 rfl 0 (by decide) rfl tm_4_203 (cx_lt C0 (by decide)) rfl rfl dX4_appendOwner_37 ?_
      refine lv_bipush (v := 10) hx hb dX4_appendOwner_40 (by decide) ?_
      refine lv_bipush (v := 8) hx hb dX4_appendOwner_42 (by decide) ?_
      refine lv_iload_n hx hb dX4_appendOwner_44 rfl (lv_at hl 2 rfl) ?_
      refine lv_imul hx hb dX4_appendOwner_45 ?_
      refine lv_iadd hx hb dX4_appendOwner_46 ?_
      refine lv_iconst (v := 0) hx hb dX4_appendOwner_47 (by decide) ?_
      refine lv_iadd hx hb dX4_appendOwner_48 ?_
      refine lv_iload_n hx hb dX4_appendOwner_49 rfl (lv_at hl 1 rfl) ?_
      obtain ⟨h2, hw⟩ := hw
      refine z_iast C0 Z (cx_lt C0 (by decide)) (fun _ => rfl) h2 dX4_appendOwner_50 (fun H locs Z => ?_)
      obtain ⟨v3, ev3⟩ : ∃ z : V3, z = up2 v 8 (ix ((10 + (8 * x2)) + 0)) x1 := ⟨_, rfl⟩
      rw [← ev3] at Z
      replace hw := hw v3 ev3
      refine lv_aload_n hx hb dX4_appendOwner_51 rfl (lv_at hl 0 rfl) ?_
      refine z_get C0 Z in_X4 rfl 0 (by decide) rfl tm_4_203 (cx_lt C0 (by decide)) rfl rfl dX4_appendOwner_52 ?_
      refine lv_iconst (v := 5) hx hb dX4_appendOwner_55 (by decide) ?_
      refine lv_dup2_11 hx hb dX4_appendOwner_56 rfl rfl ?_
      refine z_ialdk C0 Z (cx_lt C0 (by decide)) rfl in_5_474 nc_5 dX4_appendOwner_57 ?_
      refine lv_iconst (v := 1) hx hb dX4_appendOwner_58 (by decide) ?_
      refine lv_iadd hx hb dX4_appendOwner_59 ?_
      refine z_iastk C0 Z (cx_lt C0 (by decide)) (fun _ => rfl) in_5_474 nc_5 dX4_appendOwner_60 (fun H locs Z => ?_)
      obtain ⟨v4, ev4⟩ : ∃ z : V3, z = up2 v3 8 5 ((v3 8 5) + 1) := ⟨_, rfl⟩
      rw [← ev4] at Z
      replace hw := hw v4 ev4
      refine lv_iload_n hx hb dX4_appendOwner_61 rfl (lv_at hl 2 rfl) ?_
      exact z_iret C0 Z hw dX4_appendOwner_62
    · replace hw := hw.2 c1
      refine lv_aload_n hx hb dX4_appendOwner_15 rfl (lv_at hl 0 rfl) ?_
      refine z_get C0 Z in_X4 rfl 0 (by decide) rfl tm_4_203 (cx_lt C0 (by decide)) rfl rfl dX4_appendOwner_16 ?_
      refine lv_bipush (v := 10) hx hb dX4_appendOwner_19 (by decide) ?_
      refine lv_bipush (v := 8) hx hb dX4_appendOwner_21 (by decide) ?_
      refine lv_iload_n hx hb dX4_appendOwner_23 rfl (lv_at hl 2 rfl) ?_
      refine lv_imul hx hb dX4_appendOwner_24 ?_
      refine lv_iadd hx hb dX4_appendOwner_25 ?_
      refine lv_iload_n hx hb dX4_appendOwner_26 rfl (lv_at hl 3 rfl) ?_
      refine lv_iadd hx hb dX4_appendOwner_27 ?_
      refine lv_iconst (v := 0) hx hb dX4_appendOwner_28 (by decide) ?_
      obtain ⟨h5, hw⟩ := hw
      refine z_iast C0 Z (cx_lt C0 (by decide)) (fun _ => rfl) h5 dX4_appendOwner_29 (fun H locs Z => ?_)
      obtain ⟨v6, ev6⟩ : ∃ z : V3, z = up2 v 8 (ix ((10 + (8 * x2)) + x3)) 0 := ⟨_, rfl⟩
      rw [← ev6] at Z
      replace hw := hw v6 ev6
      refine lv_iinc (v := x3 + 1) (lv' := [(3, .int (x3 + 1)), (0, .ref (gad G 7)), (1, .int x1), (2, .int x2)]) hx hb dX4_appendOwner_30 hl (k := 3) rfl rfl (by decide) rfl (fun ls hl => ?_)
      refine lv_goto (tgt := 9) hx hb dX4_appendOwner_33 (by decide) ?_
      exact hK9 _ _ _ _ _ _ _ hw Z (lv_sub hl [1, 2, 3, 0] rfl)
set_option maxRecDepth 100000 in
set_option maxHeartbeats 4000000 in
theorem k_X4_appendOwner (l : Launch) {G : zG} (hg : 129 ≤ gn G) {a1 : Int32}  {v : V3} {Q : Int32 → V3 → Prop} (hw : w_X4_appendOwner a1 v Q) : Mz l yX4_appendOwner cX4_appendOwner 4 (some .int) 0 0 G [.ref (gad G 7), .int a1] v (QiZ G Q) := by
  rw [w_X4_appendOwner] at hw
  refine z_ofW hg (by decide) (Nat.le_of_ble_eq_true rfl) ?_
  intro p e s m args below meth c ls C0 Z hl
  have hx := C0.1
  have hb := C0.2.1
  replace hl : lv_has ls 4 [(0, .ref (gad G 7)), (1, .int a1)] := hl
  generalize s.heap = H at Z ⊢
  generalize ([] : List Loc) = locs at Z ⊢
  refine lv_aload_n hx hb dX4_appendOwner_0 rfl (lv_at hl 0 rfl) ?_
  refine z_get C0 Z in_X4 rfl 0 (by decide) rfl tm_4_203 (cx_lt C0 (by decide)) rfl rfl dX4_appendOwner_1 ?_
  refine lv_iconst (v := 5) hx hb dX4_appendOwner_4 (by decide) ?_
  refine z_ialdk C0 Z (cx_lt C0 (by decide)) rfl in_5_474 nc_5 dX4_appendOwner_5 ?_
  refine lv_istore_n (lv' := [(2, .int (v 8 5)), (0, .ref (gad G 7)), (1, .int a1)]) hx hb dX4_appendOwner_6 rfl hl (by decide) rfl (fun ls hl => ?_)
  refine lv_iconst (v := 0) hx hb dX4_appendOwner_7 (by decide) ?_
  refine lv_istore_n (lv' := [(3, .int 0), (2, .int (v 8 5)), (0, .ref (gad G 7)), (1, .int a1)]) hx hb dX4_appendOwner_8 rfl hl (by decide) rfl (fun ls hl => ?_)
  obtain ⟨m9, hw⟩ := hw
  exact b_X4_appendOwner_9 l C0 m9 _ _ _ _ _ _ _ hw Z (lv_sub hl [2, 3, 1, 0] rfl)
-- X4_addOwner: room (1, 25)
theorem dX4_addOwner_0 : decode cX4_addOwner 0 = .ok (.aload_n 0, 1) := by decide +kernel
theorem dX4_addOwner_1 : decode cX4_addOwner 1 = .ok (.iconst 0, 1) := by decide +kernel
theorem dX4_addOwner_2 : decode cX4_addOwner 2 = .ok (.putfield 55, 3) := by decide +kernel
theorem dX4_addOwner_5 : decode cX4_addOwner 5 = .ok (.iload_n 1, 1) := by decide +kernel
theorem dX4_addOwner_6 : decode cX4_addOwner 6 = .ok (.i2l, 1) := by decide +kernel
theorem dX4_addOwner_7 : decode cX4_addOwner 7 = .ok (.lconst 0, 1) := by decide +kernel
theorem dX4_addOwner_8 : decode cX4_addOwner 8 = .ok (.ldc2_w 206, 3) := by decide +kernel
theorem dX4_addOwner_11 : decode cX4_addOwner 11 = .ok (.invokestatic 67, 3) := by decide +kernel
theorem dX4_addOwner_14 : decode cX4_addOwner 14 = .ok (.ifCond .ne 9, 3) := by decide +kernel
theorem dX4_addOwner_17 : decode cX4_addOwner 17 = .ok (.aload_n 0, 1) := by decide +kernel
theorem dX4_addOwner_18 : decode cX4_addOwner 18 = .ok (.iconst 1, 1) := by decide +kernel
theorem dX4_addOwner_19 : decode cX4_addOwner 19 = .ok (.invokevirtual 78, 3) := by decide +kernel
theorem dX4_addOwner_22 : decode cX4_addOwner 22 = .ok (.ireturn, 1) := by decide +kernel
theorem dX4_addOwner_23 : decode cX4_addOwner 23 = .ok (.aload_n 0, 1) := by decide +kernel
theorem dX4_addOwner_24 : decode cX4_addOwner 24 = .ok (.getfield 7, 3) := by decide +kernel
theorem dX4_addOwner_27 : decode cX4_addOwner 27 = .ok (.iconst 5, 1) := by decide +kernel
theorem dX4_addOwner_28 : decode cX4_addOwner 28 = .ok (.iaload, 1) := by decide +kernel
theorem dX4_addOwner_29 : decode cX4_addOwner 29 = .ok (.bipush 8, 2) := by decide +kernel
theorem dX4_addOwner_31 : decode cX4_addOwner 31 = .ok (.if_icmp .ne 11, 3) := by decide +kernel
theorem dX4_addOwner_34 : decode cX4_addOwner 34 = .ok (.aload_n 0, 1) := by decide +kernel
theorem dX4_addOwner_35 : decode cX4_addOwner 35 = .ok (.iconst 2, 1) := by decide +kernel
theorem dX4_addOwner_36 : decode cX4_addOwner 36 = .ok (.invokevirtual 78, 3) := by decide +kernel
theorem dX4_addOwner_39 : decode cX4_addOwner 39 = .ok (.goto 8, 3) := by decide +kernel
theorem dX4_addOwner_42 : decode cX4_addOwner 42 = .ok (.aload_n 0, 1) := by decide +kernel
theorem dX4_addOwner_43 : decode cX4_addOwner 43 = .ok (.iload_n 1, 1) := by decide +kernel
theorem dX4_addOwner_44 : decode cX4_addOwner 44 = .ok (.invokevirtual 162, 3) := by decide +kernel
theorem dX4_addOwner_47 : decode cX4_addOwner 47 = .ok (.ireturn, 1) := by decide +kernel
def w_X4_addOwner_47  (Q : Int32 → V3 → Prop) (s0 : Int32) (v : V3) : Prop := Q s0 v
def w_X4_addOwner (a1 : Int32) (v : V3) (Q : Int32 → V3 → Prop) : Prop := ∀ v1 : V3, v1 = up2 v 7 11 0 → w_X4_isBetween ((a1).toInt64) 0 999 v1 (fun r3 v2 => ((¬ r3 = 0 → ((¬ (v2 8 5) = 8 → w_X4_appendOwner a1 v2 (fun r7 v6 => w_X4_addOwner_47 Q r7 v6)) ∧ ((v2 8 5) = 8 → w_X4_fail 2 v2 (fun r9 v8 => w_X4_addOwner_47 Q r9 v8)))) ∧ (r3 = 0 → w_X4_fail 1 v2 (fun r11 v10 => Q r11 v10))))
set_option maxRecDepth 100000 in
set_option maxHeartbeats 4000000 in
theorem b_X4_addOwner_47 {p : Program} (l : Launch) {e : Env} {s : State} {m : MethodId} {args : Array Value} {below : List Frame} {meth : Method} {c : Code} {G : zG}   (C0 : Cx G RX4 cX4_addOwner 2 (some .int) p s m args meth c) {Q : Int32 → V3 → Prop} : ∀ (s0 : Int32) (v : V3) (H : Heap) (locs : List Loc) (ls : Array Slot), w_X4_addOwner_47 Q s0 v → Zs G s v H locs → lv_has ls 2 [] → W p l e { frames := 1, cells := 0, slots := 0, locals := 25 } s m args below meth c H locs 0 0 (MQ below (QiZ G Q) args s 0 0 (zA G)) (F0 m 47 ls [.int s0]) := by
  have hx := C0.1
  have hb := C0.2.1
  intro s0 v H locs ls hw Z hl
  rw [w_X4_addOwner_47] at hw
  exact z_iret C0 Z hw dX4_addOwner_47
set_option maxRecDepth 100000 in
set_option maxHeartbeats 4000000 in
theorem k_X4_addOwner (l : Launch) {G : zG} (hg : 129 ≤ gn G) {a1 : Int32}  {v : V3} {Q : Int32 → V3 → Prop} (hw : w_X4_addOwner a1 v Q) : Mz l yX4_addOwner cX4_addOwner 2 (some .int) 1 25 G [.ref (gad G 7), .int a1] v (QiZ G Q) := by
  rw [w_X4_addOwner] at hw
  refine z_ofW hg (by decide) (Nat.le_of_ble_eq_true rfl) ?_
  intro p e s m args below meth c ls C0 Z hl
  have hx := C0.1
  have hb := C0.2.1
  replace hl : lv_has ls 2 [(0, .ref (gad G 7)), (1, .int a1)] := hl
  generalize s.heap = H at Z ⊢
  generalize ([] : List Loc) = locs at Z ⊢
  refine lv_aload_n hx hb dX4_addOwner_0 rfl (lv_at hl 0 rfl) ?_
  refine lv_iconst (v := 0) hx hb dX4_addOwner_1 (by decide) ?_
  refine z_put C0 Z in_X4 tyX4_ok nmX4 rfl 11 (by decide) rfl rfl tm_4_214 (cx_lt C0 (by decide)) rfl p_X4_11 (fun c' h => up2_off _ _ _ h) rfl rfl (Nat.le_of_ble_eq_true rfl) dX4_addOwner_2 (fun H locs Z => ?_)
  obtain ⟨v1, ev1⟩ : ∃ z : V3, z = up2 v 7 11 0 := ⟨_, rfl⟩
  rw [← ev1] at Z
  replace hw := hw v1 ev1
  refine lv_iload_n hx hb dX4_addOwner_5 rfl (lv_at hl 1 rfl) ?_
  refine lv_i2l (v := (a1).toInt64) hx hb dX4_addOwner_6 rfl ?_
  refine lv_lconst (v := 0) hx hb dX4_addOwner_7 (by decide) ?_
  refine lv_ldc2 hx hb (cx_own C0) (cx_w C0 tm_5_227) dX4_addOwner_8 ?_
  refine z_callSi C0 Z hl.1 (As := [.long ((a1).toInt64), .long 0, .long 999]) (rest := []) (k_X4_isBetween l (cx_g C0) hw) (gv_X4_isBetween tm_5_83) ds_X4_isBetween ⟨Nat.le_of_ble_eq_true rfl, Nat.le_of_ble_eq_true rfl⟩ rfl rfl (Nat.le_of_ble_eq_true rfl) ⟨Nat.le_of_ble_eq_true rfl, Nat.le_of_ble_eq_true rfl⟩ dX4_addOwner_11 (fun r3 v2 H locs hw Z => ?_)
  refine lv_if_ne (tgt := 23) hx hb dX4_addOwner_14 (by decide) (fun c4 => ?_) (fun c4 => ?_)
  · replace hw := hw.1 c4
    refine lv_aload_n hx hb dX4_addOwner_23 rfl (lv_at hl 0 rfl) ?_
    refine z_get C0 Z in_X4 rfl 0 (by decide) rfl tm_4_203 (cx_lt C0 (by decide)) rfl rfl dX4_addOwner_24 ?_
    refine lv_iconst (v := 5) hx hb dX4_addOwner_27 (by decide) ?_
    refine z_ialdk C0 Z (cx_lt C0 (by decide)) rfl in_5_474 nc_5 dX4_addOwner_28 ?_
    refine lv_bipush (v := 8) hx hb dX4_addOwner_29 (by decide) ?_
    refine lv_icmp_ne (tgt := 42) hx hb dX4_addOwner_31 (by decide) (fun c5 => ?_) (fun c5 => ?_)
    · replace hw := hw.1 c5
      refine lv_aload_n hx hb dX4_addOwner_42 rfl (lv_at hl 0 rfl) ?_
      refine lv_iload_n hx hb dX4_addOwner_43 rfl (lv_at hl 1 rfl) ?_
      refine z_callVi C0 Z hl.1 (As := [.int a1]) (rest := []) (k_X4_appendOwner l (cx_g C0) hw) (gv_X4_appendOwner tm_5_150) rfl ds_X4_appendOwner ⟨Nat.le_of_ble_eq_true rfl, Nat.le_of_ble_eq_true rfl⟩ (ci := 4) rfl (cx_lt C0 (by decide)) rfl rfl rfl (Nat.le_of_ble_eq_true rfl) ⟨Nat.le_of_ble_eq_true rfl, Nat.le_of_ble_eq_true rfl⟩ dX4_addOwner_44 (fun r7 v6 H locs hw Z => ?_)
      exact b_X4_addOwner_47 l C0 _ _ _ _ _ hw Z (lv_sub hl [] rfl)
    · replace hw := hw.2 c5
      refine lv_aload_n hx hb dX4_addOwner_34 rfl (lv_at hl 0 rfl) ?_
      refine lv_iconst (v := 2) hx hb dX4_addOwner_35 (by decide) ?_
      refine z_callVi C0 Z hl.1 (As := [.int 2]) (rest := []) (k_X4_fail l (cx_g C0) hw) (gv_X4_fail tm_5_75) rfl ds_X4_fail ⟨Nat.le_of_ble_eq_true rfl, Nat.le_of_ble_eq_true rfl⟩ (ci := 4) rfl (cx_lt C0 (by decide)) rfl rfl rfl (Nat.le_of_ble_eq_true rfl) ⟨Nat.le_of_ble_eq_true rfl, Nat.le_of_ble_eq_true rfl⟩ dX4_addOwner_36 (fun r9 v8 H locs hw Z => ?_)
      refine lv_goto (tgt := 47) hx hb dX4_addOwner_39 (by decide) ?_
      exact b_X4_addOwner_47 l C0 _ _ _ _ _ hw Z (lv_sub hl [] rfl)
  · replace hw := hw.2 c4
    refine lv_aload_n hx hb dX4_addOwner_17 rfl (lv_at hl 0 rfl) ?_
    refine lv_iconst (v := 1) hx hb dX4_addOwner_18 (by decide) ?_
    refine z_callVi C0 Z hl.1 (As := [.int 1]) (rest := []) (k_X4_fail l (cx_g C0) hw) (gv_X4_fail tm_5_75) rfl ds_X4_fail ⟨Nat.le_of_ble_eq_true rfl, Nat.le_of_ble_eq_true rfl⟩ (ci := 4) rfl (cx_lt C0 (by decide)) rfl rfl rfl (Nat.le_of_ble_eq_true rfl) ⟨Nat.le_of_ble_eq_true rfl, Nat.le_of_ble_eq_true rfl⟩ dX4_addOwner_19 (fun r11 v10 H locs hw Z => ?_)
    exact z_iret C0 Z hw dX4_addOwner_22
-- X4_set: room (1, 25)
theorem dX4_set_0 : decode cX4_set 0 = .ok (.aload_n 0, 1) := by decide +kernel
theorem dX4_set_1 : decode cX4_set 1 = .ok (.iconst 0, 1) := by decide +kernel
theorem dX4_set_2 : decode cX4_set 2 = .ok (.putfield 55, 3) := by decide +kernel
theorem dX4_set_5 : decode cX4_set 5 = .ok (.iload_n 1, 1) := by decide +kernel
theorem dX4_set_6 : decode cX4_set 6 = .ok (.i2l, 1) := by decide +kernel
theorem dX4_set_7 : decode cX4_set 7 = .ok (.lconst 0, 1) := by decide +kernel
theorem dX4_set_8 : decode cX4_set 8 = .ok (.ldc2_w 208, 3) := by decide +kernel
theorem dX4_set_11 : decode cX4_set 11 = .ok (.invokestatic 67, 3) := by decide +kernel
theorem dX4_set_14 : decode cX4_set 14 = .ok (.ifCond .eq 25, 3) := by decide +kernel
theorem dX4_set_17 : decode cX4_set 17 = .ok (.iload_n 2, 1) := by decide +kernel
theorem dX4_set_18 : decode cX4_set 18 = .ok (.i2l, 1) := by decide +kernel
theorem dX4_set_19 : decode cX4_set 19 = .ok (.aload_n 0, 1) := by decide +kernel
theorem dX4_set_20 : decode cX4_set 20 = .ok (.getfield 29, 3) := by decide +kernel
theorem dX4_set_23 : decode cX4_set 23 = .ok (.iload_n 1, 1) := by decide +kernel
theorem dX4_set_24 : decode cX4_set 24 = .ok (.iaload, 1) := by decide +kernel
theorem dX4_set_25 : decode cX4_set 25 = .ok (.i2l, 1) := by decide +kernel
theorem dX4_set_26 : decode cX4_set 26 = .ok (.aload_n 0, 1) := by decide +kernel
theorem dX4_set_27 : decode cX4_set 27 = .ok (.getfield 32, 3) := by decide +kernel
theorem dX4_set_30 : decode cX4_set 30 = .ok (.iload_n 1, 1) := by decide +kernel
theorem dX4_set_31 : decode cX4_set 31 = .ok (.iaload, 1) := by decide +kernel
theorem dX4_set_32 : decode cX4_set 32 = .ok (.i2l, 1) := by decide +kernel
theorem dX4_set_33 : decode cX4_set 33 = .ok (.invokestatic 67, 3) := by decide +kernel
theorem dX4_set_36 : decode cX4_set 36 = .ok (.ifCond .ne 9, 3) := by decide +kernel
theorem dX4_set_39 : decode cX4_set 39 = .ok (.aload_n 0, 1) := by decide +kernel
theorem dX4_set_40 : decode cX4_set 40 = .ok (.iconst 1, 1) := by decide +kernel
theorem dX4_set_41 : decode cX4_set 41 = .ok (.invokevirtual 78, 3) := by decide +kernel
theorem dX4_set_44 : decode cX4_set 44 = .ok (.ireturn, 1) := by decide +kernel
theorem dX4_set_45 : decode cX4_set 45 = .ok (.aload_n 0, 1) := by decide +kernel
theorem dX4_set_46 : decode cX4_set 46 = .ok (.getfield 7, 3) := by decide +kernel
theorem dX4_set_49 : decode cX4_set 49 = .ok (.iload_n 1, 1) := by decide +kernel
theorem dX4_set_50 : decode cX4_set 50 = .ok (.iaload, 1) := by decide +kernel
theorem dX4_set_51 : decode cX4_set 51 = .ok (.istore_n 3, 1) := by decide +kernel
theorem dX4_set_52 : decode cX4_set 52 = .ok (.aload_n 0, 1) := by decide +kernel
theorem dX4_set_53 : decode cX4_set 53 = .ok (.getfield 7, 3) := by decide +kernel
theorem dX4_set_56 : decode cX4_set 56 = .ok (.iload_n 1, 1) := by decide +kernel
theorem dX4_set_57 : decode cX4_set 57 = .ok (.iload_n 2, 1) := by decide +kernel
theorem dX4_set_58 : decode cX4_set 58 = .ok (.iastore, 1) := by decide +kernel
theorem dX4_set_59 : decode cX4_set 59 = .ok (.iload_n 3, 1) := by decide +kernel
theorem dX4_set_60 : decode cX4_set 60 = .ok (.ireturn, 1) := by decide +kernel
def w_X4_set_39  (Q : Int32 → V3 → Prop) (v : V3) : Prop := w_X4_fail 1 v (fun r6 v5 => Q r6 v5)
def w_X4_set (a1 : Int32) (a2 : Int32) (v : V3) (Q : Int32 → V3 → Prop) : Prop := ∀ v1 : V3, v1 = up2 v 7 11 0 → w_X4_isBetween ((a1).toInt64) 0 3 v1 (fun r3 v2 => ((r3 = 0 → w_X4_set_39 Q v2) ∧ (¬ r3 = 0 → vp_in a1 4 ∧ vp_in a1 4 ∧ w_X4_isBetween ((a2).toInt64) ((v2 14 (ix a1)).toInt64) ((v2 15 (ix a1)).toInt64) v2 (fun r10 v9 => ((¬ r10 = 0 → vp_in a1 474 ∧ vp_in a1 474 ∧ ∀ v14 : V3, v14 = up2 v9 8 (ix a1) a2 → Q (v9 8 (ix a1)) v14) ∧ (r10 = 0 → w_X4_set_39 Q v9))))))
set_option maxRecDepth 100000 in
set_option maxHeartbeats 4000000 in
theorem b_X4_set_39 {p : Program} (l : Launch) {e : Env} {s : State} {m : MethodId} {args : Array Value} {below : List Frame} {meth : Method} {c : Code} {G : zG}   (C0 : Cx G RX4 cX4_set 4 (some .int) p s m args meth c) {Q : Int32 → V3 → Prop} : ∀ (v : V3) (H : Heap) (locs : List Loc) (ls : Array Slot), w_X4_set_39 Q v → Zs G s v H locs → lv_has ls 4 [(0, .ref (gad G 7))] → W p l e { frames := 1, cells := 0, slots := 0, locals := 25 } s m args below meth c H locs 0 0 (MQ below (QiZ G Q) args s 0 0 (zA G)) (F0 m 39 ls []) := by
  have hx := C0.1
  have hb := C0.2.1
  intro v H locs ls hw Z hl
  rw [w_X4_set_39] at hw
  refine lv_aload_n hx hb dX4_set_39 rfl (lv_at hl 0 rfl) ?_
  refine lv_iconst (v := 1) hx hb dX4_set_40 (by decide) ?_
  refine z_callVi C0 Z hl.1 (As := [.int 1]) (rest := []) (k_X4_fail l (cx_g C0) hw) (gv_X4_fail tm_5_75) rfl ds_X4_fail ⟨Nat.le_of_ble_eq_true rfl, Nat.le_of_ble_eq_true rfl⟩ (ci := 4) rfl (cx_lt C0 (by decide)) rfl rfl rfl (Nat.le_of_ble_eq_true rfl) ⟨Nat.le_of_ble_eq_true rfl, Nat.le_of_ble_eq_true rfl⟩ dX4_set_41 (fun r6 v5 H locs hw Z => ?_)
  exact z_iret C0 Z hw dX4_set_44
set_option maxRecDepth 100000 in
set_option maxHeartbeats 4000000 in
theorem k_X4_set (l : Launch) {G : zG} (hg : 129 ≤ gn G) {a1 : Int32} {a2 : Int32}  {v : V3} {Q : Int32 → V3 → Prop} (hw : w_X4_set a1 a2 v Q) : Mz l yX4_set cX4_set 4 (some .int) 1 25 G [.ref (gad G 7), .int a1, .int a2] v (QiZ G Q) := by
  rw [w_X4_set] at hw
  refine z_ofW hg (by decide) (Nat.le_of_ble_eq_true rfl) ?_
  intro p e s m args below meth c ls C0 Z hl
  have hx := C0.1
  have hb := C0.2.1
  replace hl : lv_has ls 4 [(0, .ref (gad G 7)), (1, .int a1), (2, .int a2)] := hl
  generalize s.heap = H at Z ⊢
  generalize ([] : List Loc) = locs at Z ⊢
  refine lv_aload_n hx hb dX4_set_0 rfl (lv_at hl 0 rfl) ?_
  refine lv_iconst (v := 0) hx hb dX4_set_1 (by decide) ?_
  refine z_put C0 Z in_X4 tyX4_ok nmX4 rfl 11 (by decide) rfl rfl tm_4_214 (cx_lt C0 (by decide)) rfl p_X4_11 (fun c' h => up2_off _ _ _ h) rfl rfl (Nat.le_of_ble_eq_true rfl) dX4_set_2 (fun H locs Z => ?_)
  obtain ⟨v1, ev1⟩ : ∃ z : V3, z = up2 v 7 11 0 := ⟨_, rfl⟩
  rw [← ev1] at Z
  replace hw := hw v1 ev1
  refine lv_iload_n hx hb dX4_set_5 rfl (lv_at hl 1 rfl) ?_
  refine lv_i2l (v := (a1).toInt64) hx hb dX4_set_6 rfl ?_
  refine lv_lconst (v := 0) hx hb dX4_set_7 (by decide) ?_
  refine lv_ldc2 hx hb (cx_own C0) (cx_w C0 tm_5_232) dX4_set_8 ?_
  refine z_callSi C0 Z hl.1 (As := [.long ((a1).toInt64), .long 0, .long 3]) (rest := []) (k_X4_isBetween l (cx_g C0) hw) (gv_X4_isBetween tm_5_83) ds_X4_isBetween ⟨Nat.le_of_ble_eq_true rfl, Nat.le_of_ble_eq_true rfl⟩ rfl rfl (Nat.le_of_ble_eq_true rfl) ⟨Nat.le_of_ble_eq_true rfl, Nat.le_of_ble_eq_true rfl⟩ dX4_set_11 (fun r3 v2 H locs hw Z => ?_)
  refine lv_if_eq (tgt := 39) hx hb dX4_set_14 (by decide) (fun c4 => ?_) (fun c4 => ?_)
  · replace hw := hw.1 c4
    exact b_X4_set_39 l C0 _ _ _ _ hw Z (lv_sub hl [0] rfl)
  · replace hw := hw.2 c4
    refine lv_iload_n hx hb dX4_set_17 rfl (lv_at hl 2 rfl) ?_
    refine lv_i2l (v := (a2).toInt64) hx hb dX4_set_18 rfl ?_
    refine lv_aload_n hx hb dX4_set_19 rfl (lv_at hl 0 rfl) ?_
    refine z_get C0 Z in_X4 rfl 6 (by decide) rfl tm_4_209 (cx_lt C0 (by decide)) rfl rfl dX4_set_20 ?_
    refine lv_iload_n hx hb dX4_set_23 rfl (lv_at hl 1 rfl) ?_
    obtain ⟨h7, hw⟩ := hw
    refine z_iald C0 Z (cx_lt C0 (by decide)) rfl h7 dX4_set_24 ?_
    refine lv_i2l (v := (v2 14 (ix a1)).toInt64) hx hb dX4_set_25 rfl ?_
    refine lv_aload_n hx hb dX4_set_26 rfl (lv_at hl 0 rfl) ?_
    refine z_get C0 Z in_X4 rfl 7 (by decide) rfl tm_4_210 (cx_lt C0 (by decide)) rfl rfl dX4_set_27 ?_
    refine lv_iload_n hx hb dX4_set_30 rfl (lv_at hl 1 rfl) ?_
    obtain ⟨h8, hw⟩ := hw
    refine z_iald C0 Z (cx_lt C0 (by decide)) rfl h8 dX4_set_31 ?_
    refine lv_i2l (v := (v2 15 (ix a1)).toInt64) hx hb dX4_set_32 rfl ?_
    refine z_callSi C0 Z hl.1 (As := [.long ((a2).toInt64), .long ((v2 14 (ix a1)).toInt64), .long ((v2 15 (ix a1)).toInt64)]) (rest := []) (k_X4_isBetween l (cx_g C0) hw) (gv_X4_isBetween tm_5_83) ds_X4_isBetween ⟨Nat.le_of_ble_eq_true rfl, Nat.le_of_ble_eq_true rfl⟩ rfl rfl (Nat.le_of_ble_eq_true rfl) ⟨Nat.le_of_ble_eq_true rfl, Nat.le_of_ble_eq_true rfl⟩ dX4_set_33 (fun r10 v9 H locs hw Z => ?_)
    refine lv_if_ne (tgt := 45) hx hb dX4_set_36 (by decide) (fun c11 => ?_) (fun c11 => ?_)
    · replace hw := hw.1 c11
      refine lv_aload_n hx hb dX4_set_45 rfl (lv_at hl 0 rfl) ?_
      refine z_get C0 Z in_X4 rfl 0 (by decide) rfl tm_4_203 (cx_lt C0 (by decide)) rfl rfl dX4_set_46 ?_
      refine lv_iload_n hx hb dX4_set_49 rfl (lv_at hl 1 rfl) ?_
      obtain ⟨h12, hw⟩ := hw
      refine z_iald C0 Z (cx_lt C0 (by decide)) rfl h12 dX4_set_50 ?_
      refine lv_istore_n (lv' := [(3, .int (v9 8 (ix a1))), (0, .ref (gad G 7)), (1, .int a1), (2, .int a2)]) hx hb dX4_set_51 rfl hl (by decide) rfl (fun ls hl => ?_)
      refine lv_aload_n hx hb dX4_set_52 rfl (lv_at hl 1 rfl) ?_
      refine z_get C0 Z in_X4 rfl 0 (by decide) rfl tm_4_203 (cx_lt C0 (by decide)) rfl rfl dX4_set_53 ?_
      refine lv_iload_n hx hb dX4_set_56 rfl (lv_at hl 2 rfl) ?_
      refine lv_iload_n hx hb dX4_set_57 rfl (lv_at hl 3 rfl) ?_
      obtain ⟨h13, hw⟩ := hw
      refine z_iast C0 Z (cx_lt C0 (by decide)) (fun _ => rfl) h13 dX4_set_58 (fun H locs Z => ?_)
      obtain ⟨v14, ev14⟩ : ∃ z : V3, z = up2 v9 8 (ix a1) a2 := ⟨_, rfl⟩
      rw [← ev14] at Z
      replace hw := hw v14 ev14
      refine lv_iload_n hx hb dX4_set_59 rfl (lv_at hl 0 rfl) ?_
      exact z_iret C0 Z hw dX4_set_60
    · replace hw := hw.2 c11
      exact b_X4_set_39 l C0 _ _ _ _ hw Z (lv_sub hl [0] rfl)
-- X4_inState: room (1, 22)
theorem dX4_inState_0 : decode cX4_inState 0 = .ok (.iconst 0, 1) := by decide +kernel
theorem dX4_inState_1 : decode cX4_inState 1 = .ok (.istore_n 2, 1) := by decide +kernel
theorem dX4_inState_2 : decode cX4_inState 2 = .ok (.iconst 0, 1) := by decide +kernel
theorem dX4_inState_3 : decode cX4_inState 3 = .ok (.istore_n 3, 1) := by decide +kernel
theorem dX4_inState_4 : decode cX4_inState 4 = .ok (.iload_n 3, 1) := by decide +kernel
theorem dX4_inState_5 : decode cX4_inState 5 = .ok (.aload_n 0, 1) := by decide +kernel
theorem dX4_inState_6 : decode cX4_inState 6 = .ok (.getfield 7, 3) := by decide +kernel
theorem dX4_inState_9 : decode cX4_inState 9 = .ok (.bipush 6, 2) := by decide +kernel
theorem dX4_inState_11 : decode cX4_inState 11 = .ok (.iaload, 1) := by decide +kernel
theorem dX4_inState_12 : decode cX4_inState 12 = .ok (.if_icmp .ge 28, 3) := by decide +kernel
theorem dX4_inState_15 : decode cX4_inState 15 = .ok (.iload_n 2, 1) := by decide +kernel
theorem dX4_inState_16 : decode cX4_inState 16 = .ok (.aload_n 0, 1) := by decide +kernel
theorem dX4_inState_17 : decode cX4_inState 17 = .ok (.iload_n 3, 1) := by decide +kernel
theorem dX4_inState_18 : decode cX4_inState 18 = .ok (.bipush 7, 2) := by decide +kernel
theorem dX4_inState_20 : decode cX4_inState 20 = .ok (.invokevirtual 71, 3) := by decide +kernel
theorem dX4_inState_23 : decode cX4_inState 23 = .ok (.iload_n 1, 1) := by decide +kernel
theorem dX4_inState_24 : decode cX4_inState 24 = .ok (.if_icmp .ne 7, 3) := by decide +kernel
theorem dX4_inState_27 : decode cX4_inState 27 = .ok (.iconst 1, 1) := by decide +kernel
theorem dX4_inState_28 : decode cX4_inState 28 = .ok (.goto 4, 3) := by decide +kernel
theorem dX4_inState_31 : decode cX4_inState 31 = .ok (.iconst 0, 1) := by decide +kernel
theorem dX4_inState_32 : decode cX4_inState 32 = .ok (.iadd, 1) := by decide +kernel
theorem dX4_inState_33 : decode cX4_inState 33 = .ok (.istore_n 2, 1) := by decide +kernel
theorem dX4_inState_34 : decode cX4_inState 34 = .ok (.iinc 3 1, 3) := by decide +kernel
theorem dX4_inState_37 : decode cX4_inState 37 = .ok (.goto (-33), 3) := by decide +kernel
theorem dX4_inState_40 : decode cX4_inState 40 = .ok (.iload_n 2, 1) := by decide +kernel
theorem dX4_inState_41 : decode cX4_inState 41 = .ok (.ireturn, 1) := by decide +kernel
def w_X4_inState_32  (Q : Int32 → V3 → Prop) (K4 : Int32 → Int32 → Int32 → V3 → Prop) (x1 : Int32) (x3 : Int32) (s0 : Int32) (s1 : Int32) (v : V3) : Prop := K4 x1 (s0 + s1) (x3 + 1) v
def w_X4_inState_4  (Q : Int32 → V3 → Prop) : Nat → Int32 → Int32 → Int32 → V3 → Prop
  | 0, _, _, _, _ => False
  | n4 + 1, x1, x2, x3, v => (((v 8 6) ≤ x3 → Q x2 v) ∧ (¬ (v 8 6) ≤ x3 → w_X4_of x3 7 v (fun r3 v2 => ((¬ r3 = x1 → w_X4_inState_32 Q (w_X4_inState_4 Q n4) x1 x3 x2 0 v2) ∧ (r3 = x1 → w_X4_inState_32 Q (w_X4_inState_4 Q n4) x1 x3 x2 1 v2)))))
def w_X4_inState (a1 : Int32) (v : V3) (Q : Int32 → V3 → Prop) : Prop := ∃ m4 : Nat, w_X4_inState_4 Q m4 a1 0 0 v
set_option maxRecDepth 100000 in
set_option maxHeartbeats 4000000 in
theorem b_X4_inState_32 {p : Program} (l : Launch) {e : Env} {s : State} {m : MethodId} {args : Array Value} {below : List Frame} {meth : Method} {c : Code} {G : zG}   (C0 : Cx G RX4 cX4_inState 4 (some .int) p s m args meth c) {Q : Int32 → V3 → Prop} {K4 : Int32 → Int32 → Int32 → V3 → Prop} (hK4 : ∀ (x1 : Int32) (x2 : Int32) (x3 : Int32) (v : V3) (H : Heap) (locs : List Loc) (ls : Array Slot), K4 x1 x2 x3 v → Zs G s v H locs → lv_has ls 4 [(0, .ref (gad G 7)), (1, .int x1), (2, .int x2), (3, .int x3)] → W p l e { frames := 1, cells := 0, slots := 0, locals := 22 } s m args below meth c H locs 0 0 (MQ below (QiZ G Q) args s 0 0 (zA G)) (F0 m 4 ls [])) : ∀ (x1 : Int32) (x3 : Int32) (s0 : Int32) (s1 : Int32) (v : V3) (H : Heap) (locs : List Loc) (ls : Array Slot), w_X4_inState_32 Q K4 x1 x3 s0 s1 v → Zs G s v H locs → lv_has ls 4 [(0, .ref (gad G 7)), (1, .int x1), (3, .int x3)] → W p l e { frames := 1, cells := 0, slots := 0, locals := 22 } s m args below meth c H locs 0 0 (MQ below (QiZ G Q) args s 0 0 (zA G)) (F0 m 32 ls [.int s1, .int s0]) := by
  have hx := C0.1
  have hb := C0.2.1
  intro x1 x3 s0 s1 v H locs ls hw Z hl
  rw [w_X4_inState_32] at hw
  refine lv_iadd hx hb dX4_inState_32 ?_
  refine lv_istore_n (lv' := [(2, .int (s0 + s1)), (0, .ref (gad G 7)), (1, .int x1), (3, .int x3)]) hx hb dX4_inState_33 rfl hl (by decide) rfl (fun ls hl => ?_)
  refine lv_iinc (v := x3 + 1) (lv' := [(3, .int (x3 + 1)), (2, .int (s0 + s1)), (0, .ref (gad G 7)), (1, .int x1)]) hx hb dX4_inState_34 hl (k := 3) rfl rfl (by decide) rfl (fun ls hl => ?_)
  refine lv_goto (tgt := 4) hx hb dX4_inState_37 (by decide) ?_
  exact hK4 _ _ _ _ _ _ _ hw Z (lv_sub hl [2, 3, 1, 0] rfl)
set_option maxRecDepth 100000 in
set_option maxHeartbeats 4000000 in
theorem b_X4_inState_4 {p : Program} (l : Launch) {e : Env} {s : State} {m : MethodId} {args : Array Value} {below : List Frame} {meth : Method} {c : Code} {G : zG}   (C0 : Cx G RX4 cX4_inState 4 (some .int) p s m args meth c) {Q : Int32 → V3 → Prop} : ∀ (n : Nat) (x1 : Int32) (x2 : Int32) (x3 : Int32) (v : V3) (H : Heap) (locs : List Loc) (ls : Array Slot), w_X4_inState_4 Q n x1 x2 x3 v → Zs G s v H locs → lv_has ls 4 [(0, .ref (gad G 7)), (1, .int x1), (2, .int x2), (3, .int x3)] → W p l e { frames := 1, cells := 0, slots := 0, locals := 22 } s m args below meth c H locs 0 0 (MQ below (QiZ G Q) args s 0 0 (zA G)) (F0 m 4 ls []) := by
  have hx := C0.1
  have hb := C0.2.1
  intro n
  induction n with
  | zero =>
    intro x1 x2 x3 v H locs ls hw Z hl
    exact hw.elim
  | succ n hK4 =>
    intro x1 x2 x3 v H locs ls hw Z hl
    rw [w_X4_inState_4] at hw
    refine lv_iload_n hx hb dX4_inState_4 rfl (lv_at hl 3 rfl) ?_
    refine lv_aload_n hx hb dX4_inState_5 rfl (lv_at hl 0 rfl) ?_
    refine z_get C0 Z in_X4 rfl 0 (by decide) rfl tm_4_203 (cx_lt C0 (by decide)) rfl rfl dX4_inState_6 ?_
    refine lv_bipush (v := 6) hx hb dX4_inState_9 (by decide) ?_
    refine z_ialdk C0 Z (cx_lt C0 (by decide)) rfl in_6_474 nc_6 dX4_inState_11 ?_
    refine lv_icmp_ge (tgt := 40) hx hb dX4_inState_12 (by decide) (fun c1 => ?_) (fun c1 => ?_)
    · replace hw := hw.1 c1
      refine lv_iload_n hx hb dX4_inState_40 rfl (lv_at hl 2 rfl) ?_
      exact z_iret C0 Z hw dX4_inState_41
    · replace hw := hw.2 c1
      refine lv_iload_n hx hb dX4_inState_15 rfl (lv_at hl 2 rfl) ?_
      refine lv_aload_n hx hb dX4_inState_16 rfl (lv_at hl 0 rfl) ?_
      refine lv_iload_n hx hb dX4_inState_17 rfl (lv_at hl 3 rfl) ?_
      refine lv_bipush (v := 7) hx hb dX4_inState_18 (by decide) ?_
      refine z_callVi C0 Z hl.1 (As := [.int x3, .int 7]) (rest := [.int x2]) (k_X4_of l (cx_g C0) hw) (gv_X4_of tm_5_163) rfl ds_X4_of ⟨Nat.le_of_ble_eq_true rfl, Nat.le_of_ble_eq_true rfl⟩ (ci := 4) rfl (cx_lt C0 (by decide)) rfl rfl rfl (Nat.le_of_ble_eq_true rfl) ⟨Nat.le_of_ble_eq_true rfl, Nat.le_of_ble_eq_true rfl⟩ dX4_inState_20 (fun r3 v2 H locs hw Z => ?_)
      refine lv_iload_n hx hb dX4_inState_23 rfl (lv_at hl 1 rfl) ?_
      refine lv_icmp_ne (tgt := 31) hx hb dX4_inState_24 (by decide) (fun c4 => ?_) (fun c4 => ?_)
      · replace hw := hw.1 c4
        refine lv_iconst (v := 0) hx hb dX4_inState_31 (by decide) ?_
        exact b_X4_inState_32 l C0 hK4 _ _ _ _ _ _ _ _ hw Z (lv_sub hl [0, 1, 3] rfl)
      · replace hw := hw.2 c4
        refine lv_iconst (v := 1) hx hb dX4_inState_27 (by decide) ?_
        refine lv_goto (tgt := 32) hx hb dX4_inState_28 (by decide) ?_
        exact b_X4_inState_32 l C0 hK4 _ _ _ _ _ _ _ _ hw Z (lv_sub hl [0, 1, 3] rfl)
set_option maxRecDepth 100000 in
set_option maxHeartbeats 4000000 in
theorem k_X4_inState (l : Launch) {G : zG} (hg : 129 ≤ gn G) {a1 : Int32}  {v : V3} {Q : Int32 → V3 → Prop} (hw : w_X4_inState a1 v Q) : Mz l yX4_inState cX4_inState 4 (some .int) 1 22 G [.ref (gad G 7), .int a1] v (QiZ G Q) := by
  rw [w_X4_inState] at hw
  refine z_ofW hg (by decide) (Nat.le_of_ble_eq_true rfl) ?_
  intro p e s m args below meth c ls C0 Z hl
  have hx := C0.1
  have hb := C0.2.1
  replace hl : lv_has ls 4 [(0, .ref (gad G 7)), (1, .int a1)] := hl
  generalize s.heap = H at Z ⊢
  generalize ([] : List Loc) = locs at Z ⊢
  refine lv_iconst (v := 0) hx hb dX4_inState_0 (by decide) ?_
  refine lv_istore_n (lv' := [(2, .int 0), (0, .ref (gad G 7)), (1, .int a1)]) hx hb dX4_inState_1 rfl hl (by decide) rfl (fun ls hl => ?_)
  refine lv_iconst (v := 0) hx hb dX4_inState_2 (by decide) ?_
  refine lv_istore_n (lv' := [(3, .int 0), (2, .int 0), (0, .ref (gad G 7)), (1, .int a1)]) hx hb dX4_inState_3 rfl hl (by decide) rfl (fun ls hl => ?_)
  obtain ⟨m4, hw⟩ := hw
  exact b_X4_inState_4 l C0 m4 _ _ _ _ _ _ _ hw Z (lv_sub hl [2, 3, 1, 0] rfl)
-- X4_hasByte: room (1, 25)
theorem dX4_hasByte_0 : decode cX4_hasByte 0 = .ok (.iload_n 2, 1) := by decide +kernel
theorem dX4_hasByte_1 : decode cX4_hasByte 1 = .ok (.i2l, 1) := by decide +kernel
theorem dX4_hasByte_2 : decode cX4_hasByte 2 = .ok (.aload_n 0, 1) := by decide +kernel
theorem dX4_hasByte_3 : decode cX4_hasByte 3 = .ok (.iload_n 1, 1) := by decide +kernel
theorem dX4_hasByte_4 : decode cX4_hasByte 4 = .ok (.iconst 1, 1) := by decide +kernel
theorem dX4_hasByte_5 : decode cX4_hasByte 5 = .ok (.invokevirtual 71, 3) := by decide +kernel
theorem dX4_hasByte_8 : decode cX4_hasByte 8 = .ok (.i2l, 1) := by decide +kernel
theorem dX4_hasByte_9 : decode cX4_hasByte 9 = .ok (.aload_n 0, 1) := by decide +kernel
theorem dX4_hasByte_10 : decode cX4_hasByte 10 = .ok (.iload_n 1, 1) := by decide +kernel
theorem dX4_hasByte_11 : decode cX4_hasByte 11 = .ok (.iconst 1, 1) := by decide +kernel
theorem dX4_hasByte_12 : decode cX4_hasByte 12 = .ok (.invokevirtual 71, 3) := by decide +kernel
theorem dX4_hasByte_15 : decode cX4_hasByte 15 = .ok (.aload_n 0, 1) := by decide +kernel
theorem dX4_hasByte_16 : decode cX4_hasByte 16 = .ok (.iload_n 1, 1) := by decide +kernel
theorem dX4_hasByte_17 : decode cX4_hasByte 17 = .ok (.iconst 2, 1) := by decide +kernel
theorem dX4_hasByte_18 : decode cX4_hasByte 18 = .ok (.invokevirtual 71, 3) := by decide +kernel
theorem dX4_hasByte_21 : decode cX4_hasByte 21 = .ok (.iadd, 1) := by decide +kernel
theorem dX4_hasByte_22 : decode cX4_hasByte 22 = .ok (.iconst 1, 1) := by decide +kernel
theorem dX4_hasByte_23 : decode cX4_hasByte 23 = .ok (.isub, 1) := by decide +kernel
theorem dX4_hasByte_24 : decode cX4_hasByte 24 = .ok (.i2l, 1) := by decide +kernel
theorem dX4_hasByte_25 : decode cX4_hasByte 25 = .ok (.invokestatic 67, 3) := by decide +kernel
theorem dX4_hasByte_28 : decode cX4_hasByte 28 = .ok (.ireturn, 1) := by decide +kernel
def w_X4_hasByte (a1 : Int32) (a2 : Int32) (v : V3) (Q : Int32 → V3 → Prop) : Prop := w_X4_of a1 1 v (fun r2 v1 => w_X4_of a1 1 v1 (fun r4 v3 => w_X4_of a1 2 v3 (fun r6 v5 => w_X4_isBetween ((a2).toInt64) ((r2).toInt64) (((r4 + r6) - 1).toInt64) v5 (fun r8 v7 => (r8 = 0 ∨ r8 = 1) ∧ Q r8 v7))))
set_option maxRecDepth 100000 in
set_option maxHeartbeats 4000000 in
theorem k_X4_hasByte (l : Launch) {G : zG} (hg : 129 ≤ gn G) {a1 : Int32} {a2 : Int32}  {v : V3} {Q : Int32 → V3 → Prop} (hw : w_X4_hasByte a1 a2 v Q) : Mz l yX4_hasByte cX4_hasByte 3 (some .boolean) 1 25 G [.ref (gad G 7), .int a1, .int a2] v (QiZ G Q) := by
  rw [w_X4_hasByte] at hw
  refine z_ofW hg (by decide) (Nat.le_of_ble_eq_true rfl) ?_
  intro p e s m args below meth c ls C0 Z hl
  have hx := C0.1
  have hb := C0.2.1
  replace hl : lv_has ls 3 [(0, .ref (gad G 7)), (1, .int a1), (2, .int a2)] := hl
  generalize s.heap = H at Z ⊢
  generalize ([] : List Loc) = locs at Z ⊢
  refine lv_iload_n hx hb dX4_hasByte_0 rfl (lv_at hl 2 rfl) ?_
  refine lv_i2l (v := (a2).toInt64) hx hb dX4_hasByte_1 rfl ?_
  refine lv_aload_n hx hb dX4_hasByte_2 rfl (lv_at hl 0 rfl) ?_
  refine lv_iload_n hx hb dX4_hasByte_3 rfl (lv_at hl 1 rfl) ?_
  refine lv_iconst (v := 1) hx hb dX4_hasByte_4 (by decide) ?_
  refine z_callVi C0 Z hl.1 (As := [.int a1, .int 1]) (rest := [.long ((a2).toInt64)]) (k_X4_of l (cx_g C0) hw) (gv_X4_of tm_5_163) rfl ds_X4_of ⟨Nat.le_of_ble_eq_true rfl, Nat.le_of_ble_eq_true rfl⟩ (ci := 4) rfl (cx_lt C0 (by decide)) rfl rfl rfl (Nat.le_of_ble_eq_true rfl) ⟨Nat.le_of_ble_eq_true rfl, Nat.le_of_ble_eq_true rfl⟩ dX4_hasByte_5 (fun r2 v1 H locs hw Z => ?_)
  refine lv_i2l (v := (r2).toInt64) hx hb dX4_hasByte_8 rfl ?_
  refine lv_aload_n hx hb dX4_hasByte_9 rfl (lv_at hl 0 rfl) ?_
  refine lv_iload_n hx hb dX4_hasByte_10 rfl (lv_at hl 1 rfl) ?_
  refine lv_iconst (v := 1) hx hb dX4_hasByte_11 (by decide) ?_
  refine z_callVi C0 Z hl.1 (As := [.int a1, .int 1]) (rest := [.long ((r2).toInt64), .long ((a2).toInt64)]) (k_X4_of l (cx_g C0) hw) (gv_X4_of tm_5_163) rfl ds_X4_of ⟨Nat.le_of_ble_eq_true rfl, Nat.le_of_ble_eq_true rfl⟩ (ci := 4) rfl (cx_lt C0 (by decide)) rfl rfl rfl (Nat.le_of_ble_eq_true rfl) ⟨Nat.le_of_ble_eq_true rfl, Nat.le_of_ble_eq_true rfl⟩ dX4_hasByte_12 (fun r4 v3 H locs hw Z => ?_)
  refine lv_aload_n hx hb dX4_hasByte_15 rfl (lv_at hl 0 rfl) ?_
  refine lv_iload_n hx hb dX4_hasByte_16 rfl (lv_at hl 1 rfl) ?_
  refine lv_iconst (v := 2) hx hb dX4_hasByte_17 (by decide) ?_
  refine z_callVi C0 Z hl.1 (As := [.int a1, .int 2]) (rest := [.int r4, .long ((r2).toInt64), .long ((a2).toInt64)]) (k_X4_of l (cx_g C0) hw) (gv_X4_of tm_5_163) rfl ds_X4_of ⟨Nat.le_of_ble_eq_true rfl, Nat.le_of_ble_eq_true rfl⟩ (ci := 4) rfl (cx_lt C0 (by decide)) rfl rfl rfl (Nat.le_of_ble_eq_true rfl) ⟨Nat.le_of_ble_eq_true rfl, Nat.le_of_ble_eq_true rfl⟩ dX4_hasByte_18 (fun r6 v5 H locs hw Z => ?_)
  refine lv_iadd hx hb dX4_hasByte_21 ?_
  refine lv_iconst (v := 1) hx hb dX4_hasByte_22 (by decide) ?_
  refine lv_isub hx hb dX4_hasByte_23 ?_
  refine lv_i2l (v := ((r4 + r6) - 1).toInt64) hx hb dX4_hasByte_24 rfl ?_
  refine z_callSi C0 Z hl.1 (As := [.long ((a2).toInt64), .long ((r2).toInt64), .long (((r4 + r6) - 1).toInt64)]) (rest := []) (k_X4_isBetween l (cx_g C0) hw) (gv_X4_isBetween tm_5_83) ds_X4_isBetween ⟨Nat.le_of_ble_eq_true rfl, Nat.le_of_ble_eq_true rfl⟩ rfl rfl (Nat.le_of_ble_eq_true rfl) ⟨Nat.le_of_ble_eq_true rfl, Nat.le_of_ble_eq_true rfl⟩ dX4_hasByte_25 (fun r8 v7 H locs hw Z => ?_)
  obtain ⟨h9, hw⟩ := hw
  exact z_zret C0 Z h9 hw dX4_hasByte_28
-- X4_holderOf: room (2, 47)
theorem dX4_holderOf_0 : decode cX4_holderOf 0 = .ok (.iconst 0, 1) := by decide +kernel
theorem dX4_holderOf_1 : decode cX4_holderOf 1 = .ok (.istore_n 3, 1) := by decide +kernel
theorem dX4_holderOf_2 : decode cX4_holderOf 2 = .ok (.iload_n 3, 1) := by decide +kernel
theorem dX4_holderOf_3 : decode cX4_holderOf 3 = .ok (.aload_n 0, 1) := by decide +kernel
theorem dX4_holderOf_4 : decode cX4_holderOf 4 = .ok (.getfield 7, 3) := by decide +kernel
theorem dX4_holderOf_7 : decode cX4_holderOf 7 = .ok (.bipush 6, 2) := by decide +kernel
theorem dX4_holderOf_9 : decode cX4_holderOf 9 = .ok (.iaload, 1) := by decide +kernel
theorem dX4_holderOf_10 : decode cX4_holderOf 10 = .ok (.if_icmp .ge 54, 3) := by decide +kernel
theorem dX4_holderOf_13 : decode cX4_holderOf 13 = .ok (.aload_n 0, 1) := by decide +kernel
theorem dX4_holderOf_14 : decode cX4_holderOf 14 = .ok (.iload_n 3, 1) := by decide +kernel
theorem dX4_holderOf_15 : decode cX4_holderOf 15 = .ok (.invokevirtual 210, 3) := by decide +kernel
theorem dX4_holderOf_18 : decode cX4_holderOf 18 = .ok (.ifCond .eq 40, 3) := by decide +kernel
theorem dX4_holderOf_21 : decode cX4_holderOf 21 = .ok (.aload_n 0, 1) := by decide +kernel
theorem dX4_holderOf_22 : decode cX4_holderOf 22 = .ok (.iload_n 3, 1) := by decide +kernel
theorem dX4_holderOf_23 : decode cX4_holderOf 23 = .ok (.iload_n 1, 1) := by decide +kernel
theorem dX4_holderOf_24 : decode cX4_holderOf 24 = .ok (.invokevirtual 213, 3) := by decide +kernel
theorem dX4_holderOf_27 : decode cX4_holderOf 27 = .ok (.ifCond .eq 31, 3) := by decide +kernel
theorem dX4_holderOf_30 : decode cX4_holderOf 30 = .ok (.iload_n 2, 1) := by decide +kernel
theorem dX4_holderOf_31 : decode cX4_holderOf 31 = .ok (.i2l, 1) := by decide +kernel
theorem dX4_holderOf_32 : decode cX4_holderOf 32 = .ok (.aload_n 0, 1) := by decide +kernel
theorem dX4_holderOf_33 : decode cX4_holderOf 33 = .ok (.iload_n 3, 1) := by decide +kernel
theorem dX4_holderOf_34 : decode cX4_holderOf 34 = .ok (.bipush 8, 2) := by decide +kernel
theorem dX4_holderOf_36 : decode cX4_holderOf 36 = .ok (.invokevirtual 71, 3) := by decide +kernel
theorem dX4_holderOf_39 : decode cX4_holderOf 39 = .ok (.i2l, 1) := by decide +kernel
theorem dX4_holderOf_40 : decode cX4_holderOf 40 = .ok (.aload_n 0, 1) := by decide +kernel
theorem dX4_holderOf_41 : decode cX4_holderOf 41 = .ok (.iload_n 3, 1) := by decide +kernel
theorem dX4_holderOf_42 : decode cX4_holderOf 42 = .ok (.bipush 9, 2) := by decide +kernel
theorem dX4_holderOf_44 : decode cX4_holderOf 44 = .ok (.invokevirtual 71, 3) := by decide +kernel
theorem dX4_holderOf_47 : decode cX4_holderOf 47 = .ok (.iconst 1, 1) := by decide +kernel
theorem dX4_holderOf_48 : decode cX4_holderOf 48 = .ok (.isub, 1) := by decide +kernel
theorem dX4_holderOf_49 : decode cX4_holderOf 49 = .ok (.i2l, 1) := by decide +kernel
theorem dX4_holderOf_50 : decode cX4_holderOf 50 = .ok (.invokestatic 67, 3) := by decide +kernel
theorem dX4_holderOf_53 : decode cX4_holderOf 53 = .ok (.ifCond .eq 5, 3) := by decide +kernel
theorem dX4_holderOf_56 : decode cX4_holderOf 56 = .ok (.iload_n 3, 1) := by decide +kernel
theorem dX4_holderOf_57 : decode cX4_holderOf 57 = .ok (.ireturn, 1) := by decide +kernel
theorem dX4_holderOf_58 : decode cX4_holderOf 58 = .ok (.iinc 3 1, 3) := by decide +kernel
theorem dX4_holderOf_61 : decode cX4_holderOf 61 = .ok (.goto (-59), 3) := by decide +kernel
theorem dX4_holderOf_64 : decode cX4_holderOf 64 = .ok (.iconst (-1), 1) := by decide +kernel
theorem dX4_holderOf_65 : decode cX4_holderOf 65 = .ok (.ireturn, 1) := by decide +kernel
def w_X4_holderOf_58  (Q : Int32 → V3 → Prop) (K2 : Int32 → Int32 → Int32 → V3 → Prop) (x1 : Int32) (x2 : Int32) (x3 : Int32) (v : V3) : Prop := K2 x1 x2 (x3 + 1) v
def w_X4_holderOf_2  (Q : Int32 → V3 → Prop) : Nat → Int32 → Int32 → Int32 → V3 → Prop
  | 0, _, _, _, _ => False
  | n2 + 1, x1, x2, x3, v => (((v 8 6) ≤ x3 → Q (-1) v) ∧ (¬ (v 8 6) ≤ x3 → w_X4_isLive x3 v (fun r3 v2 => ((r3 = 0 → w_X4_holderOf_58 Q (w_X4_holderOf_2 Q n2) x1 x2 x3 v2) ∧ (¬ r3 = 0 → w_X4_hasByte x3 x1 v2 (fun r6 v5 => ((r6 = 0 → w_X4_holderOf_58 Q (w_X4_holderOf_2 Q n2) x1 x2 x3 v5) ∧ (¬ r6 = 0 → w_X4_of x3 8 v5 (fun r9 v8 => w_X4_of x3 9 v8 (fun r11 v10 => w_X4_isBetween ((x2).toInt64) ((r9).toInt64) ((r11 - 1).toInt64) v10 (fun r13 v12 => ((r13 = 0 → w_X4_holderOf_58 Q (w_X4_holderOf_2 Q n2) x1 x2 x3 v12) ∧ (¬ r13 = 0 → Q x3 v12)))))))))))))
def w_X4_holderOf (a1 : Int32) (a2 : Int32) (v : V3) (Q : Int32 → V3 → Prop) : Prop := ∃ m2 : Nat, w_X4_holderOf_2 Q m2 a1 a2 0 v
set_option maxRecDepth 100000 in
set_option maxHeartbeats 4000000 in
theorem b_X4_holderOf_58 {p : Program} (l : Launch) {e : Env} {s : State} {m : MethodId} {args : Array Value} {below : List Frame} {meth : Method} {c : Code} {G : zG}   (C0 : Cx G RX4 cX4_holderOf 4 (some .int) p s m args meth c) {Q : Int32 → V3 → Prop} {K2 : Int32 → Int32 → Int32 → V3 → Prop} (hK2 : ∀ (x1 : Int32) (x2 : Int32) (x3 : Int32) (v : V3) (H : Heap) (locs : List Loc) (ls : Array Slot), K2 x1 x2 x3 v → Zs G s v H locs → lv_has ls 4 [(0, .ref (gad G 7)), (1, .int x1), (2, .int x2), (3, .int x3)] → W p l e { frames := 2, cells := 0, slots := 0, locals := 47 } s m args below meth c H locs 0 0 (MQ below (QiZ G Q) args s 0 0 (zA G)) (F0 m 2 ls [])) : ∀ (x1 : Int32) (x2 : Int32) (x3 : Int32) (v : V3) (H : Heap) (locs : List Loc) (ls : Array Slot), w_X4_holderOf_58 Q K2 x1 x2 x3 v → Zs G s v H locs → lv_has ls 4 [(0, .ref (gad G 7)), (1, .int x1), (2, .int x2), (3, .int x3)] → W p l e { frames := 2, cells := 0, slots := 0, locals := 47 } s m args below meth c H locs 0 0 (MQ below (QiZ G Q) args s 0 0 (zA G)) (F0 m 58 ls []) := by
  have hx := C0.1
  have hb := C0.2.1
  intro x1 x2 x3 v H locs ls hw Z hl
  rw [w_X4_holderOf_58] at hw
  refine lv_iinc (v := x3 + 1) (lv' := [(3, .int (x3 + 1)), (0, .ref (gad G 7)), (1, .int x1), (2, .int x2)]) hx hb dX4_holderOf_58 hl (k := 3) rfl rfl (by decide) rfl (fun ls hl => ?_)
  refine lv_goto (tgt := 2) hx hb dX4_holderOf_61 (by decide) ?_
  exact hK2 _ _ _ _ _ _ _ hw Z (lv_sub hl [1, 2, 3, 0] rfl)
set_option maxRecDepth 100000 in
set_option maxHeartbeats 4000000 in
theorem b_X4_holderOf_2 {p : Program} (l : Launch) {e : Env} {s : State} {m : MethodId} {args : Array Value} {below : List Frame} {meth : Method} {c : Code} {G : zG}   (C0 : Cx G RX4 cX4_holderOf 4 (some .int) p s m args meth c) {Q : Int32 → V3 → Prop} : ∀ (n : Nat) (x1 : Int32) (x2 : Int32) (x3 : Int32) (v : V3) (H : Heap) (locs : List Loc) (ls : Array Slot), w_X4_holderOf_2 Q n x1 x2 x3 v → Zs G s v H locs → lv_has ls 4 [(0, .ref (gad G 7)), (1, .int x1), (2, .int x2), (3, .int x3)] → W p l e { frames := 2, cells := 0, slots := 0, locals := 47 } s m args below meth c H locs 0 0 (MQ below (QiZ G Q) args s 0 0 (zA G)) (F0 m 2 ls []) := by
  have hx := C0.1
  have hb := C0.2.1
  intro n
  induction n with
  | zero =>
    intro x1 x2 x3 v H locs ls hw Z hl
    exact hw.elim
  | succ n hK2 =>
    intro x1 x2 x3 v H locs ls hw Z hl
    rw [w_X4_holderOf_2] at hw
    refine lv_iload_n hx hb dX4_holderOf_2 rfl (lv_at hl 3 rfl) ?_
    refine lv_aload_n hx hb dX4_holderOf_3 rfl (lv_at hl 0 rfl) ?_
    refine z_get C0 Z in_X4 rfl 0 (by decide) rfl tm_4_203 (cx_lt C0 (by decide)) rfl rfl dX4_holderOf_4 ?_
    refine lv_bipush (v := 6) hx hb dX4_holderOf_7 (by decide) ?_
    refine z_ialdk C0 Z (cx_lt C0 (by decide)) rfl in_6_474 nc_6 dX4_holderOf_9 ?_
    refine lv_icmp_ge (tgt := 64) hx hb dX4_holderOf_10 (by decide) (fun c1 => ?_) (fun c1 => ?_)
    · replace hw := hw.1 c1
      refine lv_iconst (v := (-1)) hx hb dX4_holderOf_64 (by decide) ?_
      exact z_iret C0 Z hw dX4_holderOf_65
    · replace hw := hw.2 c1
      refine lv_aload_n hx hb dX4_holderOf_13 rfl (lv_at hl 0 rfl) ?_
      refine lv_iload_n hx hb dX4_holderOf_14 rfl (lv_at hl 3 rfl) ?_
      refine z_callVi C0 Z hl.1 (As := [.int x3]) (rest := []) (k_X4_isLive l (cx_g C0) hw) (gv_X4_isLive tm_5_202) rfl ds_X4_isLive ⟨Nat.le_of_ble_eq_true rfl, Nat.le_of_ble_eq_true rfl⟩ (ci := 4) rfl (cx_lt C0 (by decide)) rfl rfl rfl (Nat.le_of_ble_eq_true rfl) ⟨Nat.le_of_ble_eq_true rfl, Nat.le_of_ble_eq_true rfl⟩ dX4_holderOf_15 (fun r3 v2 H locs hw Z => ?_)
      refine lv_if_eq (tgt := 58) hx hb dX4_holderOf_18 (by decide) (fun c4 => ?_) (fun c4 => ?_)
      · replace hw := hw.1 c4
        exact b_X4_holderOf_58 l C0 hK2 _ _ _ _ _ _ _ hw Z (lv_sub hl [0, 1, 2, 3] rfl)
      · replace hw := hw.2 c4
        refine lv_aload_n hx hb dX4_holderOf_21 rfl (lv_at hl 0 rfl) ?_
        refine lv_iload_n hx hb dX4_holderOf_22 rfl (lv_at hl 3 rfl) ?_
        refine lv_iload_n hx hb dX4_holderOf_23 rfl (lv_at hl 1 rfl) ?_
        refine z_callVi C0 Z hl.1 (As := [.int x3, .int x1]) (rest := []) (k_X4_hasByte l (cx_g C0) hw) (gv_X4_hasByte tm_6_9) rfl ds_X4_hasByte ⟨Nat.le_of_ble_eq_true rfl, Nat.le_of_ble_eq_true rfl⟩ (ci := 4) rfl (cx_lt C0 (by decide)) rfl rfl rfl (Nat.le_of_ble_eq_true rfl) ⟨Nat.le_of_ble_eq_true rfl, Nat.le_of_ble_eq_true rfl⟩ dX4_holderOf_24 (fun r6 v5 H locs hw Z => ?_)
        refine lv_if_eq (tgt := 58) hx hb dX4_holderOf_27 (by decide) (fun c7 => ?_) (fun c7 => ?_)
        · replace hw := hw.1 c7
          exact b_X4_holderOf_58 l C0 hK2 _ _ _ _ _ _ _ hw Z (lv_sub hl [0, 1, 2, 3] rfl)
        · replace hw := hw.2 c7
          refine lv_iload_n hx hb dX4_holderOf_30 rfl (lv_at hl 2 rfl) ?_
          refine lv_i2l (v := (x2).toInt64) hx hb dX4_holderOf_31 rfl ?_
          refine lv_aload_n hx hb dX4_holderOf_32 rfl (lv_at hl 0 rfl) ?_
          refine lv_iload_n hx hb dX4_holderOf_33 rfl (lv_at hl 3 rfl) ?_
          refine lv_bipush (v := 8) hx hb dX4_holderOf_34 (by decide) ?_
          refine z_callVi C0 Z hl.1 (As := [.int x3, .int 8]) (rest := [.long ((x2).toInt64)]) (k_X4_of l (cx_g C0) hw) (gv_X4_of tm_5_163) rfl ds_X4_of ⟨Nat.le_of_ble_eq_true rfl, Nat.le_of_ble_eq_true rfl⟩ (ci := 4) rfl (cx_lt C0 (by decide)) rfl rfl rfl (Nat.le_of_ble_eq_true rfl) ⟨Nat.le_of_ble_eq_true rfl, Nat.le_of_ble_eq_true rfl⟩ dX4_holderOf_36 (fun r9 v8 H locs hw Z => ?_)
          refine lv_i2l (v := (r9).toInt64) hx hb dX4_holderOf_39 rfl ?_
          refine lv_aload_n hx hb dX4_holderOf_40 rfl (lv_at hl 0 rfl) ?_
          refine lv_iload_n hx hb dX4_holderOf_41 rfl (lv_at hl 3 rfl) ?_
          refine lv_bipush (v := 9) hx hb dX4_holderOf_42 (by decide) ?_
          refine z_callVi C0 Z hl.1 (As := [.int x3, .int 9]) (rest := [.long ((r9).toInt64), .long ((x2).toInt64)]) (k_X4_of l (cx_g C0) hw) (gv_X4_of tm_5_163) rfl ds_X4_of ⟨Nat.le_of_ble_eq_true rfl, Nat.le_of_ble_eq_true rfl⟩ (ci := 4) rfl (cx_lt C0 (by decide)) rfl rfl rfl (Nat.le_of_ble_eq_true rfl) ⟨Nat.le_of_ble_eq_true rfl, Nat.le_of_ble_eq_true rfl⟩ dX4_holderOf_44 (fun r11 v10 H locs hw Z => ?_)
          refine lv_iconst (v := 1) hx hb dX4_holderOf_47 (by decide) ?_
          refine lv_isub hx hb dX4_holderOf_48 ?_
          refine lv_i2l (v := (r11 - 1).toInt64) hx hb dX4_holderOf_49 rfl ?_
          refine z_callSi C0 Z hl.1 (As := [.long ((x2).toInt64), .long ((r9).toInt64), .long ((r11 - 1).toInt64)]) (rest := []) (k_X4_isBetween l (cx_g C0) hw) (gv_X4_isBetween tm_5_83) ds_X4_isBetween ⟨Nat.le_of_ble_eq_true rfl, Nat.le_of_ble_eq_true rfl⟩ rfl rfl (Nat.le_of_ble_eq_true rfl) ⟨Nat.le_of_ble_eq_true rfl, Nat.le_of_ble_eq_true rfl⟩ dX4_holderOf_50 (fun r13 v12 H locs hw Z => ?_)
          refine lv_if_eq (tgt := 58) hx hb dX4_holderOf_53 (by decide) (fun c14 => ?_) (fun c14 => ?_)
          · replace hw := hw.1 c14
            exact b_X4_holderOf_58 l C0 hK2 _ _ _ _ _ _ _ hw Z (lv_sub hl [0, 1, 2, 3] rfl)
          · replace hw := hw.2 c14
            refine lv_iload_n hx hb dX4_holderOf_56 rfl (lv_at hl 3 rfl) ?_
            exact z_iret C0 Z hw dX4_holderOf_57
set_option maxRecDepth 100000 in
set_option maxHeartbeats 4000000 in
theorem k_X4_holderOf (l : Launch) {G : zG} (hg : 129 ≤ gn G) {a1 : Int32} {a2 : Int32}  {v : V3} {Q : Int32 → V3 → Prop} (hw : w_X4_holderOf a1 a2 v Q) : Mz l yX4_holderOf cX4_holderOf 4 (some .int) 2 47 G [.ref (gad G 7), .int a1, .int a2] v (QiZ G Q) := by
  rw [w_X4_holderOf] at hw
  refine z_ofW hg (by decide) (Nat.le_of_ble_eq_true rfl) ?_
  intro p e s m args below meth c ls C0 Z hl
  have hx := C0.1
  have hb := C0.2.1
  replace hl : lv_has ls 4 [(0, .ref (gad G 7)), (1, .int a1), (2, .int a2)] := hl
  generalize s.heap = H at Z ⊢
  generalize ([] : List Loc) = locs at Z ⊢
  refine lv_iconst (v := 0) hx hb dX4_holderOf_0 (by decide) ?_
  refine lv_istore_n (lv' := [(3, .int 0), (0, .ref (gad G 7)), (1, .int a1), (2, .int a2)]) hx hb dX4_holderOf_1 rfl hl (by decide) rfl (fun ls hl => ?_)
  obtain ⟨m2, hw⟩ := hw
  exact b_X4_holderOf_2 l C0 m2 _ _ _ _ _ _ _ hw Z (lv_sub hl [1, 2, 3, 0] rfl)
-- X4_bytesAt: room (3, 70)
theorem dX4_bytesAt_0 : decode cX4_bytesAt 0 = .ok (.iconst 0, 1) := by decide +kernel
theorem dX4_bytesAt_1 : decode cX4_bytesAt 1 = .ok (.istore_n 2, 1) := by decide +kernel
theorem dX4_bytesAt_2 : decode cX4_bytesAt 2 = .ok (.iconst 0, 1) := by decide +kernel
theorem dX4_bytesAt_3 : decode cX4_bytesAt 3 = .ok (.istore_n 3, 1) := by decide +kernel
theorem dX4_bytesAt_4 : decode cX4_bytesAt 4 = .ok (.iload_n 3, 1) := by decide +kernel
theorem dX4_bytesAt_5 : decode cX4_bytesAt 5 = .ok (.aload_n 0, 1) := by decide +kernel
theorem dX4_bytesAt_6 : decode cX4_bytesAt 6 = .ok (.getfield 7, 3) := by decide +kernel
theorem dX4_bytesAt_9 : decode cX4_bytesAt 9 = .ok (.iconst 4, 1) := by decide +kernel
theorem dX4_bytesAt_10 : decode cX4_bytesAt 10 = .ok (.iaload, 1) := by decide +kernel
theorem dX4_bytesAt_11 : decode cX4_bytesAt 11 = .ok (.if_icmp .ge 27, 3) := by decide +kernel
theorem dX4_bytesAt_14 : decode cX4_bytesAt 14 = .ok (.iload_n 2, 1) := by decide +kernel
theorem dX4_bytesAt_15 : decode cX4_bytesAt 15 = .ok (.aload_n 0, 1) := by decide +kernel
theorem dX4_bytesAt_16 : decode cX4_bytesAt 16 = .ok (.iload_n 3, 1) := by decide +kernel
theorem dX4_bytesAt_17 : decode cX4_bytesAt 17 = .ok (.iload_n 1, 1) := by decide +kernel
theorem dX4_bytesAt_18 : decode cX4_bytesAt 18 = .ok (.invokevirtual 217, 3) := by decide +kernel
theorem dX4_bytesAt_21 : decode cX4_bytesAt 21 = .ok (.iconst (-1), 1) := by decide +kernel
theorem dX4_bytesAt_22 : decode cX4_bytesAt 22 = .ok (.if_icmp .ne 7, 3) := by decide +kernel
theorem dX4_bytesAt_25 : decode cX4_bytesAt 25 = .ok (.iconst 0, 1) := by decide +kernel
theorem dX4_bytesAt_26 : decode cX4_bytesAt 26 = .ok (.goto 4, 3) := by decide +kernel
theorem dX4_bytesAt_29 : decode cX4_bytesAt 29 = .ok (.iconst 1, 1) := by decide +kernel
theorem dX4_bytesAt_30 : decode cX4_bytesAt 30 = .ok (.iadd, 1) := by decide +kernel
theorem dX4_bytesAt_31 : decode cX4_bytesAt 31 = .ok (.istore_n 2, 1) := by decide +kernel
theorem dX4_bytesAt_32 : decode cX4_bytesAt 32 = .ok (.iinc 3 1, 3) := by decide +kernel
theorem dX4_bytesAt_35 : decode cX4_bytesAt 35 = .ok (.goto (-31), 3) := by decide +kernel
theorem dX4_bytesAt_38 : decode cX4_bytesAt 38 = .ok (.iload_n 2, 1) := by decide +kernel
theorem dX4_bytesAt_39 : decode cX4_bytesAt 39 = .ok (.ireturn, 1) := by decide +kernel
def w_X4_bytesAt_30  (Q : Int32 → V3 → Prop) (K4 : Int32 → Int32 → Int32 → V3 → Prop) (x1 : Int32) (x3 : Int32) (s0 : Int32) (s1 : Int32) (v : V3) : Prop := K4 x1 (s0 + s1) (x3 + 1) v
def w_X4_bytesAt_4  (Q : Int32 → V3 → Prop) : Nat → Int32 → Int32 → Int32 → V3 → Prop
  | 0, _, _, _, _ => False
  | n4 + 1, x1, x2, x3, v => (((v 8 4) ≤ x3 → Q x2 v) ∧ (¬ (v 8 4) ≤ x3 → w_X4_holderOf x3 x1 v (fun r3 v2 => ((¬ r3 = (-1) → w_X4_bytesAt_30 Q (w_X4_bytesAt_4 Q n4) x1 x3 x2 1 v2) ∧ (r3 = (-1) → w_X4_bytesAt_30 Q (w_X4_bytesAt_4 Q n4) x1 x3 x2 0 v2)))))
def w_X4_bytesAt (a1 : Int32) (v : V3) (Q : Int32 → V3 → Prop) : Prop := ∃ m4 : Nat, w_X4_bytesAt_4 Q m4 a1 0 0 v
set_option maxRecDepth 100000 in
set_option maxHeartbeats 4000000 in
theorem b_X4_bytesAt_30 {p : Program} (l : Launch) {e : Env} {s : State} {m : MethodId} {args : Array Value} {below : List Frame} {meth : Method} {c : Code} {G : zG}   (C0 : Cx G RX4 cX4_bytesAt 4 (some .int) p s m args meth c) {Q : Int32 → V3 → Prop} {K4 : Int32 → Int32 → Int32 → V3 → Prop} (hK4 : ∀ (x1 : Int32) (x2 : Int32) (x3 : Int32) (v : V3) (H : Heap) (locs : List Loc) (ls : Array Slot), K4 x1 x2 x3 v → Zs G s v H locs → lv_has ls 4 [(0, .ref (gad G 7)), (1, .int x1), (2, .int x2), (3, .int x3)] → W p l e { frames := 3, cells := 0, slots := 0, locals := 70 } s m args below meth c H locs 0 0 (MQ below (QiZ G Q) args s 0 0 (zA G)) (F0 m 4 ls [])) : ∀ (x1 : Int32) (x3 : Int32) (s0 : Int32) (s1 : Int32) (v : V3) (H : Heap) (locs : List Loc) (ls : Array Slot), w_X4_bytesAt_30 Q K4 x1 x3 s0 s1 v → Zs G s v H locs → lv_has ls 4 [(0, .ref (gad G 7)), (1, .int x1), (3, .int x3)] → W p l e { frames := 3, cells := 0, slots := 0, locals := 70 } s m args below meth c H locs 0 0 (MQ below (QiZ G Q) args s 0 0 (zA G)) (F0 m 30 ls [.int s1, .int s0]) := by
  have hx := C0.1
  have hb := C0.2.1
  intro x1 x3 s0 s1 v H locs ls hw Z hl
  rw [w_X4_bytesAt_30] at hw
  refine lv_iadd hx hb dX4_bytesAt_30 ?_
  refine lv_istore_n (lv' := [(2, .int (s0 + s1)), (0, .ref (gad G 7)), (1, .int x1), (3, .int x3)]) hx hb dX4_bytesAt_31 rfl hl (by decide) rfl (fun ls hl => ?_)
  refine lv_iinc (v := x3 + 1) (lv' := [(3, .int (x3 + 1)), (2, .int (s0 + s1)), (0, .ref (gad G 7)), (1, .int x1)]) hx hb dX4_bytesAt_32 hl (k := 3) rfl rfl (by decide) rfl (fun ls hl => ?_)
  refine lv_goto (tgt := 4) hx hb dX4_bytesAt_35 (by decide) ?_
  exact hK4 _ _ _ _ _ _ _ hw Z (lv_sub hl [2, 3, 1, 0] rfl)
set_option maxRecDepth 100000 in
set_option maxHeartbeats 4000000 in
theorem b_X4_bytesAt_4 {p : Program} (l : Launch) {e : Env} {s : State} {m : MethodId} {args : Array Value} {below : List Frame} {meth : Method} {c : Code} {G : zG}   (C0 : Cx G RX4 cX4_bytesAt 4 (some .int) p s m args meth c) {Q : Int32 → V3 → Prop} : ∀ (n : Nat) (x1 : Int32) (x2 : Int32) (x3 : Int32) (v : V3) (H : Heap) (locs : List Loc) (ls : Array Slot), w_X4_bytesAt_4 Q n x1 x2 x3 v → Zs G s v H locs → lv_has ls 4 [(0, .ref (gad G 7)), (1, .int x1), (2, .int x2), (3, .int x3)] → W p l e { frames := 3, cells := 0, slots := 0, locals := 70 } s m args below meth c H locs 0 0 (MQ below (QiZ G Q) args s 0 0 (zA G)) (F0 m 4 ls []) := by
  have hx := C0.1
  have hb := C0.2.1
  intro n
  induction n with
  | zero =>
    intro x1 x2 x3 v H locs ls hw Z hl
    exact hw.elim
  | succ n hK4 =>
    intro x1 x2 x3 v H locs ls hw Z hl
    rw [w_X4_bytesAt_4] at hw
    refine lv_iload_n hx hb dX4_bytesAt_4 rfl (lv_at hl 3 rfl) ?_
    refine lv_aload_n hx hb dX4_bytesAt_5 rfl (lv_at hl 0 rfl) ?_
    refine z_get C0 Z in_X4 rfl 0 (by decide) rfl tm_4_203 (cx_lt C0 (by decide)) rfl rfl dX4_bytesAt_6 ?_
    refine lv_iconst (v := 4) hx hb dX4_bytesAt_9 (by decide) ?_
    refine z_ialdk C0 Z (cx_lt C0 (by decide)) rfl in_4_474 nc_4 dX4_bytesAt_10 ?_
    refine lv_icmp_ge (tgt := 38) hx hb dX4_bytesAt_11 (by decide) (fun c1 => ?_) (fun c1 => ?_)
    · replace hw := hw.1 c1
      refine lv_iload_n hx hb dX4_bytesAt_38 rfl (lv_at hl 2 rfl) ?_
      exact z_iret C0 Z hw dX4_bytesAt_39
    · replace hw := hw.2 c1
      refine lv_iload_n hx hb dX4_bytesAt_14 rfl (lv_at hl 2 rfl) ?_
      refine lv_aload_n hx hb dX4_bytesAt_15 rfl (lv_at hl 0 rfl) ?_
      refine lv_iload_n hx hb dX4_bytesAt_16 rfl (lv_at hl 3 rfl) ?_
      refine lv_iload_n hx hb dX4_bytesAt_17 rfl (lv_at hl 1 rfl) ?_
      refine z_callVi C0 Z hl.1 (As := [.int x3, .int x1]) (rest := [.int x2]) (k_X4_holderOf l (cx_g C0) hw) (gv_X4_holderOf tm_6_5) rfl ds_X4_holderOf ⟨Nat.le_of_ble_eq_true rfl, Nat.le_of_ble_eq_true rfl⟩ (ci := 4) rfl (cx_lt C0 (by decide)) rfl rfl rfl (Nat.le_of_ble_eq_true rfl) ⟨Nat.le_of_ble_eq_true rfl, Nat.le_of_ble_eq_true rfl⟩ dX4_bytesAt_18 (fun r3 v2 H locs hw Z => ?_)
      refine lv_iconst (v := (-1)) hx hb dX4_bytesAt_21 (by decide) ?_
      refine lv_icmp_ne (tgt := 29) hx hb dX4_bytesAt_22 (by decide) (fun c4 => ?_) (fun c4 => ?_)
      · replace hw := hw.1 c4
        refine lv_iconst (v := 1) hx hb dX4_bytesAt_29 (by decide) ?_
        exact b_X4_bytesAt_30 l C0 hK4 _ _ _ _ _ _ _ _ hw Z (lv_sub hl [0, 1, 3] rfl)
      · replace hw := hw.2 c4
        refine lv_iconst (v := 0) hx hb dX4_bytesAt_25 (by decide) ?_
        refine lv_goto (tgt := 30) hx hb dX4_bytesAt_26 (by decide) ?_
        exact b_X4_bytesAt_30 l C0 hK4 _ _ _ _ _ _ _ _ hw Z (lv_sub hl [0, 1, 3] rfl)
set_option maxRecDepth 100000 in
set_option maxHeartbeats 4000000 in
theorem k_X4_bytesAt (l : Launch) {G : zG} (hg : 129 ≤ gn G) {a1 : Int32}  {v : V3} {Q : Int32 → V3 → Prop} (hw : w_X4_bytesAt a1 v Q) : Mz l yX4_bytesAt cX4_bytesAt 4 (some .int) 3 70 G [.ref (gad G 7), .int a1] v (QiZ G Q) := by
  rw [w_X4_bytesAt] at hw
  refine z_ofW hg (by decide) (Nat.le_of_ble_eq_true rfl) ?_
  intro p e s m args below meth c ls C0 Z hl
  have hx := C0.1
  have hb := C0.2.1
  replace hl : lv_has ls 4 [(0, .ref (gad G 7)), (1, .int a1)] := hl
  generalize s.heap = H at Z ⊢
  generalize ([] : List Loc) = locs at Z ⊢
  refine lv_iconst (v := 0) hx hb dX4_bytesAt_0 (by decide) ?_
  refine lv_istore_n (lv' := [(2, .int 0), (0, .ref (gad G 7)), (1, .int a1)]) hx hb dX4_bytesAt_1 rfl hl (by decide) rfl (fun ls hl => ?_)
  refine lv_iconst (v := 0) hx hb dX4_bytesAt_2 (by decide) ?_
  refine lv_istore_n (lv' := [(3, .int 0), (2, .int 0), (0, .ref (gad G 7)), (1, .int a1)]) hx hb dX4_bytesAt_3 rfl hl (by decide) rfl (fun ls hl => ?_)
  obtain ⟨m4, hw⟩ := hw
  exact b_X4_bytesAt_4 l C0 m4 _ _ _ _ _ _ _ hw Z (lv_sub hl [2, 3, 1, 0] rfl)
-- X4_broken: room (1, 22)
theorem dX4_broken_0 : decode cX4_broken 0 = .ok (.aload_n 0, 1) := by decide +kernel
theorem dX4_broken_1 : decode cX4_broken 1 = .ok (.iload_n 1, 1) := by decide +kernel
theorem dX4_broken_2 : decode cX4_broken 2 = .ok (.iconst 2, 1) := by decide +kernel
theorem dX4_broken_3 : decode cX4_broken 3 = .ok (.invokevirtual 228, 3) := by decide +kernel
theorem dX4_broken_6 : decode cX4_broken 6 = .ok (.aload_n 0, 1) := by decide +kernel
theorem dX4_broken_7 : decode cX4_broken 7 = .ok (.iload_n 1, 1) := by decide +kernel
theorem dX4_broken_8 : decode cX4_broken 8 = .ok (.iconst 3, 1) := by decide +kernel
theorem dX4_broken_9 : decode cX4_broken 9 = .ok (.invokevirtual 228, 3) := by decide +kernel
theorem dX4_broken_12 : decode cX4_broken 12 = .ok (.iadd, 1) := by decide +kernel
theorem dX4_broken_13 : decode cX4_broken 13 = .ok (.ireturn, 1) := by decide +kernel
def w_X4_broken (a1 : Int32) (v : V3) (Q : Int32 → V3 → Prop) : Prop := w_X4_ofOwner a1 2 v (fun r2 v1 => w_X4_ofOwner a1 3 v1 (fun r4 v3 => Q (r2 + r4) v3))
set_option maxRecDepth 100000 in
set_option maxHeartbeats 4000000 in
theorem k_X4_broken (l : Launch) {G : zG} (hg : 129 ≤ gn G) {a1 : Int32}  {v : V3} {Q : Int32 → V3 → Prop} (hw : w_X4_broken a1 v Q) : Mz l yX4_broken cX4_broken 2 (some .int) 1 22 G [.ref (gad G 7), .int a1] v (QiZ G Q) := by
  rw [w_X4_broken] at hw
  refine z_ofW hg (by decide) (Nat.le_of_ble_eq_true rfl) ?_
  intro p e s m args below meth c ls C0 Z hl
  have hx := C0.1
  have hb := C0.2.1
  replace hl : lv_has ls 2 [(0, .ref (gad G 7)), (1, .int a1)] := hl
  generalize s.heap = H at Z ⊢
  generalize ([] : List Loc) = locs at Z ⊢
  refine lv_aload_n hx hb dX4_broken_0 rfl (lv_at hl 0 rfl) ?_
  refine lv_iload_n hx hb dX4_broken_1 rfl (lv_at hl 1 rfl) ?_
  refine lv_iconst (v := 2) hx hb dX4_broken_2 (by decide) ?_
  refine z_callVi C0 Z hl.1 (As := [.int a1, .int 2]) (rest := []) (k_X4_ofOwner l (cx_g C0) hw) (gv_X4_ofOwner tm_6_26) rfl ds_X4_ofOwner ⟨Nat.le_of_ble_eq_true rfl, Nat.le_of_ble_eq_true rfl⟩ (ci := 4) rfl (cx_lt C0 (by decide)) rfl rfl rfl (Nat.le_of_ble_eq_true rfl) ⟨Nat.le_of_ble_eq_true rfl, Nat.le_of_ble_eq_true rfl⟩ dX4_broken_3 (fun r2 v1 H locs hw Z => ?_)
  refine lv_aload_n hx hb dX4_broken_6 rfl (lv_at hl 0 rfl) ?_
  refine lv_iload_n hx hb dX4_broken_7 rfl (lv_at hl 1 rfl) ?_
  refine lv_iconst (v := 3) hx hb dX4_broken_8 (by decide) ?_
  refine z_callVi C0 Z hl.1 (As := [.int a1, .int 3]) (rest := [.int r2]) (k_X4_ofOwner l (cx_g C0) hw) (gv_X4_ofOwner tm_6_26) rfl ds_X4_ofOwner ⟨Nat.le_of_ble_eq_true rfl, Nat.le_of_ble_eq_true rfl⟩ (ci := 4) rfl (cx_lt C0 (by decide)) rfl rfl rfl (Nat.le_of_ble_eq_true rfl) ⟨Nat.le_of_ble_eq_true rfl, Nat.le_of_ble_eq_true rfl⟩ dX4_broken_9 (fun r4 v3 H locs hw Z => ?_)
  refine lv_iadd hx hb dX4_broken_12 ?_
  exact z_iret C0 Z hw dX4_broken_13
-- X4_openBookings: room (1, 22)
theorem dX4_openBookings_0 : decode cX4_openBookings 0 = .ok (.iconst 0, 1) := by decide +kernel
theorem dX4_openBookings_1 : decode cX4_openBookings 1 = .ok (.istore_n 2, 1) := by decide +kernel
theorem dX4_openBookings_2 : decode cX4_openBookings 2 = .ok (.iconst 0, 1) := by decide +kernel
theorem dX4_openBookings_3 : decode cX4_openBookings 3 = .ok (.istore_n 3, 1) := by decide +kernel
theorem dX4_openBookings_4 : decode cX4_openBookings 4 = .ok (.iload_n 3, 1) := by decide +kernel
theorem dX4_openBookings_5 : decode cX4_openBookings 5 = .ok (.aload_n 0, 1) := by decide +kernel
theorem dX4_openBookings_6 : decode cX4_openBookings 6 = .ok (.getfield 7, 3) := by decide +kernel
theorem dX4_openBookings_9 : decode cX4_openBookings 9 = .ok (.bipush 6, 2) := by decide +kernel
theorem dX4_openBookings_11 : decode cX4_openBookings 11 = .ok (.iaload, 1) := by decide +kernel
theorem dX4_openBookings_12 : decode cX4_openBookings 12 = .ok (.if_icmp .ge 38, 3) := by decide +kernel
theorem dX4_openBookings_15 : decode cX4_openBookings 15 = .ok (.iload_n 2, 1) := by decide +kernel
theorem dX4_openBookings_16 : decode cX4_openBookings 16 = .ok (.aload_n 0, 1) := by decide +kernel
theorem dX4_openBookings_17 : decode cX4_openBookings 17 = .ok (.iload_n 3, 1) := by decide +kernel
theorem dX4_openBookings_18 : decode cX4_openBookings 18 = .ok (.iconst 0, 1) := by decide +kernel
theorem dX4_openBookings_19 : decode cX4_openBookings 19 = .ok (.invokevirtual 71, 3) := by decide +kernel
theorem dX4_openBookings_22 : decode cX4_openBookings 22 = .ok (.iload_n 1, 1) := by decide +kernel
theorem dX4_openBookings_23 : decode cX4_openBookings 23 = .ok (.if_icmp .ne 18, 3) := by decide +kernel
theorem dX4_openBookings_26 : decode cX4_openBookings 26 = .ok (.aload_n 0, 1) := by decide +kernel
theorem dX4_openBookings_27 : decode cX4_openBookings 27 = .ok (.iload_n 3, 1) := by decide +kernel
theorem dX4_openBookings_28 : decode cX4_openBookings 28 = .ok (.bipush 7, 2) := by decide +kernel
theorem dX4_openBookings_30 : decode cX4_openBookings 30 = .ok (.invokevirtual 71, 3) := by decide +kernel
theorem dX4_openBookings_33 : decode cX4_openBookings 33 = .ok (.iconst 2, 1) := by decide +kernel
theorem dX4_openBookings_34 : decode cX4_openBookings 34 = .ok (.if_icmp .gt 7, 3) := by decide +kernel
theorem dX4_openBookings_37 : decode cX4_openBookings 37 = .ok (.iconst 1, 1) := by decide +kernel
theorem dX4_openBookings_38 : decode cX4_openBookings 38 = .ok (.goto 4, 3) := by decide +kernel
theorem dX4_openBookings_41 : decode cX4_openBookings 41 = .ok (.iconst 0, 1) := by decide +kernel
theorem dX4_openBookings_42 : decode cX4_openBookings 42 = .ok (.iadd, 1) := by decide +kernel
theorem dX4_openBookings_43 : decode cX4_openBookings 43 = .ok (.istore_n 2, 1) := by decide +kernel
theorem dX4_openBookings_44 : decode cX4_openBookings 44 = .ok (.iinc 3 1, 3) := by decide +kernel
theorem dX4_openBookings_47 : decode cX4_openBookings 47 = .ok (.goto (-43), 3) := by decide +kernel
theorem dX4_openBookings_50 : decode cX4_openBookings 50 = .ok (.iload_n 2, 1) := by decide +kernel
theorem dX4_openBookings_51 : decode cX4_openBookings 51 = .ok (.ireturn, 1) := by decide +kernel
def w_X4_openBookings_42  (Q : Int32 → V3 → Prop) (K4 : Int32 → Int32 → Int32 → V3 → Prop) (x1 : Int32) (x3 : Int32) (s0 : Int32) (s1 : Int32) (v : V3) : Prop := K4 x1 (s0 + s1) (x3 + 1) v
def w_X4_openBookings_41  (Q : Int32 → V3 → Prop) (K4 : Int32 → Int32 → Int32 → V3 → Prop) (x1 : Int32) (x3 : Int32) (s0 : Int32) (v : V3) : Prop := w_X4_openBookings_42 Q K4 x1 x3 s0 0 v
def w_X4_openBookings_4  (Q : Int32 → V3 → Prop) : Nat → Int32 → Int32 → Int32 → V3 → Prop
  | 0, _, _, _, _ => False
  | n4 + 1, x1, x2, x3, v => (((v 8 6) ≤ x3 → Q x2 v) ∧ (¬ (v 8 6) ≤ x3 → w_X4_of x3 0 v (fun r3 v2 => ((¬ r3 = x1 → w_X4_openBookings_41 Q (w_X4_openBookings_4 Q n4) x1 x3 x2 v2) ∧ (r3 = x1 → w_X4_of x3 7 v2 (fun r6 v5 => ((2 < r6 → w_X4_openBookings_41 Q (w_X4_openBookings_4 Q n4) x1 x3 x2 v5) ∧ (¬ 2 < r6 → w_X4_openBookings_42 Q (w_X4_openBookings_4 Q n4) x1 x3 x2 1 v5))))))))
def w_X4_openBookings (a1 : Int32) (v : V3) (Q : Int32 → V3 → Prop) : Prop := ∃ m4 : Nat, w_X4_openBookings_4 Q m4 a1 0 0 v
set_option maxRecDepth 100000 in
set_option maxHeartbeats 4000000 in
theorem b_X4_openBookings_42 {p : Program} (l : Launch) {e : Env} {s : State} {m : MethodId} {args : Array Value} {below : List Frame} {meth : Method} {c : Code} {G : zG}   (C0 : Cx G RX4 cX4_openBookings 4 (some .int) p s m args meth c) {Q : Int32 → V3 → Prop} {K4 : Int32 → Int32 → Int32 → V3 → Prop} (hK4 : ∀ (x1 : Int32) (x2 : Int32) (x3 : Int32) (v : V3) (H : Heap) (locs : List Loc) (ls : Array Slot), K4 x1 x2 x3 v → Zs G s v H locs → lv_has ls 4 [(0, .ref (gad G 7)), (1, .int x1), (2, .int x2), (3, .int x3)] → W p l e { frames := 1, cells := 0, slots := 0, locals := 22 } s m args below meth c H locs 0 0 (MQ below (QiZ G Q) args s 0 0 (zA G)) (F0 m 4 ls [])) : ∀ (x1 : Int32) (x3 : Int32) (s0 : Int32) (s1 : Int32) (v : V3) (H : Heap) (locs : List Loc) (ls : Array Slot), w_X4_openBookings_42 Q K4 x1 x3 s0 s1 v → Zs G s v H locs → lv_has ls 4 [(0, .ref (gad G 7)), (1, .int x1), (3, .int x3)] → W p l e { frames := 1, cells := 0, slots := 0, locals := 22 } s m args below meth c H locs 0 0 (MQ below (QiZ G Q) args s 0 0 (zA G)) (F0 m 42 ls [.int s1, .int s0]) := by
  have hx := C0.1
  have hb := C0.2.1
  intro x1 x3 s0 s1 v H locs ls hw Z hl
  rw [w_X4_openBookings_42] at hw
  refine lv_iadd hx hb dX4_openBookings_42 ?_
  refine lv_istore_n (lv' := [(2, .int (s0 + s1)), (0, .ref (gad G 7)), (1, .int x1), (3, .int x3)]) hx hb dX4_openBookings_43 rfl hl (by decide) rfl (fun ls hl => ?_)
  refine lv_iinc (v := x3 + 1) (lv' := [(3, .int (x3 + 1)), (2, .int (s0 + s1)), (0, .ref (gad G 7)), (1, .int x1)]) hx hb dX4_openBookings_44 hl (k := 3) rfl rfl (by decide) rfl (fun ls hl => ?_)
  refine lv_goto (tgt := 4) hx hb dX4_openBookings_47 (by decide) ?_
  exact hK4 _ _ _ _ _ _ _ hw Z (lv_sub hl [2, 3, 1, 0] rfl)
set_option maxRecDepth 100000 in
set_option maxHeartbeats 4000000 in
theorem b_X4_openBookings_41 {p : Program} (l : Launch) {e : Env} {s : State} {m : MethodId} {args : Array Value} {below : List Frame} {meth : Method} {c : Code} {G : zG}   (C0 : Cx G RX4 cX4_openBookings 4 (some .int) p s m args meth c) {Q : Int32 → V3 → Prop} {K4 : Int32 → Int32 → Int32 → V3 → Prop} (hK4 : ∀ (x1 : Int32) (x2 : Int32) (x3 : Int32) (v : V3) (H : Heap) (locs : List Loc) (ls : Array Slot), K4 x1 x2 x3 v → Zs G s v H locs → lv_has ls 4 [(0, .ref (gad G 7)), (1, .int x1), (2, .int x2), (3, .int x3)] → W p l e { frames := 1, cells := 0, slots := 0, locals := 22 } s m args below meth c H locs 0 0 (MQ below (QiZ G Q) args s 0 0 (zA G)) (F0 m 4 ls [])) : ∀ (x1 : Int32) (x3 : Int32) (s0 : Int32) (v : V3) (H : Heap) (locs : List Loc) (ls : Array Slot), w_X4_openBookings_41 Q K4 x1 x3 s0 v → Zs G s v H locs → lv_has ls 4 [(0, .ref (gad G 7)), (1, .int x1), (3, .int x3)] → W p l e { frames := 1, cells := 0, slots := 0, locals := 22 } s m args below meth c H locs 0 0 (MQ below (QiZ G Q) args s 0 0 (zA G)) (F0 m 41 ls [.int s0]) := by
  have hx := C0.1
  have hb := C0.2.1
  intro x1 x3 s0 v H locs ls hw Z hl
  rw [w_X4_openBookings_41] at hw
  refine lv_iconst (v := 0) hx hb dX4_openBookings_41 (by decide) ?_
  exact b_X4_openBookings_42 l C0 hK4 _ _ _ _ _ _ _ _ hw Z (lv_sub hl [0, 1, 2] rfl)
set_option maxRecDepth 100000 in
set_option maxHeartbeats 4000000 in
theorem b_X4_openBookings_4 {p : Program} (l : Launch) {e : Env} {s : State} {m : MethodId} {args : Array Value} {below : List Frame} {meth : Method} {c : Code} {G : zG}   (C0 : Cx G RX4 cX4_openBookings 4 (some .int) p s m args meth c) {Q : Int32 → V3 → Prop} : ∀ (n : Nat) (x1 : Int32) (x2 : Int32) (x3 : Int32) (v : V3) (H : Heap) (locs : List Loc) (ls : Array Slot), w_X4_openBookings_4 Q n x1 x2 x3 v → Zs G s v H locs → lv_has ls 4 [(0, .ref (gad G 7)), (1, .int x1), (2, .int x2), (3, .int x3)] → W p l e { frames := 1, cells := 0, slots := 0, locals := 22 } s m args below meth c H locs 0 0 (MQ below (QiZ G Q) args s 0 0 (zA G)) (F0 m 4 ls []) := by
  have hx := C0.1
  have hb := C0.2.1
  intro n
  induction n with
  | zero =>
    intro x1 x2 x3 v H locs ls hw Z hl
    exact hw.elim
  | succ n hK4 =>
    intro x1 x2 x3 v H locs ls hw Z hl
    rw [w_X4_openBookings_4] at hw
    refine lv_iload_n hx hb dX4_openBookings_4 rfl (lv_at hl 3 rfl) ?_
    refine lv_aload_n hx hb dX4_openBookings_5 rfl (lv_at hl 0 rfl) ?_
    refine z_get C0 Z in_X4 rfl 0 (by decide) rfl tm_4_203 (cx_lt C0 (by decide)) rfl rfl dX4_openBookings_6 ?_
    refine lv_bipush (v := 6) hx hb dX4_openBookings_9 (by decide) ?_
    refine z_ialdk C0 Z (cx_lt C0 (by decide)) rfl in_6_474 nc_6 dX4_openBookings_11 ?_
    refine lv_icmp_ge (tgt := 50) hx hb dX4_openBookings_12 (by decide) (fun c1 => ?_) (fun c1 => ?_)
    · replace hw := hw.1 c1
      refine lv_iload_n hx hb dX4_openBookings_50 rfl (lv_at hl 2 rfl) ?_
      exact z_iret C0 Z hw dX4_openBookings_51
    · replace hw := hw.2 c1
      refine lv_iload_n hx hb dX4_openBookings_15 rfl (lv_at hl 2 rfl) ?_
      refine lv_aload_n hx hb dX4_openBookings_16 rfl (lv_at hl 0 rfl) ?_
      refine lv_iload_n hx hb dX4_openBookings_17 rfl (lv_at hl 3 rfl) ?_
      refine lv_iconst (v := 0) hx hb dX4_openBookings_18 (by decide) ?_
      refine z_callVi C0 Z hl.1 (As := [.int x3, .int 0]) (rest := [.int x2]) (k_X4_of l (cx_g C0) hw) (gv_X4_of tm_5_163) rfl ds_X4_of ⟨Nat.le_of_ble_eq_true rfl, Nat.le_of_ble_eq_true rfl⟩ (ci := 4) rfl (cx_lt C0 (by decide)) rfl rfl rfl (Nat.le_of_ble_eq_true rfl) ⟨Nat.le_of_ble_eq_true rfl, Nat.le_of_ble_eq_true rfl⟩ dX4_openBookings_19 (fun r3 v2 H locs hw Z => ?_)
      refine lv_iload_n hx hb dX4_openBookings_22 rfl (lv_at hl 1 rfl) ?_
      refine lv_icmp_ne (tgt := 41) hx hb dX4_openBookings_23 (by decide) (fun c4 => ?_) (fun c4 => ?_)
      · replace hw := hw.1 c4
        exact b_X4_openBookings_41 l C0 hK4 _ _ _ _ _ _ _ hw Z (lv_sub hl [0, 1, 3] rfl)
      · replace hw := hw.2 c4
        refine lv_aload_n hx hb dX4_openBookings_26 rfl (lv_at hl 0 rfl) ?_
        refine lv_iload_n hx hb dX4_openBookings_27 rfl (lv_at hl 3 rfl) ?_
        refine lv_bipush (v := 7) hx hb dX4_openBookings_28 (by decide) ?_
        refine z_callVi C0 Z hl.1 (As := [.int x3, .int 7]) (rest := [.int x2]) (k_X4_of l (cx_g C0) hw) (gv_X4_of tm_5_163) rfl ds_X4_of ⟨Nat.le_of_ble_eq_true rfl, Nat.le_of_ble_eq_true rfl⟩ (ci := 4) rfl (cx_lt C0 (by decide)) rfl rfl rfl (Nat.le_of_ble_eq_true rfl) ⟨Nat.le_of_ble_eq_true rfl, Nat.le_of_ble_eq_true rfl⟩ dX4_openBookings_30 (fun r6 v5 H locs hw Z => ?_)
        refine lv_iconst (v := 2) hx hb dX4_openBookings_33 (by decide) ?_
        refine lv_icmp_gt (tgt := 41) hx hb dX4_openBookings_34 (by decide) (fun c7 => ?_) (fun c7 => ?_)
        · replace hw := hw.1 c7
          exact b_X4_openBookings_41 l C0 hK4 _ _ _ _ _ _ _ hw Z (lv_sub hl [0, 1, 3] rfl)
        · replace hw := hw.2 c7
          refine lv_iconst (v := 1) hx hb dX4_openBookings_37 (by decide) ?_
          refine lv_goto (tgt := 42) hx hb dX4_openBookings_38 (by decide) ?_
          exact b_X4_openBookings_42 l C0 hK4 _ _ _ _ _ _ _ _ hw Z (lv_sub hl [0, 1, 3] rfl)
set_option maxRecDepth 100000 in
set_option maxHeartbeats 4000000 in
theorem k_X4_openBookings (l : Launch) {G : zG} (hg : 129 ≤ gn G) {a1 : Int32}  {v : V3} {Q : Int32 → V3 → Prop} (hw : w_X4_openBookings a1 v Q) : Mz l yX4_openBookings cX4_openBookings 4 (some .int) 1 22 G [.ref (gad G 7), .int a1] v (QiZ G Q) := by
  rw [w_X4_openBookings] at hw
  refine z_ofW hg (by decide) (Nat.le_of_ble_eq_true rfl) ?_
  intro p e s m args below meth c ls C0 Z hl
  have hx := C0.1
  have hb := C0.2.1
  replace hl : lv_has ls 4 [(0, .ref (gad G 7)), (1, .int a1)] := hl
  generalize s.heap = H at Z ⊢
  generalize ([] : List Loc) = locs at Z ⊢
  refine lv_iconst (v := 0) hx hb dX4_openBookings_0 (by decide) ?_
  refine lv_istore_n (lv' := [(2, .int 0), (0, .ref (gad G 7)), (1, .int a1)]) hx hb dX4_openBookings_1 rfl hl (by decide) rfl (fun ls hl => ?_)
  refine lv_iconst (v := 0) hx hb dX4_openBookings_2 (by decide) ?_
  refine lv_istore_n (lv' := [(3, .int 0), (2, .int 0), (0, .ref (gad G 7)), (1, .int a1)]) hx hb dX4_openBookings_3 rfl hl (by decide) rfl (fun ls hl => ?_)
  obtain ⟨m4, hw⟩ := hw
  exact b_X4_openBookings_4 l C0 m4 _ _ _ _ _ _ _ hw Z (lv_sub hl [2, 3, 1, 0] rfl)
-- X4_joyOf: room (1, 24)
theorem dX4_joyOf_0 : decode cX4_joyOf 0 = .ok (.aload_n 0, 1) := by decide +kernel
theorem dX4_joyOf_1 : decode cX4_joyOf 1 = .ok (.iload_n 1, 1) := by decide +kernel
theorem dX4_joyOf_2 : decode cX4_joyOf 2 = .ok (.bipush 6, 2) := by decide +kernel
theorem dX4_joyOf_4 : decode cX4_joyOf 4 = .ok (.invokevirtual 71, 3) := by decide +kernel
theorem dX4_joyOf_7 : decode cX4_joyOf 7 = .ok (.iconst 0, 1) := by decide +kernel
theorem dX4_joyOf_8 : decode cX4_joyOf 8 = .ok (.bipush 20, 2) := by decide +kernel
theorem dX4_joyOf_10 : decode cX4_joyOf 10 = .ok (.iload_n 2, 1) := by decide +kernel
theorem dX4_joyOf_11 : decode cX4_joyOf 11 = .ok (.aload_n 0, 1) := by decide +kernel
theorem dX4_joyOf_12 : decode cX4_joyOf 12 = .ok (.iload_n 1, 1) := by decide +kernel
theorem dX4_joyOf_13 : decode cX4_joyOf 13 = .ok (.iconst 4, 1) := by decide +kernel
theorem dX4_joyOf_14 : decode cX4_joyOf 14 = .ok (.invokevirtual 71, 3) := by decide +kernel
theorem dX4_joyOf_17 : decode cX4_joyOf 17 = .ok (.isub, 1) := by decide +kernel
theorem dX4_joyOf_18 : decode cX4_joyOf 18 = .ok (.invokestatic 231, 3) := by decide +kernel
theorem dX4_joyOf_21 : decode cX4_joyOf 21 = .ok (.isub, 1) := by decide +kernel
theorem dX4_joyOf_22 : decode cX4_joyOf 22 = .ok (.invokestatic 236, 3) := by decide +kernel
theorem dX4_joyOf_25 : decode cX4_joyOf 25 = .ok (.imul, 1) := by decide +kernel
theorem dX4_joyOf_26 : decode cX4_joyOf 26 = .ok (.ireturn, 1) := by decide +kernel
def w_X4_joyOf (a1 : Int32) (a2 : Int32) (v : V3) (Q : Int32 → V3 → Prop) : Prop := w_X4_of a1 6 v (fun r2 v1 => w_X4_of a1 4 v1 (fun r4 v3 => Q (r2 * (zmax 0 (20 - (zabs (a2 - r4))))) v3))
set_option maxRecDepth 100000 in
set_option maxHeartbeats 4000000 in
theorem k_X4_joyOf (l : Launch) {G : zG} (hg : 129 ≤ gn G) {a1 : Int32} {a2 : Int32}  {v : V3} {Q : Int32 → V3 → Prop} (hw : w_X4_joyOf a1 a2 v Q) : Mz l yX4_joyOf cX4_joyOf 3 (some .int) 1 24 G [.ref (gad G 7), .int a1, .int a2] v (QiZ G Q) := by
  rw [w_X4_joyOf] at hw
  refine z_ofW hg (by decide) (Nat.le_of_ble_eq_true rfl) ?_
  intro p e s m args below meth c ls C0 Z hl
  have hx := C0.1
  have hb := C0.2.1
  replace hl : lv_has ls 3 [(0, .ref (gad G 7)), (1, .int a1), (2, .int a2)] := hl
  generalize s.heap = H at Z ⊢
  generalize ([] : List Loc) = locs at Z ⊢
  refine lv_aload_n hx hb dX4_joyOf_0 rfl (lv_at hl 0 rfl) ?_
  refine lv_iload_n hx hb dX4_joyOf_1 rfl (lv_at hl 1 rfl) ?_
  refine lv_bipush (v := 6) hx hb dX4_joyOf_2 (by decide) ?_
  refine z_callVi C0 Z hl.1 (As := [.int a1, .int 6]) (rest := []) (k_X4_of l (cx_g C0) hw) (gv_X4_of tm_5_163) rfl ds_X4_of ⟨Nat.le_of_ble_eq_true rfl, Nat.le_of_ble_eq_true rfl⟩ (ci := 4) rfl (cx_lt C0 (by decide)) rfl rfl rfl (Nat.le_of_ble_eq_true rfl) ⟨Nat.le_of_ble_eq_true rfl, Nat.le_of_ble_eq_true rfl⟩ dX4_joyOf_4 (fun r2 v1 H locs hw Z => ?_)
  refine lv_iconst (v := 0) hx hb dX4_joyOf_7 (by decide) ?_
  refine lv_bipush (v := 20) hx hb dX4_joyOf_8 (by decide) ?_
  refine lv_iload_n hx hb dX4_joyOf_10 rfl (lv_at hl 2 rfl) ?_
  refine lv_aload_n hx hb dX4_joyOf_11 rfl (lv_at hl 0 rfl) ?_
  refine lv_iload_n hx hb dX4_joyOf_12 rfl (lv_at hl 1 rfl) ?_
  refine lv_iconst (v := 4) hx hb dX4_joyOf_13 (by decide) ?_
  refine z_callVi C0 Z hl.1 (As := [.int a1, .int 4]) (rest := [.int a2, .int 20, .int 0, .int r2]) (k_X4_of l (cx_g C0) hw) (gv_X4_of tm_5_163) rfl ds_X4_of ⟨Nat.le_of_ble_eq_true rfl, Nat.le_of_ble_eq_true rfl⟩ (ci := 4) rfl (cx_lt C0 (by decide)) rfl rfl rfl (Nat.le_of_ble_eq_true rfl) ⟨Nat.le_of_ble_eq_true rfl, Nat.le_of_ble_eq_true rfl⟩ dX4_joyOf_14 (fun r4 v3 H locs hw Z => ?_)
  refine lv_isub hx hb dX4_joyOf_17 ?_
  refine z_abs C0 hl.1 tm_6_42 (Nat.le_of_ble_eq_true rfl) (Nat.le_of_ble_eq_true rfl) (Nat.le_of_ble_eq_true rfl) (Nat.le_of_ble_eq_true rfl) dX4_joyOf_18 ?_
  refine lv_isub hx hb dX4_joyOf_21 ?_
  refine z_max C0 hl.1 tm_6_43 (Nat.le_of_ble_eq_true rfl) (Nat.le_of_ble_eq_true rfl) (Nat.le_of_ble_eq_true rfl) (Nat.le_of_ble_eq_true rfl) dX4_joyOf_22 ?_
  refine lv_imul hx hb dX4_joyOf_25 ?_
  exact z_iret C0 Z hw dX4_joyOf_26
-- X4_joyNow: room (2, 46)
theorem dX4_joyNow_0 : decode cX4_joyNow 0 = .ok (.aload_n 0, 1) := by decide +kernel
theorem dX4_joyNow_1 : decode cX4_joyNow 1 = .ok (.iload_n 1, 1) := by decide +kernel
theorem dX4_joyNow_2 : decode cX4_joyNow 2 = .ok (.bipush 7, 2) := by decide +kernel
theorem dX4_joyNow_4 : decode cX4_joyNow 4 = .ok (.invokevirtual 71, 3) := by decide +kernel
theorem dX4_joyNow_7 : decode cX4_joyNow 7 = .ok (.iconst 1, 1) := by decide +kernel
theorem dX4_joyNow_8 : decode cX4_joyNow 8 = .ok (.if_icmp .ne 18, 3) := by decide +kernel
theorem dX4_joyNow_11 : decode cX4_joyNow 11 = .ok (.aload_n 0, 1) := by decide +kernel
theorem dX4_joyNow_12 : decode cX4_joyNow 12 = .ok (.iload_n 1, 1) := by decide +kernel
theorem dX4_joyNow_13 : decode cX4_joyNow 13 = .ok (.aload_n 0, 1) := by decide +kernel
theorem dX4_joyNow_14 : decode cX4_joyNow 14 = .ok (.iload_n 1, 1) := by decide +kernel
theorem dX4_joyNow_15 : decode cX4_joyNow 15 = .ok (.bipush 8, 2) := by decide +kernel
theorem dX4_joyNow_17 : decode cX4_joyNow 17 = .ok (.invokevirtual 71, 3) := by decide +kernel
theorem dX4_joyNow_20 : decode cX4_joyNow 20 = .ok (.invokevirtual 239, 3) := by decide +kernel
theorem dX4_joyNow_23 : decode cX4_joyNow 23 = .ok (.goto 4, 3) := by decide +kernel
theorem dX4_joyNow_26 : decode cX4_joyNow 26 = .ok (.iconst 0, 1) := by decide +kernel
theorem dX4_joyNow_27 : decode cX4_joyNow 27 = .ok (.ireturn, 1) := by decide +kernel
def w_X4_joyNow_27  (Q : Int32 → V3 → Prop) (s0 : Int32) (v : V3) : Prop := Q s0 v
def w_X4_joyNow (a1 : Int32) (v : V3) (Q : Int32 → V3 → Prop) : Prop := w_X4_of a1 7 v (fun r2 v1 => ((¬ r2 = 1 → w_X4_joyNow_27 Q 0 v1) ∧ (r2 = 1 → w_X4_of a1 8 v1 (fun r5 v4 => w_X4_joyOf a1 r5 v4 (fun r7 v6 => w_X4_joyNow_27 Q r7 v6)))))
set_option maxRecDepth 100000 in
set_option maxHeartbeats 4000000 in
theorem b_X4_joyNow_27 {p : Program} (l : Launch) {e : Env} {s : State} {m : MethodId} {args : Array Value} {below : List Frame} {meth : Method} {c : Code} {G : zG}   (C0 : Cx G RX4 cX4_joyNow 2 (some .int) p s m args meth c) {Q : Int32 → V3 → Prop} : ∀ (s0 : Int32) (v : V3) (H : Heap) (locs : List Loc) (ls : Array Slot), w_X4_joyNow_27 Q s0 v → Zs G s v H locs → lv_has ls 2 [] → W p l e { frames := 2, cells := 0, slots := 0, locals := 46 } s m args below meth c H locs 0 0 (MQ below (QiZ G Q) args s 0 0 (zA G)) (F0 m 27 ls [.int s0]) := by
  have hx := C0.1
  have hb := C0.2.1
  intro s0 v H locs ls hw Z hl
  rw [w_X4_joyNow_27] at hw
  exact z_iret C0 Z hw dX4_joyNow_27
set_option maxRecDepth 100000 in
set_option maxHeartbeats 4000000 in
theorem k_X4_joyNow (l : Launch) {G : zG} (hg : 129 ≤ gn G) {a1 : Int32}  {v : V3} {Q : Int32 → V3 → Prop} (hw : w_X4_joyNow a1 v Q) : Mz l yX4_joyNow cX4_joyNow 2 (some .int) 2 46 G [.ref (gad G 7), .int a1] v (QiZ G Q) := by
  rw [w_X4_joyNow] at hw
  refine z_ofW hg (by decide) (Nat.le_of_ble_eq_true rfl) ?_
  intro p e s m args below meth c ls C0 Z hl
  have hx := C0.1
  have hb := C0.2.1
  replace hl : lv_has ls 2 [(0, .ref (gad G 7)), (1, .int a1)] := hl
  generalize s.heap = H at Z ⊢
  generalize ([] : List Loc) = locs at Z ⊢
  refine lv_aload_n hx hb dX4_joyNow_0 rfl (lv_at hl 0 rfl) ?_
  refine lv_iload_n hx hb dX4_joyNow_1 rfl (lv_at hl 1 rfl) ?_
  refine lv_bipush (v := 7) hx hb dX4_joyNow_2 (by decide) ?_
  refine z_callVi C0 Z hl.1 (As := [.int a1, .int 7]) (rest := []) (k_X4_of l (cx_g C0) hw) (gv_X4_of tm_5_163) rfl ds_X4_of ⟨Nat.le_of_ble_eq_true rfl, Nat.le_of_ble_eq_true rfl⟩ (ci := 4) rfl (cx_lt C0 (by decide)) rfl rfl rfl (Nat.le_of_ble_eq_true rfl) ⟨Nat.le_of_ble_eq_true rfl, Nat.le_of_ble_eq_true rfl⟩ dX4_joyNow_4 (fun r2 v1 H locs hw Z => ?_)
  refine lv_iconst (v := 1) hx hb dX4_joyNow_7 (by decide) ?_
  refine lv_icmp_ne (tgt := 26) hx hb dX4_joyNow_8 (by decide) (fun c3 => ?_) (fun c3 => ?_)
  · replace hw := hw.1 c3
    refine lv_iconst (v := 0) hx hb dX4_joyNow_26 (by decide) ?_
    exact b_X4_joyNow_27 l C0 _ _ _ _ _ hw Z (lv_sub hl [] rfl)
  · replace hw := hw.2 c3
    refine lv_aload_n hx hb dX4_joyNow_11 rfl (lv_at hl 0 rfl) ?_
    refine lv_iload_n hx hb dX4_joyNow_12 rfl (lv_at hl 1 rfl) ?_
    refine lv_aload_n hx hb dX4_joyNow_13 rfl (lv_at hl 0 rfl) ?_
    refine lv_iload_n hx hb dX4_joyNow_14 rfl (lv_at hl 1 rfl) ?_
    refine lv_bipush (v := 8) hx hb dX4_joyNow_15 (by decide) ?_
    refine z_callVi C0 Z hl.1 (As := [.int a1, .int 8]) (rest := [.int a1, .ref (gad G 7)]) (k_X4_of l (cx_g C0) hw) (gv_X4_of tm_5_163) rfl ds_X4_of ⟨Nat.le_of_ble_eq_true rfl, Nat.le_of_ble_eq_true rfl⟩ (ci := 4) rfl (cx_lt C0 (by decide)) rfl rfl rfl (Nat.le_of_ble_eq_true rfl) ⟨Nat.le_of_ble_eq_true rfl, Nat.le_of_ble_eq_true rfl⟩ dX4_joyNow_17 (fun r5 v4 H locs hw Z => ?_)
    refine z_callVi C0 Z hl.1 (As := [.int a1, .int r5]) (rest := []) (k_X4_joyOf l (cx_g C0) hw) (gv_X4_joyOf tm_6_38) rfl ds_X4_joyOf ⟨Nat.le_of_ble_eq_true rfl, Nat.le_of_ble_eq_true rfl⟩ (ci := 4) rfl (cx_lt C0 (by decide)) rfl rfl rfl (Nat.le_of_ble_eq_true rfl) ⟨Nat.le_of_ble_eq_true rfl, Nat.le_of_ble_eq_true rfl⟩ dX4_joyNow_20 (fun r7 v6 H locs hw Z => ?_)
    refine lv_goto (tgt := 27) hx hb dX4_joyNow_23 (by decide) ?_
    exact b_X4_joyNow_27 l C0 _ _ _ _ _ hw Z (lv_sub hl [] rfl)
-- X4_joys: room (3, 67)
theorem dX4_joys_0 : decode cX4_joys 0 = .ok (.iconst 0, 1) := by decide +kernel
theorem dX4_joys_1 : decode cX4_joys 1 = .ok (.istore_n 2, 1) := by decide +kernel
theorem dX4_joys_2 : decode cX4_joys 2 = .ok (.iconst 0, 1) := by decide +kernel
theorem dX4_joys_3 : decode cX4_joys 3 = .ok (.istore_n 3, 1) := by decide +kernel
theorem dX4_joys_4 : decode cX4_joys 4 = .ok (.iload_n 3, 1) := by decide +kernel
theorem dX4_joys_5 : decode cX4_joys 5 = .ok (.aload_n 0, 1) := by decide +kernel
theorem dX4_joys_6 : decode cX4_joys 6 = .ok (.getfield 7, 3) := by decide +kernel
theorem dX4_joys_9 : decode cX4_joys 9 = .ok (.bipush 6, 2) := by decide +kernel
theorem dX4_joys_11 : decode cX4_joys 11 = .ok (.iaload, 1) := by decide +kernel
theorem dX4_joys_12 : decode cX4_joys 12 = .ok (.if_icmp .ge 31, 3) := by decide +kernel
theorem dX4_joys_15 : decode cX4_joys 15 = .ok (.iload_n 2, 1) := by decide +kernel
theorem dX4_joys_16 : decode cX4_joys 16 = .ok (.aload_n 0, 1) := by decide +kernel
theorem dX4_joys_17 : decode cX4_joys 17 = .ok (.iload_n 3, 1) := by decide +kernel
theorem dX4_joys_18 : decode cX4_joys 18 = .ok (.iconst 0, 1) := by decide +kernel
theorem dX4_joys_19 : decode cX4_joys 19 = .ok (.invokevirtual 71, 3) := by decide +kernel
theorem dX4_joys_22 : decode cX4_joys 22 = .ok (.iload_n 1, 1) := by decide +kernel
theorem dX4_joys_23 : decode cX4_joys 23 = .ok (.if_icmp .ne 11, 3) := by decide +kernel
theorem dX4_joys_26 : decode cX4_joys 26 = .ok (.aload_n 0, 1) := by decide +kernel
theorem dX4_joys_27 : decode cX4_joys 27 = .ok (.iload_n 3, 1) := by decide +kernel
theorem dX4_joys_28 : decode cX4_joys 28 = .ok (.invokevirtual 242, 3) := by decide +kernel
theorem dX4_joys_31 : decode cX4_joys 31 = .ok (.goto 4, 3) := by decide +kernel
theorem dX4_joys_34 : decode cX4_joys 34 = .ok (.iconst 0, 1) := by decide +kernel
theorem dX4_joys_35 : decode cX4_joys 35 = .ok (.iadd, 1) := by decide +kernel
theorem dX4_joys_36 : decode cX4_joys 36 = .ok (.istore_n 2, 1) := by decide +kernel
theorem dX4_joys_37 : decode cX4_joys 37 = .ok (.iinc 3 1, 3) := by decide +kernel
theorem dX4_joys_40 : decode cX4_joys 40 = .ok (.goto (-36), 3) := by decide +kernel
theorem dX4_joys_43 : decode cX4_joys 43 = .ok (.iload_n 2, 1) := by decide +kernel
theorem dX4_joys_44 : decode cX4_joys 44 = .ok (.ireturn, 1) := by decide +kernel
def w_X4_joys_35  (Q : Int32 → V3 → Prop) (K4 : Int32 → Int32 → Int32 → V3 → Prop) (x1 : Int32) (x3 : Int32) (s0 : Int32) (s1 : Int32) (v : V3) : Prop := K4 x1 (s0 + s1) (x3 + 1) v
def w_X4_joys_4  (Q : Int32 → V3 → Prop) : Nat → Int32 → Int32 → Int32 → V3 → Prop
  | 0, _, _, _, _ => False
  | n4 + 1, x1, x2, x3, v => (((v 8 6) ≤ x3 → Q x2 v) ∧ (¬ (v 8 6) ≤ x3 → w_X4_of x3 0 v (fun r3 v2 => ((¬ r3 = x1 → w_X4_joys_35 Q (w_X4_joys_4 Q n4) x1 x3 x2 0 v2) ∧ (r3 = x1 → w_X4_joyNow x3 v2 (fun r6 v5 => w_X4_joys_35 Q (w_X4_joys_4 Q n4) x1 x3 x2 r6 v5))))))
def w_X4_joys (a1 : Int32) (v : V3) (Q : Int32 → V3 → Prop) : Prop := ∃ m4 : Nat, w_X4_joys_4 Q m4 a1 0 0 v
set_option maxRecDepth 100000 in
set_option maxHeartbeats 4000000 in
theorem b_X4_joys_35 {p : Program} (l : Launch) {e : Env} {s : State} {m : MethodId} {args : Array Value} {below : List Frame} {meth : Method} {c : Code} {G : zG}   (C0 : Cx G RX4 cX4_joys 4 (some .int) p s m args meth c) {Q : Int32 → V3 → Prop} {K4 : Int32 → Int32 → Int32 → V3 → Prop} (hK4 : ∀ (x1 : Int32) (x2 : Int32) (x3 : Int32) (v : V3) (H : Heap) (locs : List Loc) (ls : Array Slot), K4 x1 x2 x3 v → Zs G s v H locs → lv_has ls 4 [(0, .ref (gad G 7)), (1, .int x1), (2, .int x2), (3, .int x3)] → W p l e { frames := 3, cells := 0, slots := 0, locals := 67 } s m args below meth c H locs 0 0 (MQ below (QiZ G Q) args s 0 0 (zA G)) (F0 m 4 ls [])) : ∀ (x1 : Int32) (x3 : Int32) (s0 : Int32) (s1 : Int32) (v : V3) (H : Heap) (locs : List Loc) (ls : Array Slot), w_X4_joys_35 Q K4 x1 x3 s0 s1 v → Zs G s v H locs → lv_has ls 4 [(0, .ref (gad G 7)), (1, .int x1), (3, .int x3)] → W p l e { frames := 3, cells := 0, slots := 0, locals := 67 } s m args below meth c H locs 0 0 (MQ below (QiZ G Q) args s 0 0 (zA G)) (F0 m 35 ls [.int s1, .int s0]) := by
  have hx := C0.1
  have hb := C0.2.1
  intro x1 x3 s0 s1 v H locs ls hw Z hl
  rw [w_X4_joys_35] at hw
  refine lv_iadd hx hb dX4_joys_35 ?_
  refine lv_istore_n (lv' := [(2, .int (s0 + s1)), (0, .ref (gad G 7)), (1, .int x1), (3, .int x3)]) hx hb dX4_joys_36 rfl hl (by decide) rfl (fun ls hl => ?_)
  refine lv_iinc (v := x3 + 1) (lv' := [(3, .int (x3 + 1)), (2, .int (s0 + s1)), (0, .ref (gad G 7)), (1, .int x1)]) hx hb dX4_joys_37 hl (k := 3) rfl rfl (by decide) rfl (fun ls hl => ?_)
  refine lv_goto (tgt := 4) hx hb dX4_joys_40 (by decide) ?_
  exact hK4 _ _ _ _ _ _ _ hw Z (lv_sub hl [2, 3, 1, 0] rfl)
set_option maxRecDepth 100000 in
set_option maxHeartbeats 4000000 in
theorem b_X4_joys_4 {p : Program} (l : Launch) {e : Env} {s : State} {m : MethodId} {args : Array Value} {below : List Frame} {meth : Method} {c : Code} {G : zG}   (C0 : Cx G RX4 cX4_joys 4 (some .int) p s m args meth c) {Q : Int32 → V3 → Prop} : ∀ (n : Nat) (x1 : Int32) (x2 : Int32) (x3 : Int32) (v : V3) (H : Heap) (locs : List Loc) (ls : Array Slot), w_X4_joys_4 Q n x1 x2 x3 v → Zs G s v H locs → lv_has ls 4 [(0, .ref (gad G 7)), (1, .int x1), (2, .int x2), (3, .int x3)] → W p l e { frames := 3, cells := 0, slots := 0, locals := 67 } s m args below meth c H locs 0 0 (MQ below (QiZ G Q) args s 0 0 (zA G)) (F0 m 4 ls []) := by
  have hx := C0.1
  have hb := C0.2.1
  intro n
  induction n with
  | zero =>
    intro x1 x2 x3 v H locs ls hw Z hl
    exact hw.elim
  | succ n hK4 =>
    intro x1 x2 x3 v H locs ls hw Z hl
    rw [w_X4_joys_4] at hw
    refine lv_iload_n hx hb dX4_joys_4 rfl (lv_at hl 3 rfl) ?_
    refine lv_aload_n hx hb dX4_joys_5 rfl (lv_at hl 0 rfl) ?_
    refine z_get C0 Z in_X4 rfl 0 (by decide) rfl tm_4_203 (cx_lt C0 (by decide)) rfl rfl dX4_joys_6 ?_
    refine lv_bipush (v := 6) hx hb dX4_joys_9 (by decide) ?_
    refine z_ialdk C0 Z (cx_lt C0 (by decide)) rfl in_6_474 nc_6 dX4_joys_11 ?_
    refine lv_icmp_ge (tgt := 43) hx hb dX4_joys_12 (by decide) (fun c1 => ?_) (fun c1 => ?_)
    · replace hw := hw.1 c1
      refine lv_iload_n hx hb dX4_joys_43 rfl (lv_at hl 2 rfl) ?_
      exact z_iret C0 Z hw dX4_joys_44
    · replace hw := hw.2 c1
      refine lv_iload_n hx hb dX4_joys_15 rfl (lv_at hl 2 rfl) ?_
      refine lv_aload_n hx hb dX4_joys_16 rfl (lv_at hl 0 rfl) ?_
      refine lv_iload_n hx hb dX4_joys_17 rfl (lv_at hl 3 rfl) ?_
      refine lv_iconst (v := 0) hx hb dX4_joys_18 (by decide) ?_
      refine z_callVi C0 Z hl.1 (As := [.int x3, .int 0]) (rest := [.int x2]) (k_X4_of l (cx_g C0) hw) (gv_X4_of tm_5_163) rfl ds_X4_of ⟨Nat.le_of_ble_eq_true rfl, Nat.le_of_ble_eq_true rfl⟩ (ci := 4) rfl (cx_lt C0 (by decide)) rfl rfl rfl (Nat.le_of_ble_eq_true rfl) ⟨Nat.le_of_ble_eq_true rfl, Nat.le_of_ble_eq_true rfl⟩ dX4_joys_19 (fun r3 v2 H locs hw Z => ?_)
      refine lv_iload_n hx hb dX4_joys_22 rfl (lv_at hl 1 rfl) ?_
      refine lv_icmp_ne (tgt := 34) hx hb dX4_joys_23 (by decide) (fun c4 => ?_) (fun c4 => ?_)
      · replace hw := hw.1 c4
        refine lv_iconst (v := 0) hx hb dX4_joys_34 (by decide) ?_
        exact b_X4_joys_35 l C0 hK4 _ _ _ _ _ _ _ _ hw Z (lv_sub hl [0, 1, 3] rfl)
      · replace hw := hw.2 c4
        refine lv_aload_n hx hb dX4_joys_26 rfl (lv_at hl 0 rfl) ?_
        refine lv_iload_n hx hb dX4_joys_27 rfl (lv_at hl 3 rfl) ?_
        refine z_callVi C0 Z hl.1 (As := [.int x3]) (rest := [.int x2]) (k_X4_joyNow l (cx_g C0) hw) (gv_X4_joyNow tm_6_34) rfl ds_X4_joyNow ⟨Nat.le_of_ble_eq_true rfl, Nat.le_of_ble_eq_true rfl⟩ (ci := 4) rfl (cx_lt C0 (by decide)) rfl rfl rfl (Nat.le_of_ble_eq_true rfl) ⟨Nat.le_of_ble_eq_true rfl, Nat.le_of_ble_eq_true rfl⟩ dX4_joys_28 (fun r6 v5 H locs hw Z => ?_)
        refine lv_goto (tgt := 35) hx hb dX4_joys_31 (by decide) ?_
        exact b_X4_joys_35 l C0 hK4 _ _ _ _ _ _ _ _ hw Z (lv_sub hl [0, 1, 3] rfl)
set_option maxRecDepth 100000 in
set_option maxHeartbeats 4000000 in
theorem k_X4_joys (l : Launch) {G : zG} (hg : 129 ≤ gn G) {a1 : Int32}  {v : V3} {Q : Int32 → V3 → Prop} (hw : w_X4_joys a1 v Q) : Mz l yX4_joys cX4_joys 4 (some .int) 3 67 G [.ref (gad G 7), .int a1] v (QiZ G Q) := by
  rw [w_X4_joys] at hw
  refine z_ofW hg (by decide) (Nat.le_of_ble_eq_true rfl) ?_
  intro p e s m args below meth c ls C0 Z hl
  have hx := C0.1
  have hb := C0.2.1
  replace hl : lv_has ls 4 [(0, .ref (gad G 7)), (1, .int a1)] := hl
  generalize s.heap = H at Z ⊢
  generalize ([] : List Loc) = locs at Z ⊢
  refine lv_iconst (v := 0) hx hb dX4_joys_0 (by decide) ?_
  refine lv_istore_n (lv' := [(2, .int 0), (0, .ref (gad G 7)), (1, .int a1)]) hx hb dX4_joys_1 rfl hl (by decide) rfl (fun ls hl => ?_)
  refine lv_iconst (v := 0) hx hb dX4_joys_2 (by decide) ?_
  refine lv_istore_n (lv' := [(3, .int 0), (2, .int 0), (0, .ref (gad G 7)), (1, .int a1)]) hx hb dX4_joys_3 rfl hl (by decide) rfl (fun ls hl => ?_)
  obtain ⟨m4, hw⟩ := hw
  exact b_X4_joys_4 l C0 m4 _ _ _ _ _ _ _ hw Z (lv_sub hl [2, 3, 1, 0] rfl)
