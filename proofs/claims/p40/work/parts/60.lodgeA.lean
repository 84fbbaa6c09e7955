-- X3_needWithin: room (0, 0)
theorem dX3_needWithin_0 : decode cX3_needWithin 0 = .ok (.iload_n 0, 1) := by decide +kernel
theorem dX3_needWithin_1 : decode cX3_needWithin 1 = .ok (.iload_n 1, 1) := by decide +kernel
theorem dX3_needWithin_2 : decode cX3_needWithin 2 = .ok (.if_icmp .lt 8, 3) := by decide +kernel
theorem dX3_needWithin_5 : decode cX3_needWithin 5 = .ok (.iload_n 0, 1) := by decide +kernel
theorem dX3_needWithin_6 : decode cX3_needWithin 6 = .ok (.iload_n 2, 1) := by decide +kernel
theorem dX3_needWithin_7 : decode cX3_needWithin 7 = .ok (.if_icmp .le 14, 3) := by decide +kernel
theorem dX3_needWithin_10 : decode cX3_needWithin 10 = .ok (.new 161, 3) := by decide +kernel
theorem dX3_needWithin_13 : decode cX3_needWithin 13 = .ok (.dup, 1) := by decide +kernel
theorem dX3_needWithin_14 : decode cX3_needWithin 14 = .ok (.ldc_w 270, 3) := by decide +kernel
theorem dX3_needWithin_17 : decode cX3_needWithin 17 = .ok (.invokespecial 165, 3) := by decide +kernel
theorem dX3_needWithin_20 : decode cX3_needWithin 20 = .ok (.athrow, 1) := by decide +kernel
theorem dX3_needWithin_21 : decode cX3_needWithin 21 = .ok (.return_, 1) := by decide +kernel
def w_X3_needWithin_10  (Q : V3 → Prop) (v : V3) : Prop := False
def w_X3_needWithin (a1 : Int32) (a2 : Int32) (a3 : Int32) (v : V3) (Q : V3 → Prop) : Prop := ((a1 < a2 → w_X3_needWithin_10 Q v) ∧ (¬ a1 < a2 → ((a1 ≤ a3 → Q v) ∧ (¬ a1 ≤ a3 → w_X3_needWithin_10 Q v))))
set_option maxRecDepth 100000 in
set_option maxHeartbeats 4000000 in
theorem b_X3_needWithin_10 {p : Program} (l : Launch) {e : Env} {s : State} {m : MethodId} {args : Array Value} {below : List Frame} {meth : Method} {c : Code} {G : zG}   (C0 : Cx G RX3 cX3_needWithin 3 none p s m args meth c) {Q : V3 → Prop} : ∀ (v : V3) (H : Heap) (locs : List Loc) (ls : Array Slot), w_X3_needWithin_10 Q v → Zs G s v H locs → lv_has ls 3 [] → W p l e { frames := 0, cells := 0, slots := 0, locals := 0 } s m args below meth c H locs 0 0 (MQ below (QvZ G Q) args s 0 0 (zA G)) (F0 m 10 ls []) := by
  have hx := C0.1
  have hb := C0.2.1
  intro v H locs ls hw Z hl
  rw [w_X3_needWithin_10] at hw
  exact hw.elim
set_option maxRecDepth 100000 in
set_option maxHeartbeats 4000000 in
theorem k_X3_needWithin (l : Launch) {G : zG} (hg : 116 ≤ gn G) {a1 : Int32} {a2 : Int32} {a3 : Int32}  {v : V3} {Q : V3 → Prop} (hw : w_X3_needWithin a1 a2 a3 v Q) : Mz l yX3_needWithin cX3_needWithin 3 none 0 0 G [.int a1, .int a2, .int a3] v (QvZ G Q) := by
  rw [w_X3_needWithin] at hw
  refine z_ofW hg (by decide) (Nat.le_of_ble_eq_true rfl) ?_
  intro p e s m args below meth c ls C0 Z hl
  have hx := C0.1
  have hb := C0.2.1
  replace hl : lv_has ls 3 [(0, .int a1), (1, .int a2), (2, .int a3)] := hl
  generalize s.heap = H at Z ⊢
  generalize ([] : List Loc) = locs at Z ⊢
  refine lv_iload_n hx hb dX3_needWithin_0 rfl (lv_at hl 0 rfl) ?_
  refine lv_iload_n hx hb dX3_needWithin_1 rfl (lv_at hl 1 rfl) ?_
  refine lv_icmp_lt (tgt := 10) hx hb dX3_needWithin_2 (by decide) (fun c1 => ?_) (fun c1 => ?_)
  · replace hw := hw.1 c1
    exact b_X3_needWithin_10 l C0 _ _ _ _ hw Z (lv_sub hl [] rfl)
  · replace hw := hw.2 c1
    refine lv_iload_n hx hb dX3_needWithin_5 rfl (lv_at hl 0 rfl) ?_
    refine lv_iload_n hx hb dX3_needWithin_6 rfl (lv_at hl 2 rfl) ?_
    refine lv_icmp_le (tgt := 21) hx hb dX3_needWithin_7 (by decide) (fun c2 => ?_) (fun c2 => ?_)
    · replace hw := hw.1 c2
      exact z_vret C0 Z hw dX3_needWithin_21
    · replace hw := hw.2 c2
      exact b_X3_needWithin_10 l C0 _ _ _ _ hw Z (lv_sub hl [] rfl)
-- X3_needOwner: room (0, 0)
theorem dX3_needOwner_0 : decode cX3_needOwner 0 = .ok (.iload_n 1, 1) := by decide +kernel
theorem dX3_needOwner_1 : decode cX3_needOwner 1 = .ok (.ifCond .lt 14, 3) := by decide +kernel
theorem dX3_needOwner_4 : decode cX3_needOwner 4 = .ok (.iload_n 1, 1) := by decide +kernel
theorem dX3_needOwner_5 : decode cX3_needOwner 5 = .ok (.aload_n 0, 1) := by decide +kernel
theorem dX3_needOwner_6 : decode cX3_needOwner 6 = .ok (.getfield 26, 3) := by decide +kernel
theorem dX3_needOwner_9 : decode cX3_needOwner 9 = .ok (.getfield 100, 3) := by decide +kernel
theorem dX3_needOwner_12 : decode cX3_needOwner 12 = .ok (.if_icmp .lt 14, 3) := by decide +kernel
theorem dX3_needOwner_15 : decode cX3_needOwner 15 = .ok (.new 193, 3) := by decide +kernel
theorem dX3_needOwner_18 : decode cX3_needOwner 18 = .ok (.dup, 1) := by decide +kernel
theorem dX3_needOwner_19 : decode cX3_needOwner 19 = .ok (.ldc_w 272, 3) := by decide +kernel
theorem dX3_needOwner_22 : decode cX3_needOwner 22 = .ok (.invokespecial 197, 3) := by decide +kernel
theorem dX3_needOwner_25 : decode cX3_needOwner 25 = .ok (.athrow, 1) := by decide +kernel
theorem dX3_needOwner_26 : decode cX3_needOwner 26 = .ok (.return_, 1) := by decide +kernel
def w_X3_needOwner_15  (Q : V3 → Prop) (v : V3) : Prop := False
def w_X3_needOwner (a1 : Int32) (v : V3) (Q : V3 → Prop) : Prop := ((a1 < 0 → w_X3_needOwner_15 Q v) ∧ (¬ a1 < 0 → ((a1 < (v 8 7) → Q v) ∧ (¬ a1 < (v 8 7) → w_X3_needOwner_15 Q v))))
set_option maxRecDepth 100000 in
set_option maxHeartbeats 4000000 in
theorem b_X3_needOwner_15 {p : Program} (l : Launch) {e : Env} {s : State} {m : MethodId} {args : Array Value} {below : List Frame} {meth : Method} {c : Code} {G : zG}   (C0 : Cx G RX3 cX3_needOwner 2 none p s m args meth c) {Q : V3 → Prop} : ∀ (v : V3) (H : Heap) (locs : List Loc) (ls : Array Slot), w_X3_needOwner_15 Q v → Zs G s v H locs → lv_has ls 2 [] → W p l e { frames := 0, cells := 0, slots := 0, locals := 0 } s m args below meth c H locs 0 0 (MQ below (QvZ G Q) args s 0 0 (zA G)) (F0 m 15 ls []) := by
  have hx := C0.1
  have hb := C0.2.1
  intro v H locs ls hw Z hl
  rw [w_X3_needOwner_15] at hw
  exact hw.elim
set_option maxRecDepth 100000 in
set_option maxHeartbeats 4000000 in
theorem k_X3_needOwner (l : Launch) {G : zG} (hg : 116 ≤ gn G) {a1 : Int32}  {v : V3} {Q : V3 → Prop} (hw : w_X3_needOwner a1 v Q) : Mz l yX3_needOwner cX3_needOwner 2 none 0 0 G [.ref (gad G 0), .int a1] v (QvZ G Q) := by
  rw [w_X3_needOwner] at hw
  refine z_ofW hg (by decide) (Nat.le_of_ble_eq_true rfl) ?_
  intro p e s m args below meth c ls C0 Z hl
  have hx := C0.1
  have hb := C0.2.1
  replace hl : lv_has ls 2 [(0, .ref (gad G 0)), (1, .int a1)] := hl
  generalize s.heap = H at Z ⊢
  generalize ([] : List Loc) = locs at Z ⊢
  refine lv_iload_n hx hb dX3_needOwner_0 rfl (lv_at hl 1 rfl) ?_
  refine lv_if_lt (tgt := 15) hx hb dX3_needOwner_1 (by decide) (fun c1 => ?_) (fun c1 => ?_)
  · replace hw := hw.1 c1
    exact b_X3_needOwner_15 l C0 _ _ _ _ hw Z (lv_sub hl [] rfl)
  · replace hw := hw.2 c1
    refine lv_iload_n hx hb dX3_needOwner_4 rfl (lv_at hl 1 rfl) ?_
    refine lv_aload_n hx hb dX3_needOwner_5 rfl (lv_at hl 0 rfl) ?_
    refine z_get C0 Z in_X3 rfl 4 (by decide) rfl tm_1_142 (cx_lt C0 (by decide)) rfl rfl dX3_needOwner_6 ?_
    refine z_get C0 Z in_X1 rfl 7 (by decide) rfl tm_1_61 (isL_lt0 (isL8 (cx_g C0))) (ent_L (isL8 (cx_g C0))) rfl dX3_needOwner_9 ?_
    refine lv_icmp_lt (tgt := 26) hx hb dX3_needOwner_12 (by decide) (fun c2 => ?_) (fun c2 => ?_)
    · replace hw := hw.1 c2
      exact z_vret C0 Z hw dX3_needOwner_26
    · replace hw := hw.2 c2
      exact b_X3_needOwner_15 l C0 _ _ _ _ hw Z (lv_sub hl [] rfl)
-- X3_needBooking: room (0, 0)
theorem dX3_needBooking_0 : decode cX3_needBooking 0 = .ok (.iload_n 1, 1) := by decide +kernel
theorem dX3_needBooking_1 : decode cX3_needBooking 1 = .ok (.ifCond .lt 14, 3) := by decide +kernel
theorem dX3_needBooking_4 : decode cX3_needBooking 4 = .ok (.iload_n 1, 1) := by decide +kernel
theorem dX3_needBooking_5 : decode cX3_needBooking 5 = .ok (.aload_n 0, 1) := by decide +kernel
theorem dX3_needBooking_6 : decode cX3_needBooking 6 = .ok (.getfield 26, 3) := by decide +kernel
theorem dX3_needBooking_9 : decode cX3_needBooking 9 = .ok (.getfield 97, 3) := by decide +kernel
theorem dX3_needBooking_12 : decode cX3_needBooking 12 = .ok (.if_icmp .lt 14, 3) := by decide +kernel
theorem dX3_needBooking_15 : decode cX3_needBooking 15 = .ok (.new 193, 3) := by decide +kernel
theorem dX3_needBooking_18 : decode cX3_needBooking 18 = .ok (.dup, 1) := by decide +kernel
theorem dX3_needBooking_19 : decode cX3_needBooking 19 = .ok (.ldc_w 274, 3) := by decide +kernel
theorem dX3_needBooking_22 : decode cX3_needBooking 22 = .ok (.invokespecial 197, 3) := by decide +kernel
theorem dX3_needBooking_25 : decode cX3_needBooking 25 = .ok (.athrow, 1) := by decide +kernel
theorem dX3_needBooking_26 : decode cX3_needBooking 26 = .ok (.return_, 1) := by decide +kernel
def w_X3_needBooking_15  (Q : V3 → Prop) (v : V3) : Prop := False
def w_X3_needBooking (a1 : Int32) (v : V3) (Q : V3 → Prop) : Prop := ((a1 < 0 → w_X3_needBooking_15 Q v) ∧ (¬ a1 < 0 → ((a1 < (v 8 8) → Q v) ∧ (¬ a1 < (v 8 8) → w_X3_needBooking_15 Q v))))
set_option maxRecDepth 100000 in
set_option maxHeartbeats 4000000 in
theorem b_X3_needBooking_15 {p : Program} (l : Launch) {e : Env} {s : State} {m : MethodId} {args : Array Value} {below : List Frame} {meth : Method} {c : Code} {G : zG}   (C0 : Cx G RX3 cX3_needBooking 2 none p s m args meth c) {Q : V3 → Prop} : ∀ (v : V3) (H : Heap) (locs : List Loc) (ls : Array Slot), w_X3_needBooking_15 Q v → Zs G s v H locs → lv_has ls 2 [] → W p l e { frames := 0, cells := 0, slots := 0, locals := 0 } s m args below meth c H locs 0 0 (MQ below (QvZ G Q) args s 0 0 (zA G)) (F0 m 15 ls []) := by
  have hx := C0.1
  have hb := C0.2.1
  intro v H locs ls hw Z hl
  rw [w_X3_needBooking_15] at hw
  exact hw.elim
set_option maxRecDepth 100000 in
set_option maxHeartbeats 4000000 in
theorem k_X3_needBooking (l : Launch) {G : zG} (hg : 116 ≤ gn G) {a1 : Int32}  {v : V3} {Q : V3 → Prop} (hw : w_X3_needBooking a1 v Q) : Mz l yX3_needBooking cX3_needBooking 2 none 0 0 G [.ref (gad G 0), .int a1] v (QvZ G Q) := by
  rw [w_X3_needBooking] at hw
  refine z_ofW hg (by decide) (Nat.le_of_ble_eq_true rfl) ?_
  intro p e s m args below meth c ls C0 Z hl
  have hx := C0.1
  have hb := C0.2.1
  replace hl : lv_has ls 2 [(0, .ref (gad G 0)), (1, .int a1)] := hl
  generalize s.heap = H at Z ⊢
  generalize ([] : List Loc) = locs at Z ⊢
  refine lv_iload_n hx hb dX3_needBooking_0 rfl (lv_at hl 1 rfl) ?_
  refine lv_if_lt (tgt := 15) hx hb dX3_needBooking_1 (by decide) (fun c1 => ?_) (fun c1 => ?_)
  · replace hw := hw.1 c1
    exact b_X3_needBooking_15 l C0 _ _ _ _ hw Z (lv_sub hl [] rfl)
  · replace hw := hw.2 c1
    refine lv_iload_n hx hb dX3_needBooking_4 rfl (lv_at hl 1 rfl) ?_
    refine lv_aload_n hx hb dX3_needBooking_5 rfl (lv_at hl 0 rfl) ?_
    refine z_get C0 Z in_X3 rfl 4 (by decide) rfl tm_1_142 (cx_lt C0 (by decide)) rfl rfl dX3_needBooking_6 ?_
    refine z_get C0 Z in_X1 rfl 8 (by decide) rfl tm_1_64 (isL_lt0 (isL8 (cx_g C0))) (ent_L (isL8 (cx_g C0))) rfl dX3_needBooking_9 ?_
    refine lv_icmp_lt (tgt := 26) hx hb dX3_needBooking_12 (by decide) (fun c2 => ?_) (fun c2 => ?_)
    · replace hw := hw.1 c2
      exact z_vret C0 Z hw dX3_needBooking_26
    · replace hw := hw.2 c2
      exact b_X3_needBooking_15 l C0 _ _ _ _ hw Z (lv_sub hl [] rfl)
-- X3_needByte: room (0, 0)
theorem dX3_needByte_0 : decode cX3_needByte 0 = .ok (.iload_n 1, 1) := by decide +kernel
theorem dX3_needByte_1 : decode cX3_needByte 1 = .ok (.ifCond .lt 14, 3) := by decide +kernel
theorem dX3_needByte_4 : decode cX3_needByte 4 = .ok (.iload_n 1, 1) := by decide +kernel
theorem dX3_needByte_5 : decode cX3_needByte 5 = .ok (.aload_n 0, 1) := by decide +kernel
theorem dX3_needByte_6 : decode cX3_needByte 6 = .ok (.getfield 26, 3) := by decide +kernel
theorem dX3_needByte_9 : decode cX3_needByte 9 = .ok (.getfield 119, 3) := by decide +kernel
theorem dX3_needByte_12 : decode cX3_needByte 12 = .ok (.if_icmp .lt 14, 3) := by decide +kernel
theorem dX3_needByte_15 : decode cX3_needByte 15 = .ok (.new 193, 3) := by decide +kernel
theorem dX3_needByte_18 : decode cX3_needByte 18 = .ok (.dup, 1) := by decide +kernel
theorem dX3_needByte_19 : decode cX3_needByte 19 = .ok (.ldc_w 276, 3) := by decide +kernel
theorem dX3_needByte_22 : decode cX3_needByte 22 = .ok (.invokespecial 197, 3) := by decide +kernel
theorem dX3_needByte_25 : decode cX3_needByte 25 = .ok (.athrow, 1) := by decide +kernel
theorem dX3_needByte_26 : decode cX3_needByte 26 = .ok (.return_, 1) := by decide +kernel
def w_X3_needByte_15  (Q : V3 → Prop) (v : V3) : Prop := False
def w_X3_needByte (a1 : Int32) (v : V3) (Q : V3 → Prop) : Prop := ((a1 < 0 → w_X3_needByte_15 Q v) ∧ (¬ a1 < 0 → ((a1 < (v 8 5) → Q v) ∧ (¬ a1 < (v 8 5) → w_X3_needByte_15 Q v))))
set_option maxRecDepth 100000 in
set_option maxHeartbeats 4000000 in
theorem b_X3_needByte_15 {p : Program} (l : Launch) {e : Env} {s : State} {m : MethodId} {args : Array Value} {below : List Frame} {meth : Method} {c : Code} {G : zG}   (C0 : Cx G RX3 cX3_needByte 2 none p s m args meth c) {Q : V3 → Prop} : ∀ (v : V3) (H : Heap) (locs : List Loc) (ls : Array Slot), w_X3_needByte_15 Q v → Zs G s v H locs → lv_has ls 2 [] → W p l e { frames := 0, cells := 0, slots := 0, locals := 0 } s m args below meth c H locs 0 0 (MQ below (QvZ G Q) args s 0 0 (zA G)) (F0 m 15 ls []) := by
  have hx := C0.1
  have hb := C0.2.1
  intro v H locs ls hw Z hl
  rw [w_X3_needByte_15] at hw
  exact hw.elim
set_option maxRecDepth 100000 in
set_option maxHeartbeats 4000000 in
theorem k_X3_needByte (l : Launch) {G : zG} (hg : 116 ≤ gn G) {a1 : Int32}  {v : V3} {Q : V3 → Prop} (hw : w_X3_needByte a1 v Q) : Mz l yX3_needByte cX3_needByte 2 none 0 0 G [.ref (gad G 0), .int a1] v (QvZ G Q) := by
  rw [w_X3_needByte] at hw
  refine z_ofW hg (by decide) (Nat.le_of_ble_eq_true rfl) ?_
  intro p e s m args below meth c ls C0 Z hl
  have hx := C0.1
  have hb := C0.2.1
  replace hl : lv_has ls 2 [(0, .ref (gad G 0)), (1, .int a1)] := hl
  generalize s.heap = H at Z ⊢
  generalize ([] : List Loc) = locs at Z ⊢
  refine lv_iload_n hx hb dX3_needByte_0 rfl (lv_at hl 1 rfl) ?_
  refine lv_if_lt (tgt := 15) hx hb dX3_needByte_1 (by decide) (fun c1 => ?_) (fun c1 => ?_)
  · replace hw := hw.1 c1
    exact b_X3_needByte_15 l C0 _ _ _ _ hw Z (lv_sub hl [] rfl)
  · replace hw := hw.2 c1
    refine lv_iload_n hx hb dX3_needByte_4 rfl (lv_at hl 1 rfl) ?_
    refine lv_aload_n hx hb dX3_needByte_5 rfl (lv_at hl 0 rfl) ?_
    refine z_get C0 Z in_X3 rfl 4 (by decide) rfl tm_1_142 (cx_lt C0 (by decide)) rfl rfl dX3_needByte_6 ?_
    refine z_get C0 Z in_X1 rfl 5 (by decide) rfl tm_1_56 (isL_lt0 (isL8 (cx_g C0))) (ent_L (isL8 (cx_g C0))) rfl dX3_needByte_9 ?_
    refine lv_icmp_lt (tgt := 26) hx hb dX3_needByte_12 (by decide) (fun c2 => ?_) (fun c2 => ?_)
    · replace hw := hw.1 c2
      exact z_vret C0 Z hw dX3_needByte_26
    · replace hw := hw.2 c2
      exact b_X3_needByte_15 l C0 _ _ _ _ hw Z (lv_sub hl [] rfl)
-- X3_needSpan: room (1, 21)
theorem dX3_needSpan_0 : decode cX3_needSpan 0 = .ok (.aload_n 0, 1) := by decide +kernel
theorem dX3_needSpan_1 : decode cX3_needSpan 1 = .ok (.iload_n 1, 1) := by decide +kernel
theorem dX3_needSpan_2 : decode cX3_needSpan 2 = .ok (.invokevirtual 246, 3) := by decide +kernel
theorem dX3_needSpan_5 : decode cX3_needSpan 5 = .ok (.iload_n 2, 1) := by decide +kernel
theorem dX3_needSpan_6 : decode cX3_needSpan 6 = .ok (.aload_n 0, 1) := by decide +kernel
theorem dX3_needSpan_7 : decode cX3_needSpan 7 = .ok (.getfield 26, 3) := by decide +kernel
theorem dX3_needSpan_10 : decode cX3_needSpan 10 = .ok (.getfield 119, 3) := by decide +kernel
theorem dX3_needSpan_13 : decode cX3_needSpan 13 = .ok (.iload_n 1, 1) := by decide +kernel
theorem dX3_needSpan_14 : decode cX3_needSpan 14 = .ok (.isub, 1) := by decide +kernel
theorem dX3_needSpan_15 : decode cX3_needSpan 15 = .ok (.if_icmp .le 14, 3) := by decide +kernel
theorem dX3_needSpan_18 : decode cX3_needSpan 18 = .ok (.new 193, 3) := by decide +kernel
theorem dX3_needSpan_21 : decode cX3_needSpan 21 = .ok (.dup, 1) := by decide +kernel
theorem dX3_needSpan_22 : decode cX3_needSpan 22 = .ok (.ldc_w 278, 3) := by decide +kernel
theorem dX3_needSpan_25 : decode cX3_needSpan 25 = .ok (.invokespecial 197, 3) := by decide +kernel
theorem dX3_needSpan_28 : decode cX3_needSpan 28 = .ok (.athrow, 1) := by decide +kernel
theorem dX3_needSpan_29 : decode cX3_needSpan 29 = .ok (.iload_n 2, 1) := by decide +kernel
theorem dX3_needSpan_30 : decode cX3_needSpan 30 = .ok (.iconst 1, 1) := by decide +kernel
theorem dX3_needSpan_31 : decode cX3_needSpan 31 = .ok (.if_icmp .ge 14, 3) := by decide +kernel
theorem dX3_needSpan_34 : decode cX3_needSpan 34 = .ok (.new 161, 3) := by decide +kernel
theorem dX3_needSpan_37 : decode cX3_needSpan 37 = .ok (.dup, 1) := by decide +kernel
theorem dX3_needSpan_38 : decode cX3_needSpan 38 = .ok (.ldc_w 280, 3) := by decide +kernel
theorem dX3_needSpan_41 : decode cX3_needSpan 41 = .ok (.invokespecial 165, 3) := by decide +kernel
theorem dX3_needSpan_44 : decode cX3_needSpan 44 = .ok (.athrow, 1) := by decide +kernel
theorem dX3_needSpan_45 : decode cX3_needSpan 45 = .ok (.return_, 1) := by decide +kernel
def w_X3_needSpan (a1 : Int32) (a2 : Int32) (v : V3) (Q : V3 → Prop) : Prop := w_X3_needByte a1 v (fun v1 => ((a2 ≤ ((v1 8 5) - a1) → ((1 ≤ a2 → Q v1) ∧ (¬ 1 ≤ a2 → False))) ∧ (¬ a2 ≤ ((v1 8 5) - a1) → False)))
set_option maxRecDepth 100000 in
set_option maxHeartbeats 4000000 in
theorem k_X3_needSpan (l : Launch) {G : zG} (hg : 116 ≤ gn G) {a1 : Int32} {a2 : Int32}  {v : V3} {Q : V3 → Prop} (hw : w_X3_needSpan a1 a2 v Q) : Mz l yX3_needSpan cX3_needSpan 3 none 1 21 G [.ref (gad G 0), .int a1, .int a2] v (QvZ G Q) := by
  rw [w_X3_needSpan] at hw
  refine z_ofW hg (by decide) (Nat.le_of_ble_eq_true rfl) ?_
  intro p e s m args below meth c ls C0 Z hl
  have hx := C0.1
  have hb := C0.2.1
  replace hl : lv_has ls 3 [(0, .ref (gad G 0)), (1, .int a1), (2, .int a2)] := hl
  generalize s.heap = H at Z ⊢
  generalize ([] : List Loc) = locs at Z ⊢
  refine lv_aload_n hx hb dX3_needSpan_0 rfl (lv_at hl 0 rfl) ?_
  refine lv_iload_n hx hb dX3_needSpan_1 rfl (lv_at hl 1 rfl) ?_
  refine z_callVv C0 Z hl.1 (As := [.int a1]) (rest := []) (k_X3_needByte l (cx_g C0) hw) (gv_X3_needByte tm_2_125) rfl ds_X3_needByte ⟨Nat.le_of_ble_eq_true rfl, Nat.le_of_ble_eq_true rfl⟩ (ci := 3) rfl (cx_lt C0 (by decide)) rfl rfl rfl (Nat.le_of_ble_eq_true rfl) ⟨Nat.le_of_ble_eq_true rfl, Nat.le_of_ble_eq_true rfl⟩ dX3_needSpan_2 (fun v1 H locs hw Z => ?_)
  refine lv_iload_n hx hb dX3_needSpan_5 rfl (lv_at hl 2 rfl) ?_
  refine lv_aload_n hx hb dX3_needSpan_6 rfl (lv_at hl 0 rfl) ?_
  refine z_get C0 Z in_X3 rfl 4 (by decide) rfl tm_1_142 (cx_lt C0 (by decide)) rfl rfl dX3_needSpan_7 ?_
  refine z_get C0 Z in_X1 rfl 5 (by decide) rfl tm_1_56 (isL_lt0 (isL8 (cx_g C0))) (ent_L (isL8 (cx_g C0))) rfl dX3_needSpan_10 ?_
  refine lv_iload_n hx hb dX3_needSpan_13 rfl (lv_at hl 1 rfl) ?_
  refine lv_isub hx hb dX3_needSpan_14 ?_
  refine lv_icmp_le (tgt := 29) hx hb dX3_needSpan_15 (by decide) (fun c2 => ?_) (fun c2 => ?_)
  · replace hw := hw.1 c2
    refine lv_iload_n hx hb dX3_needSpan_29 rfl (lv_at hl 2 rfl) ?_
    refine lv_iconst (v := 1) hx hb dX3_needSpan_30 (by decide) ?_
    refine lv_icmp_ge (tgt := 45) hx hb dX3_needSpan_31 (by decide) (fun c3 => ?_) (fun c3 => ?_)
    · replace hw := hw.1 c3
      exact z_vret C0 Z hw dX3_needSpan_45
    · replace hw := hw.2 c3
      exact hw.elim
  · replace hw := hw.2 c2
    exact hw.elim
-- X3_resetDraft: room (0, 0)
theorem dX3_resetDraft_0 : decode cX3_resetDraft 0 = .ok (.aload_n 0, 1) := by decide +kernel
theorem dX3_resetDraft_1 : decode cX3_resetDraft 1 = .ok (.iconst 0, 1) := by decide +kernel
theorem dX3_resetDraft_2 : decode cX3_resetDraft 2 = .ok (.putfield 55, 3) := by decide +kernel
theorem dX3_resetDraft_5 : decode cX3_resetDraft 5 = .ok (.aload_n 0, 1) := by decide +kernel
theorem dX3_resetDraft_6 : decode cX3_resetDraft 6 = .ok (.iconst 1, 1) := by decide +kernel
theorem dX3_resetDraft_7 : decode cX3_resetDraft 7 = .ok (.putfield 58, 3) := by decide +kernel
theorem dX3_resetDraft_10 : decode cX3_resetDraft 10 = .ok (.aload_n 0, 1) := by decide +kernel
theorem dX3_resetDraft_11 : decode cX3_resetDraft 11 = .ok (.iconst 1, 1) := by decide +kernel
theorem dX3_resetDraft_12 : decode cX3_resetDraft 12 = .ok (.putfield 61, 3) := by decide +kernel
theorem dX3_resetDraft_15 : decode cX3_resetDraft 15 = .ok (.return_, 1) := by decide +kernel
def w_X3_resetDraft  (v : V3) (Q : V3 → Prop) : Prop := ∀ v1 : V3, v1 = up2 v 0 9 0 → ∀ v2 : V3, v2 = up2 v1 0 10 1 → ∀ v3 : V3, v3 = up2 v2 0 11 1 → Q v3
set_option maxRecDepth 100000 in
set_option maxHeartbeats 4000000 in
theorem k_X3_resetDraft (l : Launch) {G : zG} (hg : 116 ≤ gn G)  {v : V3} {Q : V3 → Prop} (hw : w_X3_resetDraft v Q) : Mz l yX3_resetDraft cX3_resetDraft 1 none 0 0 G [.ref (gad G 0)] v (QvZ G Q) := by
  rw [w_X3_resetDraft] at hw
  refine z_ofW hg (by decide) (Nat.le_of_ble_eq_true rfl) ?_
  intro p e s m args below meth c ls C0 Z hl
  have hx := C0.1
  have hb := C0.2.1
  replace hl : lv_has ls 1 [(0, .ref (gad G 0))] := hl
  generalize s.heap = H at Z ⊢
  generalize ([] : List Loc) = locs at Z ⊢
  refine lv_aload_n hx hb dX3_resetDraft_0 rfl (lv_at hl 0 rfl) ?_
  refine lv_iconst (v := 0) hx hb dX3_resetDraft_1 (by decide) ?_
  refine z_put C0 Z in_X3 tyX3_ok nmX3 rfl 9 (by decide) rfl rfl tm_1_147 (cx_lt C0 (by decide)) rfl p_X3_9 (fun c' h => up2_off _ _ _ h) rfl rfl (Nat.le_of_ble_eq_true rfl) dX3_resetDraft_2 (fun H locs Z => ?_)
  obtain ⟨v1, ev1⟩ : ∃ z : V3, z = up2 v 0 9 0 := ⟨_, rfl⟩
  rw [← ev1] at Z
  replace hw := hw v1 ev1
  refine lv_aload_n hx hb dX3_resetDraft_5 rfl (lv_at hl 0 rfl) ?_
  refine lv_iconst (v := 1) hx hb dX3_resetDraft_6 (by decide) ?_
  refine z_put C0 Z in_X3 tyX3_ok nmX3 rfl 10 (by decide) rfl rfl tm_1_148 (cx_lt C0 (by decide)) rfl p_X3_10 (fun c' h => up2_off _ _ _ h) rfl rfl (Nat.le_of_ble_eq_true rfl) dX3_resetDraft_7 (fun H locs Z => ?_)
  obtain ⟨v2, ev2⟩ : ∃ z : V3, z = up2 v1 0 10 1 := ⟨_, rfl⟩
  rw [← ev2] at Z
  replace hw := hw v2 ev2
  refine lv_aload_n hx hb dX3_resetDraft_10 rfl (lv_at hl 0 rfl) ?_
  refine lv_iconst (v := 1) hx hb dX3_resetDraft_11 (by decide) ?_
  refine z_put C0 Z in_X3 tyX3_ok nmX3 rfl 11 (by decide) rfl rfl tm_1_149 (cx_lt C0 (by decide)) rfl p_X3_11 (fun c' h => up2_off _ _ _ h) rfl rfl (Nat.le_of_ble_eq_true rfl) dX3_resetDraft_12 (fun H locs Z => ?_)
  obtain ⟨v3, ev3⟩ : ∃ z : V3, z = up2 v2 0 11 1 := ⟨_, rfl⟩
  rw [← ev3] at Z
  replace hw := hw v3 ev3
  exact z_vret C0 Z hw dX3_resetDraft_15
-- X3_tallyOf: room (5, 125)
theorem dX3_tallyOf_0 : decode cX3_tallyOf 0 = .ok (.aload_n 0, 1) := by decide +kernel
theorem dX3_tallyOf_1 : decode cX3_tallyOf 1 = .ok (.invokevirtual 264, 3) := by decide +kernel
theorem dX3_tallyOf_4 : decode cX3_tallyOf 4 = .ok (.iconst 0, 1) := by decide +kernel
theorem dX3_tallyOf_5 : decode cX3_tallyOf 5 = .ok (.istore_n 3, 1) := by decide +kernel
theorem dX3_tallyOf_6 : decode cX3_tallyOf 6 = .ok (.iload_n 3, 1) := by decide +kernel
theorem dX3_tallyOf_7 : decode cX3_tallyOf 7 = .ok (.iload_n 1, 1) := by decide +kernel
theorem dX3_tallyOf_8 : decode cX3_tallyOf 8 = .ok (.if_icmp .ge 13, 3) := by decide +kernel
theorem dX3_tallyOf_11 : decode cX3_tallyOf 11 = .ok (.aload_n 0, 1) := by decide +kernel
theorem dX3_tallyOf_12 : decode cX3_tallyOf 12 = .ok (.invokevirtual 259, 3) := by decide +kernel
theorem dX3_tallyOf_15 : decode cX3_tallyOf 15 = .ok (.iinc 3 1, 3) := by decide +kernel
theorem dX3_tallyOf_18 : decode cX3_tallyOf 18 = .ok (.goto (-12), 3) := by decide +kernel
theorem dX3_tallyOf_21 : decode cX3_tallyOf 21 = .ok (.aload_n 0, 1) := by decide +kernel
theorem dX3_tallyOf_22 : decode cX3_tallyOf 22 = .ok (.getfield 267, 3) := by decide +kernel
theorem dX3_tallyOf_25 : decode cX3_tallyOf 25 = .ok (.iload_n 2, 1) := by decide +kernel
theorem dX3_tallyOf_26 : decode cX3_tallyOf 26 = .ok (.iaload, 1) := by decide +kernel
theorem dX3_tallyOf_27 : decode cX3_tallyOf 27 = .ok (.ireturn, 1) := by decide +kernel
def w_X3_tallyOf_6 (a1 : Nat) (Q : Int32 → V3 → Prop) : Nat → Int32 → Int32 → Int32 → V3 → Prop
  | 0, _, _, _, _ => False
  | n6 + 1, x1, x2, x3, v => ((x1 ≤ x3 → vp_in x2 4 ∧ Q (v (a1 + 4) (ix x2)) v) ∧ (¬ x1 ≤ x3 → w_X1_tick a1 v (fun v4 => (w_X3_tallyOf_6 a1 Q n6) x1 x2 (x3 + 1) v4)))
def w_X3_tallyOf (a1 : Nat) (a2 : Int32) (a3 : Int32) (v : V3) (Q : Int32 → V3 → Prop) : Prop := w_X1_clearTally a1 v (fun v1 => ∃ m6 : Nat, w_X3_tallyOf_6 a1 Q m6 a2 a3 0 v1)
set_option maxRecDepth 100000 in
set_option maxHeartbeats 4000000 in
theorem b_X3_tallyOf_6 {p : Program} (l : Launch) {e : Env} {s : State} {m : MethodId} {args : Array Value} {below : List Frame} {meth : Method} {c : Code} {G : zG} {a1 : Nat} (hLa1 : isL G a1) (C0 : Cx G RX3 cX3_tallyOf 4 (some .int) p s m args meth c) {Q : Int32 → V3 → Prop} : ∀ (n : Nat) (x1 : Int32) (x2 : Int32) (x3 : Int32) (v : V3) (H : Heap) (locs : List Loc) (ls : Array Slot), w_X3_tallyOf_6 a1 Q n x1 x2 x3 v → Zs G s v H locs → lv_has ls 4 [(0, .ref (gad G a1)), (1, .int x1), (2, .int x2), (3, .int x3)] → W p l e { frames := 5, cells := 0, slots := 0, locals := 125 } s m args below meth c H locs 0 0 (MQ below (QiZ G Q) args s 0 0 (zA G)) (F0 m 6 ls []) := by
  have hx := C0.1
  have hb := C0.2.1
  intro n
  induction n with
  | zero =>
    intro x1 x2 x3 v H locs ls hw Z hl
    exact hw.elim
  | succ n hK6 =>
    intro x1 x2 x3 v H locs ls hw Z hl
    rw [w_X3_tallyOf_6] at hw
    refine lv_iload_n hx hb dX3_tallyOf_6 rfl (lv_at hl 3 rfl) ?_
    refine lv_iload_n hx hb dX3_tallyOf_7 rfl (lv_at hl 1 rfl) ?_
    refine lv_icmp_ge (tgt := 21) hx hb dX3_tallyOf_8 (by decide) (fun c2 => ?_) (fun c2 => ?_)
    · replace hw := hw.1 c2
      refine lv_aload_n hx hb dX3_tallyOf_21 rfl (lv_at hl 0 rfl) ?_
      refine z_get C0 Z in_X1 rfl 3 (by decide) rfl tm_1_53 (isL_lt0 hLa1) (ent_L hLa1) rfl dX3_tallyOf_22 ?_
      refine lv_iload_n hx hb dX3_tallyOf_25 rfl (lv_at hl 2 rfl) ?_
      obtain ⟨h3, hw⟩ := hw
      refine z_iald C0 Z (isL_lt hLa1 4 (by decide)) (ent_L4 hLa1) h3 dX3_tallyOf_26 ?_
      exact z_iret C0 Z hw dX3_tallyOf_27
    · replace hw := hw.2 c2
      refine lv_aload_n hx hb dX3_tallyOf_11 rfl (lv_at hl 0 rfl) ?_
      refine z_callVv C0 Z hl.1 (As := []) (rest := []) (k_X1_tick l (cx_g C0) hLa1 hw) (gv_X1_tick tm_3_186) rfl ds_X1_tick ⟨Nat.le_of_ble_eq_true rfl, Nat.le_of_ble_eq_true rfl⟩ (ci := 1) rfl (isL_lt0 hLa1) (ent_L hLa1) rfl rfl (Nat.le_of_ble_eq_true rfl) ⟨Nat.le_of_ble_eq_true rfl, Nat.le_of_ble_eq_true rfl⟩ dX3_tallyOf_12 (fun v4 H locs hw Z => ?_)
      refine lv_iinc (v := x3 + 1) (lv' := [(3, .int (x3 + 1)), (0, .ref (gad G a1)), (1, .int x1), (2, .int x2)]) hx hb dX3_tallyOf_15 hl (k := 3) rfl rfl (by decide) rfl (fun ls hl => ?_)
      refine lv_goto (tgt := 6) hx hb dX3_tallyOf_18 (by decide) ?_
      exact hK6 _ _ _ _ _ _ _ hw Z (lv_sub hl [1, 2, 3, 0] rfl)
set_option maxRecDepth 100000 in
set_option maxHeartbeats 4000000 in
theorem k_X3_tallyOf (l : Launch) {G : zG} (hg : 116 ≤ gn G) {a1 : Nat} {a2 : Int32} {a3 : Int32} (hLa1 : isL G a1) {v : V3} {Q : Int32 → V3 → Prop} (hw : w_X3_tallyOf a1 a2 a3 v Q) : Mz l yX3_tallyOf cX3_tallyOf 4 (some .int) 5 125 G [.ref (gad G a1), .int a2, .int a3] v (QiZ G Q) := by
  rw [w_X3_tallyOf] at hw
  refine z_ofW hg (by decide) (Nat.le_of_ble_eq_true rfl) ?_
  intro p e s m args below meth c ls C0 Z hl
  have hx := C0.1
  have hb := C0.2.1
  replace hl : lv_has ls 4 [(0, .ref (gad G a1)), (1, .int a2), (2, .int a3)] := hl
  generalize s.heap = H at Z ⊢
  generalize ([] : List Loc) = locs at Z ⊢
  refine lv_aload_n hx hb dX3_tallyOf_0 rfl (lv_at hl 0 rfl) ?_
  refine z_callVv C0 Z hl.1 (As := []) (rest := []) (k_X1_clearTally l (cx_g C0) hLa1 hw) (gv_X1_clearTally tm_3_182) rfl ds_X1_clearTally ⟨Nat.le_of_ble_eq_true rfl, Nat.le_of_ble_eq_true rfl⟩ (ci := 1) rfl (isL_lt0 hLa1) (ent_L hLa1) rfl rfl (Nat.le_of_ble_eq_true rfl) ⟨Nat.le_of_ble_eq_true rfl, Nat.le_of_ble_eq_true rfl⟩ dX3_tallyOf_1 (fun v1 H locs hw Z => ?_)
  refine lv_iconst (v := 0) hx hb dX3_tallyOf_4 (by decide) ?_
  refine lv_istore_n (lv' := [(3, .int 0), (0, .ref (gad G a1)), (1, .int a2), (2, .int a3)]) hx hb dX3_tallyOf_5 rfl hl (by decide) rfl (fun ls hl => ?_)
  obtain ⟨m6, hw⟩ := hw
  exact b_X3_tallyOf_6 l hLa1 C0 m6 _ _ _ _ _ _ _ hw Z (lv_sub hl [1, 2, 3, 0] rfl)
-- X3_addOwner: room (1, 23)
theorem dX3_addOwner_0 : decode cX3_addOwner 0 = .ok (.iload_n 1, 1) := by decide +kernel
theorem dX3_addOwner_1 : decode cX3_addOwner 1 = .ok (.iconst 0, 1) := by decide +kernel
theorem dX3_addOwner_2 : decode cX3_addOwner 2 = .ok (.sipush 999, 3) := by decide +kernel
theorem dX3_addOwner_5 : decode cX3_addOwner 5 = .ok (.invokestatic 77, 3) := by decide +kernel
theorem dX3_addOwner_8 : decode cX3_addOwner 8 = .ok (.aload_n 0, 1) := by decide +kernel
theorem dX3_addOwner_9 : decode cX3_addOwner 9 = .ok (.getfield 26, 3) := by decide +kernel
theorem dX3_addOwner_12 : decode cX3_addOwner 12 = .ok (.getfield 100, 3) := by decide +kernel
theorem dX3_addOwner_15 : decode cX3_addOwner 15 = .ok (.bipush 8, 2) := by decide +kernel
theorem dX3_addOwner_17 : decode cX3_addOwner 17 = .ok (.if_icmp .lt 13, 3) := by decide +kernel
theorem dX3_addOwner_20 : decode cX3_addOwner 20 = .ok (.new 70, 3) := by decide +kernel
theorem dX3_addOwner_23 : decode cX3_addOwner 23 = .ok (.dup, 1) := by decide +kernel
theorem dX3_addOwner_24 : decode cX3_addOwner 24 = .ok (.ldc 103, 2) := by decide +kernel
theorem dX3_addOwner_26 : decode cX3_addOwner 26 = .ok (.invokespecial 74, 3) := by decide +kernel
theorem dX3_addOwner_29 : decode cX3_addOwner 29 = .ok (.athrow, 1) := by decide +kernel
theorem dX3_addOwner_30 : decode cX3_addOwner 30 = .ok (.aload_n 0, 1) := by decide +kernel
theorem dX3_addOwner_31 : decode cX3_addOwner 31 = .ok (.getfield 26, 3) := by decide +kernel
theorem dX3_addOwner_34 : decode cX3_addOwner 34 = .ok (.iload_n 1, 1) := by decide +kernel
theorem dX3_addOwner_35 : decode cX3_addOwner 35 = .ok (.invokevirtual 105, 3) := by decide +kernel
theorem dX3_addOwner_38 : decode cX3_addOwner 38 = .ok (.ireturn, 1) := by decide +kernel
def w_X3_addOwner (a1 : Int32) (v : V3) (Q : Int32 → V3 → Prop) : Prop := w_X3_needWithin a1 0 999 v (fun v1 => (((v1 8 7) < 8 → w_X1_enterOwner 8 a1 v1 (fun r4 v3 => Q r4 v3)) ∧ (¬ (v1 8 7) < 8 → False)))
set_option maxRecDepth 100000 in
set_option maxHeartbeats 4000000 in
theorem k_X3_addOwner (l : Launch) {G : zG} (hg : 116 ≤ gn G) {a1 : Int32}  {v : V3} {Q : Int32 → V3 → Prop} (hw : w_X3_addOwner a1 v Q) : Mz l yX3_addOwner cX3_addOwner 2 (some .int) 1 23 G [.ref (gad G 0), .int a1] v (QiZ G Q) := by
  rw [w_X3_addOwner] at hw
  refine z_ofW hg (by decide) (Nat.le_of_ble_eq_true rfl) ?_
  intro p e s m args below meth c ls C0 Z hl
  have hx := C0.1
  have hb := C0.2.1
  replace hl : lv_has ls 2 [(0, .ref (gad G 0)), (1, .int a1)] := hl
  generalize s.heap = H at Z ⊢
  generalize ([] : List Loc) = locs at Z ⊢
  refine lv_iload_n hx hb dX3_addOwner_0 rfl (lv_at hl 1 rfl) ?_
  refine lv_iconst (v := 0) hx hb dX3_addOwner_1 (by decide) ?_
  refine lv_sipush (v := 999) hx hb dX3_addOwner_2 (by decide) ?_
  refine z_callSv C0 Z hl.1 (As := [.int a1, .int 0, .int 999]) (rest := []) (k_X3_needWithin l (cx_g C0) hw) (gv_X3_needWithin tm_1_228) ds_X3_needWithin ⟨Nat.le_of_ble_eq_true rfl, Nat.le_of_ble_eq_true rfl⟩ rfl rfl (Nat.le_of_ble_eq_true rfl) ⟨Nat.le_of_ble_eq_true rfl, Nat.le_of_ble_eq_true rfl⟩ dX3_addOwner_5 (fun v1 H locs hw Z => ?_)
  refine lv_aload_n hx hb dX3_addOwner_8 rfl (lv_at hl 0 rfl) ?_
  refine z_get C0 Z in_X3 rfl 4 (by decide) rfl tm_1_142 (cx_lt C0 (by decide)) rfl rfl dX3_addOwner_9 ?_
  refine z_get C0 Z in_X1 rfl 7 (by decide) rfl tm_1_61 (isL_lt0 (isL8 (cx_g C0))) (ent_L (isL8 (cx_g C0))) rfl dX3_addOwner_12 ?_
  refine lv_bipush (v := 8) hx hb dX3_addOwner_15 (by decide) ?_
  refine lv_icmp_lt (tgt := 30) hx hb dX3_addOwner_17 (by decide) (fun c2 => ?_) (fun c2 => ?_)
  · replace hw := hw.1 c2
    refine lv_aload_n hx hb dX3_addOwner_30 rfl (lv_at hl 0 rfl) ?_
    refine z_get C0 Z in_X3 rfl 4 (by decide) rfl tm_1_142 (cx_lt C0 (by decide)) rfl rfl dX3_addOwner_31 ?_
    refine lv_iload_n hx hb dX3_addOwner_34 rfl (lv_at hl 1 rfl) ?_
    refine z_callVi C0 Z hl.1 (As := [.int a1]) (rest := []) (k_X1_enterOwner l (cx_g C0) (isL8 (cx_g C0)) hw) (gv_X1_enterOwner tm_2_74) rfl ds_X1_enterOwner ⟨Nat.le_of_ble_eq_true rfl, Nat.le_of_ble_eq_true rfl⟩ (ci := 1) rfl (isL_lt0 (isL8 (cx_g C0))) (ent_L (isL8 (cx_g C0))) rfl rfl (Nat.le_of_ble_eq_true rfl) ⟨Nat.le_of_ble_eq_true rfl, Nat.le_of_ble_eq_true rfl⟩ dX3_addOwner_35 (fun r4 v3 H locs hw Z => ?_)
    exact z_iret C0 Z hw dX3_addOwner_38
  · replace hw := hw.2 c2
    exact hw.elim
-- X3_set: room (1, 22)
theorem dX3_set_0 : decode cX3_set 0 = .ok (.iload_n 1, 1) := by decide +kernel
theorem dX3_set_1 : decode cX3_set 1 = .ok (.iconst 0, 1) := by decide +kernel
theorem dX3_set_2 : decode cX3_set 2 = .ok (.iconst 3, 1) := by decide +kernel
theorem dX3_set_3 : decode cX3_set 3 = .ok (.invokestatic 77, 3) := by decide +kernel
theorem dX3_set_6 : decode cX3_set 6 = .ok (.iload_n 2, 1) := by decide +kernel
theorem dX3_set_7 : decode cX3_set 7 = .ok (.getstatic 109, 3) := by decide +kernel
theorem dX3_set_10 : decode cX3_set 10 = .ok (.iload_n 1, 1) := by decide +kernel
theorem dX3_set_11 : decode cX3_set 11 = .ok (.iaload, 1) := by decide +kernel
theorem dX3_set_12 : decode cX3_set 12 = .ok (.getstatic 113, 3) := by decide +kernel
theorem dX3_set_15 : decode cX3_set 15 = .ok (.iload_n 1, 1) := by decide +kernel
theorem dX3_set_16 : decode cX3_set 16 = .ok (.iaload, 1) := by decide +kernel
theorem dX3_set_17 : decode cX3_set 17 = .ok (.invokestatic 77, 3) := by decide +kernel
theorem dX3_set_20 : decode cX3_set 20 = .ok (.aload_n 0, 1) := by decide +kernel
theorem dX3_set_21 : decode cX3_set 21 = .ok (.getfield 26, 3) := by decide +kernel
theorem dX3_set_24 : decode cX3_set 24 = .ok (.getfield 116, 3) := by decide +kernel
theorem dX3_set_27 : decode cX3_set 27 = .ok (.iload_n 1, 1) := by decide +kernel
theorem dX3_set_28 : decode cX3_set 28 = .ok (.iaload, 1) := by decide +kernel
theorem dX3_set_29 : decode cX3_set 29 = .ok (.istore_n 3, 1) := by decide +kernel
theorem dX3_set_30 : decode cX3_set 30 = .ok (.aload_n 0, 1) := by decide +kernel
theorem dX3_set_31 : decode cX3_set 31 = .ok (.getfield 26, 3) := by decide +kernel
theorem dX3_set_34 : decode cX3_set 34 = .ok (.getfield 116, 3) := by decide +kernel
theorem dX3_set_37 : decode cX3_set 37 = .ok (.iload_n 1, 1) := by decide +kernel
theorem dX3_set_38 : decode cX3_set 38 = .ok (.iload_n 2, 1) := by decide +kernel
theorem dX3_set_39 : decode cX3_set 39 = .ok (.iastore, 1) := by decide +kernel
theorem dX3_set_40 : decode cX3_set 40 = .ok (.iload_n 3, 1) := by decide +kernel
theorem dX3_set_41 : decode cX3_set 41 = .ok (.ireturn, 1) := by decide +kernel
def w_X3_set (a1 : Int32) (a2 : Int32) (v : V3) (Q : Int32 → V3 → Prop) : Prop := w_X3_needWithin a1 0 3 v (fun v1 => vp_in a1 4 ∧ vp_in a1 4 ∧ w_X3_needWithin a2 (f4 0 0 1 1 (ix a1)) (f4 50 99 9 9 (ix a1)) v1 (fun v4 => vp_in a1 4 ∧ vp_in a1 4 ∧ ∀ v7 : V3, v7 = up2 v4 (8 + 1) (ix a1) a2 → Q (v4 (8 + 1) (ix a1)) v7))
set_option maxRecDepth 100000 in
set_option maxHeartbeats 4000000 in
theorem k_X3_set (l : Launch) {G : zG} (hg : 116 ≤ gn G) {a1 : Int32} {a2 : Int32}  {v : V3} {Q : Int32 → V3 → Prop} (hw : w_X3_set a1 a2 v Q) : Mz l yX3_set cX3_set 4 (some .int) 1 22 G [.ref (gad G 0), .int a1, .int a2] v (QiZ G Q) := by
  rw [w_X3_set] at hw
  refine z_ofW hg (by decide) (Nat.le_of_ble_eq_true rfl) ?_
  intro p e s m args below meth c ls C0 Z hl
  have hx := C0.1
  have hb := C0.2.1
  replace hl : lv_has ls 4 [(0, .ref (gad G 0)), (1, .int a1), (2, .int a2)] := hl
  generalize s.heap = H at Z ⊢
  generalize ([] : List Loc) = locs at Z ⊢
  refine lv_iload_n hx hb dX3_set_0 rfl (lv_at hl 1 rfl) ?_
  refine lv_iconst (v := 0) hx hb dX3_set_1 (by decide) ?_
  refine lv_iconst (v := 3) hx hb dX3_set_2 (by decide) ?_
  refine z_callSv C0 Z hl.1 (As := [.int a1, .int 0, .int 3]) (rest := []) (k_X3_needWithin l (cx_g C0) hw) (gv_X3_needWithin tm_1_228) ds_X3_needWithin ⟨Nat.le_of_ble_eq_true rfl, Nat.le_of_ble_eq_true rfl⟩ rfl rfl (Nat.le_of_ble_eq_true rfl) ⟨Nat.le_of_ble_eq_true rfl, Nat.le_of_ble_eq_true rfl⟩ dX3_set_3 (fun v1 H locs hw Z => ?_)
  refine lv_iload_n hx hb dX3_set_6 rfl (lv_at hl 2 rfl) ?_
  refine z_gets1 C0 Z tm_2_85 dX3_set_7 ?_
  refine lv_iload_n hx hb dX3_set_10 rfl (lv_at hl 1 rfl) ?_
  obtain ⟨h2, hw⟩ := hw
  refine z_tab1 C0 Z h2 dX3_set_11 ?_
  refine z_gets2 C0 Z tm_2_87 dX3_set_12 ?_
  refine lv_iload_n hx hb dX3_set_15 rfl (lv_at hl 1 rfl) ?_
  obtain ⟨h3, hw⟩ := hw
  refine z_tab2 C0 Z h3 dX3_set_16 ?_
  refine z_callSv C0 Z hl.1 (As := [.int a2, .int (f4 0 0 1 1 (ix a1)), .int (f4 50 99 9 9 (ix a1))]) (rest := []) (k_X3_needWithin l (cx_g C0) hw) (gv_X3_needWithin tm_1_228) ds_X3_needWithin ⟨Nat.le_of_ble_eq_true rfl, Nat.le_of_ble_eq_true rfl⟩ rfl rfl (Nat.le_of_ble_eq_true rfl) ⟨Nat.le_of_ble_eq_true rfl, Nat.le_of_ble_eq_true rfl⟩ dX3_set_17 (fun v4 H locs hw Z => ?_)
  refine lv_aload_n hx hb dX3_set_20 rfl (lv_at hl 0 rfl) ?_
  refine z_get C0 Z in_X3 rfl 4 (by decide) rfl tm_1_142 (cx_lt C0 (by decide)) rfl rfl dX3_set_21 ?_
  refine z_get C0 Z in_X1 rfl 0 (by decide) rfl tm_1_45 (isL_lt0 (isL8 (cx_g C0))) (ent_L (isL8 (cx_g C0))) rfl dX3_set_24 ?_
  refine lv_iload_n hx hb dX3_set_27 rfl (lv_at hl 1 rfl) ?_
  obtain ⟨h5, hw⟩ := hw
  refine z_iald C0 Z (isL_lt (isL8 (cx_g C0)) 1 (by decide)) (ent_L1 (isL8 (cx_g C0))) h5 dX3_set_28 ?_
  refine lv_istore_n (lv' := [(3, .int (v4 (8 + 1) (ix a1))), (0, .ref (gad G 0)), (1, .int a1), (2, .int a2)]) hx hb dX3_set_29 rfl hl (by decide) rfl (fun ls hl => ?_)
  refine lv_aload_n hx hb dX3_set_30 rfl (lv_at hl 1 rfl) ?_
  refine z_get C0 Z in_X3 rfl 4 (by decide) rfl tm_1_142 (cx_lt C0 (by decide)) rfl rfl dX3_set_31 ?_
  refine z_get C0 Z in_X1 rfl 0 (by decide) rfl tm_1_45 (isL_lt0 (isL8 (cx_g C0))) (ent_L (isL8 (cx_g C0))) rfl dX3_set_34 ?_
  refine lv_iload_n hx hb dX3_set_37 rfl (lv_at hl 2 rfl) ?_
  refine lv_iload_n hx hb dX3_set_38 rfl (lv_at hl 3 rfl) ?_
  obtain ⟨h6, hw⟩ := hw
  refine z_iast C0 Z (isL_lt (isL8 (cx_g C0)) 1 (by decide)) (fun _ => ent_L1 (isL8 (cx_g C0))) h6 dX3_set_39 (fun H locs Z => ?_)
  obtain ⟨v7, ev7⟩ : ∃ z : V3, z = up2 v4 (8 + 1) (ix a1) a2 := ⟨_, rfl⟩
  rw [← ev7] at Z
  replace hw := hw v7 ev7
  refine lv_iload_n hx hb dX3_set_40 rfl (lv_at hl 0 rfl) ?_
  exact z_iret C0 Z hw dX3_set_41
-- X3_count: room (2, 49)
theorem dX3_count_0 : decode cX3_count 0 = .ok (.iload_n 1, 1) := by decide +kernel
theorem dX3_count_1 : decode cX3_count 1 = .ok (.iconst 0, 1) := by decide +kernel
theorem dX3_count_2 : decode cX3_count 2 = .ok (.bipush 13, 2) := by decide +kernel
theorem dX3_count_4 : decode cX3_count 4 = .ok (.invokestatic 77, 3) := by decide +kernel
theorem dX3_count_7 : decode cX3_count 7 = .ok (.iload_n 1, 1) := by decide +kernel
theorem dX3_count_8 : decode cX3_count 8 = .ok (.tableswitch 140 4 13 #[56, 64, 72, 80, 88, 97, 106, 115, 123, 131], 56) := by decide +kernel
theorem dX3_count_64 : decode cX3_count 64 = .ok (.aload_n 0, 1) := by decide +kernel
theorem dX3_count_65 : decode cX3_count 65 = .ok (.getfield 26, 3) := by decide +kernel
theorem dX3_count_68 : decode cX3_count 68 = .ok (.getfield 119, 3) := by decide +kernel
theorem dX3_count_71 : decode cX3_count 71 = .ok (.ireturn, 1) := by decide +kernel
theorem dX3_count_72 : decode cX3_count 72 = .ok (.aload_n 0, 1) := by decide +kernel
theorem dX3_count_73 : decode cX3_count 73 = .ok (.getfield 26, 3) := by decide +kernel
theorem dX3_count_76 : decode cX3_count 76 = .ok (.getfield 100, 3) := by decide +kernel
theorem dX3_count_79 : decode cX3_count 79 = .ok (.ireturn, 1) := by decide +kernel
theorem dX3_count_80 : decode cX3_count 80 = .ok (.aload_n 0, 1) := by decide +kernel
theorem dX3_count_81 : decode cX3_count 81 = .ok (.getfield 26, 3) := by decide +kernel
theorem dX3_count_84 : decode cX3_count 84 = .ok (.getfield 97, 3) := by decide +kernel
theorem dX3_count_87 : decode cX3_count 87 = .ok (.ireturn, 1) := by decide +kernel
theorem dX3_count_88 : decode cX3_count 88 = .ok (.aload_n 0, 1) := by decide +kernel
theorem dX3_count_89 : decode cX3_count 89 = .ok (.getfield 26, 3) := by decide +kernel
theorem dX3_count_92 : decode cX3_count 92 = .ok (.getfield 122, 3) := by decide +kernel
theorem dX3_count_95 : decode cX3_count 95 = .ok (.ireturn, 1) := by decide +kernel
theorem dX3_count_96 : decode cX3_count 96 = .ok (.aload_n 0, 1) := by decide +kernel
theorem dX3_count_97 : decode cX3_count 97 = .ok (.getfield 26, 3) := by decide +kernel
theorem dX3_count_100 : decode cX3_count 100 = .ok (.iconst 0, 1) := by decide +kernel
theorem dX3_count_101 : decode cX3_count 101 = .ok (.invokevirtual 125, 3) := by decide +kernel
theorem dX3_count_104 : decode cX3_count 104 = .ok (.ireturn, 1) := by decide +kernel
theorem dX3_count_105 : decode cX3_count 105 = .ok (.aload_n 0, 1) := by decide +kernel
theorem dX3_count_106 : decode cX3_count 106 = .ok (.getfield 26, 3) := by decide +kernel
theorem dX3_count_109 : decode cX3_count 109 = .ok (.iconst 1, 1) := by decide +kernel
theorem dX3_count_110 : decode cX3_count 110 = .ok (.invokevirtual 125, 3) := by decide +kernel
theorem dX3_count_113 : decode cX3_count 113 = .ok (.ireturn, 1) := by decide +kernel
theorem dX3_count_114 : decode cX3_count 114 = .ok (.aload_n 0, 1) := by decide +kernel
theorem dX3_count_115 : decode cX3_count 115 = .ok (.getfield 26, 3) := by decide +kernel
theorem dX3_count_118 : decode cX3_count 118 = .ok (.iconst 2, 1) := by decide +kernel
theorem dX3_count_119 : decode cX3_count 119 = .ok (.invokevirtual 125, 3) := by decide +kernel
theorem dX3_count_122 : decode cX3_count 122 = .ok (.ireturn, 1) := by decide +kernel
theorem dX3_count_123 : decode cX3_count 123 = .ok (.aload_n 0, 1) := by decide +kernel
theorem dX3_count_124 : decode cX3_count 124 = .ok (.getfield 26, 3) := by decide +kernel
theorem dX3_count_127 : decode cX3_count 127 = .ok (.getfield 128, 3) := by decide +kernel
theorem dX3_count_130 : decode cX3_count 130 = .ok (.ireturn, 1) := by decide +kernel
theorem dX3_count_131 : decode cX3_count 131 = .ok (.aload_n 0, 1) := by decide +kernel
theorem dX3_count_132 : decode cX3_count 132 = .ok (.getfield 26, 3) := by decide +kernel
theorem dX3_count_135 : decode cX3_count 135 = .ok (.getfield 131, 3) := by decide +kernel
theorem dX3_count_138 : decode cX3_count 138 = .ok (.ireturn, 1) := by decide +kernel
theorem dX3_count_139 : decode cX3_count 139 = .ok (.aload_n 0, 1) := by decide +kernel
theorem dX3_count_140 : decode cX3_count 140 = .ok (.getfield 26, 3) := by decide +kernel
theorem dX3_count_143 : decode cX3_count 143 = .ok (.iconst 1, 1) := by decide +kernel
theorem dX3_count_144 : decode cX3_count 144 = .ok (.invokevirtual 134, 3) := by decide +kernel
theorem dX3_count_147 : decode cX3_count 147 = .ok (.ireturn, 1) := by decide +kernel
theorem dX3_count_148 : decode cX3_count 148 = .ok (.aload_n 0, 1) := by decide +kernel
theorem dX3_count_149 : decode cX3_count 149 = .ok (.getfield 26, 3) := by decide +kernel
theorem dX3_count_152 : decode cX3_count 152 = .ok (.getfield 116, 3) := by decide +kernel
theorem dX3_count_155 : decode cX3_count 155 = .ok (.iload_n 1, 1) := by decide +kernel
theorem dX3_count_156 : decode cX3_count 156 = .ok (.iaload, 1) := by decide +kernel
theorem dX3_count_157 : decode cX3_count 157 = .ok (.ireturn, 1) := by decide +kernel
def w_X3_count (a1 : Int32) (v : V3) (Q : Int32 → V3 → Prop) : Prop := w_X3_needWithin a1 0 13 v (fun v1 => ((a1 = 4 → Q (v1 8 5) v1) ∧ (a1 = 5 → Q (v1 8 7) v1) ∧ (a1 = 6 → Q (v1 8 8) v1) ∧ (a1 = 7 → Q (v1 8 6) v1) ∧ (a1 = 8 → w_X1_countIn 8 0 v1 (fun r8 v7 => Q r8 v7)) ∧ (a1 = 9 → w_X1_countIn 8 1 v1 (fun r11 v10 => Q r11 v10)) ∧ (a1 = 10 → w_X1_countIn 8 2 v1 (fun r14 v13 => Q r14 v13)) ∧ (a1 = 11 → Q (v1 8 9) v1) ∧ (a1 = 12 → Q (v1 8 10) v1) ∧ (a1 = 13 → w_X1_usedWithin 8 1 v1 (fun r19 v18 => Q r19 v18)) ∧ (¬ a1 = 4 ∧ ¬ a1 = 5 ∧ ¬ a1 = 6 ∧ ¬ a1 = 7 ∧ ¬ a1 = 8 ∧ ¬ a1 = 9 ∧ ¬ a1 = 10 ∧ ¬ a1 = 11 ∧ ¬ a1 = 12 ∧ ¬ a1 = 13 → vp_in a1 4 ∧ Q (v1 (8 + 1) (ix a1)) v1)))
set_option maxRecDepth 100000 in
set_option maxHeartbeats 4000000 in
theorem k_X3_count (l : Launch) {G : zG} (hg : 116 ≤ gn G) {a1 : Int32}  {v : V3} {Q : Int32 → V3 → Prop} (hw : w_X3_count a1 v Q) : Mz l yX3_count cX3_count 2 (some .int) 2 49 G [.ref (gad G 0), .int a1] v (QiZ G Q) := by
  rw [w_X3_count] at hw
  refine z_ofW hg (by decide) (Nat.le_of_ble_eq_true rfl) ?_
  intro p e s m args below meth c ls C0 Z hl
  have hx := C0.1
  have hb := C0.2.1
  replace hl : lv_has ls 2 [(0, .ref (gad G 0)), (1, .int a1)] := hl
  generalize s.heap = H at Z ⊢
  generalize ([] : List Loc) = locs at Z ⊢
  refine lv_iload_n hx hb dX3_count_0 rfl (lv_at hl 1 rfl) ?_
  refine lv_iconst (v := 0) hx hb dX3_count_1 (by decide) ?_
  refine lv_bipush (v := 13) hx hb dX3_count_2 (by decide) ?_
  refine z_callSv C0 Z hl.1 (As := [.int a1, .int 0, .int 13]) (rest := []) (k_X3_needWithin l (cx_g C0) hw) (gv_X3_needWithin tm_1_228) ds_X3_needWithin ⟨Nat.le_of_ble_eq_true rfl, Nat.le_of_ble_eq_true rfl⟩ rfl rfl (Nat.le_of_ble_eq_true rfl) ⟨Nat.le_of_ble_eq_true rfl, Nat.le_of_ble_eq_true rfl⟩ dX3_count_4 (fun v1 H locs hw Z => ?_)
  refine lv_iload_n hx hb dX3_count_7 rfl (lv_at hl 1 rfl) ?_
  by_cases c2 : a1 = 4
  · refine lv_tableIn (tgt := 64) (off := 56) hx hb dX3_count_8 (by rw [c2]; decide) (by rw [c2]; decide) (by rw [c2]; rfl) (by decide) ?_
    replace hw := hw.1 c2
    refine lv_aload_n hx hb dX3_count_64 rfl (lv_at hl 0 rfl) ?_
    refine z_get C0 Z in_X3 rfl 4 (by decide) rfl tm_1_142 (cx_lt C0 (by decide)) rfl rfl dX3_count_65 ?_
    refine z_get C0 Z in_X1 rfl 5 (by decide) rfl tm_1_56 (isL_lt0 (isL8 (cx_g C0))) (ent_L (isL8 (cx_g C0))) rfl dX3_count_68 ?_
    exact z_iret C0 Z hw dX3_count_71
  replace hw := hw.2
  by_cases c3 : a1 = 5
  · refine lv_tableIn (tgt := 72) (off := 64) hx hb dX3_count_8 (by rw [c3]; decide) (by rw [c3]; decide) (by rw [c3]; rfl) (by decide) ?_
    replace hw := hw.1 c3
    refine lv_aload_n hx hb dX3_count_72 rfl (lv_at hl 0 rfl) ?_
    refine z_get C0 Z in_X3 rfl 4 (by decide) rfl tm_1_142 (cx_lt C0 (by decide)) rfl rfl dX3_count_73 ?_
    refine z_get C0 Z in_X1 rfl 7 (by decide) rfl tm_1_61 (isL_lt0 (isL8 (cx_g C0))) (ent_L (isL8 (cx_g C0))) rfl dX3_count_76 ?_
    exact z_iret C0 Z hw dX3_count_79
  replace hw := hw.2
  by_cases c4 : a1 = 6
  · refine lv_tableIn (tgt := 80) (off := 72) hx hb dX3_count_8 (by rw [c4]; decide) (by rw [c4]; decide) (by rw [c4]; rfl) (by decide) ?_
    replace hw := hw.1 c4
    refine lv_aload_n hx hb dX3_count_80 rfl (lv_at hl 0 rfl) ?_
    refine z_get C0 Z in_X3 rfl 4 (by decide) rfl tm_1_142 (cx_lt C0 (by decide)) rfl rfl dX3_count_81 ?_
    refine z_get C0 Z in_X1 rfl 8 (by decide) rfl tm_1_64 (isL_lt0 (isL8 (cx_g C0))) (ent_L (isL8 (cx_g C0))) rfl dX3_count_84 ?_
    exact z_iret C0 Z hw dX3_count_87
  replace hw := hw.2
  by_cases c5 : a1 = 7
  · refine lv_tableIn (tgt := 88) (off := 80) hx hb dX3_count_8 (by rw [c5]; decide) (by rw [c5]; decide) (by rw [c5]; rfl) (by decide) ?_
    replace hw := hw.1 c5
    refine lv_aload_n hx hb dX3_count_88 rfl (lv_at hl 0 rfl) ?_
    refine z_get C0 Z in_X3 rfl 4 (by decide) rfl tm_1_142 (cx_lt C0 (by decide)) rfl rfl dX3_count_89 ?_
    refine z_get C0 Z in_X1 rfl 6 (by decide) rfl tm_1_59 (isL_lt0 (isL8 (cx_g C0))) (ent_L (isL8 (cx_g C0))) rfl dX3_count_92 ?_
    exact z_iret C0 Z hw dX3_count_95
  replace hw := hw.2
  by_cases c6 : a1 = 8
  · refine lv_tableIn (tgt := 96) (off := 88) hx hb dX3_count_8 (by rw [c6]; decide) (by rw [c6]; decide) (by rw [c6]; rfl) (by decide) ?_
    replace hw := hw.1 c6
    refine lv_aload_n hx hb dX3_count_96 rfl (lv_at hl 0 rfl) ?_
    refine z_get C0 Z in_X3 rfl 4 (by decide) rfl tm_1_142 (cx_lt C0 (by decide)) rfl rfl dX3_count_97 ?_
    refine lv_iconst (v := 0) hx hb dX3_count_100 (by decide) ?_
    refine z_callVi C0 Z hl.1 (As := [.int 0]) (rest := []) (k_X1_countIn l (cx_g C0) (isL8 (cx_g C0)) hw) (gv_X1_countIn tm_2_100) rfl ds_X1_countIn ⟨Nat.le_of_ble_eq_true rfl, Nat.le_of_ble_eq_true rfl⟩ (ci := 1) rfl (isL_lt0 (isL8 (cx_g C0))) (ent_L (isL8 (cx_g C0))) rfl rfl (Nat.le_of_ble_eq_true rfl) ⟨Nat.le_of_ble_eq_true rfl, Nat.le_of_ble_eq_true rfl⟩ dX3_count_101 (fun r8 v7 H locs hw Z => ?_)
    exact z_iret C0 Z hw dX3_count_104
  replace hw := hw.2
  by_cases c9 : a1 = 9
  · refine lv_tableIn (tgt := 105) (off := 97) hx hb dX3_count_8 (by rw [c9]; decide) (by rw [c9]; decide) (by rw [c9]; rfl) (by decide) ?_
    replace hw := hw.1 c9
    refine lv_aload_n hx hb dX3_count_105 rfl (lv_at hl 0 rfl) ?_
    refine z_get C0 Z in_X3 rfl 4 (by decide) rfl tm_1_142 (cx_lt C0 (by decide)) rfl rfl dX3_count_106 ?_
    refine lv_iconst (v := 1) hx hb dX3_count_109 (by decide) ?_
    refine z_callVi C0 Z hl.1 (As := [.int 1]) (rest := []) (k_X1_countIn l (cx_g C0) (isL8 (cx_g C0)) hw) (gv_X1_countIn tm_2_100) rfl ds_X1_countIn ⟨Nat.le_of_ble_eq_true rfl, Nat.le_of_ble_eq_true rfl⟩ (ci := 1) rfl (isL_lt0 (isL8 (cx_g C0))) (ent_L (isL8 (cx_g C0))) rfl rfl (Nat.le_of_ble_eq_true rfl) ⟨Nat.le_of_ble_eq_true rfl, Nat.le_of_ble_eq_true rfl⟩ dX3_count_110 (fun r11 v10 H locs hw Z => ?_)
    exact z_iret C0 Z hw dX3_count_113
  replace hw := hw.2
  by_cases c12 : a1 = 10
  · refine lv_tableIn (tgt := 114) (off := 106) hx hb dX3_count_8 (by rw [c12]; decide) (by rw [c12]; decide) (by rw [c12]; rfl) (by decide) ?_
    replace hw := hw.1 c12
    refine lv_aload_n hx hb dX3_count_114 rfl (lv_at hl 0 rfl) ?_
    refine z_get C0 Z in_X3 rfl 4 (by decide) rfl tm_1_142 (cx_lt C0 (by decide)) rfl rfl dX3_count_115 ?_
    refine lv_iconst (v := 2) hx hb dX3_count_118 (by decide) ?_
    refine z_callVi C0 Z hl.1 (As := [.int 2]) (rest := []) (k_X1_countIn l (cx_g C0) (isL8 (cx_g C0)) hw) (gv_X1_countIn tm_2_100) rfl ds_X1_countIn ⟨Nat.le_of_ble_eq_true rfl, Nat.le_of_ble_eq_true rfl⟩ (ci := 1) rfl (isL_lt0 (isL8 (cx_g C0))) (ent_L (isL8 (cx_g C0))) rfl rfl (Nat.le_of_ble_eq_true rfl) ⟨Nat.le_of_ble_eq_true rfl, Nat.le_of_ble_eq_true rfl⟩ dX3_count_119 (fun r14 v13 H locs hw Z => ?_)
    exact z_iret C0 Z hw dX3_count_122
  replace hw := hw.2
  by_cases c15 : a1 = 11
  · refine lv_tableIn (tgt := 123) (off := 115) hx hb dX3_count_8 (by rw [c15]; decide) (by rw [c15]; decide) (by rw [c15]; rfl) (by decide) ?_
    replace hw := hw.1 c15
    refine lv_aload_n hx hb dX3_count_123 rfl (lv_at hl 0 rfl) ?_
    refine z_get C0 Z in_X3 rfl 4 (by decide) rfl tm_1_142 (cx_lt C0 (by decide)) rfl rfl dX3_count_124 ?_
    refine z_get C0 Z in_X1 rfl 9 (by decide) rfl tm_1_67 (isL_lt0 (isL8 (cx_g C0))) (ent_L (isL8 (cx_g C0))) rfl dX3_count_127 ?_
    exact z_iret C0 Z hw dX3_count_130
  replace hw := hw.2
  by_cases c16 : a1 = 12
  · refine lv_tableIn (tgt := 131) (off := 123) hx hb dX3_count_8 (by rw [c16]; decide) (by rw [c16]; decide) (by rw [c16]; rfl) (by decide) ?_
    replace hw := hw.1 c16
    refine lv_aload_n hx hb dX3_count_131 rfl (lv_at hl 0 rfl) ?_
    refine z_get C0 Z in_X3 rfl 4 (by decide) rfl tm_1_142 (cx_lt C0 (by decide)) rfl rfl dX3_count_132 ?_
    refine z_get C0 Z in_X1 rfl 10 (by decide) rfl tm_1_70 (isL_lt0 (isL8 (cx_g C0))) (ent_L (isL8 (cx_g C0))) rfl dX3_count_135 ?_
    exact z_iret C0 Z hw dX3_count_138
  replace hw := hw.2
  by_cases c17 : a1 = 13
  · refine lv_tableIn (tgt := 139) (off := 131) hx hb dX3_count_8 (by rw [c17]; decide) (by rw [c17]; decide) (by rw [c17]; rfl) (by decide) ?_
    replace hw := hw.1 c17
    refine lv_aload_n hx hb dX3_count_139 rfl (lv_at hl 0 rfl) ?_
    refine z_get C0 Z in_X3 rfl 4 (by decide) rfl tm_1_142 (cx_lt C0 (by decide)) rfl rfl dX3_count_140 ?_
    refine lv_iconst (v := 1) hx hb dX3_count_143 (by decide) ?_
    refine z_callVi C0 Z hl.1 (As := [.int 1]) (rest := []) (k_X1_usedWithin l (cx_g C0) (isL8 (cx_g C0)) hw) (gv_X1_usedWithin tm_2_104) rfl ds_X1_usedWithin ⟨Nat.le_of_ble_eq_true rfl, Nat.le_of_ble_eq_true rfl⟩ (ci := 1) rfl (isL_lt0 (isL8 (cx_g C0))) (ent_L (isL8 (cx_g C0))) rfl rfl (Nat.le_of_ble_eq_true rfl) ⟨Nat.le_of_ble_eq_true rfl, Nat.le_of_ble_eq_true rfl⟩ dX3_count_144 (fun r19 v18 H locs hw Z => ?_)
    exact z_iret C0 Z hw dX3_count_147
  replace hw := hw.2
  refine lv_tableOut (tgt := 148) hx hb dX3_count_8 (by have q0 := lv_neT (a := 4) c2 (by decide); have q1 := lv_neT (a := 5) c3 (by decide); have q2 := lv_neT (a := 6) c4 (by decide); have q3 := lv_neT (a := 7) c5 (by decide); have q4 := lv_neT (a := 8) c6 (by decide); have q5 := lv_neT (a := 9) c9 (by decide); have q6 := lv_neT (a := 10) c12 (by decide); have q7 := lv_neT (a := 11) c15 (by decide); have q8 := lv_neT (a := 12) c16 (by decide); have q9 := lv_neT (a := 13) c17 (by decide); omega) (by decide) ?_
  replace hw := hw ⟨c2, c3, c4, c5, c6, c9, c12, c15, c16, c17⟩
  refine lv_aload_n hx hb dX3_count_148 rfl (lv_at hl 0 rfl) ?_
  refine z_get C0 Z in_X3 rfl 4 (by decide) rfl tm_1_142 (cx_lt C0 (by decide)) rfl rfl dX3_count_149 ?_
  refine z_get C0 Z in_X1 rfl 0 (by decide) rfl tm_1_45 (isL_lt0 (isL8 (cx_g C0))) (ent_L (isL8 (cx_g C0))) rfl dX3_count_152 ?_
  refine lv_iload_n hx hb dX3_count_155 rfl (lv_at hl 1 rfl) ?_
  obtain ⟨h20, hw⟩ := hw
  refine z_iald C0 Z (isL_lt (isL8 (cx_g C0)) 1 (by decide)) (ent_L1 (isL8 (cx_g C0))) h20 dX3_count_156 ?_
  exact z_iret C0 Z hw dX3_count_157
-- X3_owner: room (4, 93)
theorem dX3_owner_0 : decode cX3_owner 0 = .ok (.aload_n 0, 1) := by decide +kernel
theorem dX3_owner_1 : decode cX3_owner 1 = .ok (.iload_n 1, 1) := by decide +kernel
theorem dX3_owner_2 : decode cX3_owner 2 = .ok (.invokevirtual 137, 3) := by decide +kernel
theorem dX3_owner_5 : decode cX3_owner 5 = .ok (.iload_n 2, 1) := by decide +kernel
theorem dX3_owner_6 : decode cX3_owner 6 = .ok (.iconst 0, 1) := by decide +kernel
theorem dX3_owner_7 : decode cX3_owner 7 = .ok (.bipush 10, 2) := by decide +kernel
theorem dX3_owner_9 : decode cX3_owner 9 = .ok (.invokestatic 77, 3) := by decide +kernel
theorem dX3_owner_12 : decode cX3_owner 12 = .ok (.iload_n 2, 1) := by decide +kernel
theorem dX3_owner_13 : decode cX3_owner 13 = .ok (.tableswitch 62 8 10 #[27, 36, 53], 27) := by decide +kernel
theorem dX3_owner_40 : decode cX3_owner 40 = .ok (.aload_n 0, 1) := by decide +kernel
theorem dX3_owner_41 : decode cX3_owner 41 = .ok (.getfield 26, 3) := by decide +kernel
theorem dX3_owner_44 : decode cX3_owner 44 = .ok (.iload_n 1, 1) := by decide +kernel
theorem dX3_owner_45 : decode cX3_owner 45 = .ok (.invokevirtual 141, 3) := by decide +kernel
theorem dX3_owner_48 : decode cX3_owner 48 = .ok (.ireturn, 1) := by decide +kernel
theorem dX3_owner_49 : decode cX3_owner 49 = .ok (.aload_n 0, 1) := by decide +kernel
theorem dX3_owner_50 : decode cX3_owner 50 = .ok (.getfield 26, 3) := by decide +kernel
theorem dX3_owner_53 : decode cX3_owner 53 = .ok (.iload_n 1, 1) := by decide +kernel
theorem dX3_owner_54 : decode cX3_owner 54 = .ok (.invokevirtual 144, 3) := by decide +kernel
theorem dX3_owner_57 : decode cX3_owner 57 = .ok (.ifCond .eq 7, 3) := by decide +kernel
theorem dX3_owner_60 : decode cX3_owner 60 = .ok (.iconst 1, 1) := by decide +kernel
theorem dX3_owner_61 : decode cX3_owner 61 = .ok (.goto 4, 3) := by decide +kernel
theorem dX3_owner_64 : decode cX3_owner 64 = .ok (.iconst 0, 1) := by decide +kernel
theorem dX3_owner_65 : decode cX3_owner 65 = .ok (.ireturn, 1) := by decide +kernel
theorem dX3_owner_66 : decode cX3_owner 66 = .ok (.aload_n 0, 1) := by decide +kernel
theorem dX3_owner_67 : decode cX3_owner 67 = .ok (.getfield 26, 3) := by decide +kernel
theorem dX3_owner_70 : decode cX3_owner 70 = .ok (.iload_n 1, 1) := by decide +kernel
theorem dX3_owner_71 : decode cX3_owner 71 = .ok (.invokevirtual 147, 3) := by decide +kernel
theorem dX3_owner_74 : decode cX3_owner 74 = .ok (.ireturn, 1) := by decide +kernel
theorem dX3_owner_75 : decode cX3_owner 75 = .ok (.aload_n 0, 1) := by decide +kernel
theorem dX3_owner_76 : decode cX3_owner 76 = .ok (.getfield 26, 3) := by decide +kernel
theorem dX3_owner_79 : decode cX3_owner 79 = .ok (.getfield 150, 3) := by decide +kernel
theorem dX3_owner_82 : decode cX3_owner 82 = .ok (.iload_n 1, 1) := by decide +kernel
theorem dX3_owner_83 : decode cX3_owner 83 = .ok (.aaload, 1) := by decide +kernel
theorem dX3_owner_84 : decode cX3_owner 84 = .ok (.iload_n 2, 1) := by decide +kernel
theorem dX3_owner_85 : decode cX3_owner 85 = .ok (.iaload, 1) := by decide +kernel
theorem dX3_owner_86 : decode cX3_owner 86 = .ok (.ireturn, 1) := by decide +kernel
def w_X3_owner_65  (Q : Int32 → V3 → Prop) (s0 : Int32) (v : V3) : Prop := Q s0 v
def w_X3_owner (a1 : Int32) (a2 : Int32) (v : V3) (Q : Int32 → V3 → Prop) : Prop := w_X3_needOwner a1 v (fun v1 => w_X3_needWithin a2 0 10 v1 (fun v2 => ((a2 = 8 → w_X1_activeOf 8 a1 v2 (fun r5 v4 => Q r5 v4)) ∧ (a2 = 9 → w_X1_isBarred 8 a1 v2 (fun r8 v7 => ((r8 = 0 → w_X3_owner_65 Q 0 v7) ∧ (¬ r8 = 0 → w_X3_owner_65 Q 1 v7)))) ∧ (a2 = 10 → w_X1_joyOfOwner 8 a1 v2 (fun r12 v11 => Q r12 v11)) ∧ (¬ a2 = 8 ∧ ¬ a2 = 9 ∧ ¬ a2 = 10 → vp_in a1 8 ∧ vp_in a2 8 ∧ Q (v2 (8 + 6 + (ix a1)) (ix a2)) v2))))
set_option maxRecDepth 100000 in
set_option maxHeartbeats 4000000 in
theorem b_X3_owner_65 {p : Program} (l : Launch) {e : Env} {s : State} {m : MethodId} {args : Array Value} {below : List Frame} {meth : Method} {c : Code} {G : zG}   (C0 : Cx G RX3 cX3_owner 3 (some .int) p s m args meth c) {Q : Int32 → V3 → Prop} : ∀ (s0 : Int32) (v : V3) (H : Heap) (locs : List Loc) (ls : Array Slot), w_X3_owner_65 Q s0 v → Zs G s v H locs → lv_has ls 3 [] → W p l e { frames := 4, cells := 0, slots := 0, locals := 93 } s m args below meth c H locs 0 0 (MQ below (QiZ G Q) args s 0 0 (zA G)) (F0 m 65 ls [.int s0]) := by
  have hx := C0.1
  have hb := C0.2.1
  intro s0 v H locs ls hw Z hl
  rw [w_X3_owner_65] at hw
  exact z_iret C0 Z hw dX3_owner_65
set_option maxRecDepth 100000 in
set_option maxHeartbeats 4000000 in
theorem k_X3_owner (l : Launch) {G : zG} (hg : 116 ≤ gn G) {a1 : Int32} {a2 : Int32}  {v : V3} {Q : Int32 → V3 → Prop} (hw : w_X3_owner a1 a2 v Q) : Mz l yX3_owner cX3_owner 3 (some .int) 4 93 G [.ref (gad G 0), .int a1, .int a2] v (QiZ G Q) := by
  rw [w_X3_owner] at hw
  refine z_ofW hg (by decide) (Nat.le_of_ble_eq_true rfl) ?_
  intro p e s m args below meth c ls C0 Z hl
  have hx := C0.1
  have hb := C0.2.1
  replace hl : lv_has ls 3 [(0, .ref (gad G 0)), (1, .int a1), (2, .int a2)] := hl
  generalize s.heap = H at Z ⊢
  generalize ([] : List Loc) = locs at Z ⊢
  refine lv_aload_n hx hb dX3_owner_0 rfl (lv_at hl 0 rfl) ?_
  refine lv_iload_n hx hb dX3_owner_1 rfl (lv_at hl 1 rfl) ?_
  refine z_callVv C0 Z hl.1 (As := [.int a1]) (rest := []) (k_X3_needOwner l (cx_g C0) hw) (gv_X3_needOwner tm_2_154) rfl ds_X3_needOwner ⟨Nat.le_of_ble_eq_true rfl, Nat.le_of_ble_eq_true rfl⟩ (ci := 3) rfl (cx_lt C0 (by decide)) rfl rfl rfl (Nat.le_of_ble_eq_true rfl) ⟨Nat.le_of_ble_eq_true rfl, Nat.le_of_ble_eq_true rfl⟩ dX3_owner_2 (fun v1 H locs hw Z => ?_)
  refine lv_iload_n hx hb dX3_owner_5 rfl (lv_at hl 2 rfl) ?_
  refine lv_iconst (v := 0) hx hb dX3_owner_6 (by decide) ?_
  refine lv_bipush (v := 10) hx hb dX3_owner_7 (by decide) ?_
  refine z_callSv C0 Z hl.1 (As := [.int a2, .int 0, .int 10]) (rest := []) (k_X3_needWithin l (cx_g C0) hw) (gv_X3_needWithin tm_1_228) ds_X3_needWithin ⟨Nat.le_of_ble_eq_true rfl, Nat.le_of_ble_eq_true rfl⟩ rfl rfl (Nat.le_of_ble_eq_true rfl) ⟨Nat.le_of_ble_eq_true rfl, Nat.le_of_ble_eq_true rfl⟩ dX3_owner_9 (fun v2 H locs hw Z => ?_)
  refine lv_iload_n hx hb dX3_owner_12 rfl (lv_at hl 2 rfl) ?_
  by_cases c3 : a2 = 8
  · refine lv_tableIn (tgt := 40) (off := 27) hx hb dX3_owner_13 (by rw [c3]; decide) (by rw [c3]; decide) (by rw [c3]; rfl) (by decide) ?_
    replace hw := hw.1 c3
    refine lv_aload_n hx hb dX3_owner_40 rfl (lv_at hl 0 rfl) ?_
    refine z_get C0 Z in_X3 rfl 4 (by decide) rfl tm_1_142 (cx_lt C0 (by decide)) rfl rfl dX3_owner_41 ?_
    refine lv_iload_n hx hb dX3_owner_44 rfl (lv_at hl 1 rfl) ?_
    refine z_callVi C0 Z hl.1 (As := [.int a1]) (rest := []) (k_X1_activeOf l (cx_g C0) (isL8 (cx_g C0)) hw) (gv_X1_activeOf tm_2_159) rfl ds_X1_activeOf ⟨Nat.le_of_ble_eq_true rfl, Nat.le_of_ble_eq_true rfl⟩ (ci := 1) rfl (isL_lt0 (isL8 (cx_g C0))) (ent_L (isL8 (cx_g C0))) rfl rfl (Nat.le_of_ble_eq_true rfl) ⟨Nat.le_of_ble_eq_true rfl, Nat.le_of_ble_eq_true rfl⟩ dX3_owner_45 (fun r5 v4 H locs hw Z => ?_)
    exact z_iret C0 Z hw dX3_owner_48
  replace hw := hw.2
  by_cases c6 : a2 = 9
  · refine lv_tableIn (tgt := 49) (off := 36) hx hb dX3_owner_13 (by rw [c6]; decide) (by rw [c6]; decide) (by rw [c6]; rfl) (by decide) ?_
    replace hw := hw.1 c6
    refine lv_aload_n hx hb dX3_owner_49 rfl (lv_at hl 0 rfl) ?_
    refine z_get C0 Z in_X3 rfl 4 (by decide) rfl tm_1_142 (cx_lt C0 (by decide)) rfl rfl dX3_owner_50 ?_
    refine lv_iload_n hx hb dX3_owner_53 rfl (lv_at hl 1 rfl) ?_
    refine z_callVi C0 Z hl.1 (As := [.int a1]) (rest := []) (k_X1_isBarred l (cx_g C0) (isL8 (cx_g C0)) hw) (gv_X1_isBarred tm_2_167) rfl ds_X1_isBarred ⟨Nat.le_of_ble_eq_true rfl, Nat.le_of_ble_eq_true rfl⟩ (ci := 1) rfl (isL_lt0 (isL8 (cx_g C0))) (ent_L (isL8 (cx_g C0))) rfl rfl (Nat.le_of_ble_eq_true rfl) ⟨Nat.le_of_ble_eq_true rfl, Nat.le_of_ble_eq_true rfl⟩ dX3_owner_54 (fun r8 v7 H locs hw Z => ?_)
    refine lv_if_eq (tgt := 64) hx hb dX3_owner_57 (by decide) (fun c9 => ?_) (fun c9 => ?_)
    · replace hw := hw.1 c9
      refine lv_iconst (v := 0) hx hb dX3_owner_64 (by decide) ?_
      exact b_X3_owner_65 l C0 _ _ _ _ _ hw Z (lv_sub hl [] rfl)
    · replace hw := hw.2 c9
      refine lv_iconst (v := 1) hx hb dX3_owner_60 (by decide) ?_
      refine lv_goto (tgt := 65) hx hb dX3_owner_61 (by decide) ?_
      exact b_X3_owner_65 l C0 _ _ _ _ _ hw Z (lv_sub hl [] rfl)
  replace hw := hw.2
  by_cases c10 : a2 = 10
  · refine lv_tableIn (tgt := 66) (off := 53) hx hb dX3_owner_13 (by rw [c10]; decide) (by rw [c10]; decide) (by rw [c10]; rfl) (by decide) ?_
    replace hw := hw.1 c10
    refine lv_aload_n hx hb dX3_owner_66 rfl (lv_at hl 0 rfl) ?_
    refine z_get C0 Z in_X3 rfl 4 (by decide) rfl tm_1_142 (cx_lt C0 (by decide)) rfl rfl dX3_owner_67 ?_
    refine lv_iload_n hx hb dX3_owner_70 rfl (lv_at hl 1 rfl) ?_
    refine z_callVi C0 Z hl.1 (As := [.int a1]) (rest := []) (k_X1_joyOfOwner l (cx_g C0) (isL8 (cx_g C0)) hw) (gv_X1_joyOfOwner tm_2_175) rfl ds_X1_joyOfOwner ⟨Nat.le_of_ble_eq_true rfl, Nat.le_of_ble_eq_true rfl⟩ (ci := 1) rfl (isL_lt0 (isL8 (cx_g C0))) (ent_L (isL8 (cx_g C0))) rfl rfl (Nat.le_of_ble_eq_true rfl) ⟨Nat.le_of_ble_eq_true rfl, Nat.le_of_ble_eq_true rfl⟩ dX3_owner_71 (fun r12 v11 H locs hw Z => ?_)
    exact z_iret C0 Z hw dX3_owner_74
  replace hw := hw.2
  refine lv_tableOut (tgt := 75) hx hb dX3_owner_13 (by have q0 := lv_neT (a := 8) c3 (by decide); have q1 := lv_neT (a := 9) c6 (by decide); have q2 := lv_neT (a := 10) c10 (by decide); omega) (by decide) ?_
  replace hw := hw ⟨c3, c6, c10⟩
  refine lv_aload_n hx hb dX3_owner_75 rfl (lv_at hl 0 rfl) ?_
  refine z_get C0 Z in_X3 rfl 4 (by decide) rfl tm_1_142 (cx_lt C0 (by decide)) rfl rfl dX3_owner_76 ?_
  refine z_get C0 Z in_X1 rfl 1 (by decide) rfl tm_1_48 (isL_lt0 (isL8 (cx_g C0))) (ent_L (isL8 (cx_g C0))) rfl dX3_owner_79 ?_
  refine lv_iload_n hx hb dX3_owner_82 rfl (lv_at hl 1 rfl) ?_
  obtain ⟨h13, hw⟩ := hw
  have h14 := vp_lt h13
  refine z_aald C0 Z (isL_lt (isL8 (cx_g C0)) 2 (by decide)) (ent_L2 (isL8 (cx_g C0))) h13 dX3_owner_83 ?_
  refine lv_iload_n hx hb dX3_owner_84 rfl (lv_at hl 2 rfl) ?_
  obtain ⟨h15, hw⟩ := hw
  refine z_iald C0 Z (isL_O (isL8 (cx_g C0)) h14) (ent_O (isL8 (cx_g C0)) h14) h15 dX3_owner_85 ?_
  exact z_iret C0 Z hw dX3_owner_86
-- X3_trust: room (1, 21)
theorem dX3_trust_0 : decode cX3_trust 0 = .ok (.aload_n 0, 1) := by decide +kernel
theorem dX3_trust_1 : decode cX3_trust 1 = .ok (.iload_n 1, 1) := by decide +kernel
theorem dX3_trust_2 : decode cX3_trust 2 = .ok (.invokevirtual 137, 3) := by decide +kernel
theorem dX3_trust_5 : decode cX3_trust 5 = .ok (.aload_n 0, 1) := by decide +kernel
theorem dX3_trust_6 : decode cX3_trust 6 = .ok (.getfield 26, 3) := by decide +kernel
theorem dX3_trust_9 : decode cX3_trust 9 = .ok (.getfield 150, 3) := by decide +kernel
theorem dX3_trust_12 : decode cX3_trust 12 = .ok (.iload_n 1, 1) := by decide +kernel
theorem dX3_trust_13 : decode cX3_trust 13 = .ok (.aaload, 1) := by decide +kernel
theorem dX3_trust_14 : decode cX3_trust 14 = .ok (.iconst 1, 1) := by decide +kernel
theorem dX3_trust_15 : decode cX3_trust 15 = .ok (.iaload, 1) := by decide +kernel
theorem dX3_trust_16 : decode cX3_trust 16 = .ok (.istore_n 2, 1) := by decide +kernel
theorem dX3_trust_17 : decode cX3_trust 17 = .ok (.iload_n 2, 1) := by decide +kernel
theorem dX3_trust_18 : decode cX3_trust 18 = .ok (.aload_n 0, 1) := by decide +kernel
theorem dX3_trust_19 : decode cX3_trust 19 = .ok (.getfield 26, 3) := by decide +kernel
theorem dX3_trust_22 : decode cX3_trust 22 = .ok (.iload_n 1, 1) := by decide +kernel
theorem dX3_trust_23 : decode cX3_trust 23 = .ok (.invokevirtual 154, 3) := by decide +kernel
theorem dX3_trust_26 : decode cX3_trust 26 = .ok (.iadd, 1) := by decide +kernel
theorem dX3_trust_27 : decode cX3_trust 27 = .ok (.istore_n 3, 1) := by decide +kernel
theorem dX3_trust_28 : decode cX3_trust 28 = .ok (.iload_n 3, 1) := by decide +kernel
theorem dX3_trust_29 : decode cX3_trust 29 = .ok (.ifCond .ne 5, 3) := by decide +kernel
theorem dX3_trust_32 : decode cX3_trust 32 = .ok (.dconst 1, 1) := by decide +kernel
theorem dX3_trust_33 : decode cX3_trust 33 = .ok (.dreturn, 1) := by decide +kernel
theorem dX3_trust_34 : decode cX3_trust 34 = .ok (.iload_n 2, 1) := by decide +kernel
theorem dX3_trust_35 : decode cX3_trust 35 = .ok (.i2d, 1) := by decide +kernel
theorem dX3_trust_36 : decode cX3_trust 36 = .ok (.iload_n 3, 1) := by decide +kernel
theorem dX3_trust_37 : decode cX3_trust 37 = .ok (.i2d, 1) := by decide +kernel
theorem dX3_trust_38 : decode cX3_trust 38 = .ok (.ddiv, 1) := by decide +kernel
theorem dX3_trust_39 : decode cX3_trust 39 = .ok (.dreturn, 1) := by decide +kernel
def w_X3_trust (a1 : Int32) (v : V3) (Q : UInt64 → V3 → Prop) : Prop := w_X3_needOwner a1 v (fun v1 => vp_in a1 8 ∧ w_X1_brokenOf 8 a1 v1 (fun r5 v4 => ((¬ ((v1 (8 + 6 + (ix a1)) 1) + r5) = 0 → vf_n64 (FP.ddiv (FP.i2d (v1 (8 + 6 + (ix a1)) 1)) (FP.i2d ((v1 (8 + 6 + (ix a1)) 1) + r5))) ∧ Q (FP.ddiv (FP.i2d (v1 (8 + 6 + (ix a1)) 1)) (FP.i2d ((v1 (8 + 6 + (ix a1)) 1) + r5))) v4) ∧ (((v1 (8 + 6 + (ix a1)) 1) + r5) = 0 → Q FP.dconst1 v4))))
set_option maxRecDepth 100000 in
set_option maxHeartbeats 4000000 in
theorem k_X3_trust (l : Launch) {G : zG} (hg : 116 ≤ gn G) {a1 : Int32}  {v : V3} {Q : UInt64 → V3 → Prop} (hw : w_X3_trust a1 v Q) : Mz l yX3_trust cX3_trust 4 (some .double) 1 21 G [.ref (gad G 0), .int a1] v (QdZ G Q) := by
  rw [w_X3_trust] at hw
  refine z_ofW hg (by decide) (Nat.le_of_ble_eq_true rfl) ?_
  intro p e s m args below meth c ls C0 Z hl
  have hx := C0.1
  have hb := C0.2.1
  replace hl : lv_has ls 4 [(0, .ref (gad G 0)), (1, .int a1)] := hl
  generalize s.heap = H at Z ⊢
  generalize ([] : List Loc) = locs at Z ⊢
  refine lv_aload_n hx hb dX3_trust_0 rfl (lv_at hl 0 rfl) ?_
  refine lv_iload_n hx hb dX3_trust_1 rfl (lv_at hl 1 rfl) ?_
  refine z_callVv C0 Z hl.1 (As := [.int a1]) (rest := []) (k_X3_needOwner l (cx_g C0) hw) (gv_X3_needOwner tm_2_154) rfl ds_X3_needOwner ⟨Nat.le_of_ble_eq_true rfl, Nat.le_of_ble_eq_true rfl⟩ (ci := 3) rfl (cx_lt C0 (by decide)) rfl rfl rfl (Nat.le_of_ble_eq_true rfl) ⟨Nat.le_of_ble_eq_true rfl, Nat.le_of_ble_eq_true rfl⟩ dX3_trust_2 (fun v1 H locs hw Z => ?_)
  refine lv_aload_n hx hb dX3_trust_5 rfl (lv_at hl 0 rfl) ?_
  refine z_get C0 Z in_X3 rfl 4 (by decide) rfl tm_1_142 (cx_lt C0 (by decide)) rfl rfl dX3_trust_6 ?_
  refine z_get C0 Z in_X1 rfl 1 (by decide) rfl tm_1_48 (isL_lt0 (isL8 (cx_g C0))) (ent_L (isL8 (cx_g C0))) rfl dX3_trust_9 ?_
  refine lv_iload_n hx hb dX3_trust_12 rfl (lv_at hl 1 rfl) ?_
  obtain ⟨h2, hw⟩ := hw
  have h3 := vp_lt h2
  refine z_aald C0 Z (isL_lt (isL8 (cx_g C0)) 2 (by decide)) (ent_L2 (isL8 (cx_g C0))) h2 dX3_trust_13 ?_
  refine lv_iconst (v := 1) hx hb dX3_trust_14 (by decide) ?_
  refine z_ialdk C0 Z (isL_O (isL8 (cx_g C0)) h3) (ent_O (isL8 (cx_g C0)) h3) in_1_8 nc_1 dX3_trust_15 ?_
  refine lv_istore_n (lv' := [(2, .int (v1 (8 + 6 + (ix a1)) 1)), (0, .ref (gad G 0)), (1, .int a1)]) hx hb dX3_trust_16 rfl hl (by decide) rfl (fun ls hl => ?_)
  refine lv_iload_n hx hb dX3_trust_17 rfl (lv_at hl 0 rfl) ?_
  refine lv_aload_n hx hb dX3_trust_18 rfl (lv_at hl 1 rfl) ?_
  refine z_get C0 Z in_X3 rfl 4 (by decide) rfl tm_1_142 (cx_lt C0 (by decide)) rfl rfl dX3_trust_19 ?_
  refine lv_iload_n hx hb dX3_trust_22 rfl (lv_at hl 2 rfl) ?_
  refine z_callVi C0 Z hl.1 (As := [.int a1]) (rest := [.int (v1 (8 + 6 + (ix a1)) 1)]) (k_X1_brokenOf l (cx_g C0) (isL8 (cx_g C0)) hw) (gv_X1_brokenOf tm_3_222) rfl ds_X1_brokenOf ⟨Nat.le_of_ble_eq_true rfl, Nat.le_of_ble_eq_true rfl⟩ (ci := 1) rfl (isL_lt0 (isL8 (cx_g C0))) (ent_L (isL8 (cx_g C0))) rfl rfl (Nat.le_of_ble_eq_true rfl) ⟨Nat.le_of_ble_eq_true rfl, Nat.le_of_ble_eq_true rfl⟩ dX3_trust_23 (fun r5 v4 H locs hw Z => ?_)
  refine lv_iadd hx hb dX3_trust_26 ?_
  refine lv_istore_n (lv' := [(3, .int ((v1 (8 + 6 + (ix a1)) 1) + r5)), (2, .int (v1 (8 + 6 + (ix a1)) 1)), (0, .ref (gad G 0)), (1, .int a1)]) hx hb dX3_trust_27 rfl hl (by decide) rfl (fun ls hl => ?_)
  refine lv_iload_n hx hb dX3_trust_28 rfl (lv_at hl 0 rfl) ?_
  refine lv_if_ne (tgt := 34) hx hb dX3_trust_29 (by decide) (fun c6 => ?_) (fun c6 => ?_)
  · replace hw := hw.1 c6
    refine lv_iload_n hx hb dX3_trust_34 rfl (lv_at hl 1 rfl) ?_
    refine lv_i2d hx hb dX3_trust_35 ?_
    refine lv_iload_n hx hb dX3_trust_36 rfl (lv_at hl 0 rfl) ?_
    refine lv_i2d hx hb dX3_trust_37 ?_
    obtain ⟨h7, hw⟩ := hw
    refine lv_ddiv hx hb dX3_trust_38 h7 ?_
    exact z_dret C0 Z hw dX3_trust_39
  · replace hw := hw.2 c6
    refine lv_dconst1 hx hb dX3_trust_32 ?_
    exact z_dret C0 Z hw dX3_trust_33
-- X3_draft: room (2, 43)
theorem dX3_draft_0 : decode cX3_draft 0 = .ok (.aload_n 0, 1) := by decide +kernel
theorem dX3_draft_1 : decode cX3_draft 1 = .ok (.iload_n 1, 1) := by decide +kernel
theorem dX3_draft_2 : decode cX3_draft 2 = .ok (.iload_n 2, 1) := by decide +kernel
theorem dX3_draft_3 : decode cX3_draft 3 = .ok (.invokevirtual 157, 3) := by decide +kernel
theorem dX3_draft_6 : decode cX3_draft 6 = .ok (.iload_n 3, 1) := by decide +kernel
theorem dX3_draft_7 : decode cX3_draft 7 = .ok (.iconst 1, 1) := by decide +kernel
theorem dX3_draft_8 : decode cX3_draft 8 = .ok (.bipush 99, 2) := by decide +kernel
theorem dX3_draft_10 : decode cX3_draft 10 = .ok (.invokestatic 77, 3) := by decide +kernel
theorem dX3_draft_13 : decode cX3_draft 13 = .ok (.aload_n 0, 1) := by decide +kernel
theorem dX3_draft_14 : decode cX3_draft 14 = .ok (.iload_n 1, 1) := by decide +kernel
theorem dX3_draft_15 : decode cX3_draft 15 = .ok (.putfield 55, 3) := by decide +kernel
theorem dX3_draft_18 : decode cX3_draft 18 = .ok (.aload_n 0, 1) := by decide +kernel
theorem dX3_draft_19 : decode cX3_draft 19 = .ok (.iload_n 2, 1) := by decide +kernel
theorem dX3_draft_20 : decode cX3_draft 20 = .ok (.putfield 58, 3) := by decide +kernel
theorem dX3_draft_23 : decode cX3_draft 23 = .ok (.aload_n 0, 1) := by decide +kernel
theorem dX3_draft_24 : decode cX3_draft 24 = .ok (.iload_n 3, 1) := by decide +kernel
theorem dX3_draft_25 : decode cX3_draft 25 = .ok (.putfield 61, 3) := by decide +kernel
theorem dX3_draft_28 : decode cX3_draft 28 = .ok (.return_, 1) := by decide +kernel
def w_X3_draft (a1 : Int32) (a2 : Int32) (a3 : Int32) (v : V3) (Q : V3 → Prop) : Prop := w_X3_needSpan a1 a2 v (fun v1 => w_X3_needWithin a3 1 99 v1 (fun v2 => ∀ v3 : V3, v3 = up2 v2 0 9 a1 → ∀ v4 : V3, v4 = up2 v3 0 10 a2 → ∀ v5 : V3, v5 = up2 v4 0 11 a3 → Q v5))
set_option maxRecDepth 100000 in
set_option maxHeartbeats 4000000 in
theorem k_X3_draft (l : Launch) {G : zG} (hg : 116 ≤ gn G) {a1 : Int32} {a2 : Int32} {a3 : Int32}  {v : V3} {Q : V3 → Prop} (hw : w_X3_draft a1 a2 a3 v Q) : Mz l yX3_draft cX3_draft 4 none 2 43 G [.ref (gad G 0), .int a1, .int a2, .int a3] v (QvZ G Q) := by
  rw [w_X3_draft] at hw
  refine z_ofW hg (by decide) (Nat.le_of_ble_eq_true rfl) ?_
  intro p e s m args below meth c ls C0 Z hl
  have hx := C0.1
  have hb := C0.2.1
  replace hl : lv_has ls 4 [(0, .ref (gad G 0)), (1, .int a1), (2, .int a2), (3, .int a3)] := hl
  generalize s.heap = H at Z ⊢
  generalize ([] : List Loc) = locs at Z ⊢
  refine lv_aload_n hx hb dX3_draft_0 rfl (lv_at hl 0 rfl) ?_
  refine lv_iload_n hx hb dX3_draft_1 rfl (lv_at hl 1 rfl) ?_
  refine lv_iload_n hx hb dX3_draft_2 rfl (lv_at hl 2 rfl) ?_
  refine z_callVv C0 Z hl.1 (As := [.int a1, .int a2]) (rest := []) (k_X3_needSpan l (cx_g C0) hw) (gv_X3_needSpan tm_2_121) rfl ds_X3_needSpan ⟨Nat.le_of_ble_eq_true rfl, Nat.le_of_ble_eq_true rfl⟩ (ci := 3) rfl (cx_lt C0 (by decide)) rfl rfl rfl (Nat.le_of_ble_eq_true rfl) ⟨Nat.le_of_ble_eq_true rfl, Nat.le_of_ble_eq_true rfl⟩ dX3_draft_3 (fun v1 H locs hw Z => ?_)
  refine lv_iload_n hx hb dX3_draft_6 rfl (lv_at hl 3 rfl) ?_
  refine lv_iconst (v := 1) hx hb dX3_draft_7 (by decide) ?_
  refine lv_bipush (v := 99) hx hb dX3_draft_8 (by decide) ?_
  refine z_callSv C0 Z hl.1 (As := [.int a3, .int 1, .int 99]) (rest := []) (k_X3_needWithin l (cx_g C0) hw) (gv_X3_needWithin tm_1_228) ds_X3_needWithin ⟨Nat.le_of_ble_eq_true rfl, Nat.le_of_ble_eq_true rfl⟩ rfl rfl (Nat.le_of_ble_eq_true rfl) ⟨Nat.le_of_ble_eq_true rfl, Nat.le_of_ble_eq_true rfl⟩ dX3_draft_10 (fun v2 H locs hw Z => ?_)
  refine lv_aload_n hx hb dX3_draft_13 rfl (lv_at hl 0 rfl) ?_
  refine lv_iload_n hx hb dX3_draft_14 rfl (lv_at hl 1 rfl) ?_
  refine z_put C0 Z in_X3 tyX3_ok nmX3 rfl 9 (by decide) rfl rfl tm_1_147 (cx_lt C0 (by decide)) rfl p_X3_9 (fun c' h => up2_off _ _ _ h) rfl rfl (Nat.le_of_ble_eq_true rfl) dX3_draft_15 (fun H locs Z => ?_)
  obtain ⟨v3, ev3⟩ : ∃ z : V3, z = up2 v2 0 9 a1 := ⟨_, rfl⟩
  rw [← ev3] at Z
  replace hw := hw v3 ev3
  refine lv_aload_n hx hb dX3_draft_18 rfl (lv_at hl 0 rfl) ?_
  refine lv_iload_n hx hb dX3_draft_19 rfl (lv_at hl 2 rfl) ?_
  refine z_put C0 Z in_X3 tyX3_ok nmX3 rfl 10 (by decide) rfl rfl tm_1_148 (cx_lt C0 (by decide)) rfl p_X3_10 (fun c' h => up2_off _ _ _ h) rfl rfl (Nat.le_of_ble_eq_true rfl) dX3_draft_20 (fun H locs Z => ?_)
  obtain ⟨v4, ev4⟩ : ∃ z : V3, z = up2 v3 0 10 a2 := ⟨_, rfl⟩
  rw [← ev4] at Z
  replace hw := hw v4 ev4
  refine lv_aload_n hx hb dX3_draft_23 rfl (lv_at hl 0 rfl) ?_
  refine lv_iload_n hx hb dX3_draft_24 rfl (lv_at hl 3 rfl) ?_
  refine z_put C0 Z in_X3 tyX3_ok nmX3 rfl 11 (by decide) rfl rfl tm_1_149 (cx_lt C0 (by decide)) rfl p_X3_11 (fun c' h => up2_off _ _ _ h) rfl rfl (Nat.le_of_ble_eq_true rfl) dX3_draft_25 (fun H locs Z => ?_)
  obtain ⟨v5, ev5⟩ : ∃ z : V3, z = up2 v4 0 11 a3 := ⟨_, rfl⟩
  rw [← ev5] at Z
  replace hw := hw v5 ev5
  exact z_vret C0 Z hw dX3_draft_28
-- X3_book: room (4, 111)
theorem dX3_book_0 : decode cX3_book 0 = .ok (.aload_n 0, 1) := by decide +kernel
theorem dX3_book_1 : decode cX3_book 1 = .ok (.iload_n 1, 1) := by decide +kernel
theorem dX3_book_2 : decode cX3_book 2 = .ok (.invokevirtual 137, 3) := by decide +kernel
theorem dX3_book_5 : decode cX3_book 5 = .ok (.iload_n 2, 1) := by decide +kernel
theorem dX3_book_6 : decode cX3_book 6 = .ok (.iconst 0, 1) := by decide +kernel
theorem dX3_book_7 : decode cX3_book 7 = .ok (.sipush 9999, 3) := by decide +kernel
theorem dX3_book_10 : decode cX3_book 10 = .ok (.invokestatic 77, 3) := by decide +kernel
theorem dX3_book_13 : decode cX3_book 13 = .ok (.iload_n 3, 1) := by decide +kernel
theorem dX3_book_14 : decode cX3_book 14 = .ok (.iconst 0, 1) := by decide +kernel
theorem dX3_book_15 : decode cX3_book 15 = .ok (.bipush 99, 2) := by decide +kernel
theorem dX3_book_17 : decode cX3_book 17 = .ok (.invokestatic 77, 3) := by decide +kernel
theorem dX3_book_20 : decode cX3_book 20 = .ok (.iload 4, 2) := by decide +kernel
theorem dX3_book_22 : decode cX3_book 22 = .ok (.iconst 1, 1) := by decide +kernel
theorem dX3_book_23 : decode cX3_book 23 = .ok (.bipush 9, 2) := by decide +kernel
theorem dX3_book_25 : decode cX3_book 25 = .ok (.invokestatic 77, 3) := by decide +kernel
theorem dX3_book_28 : decode cX3_book 28 = .ok (.iload_n 2, 1) := by decide +kernel
theorem dX3_book_29 : decode cX3_book 29 = .ok (.iload_n 3, 1) := by decide +kernel
theorem dX3_book_30 : decode cX3_book 30 = .ok (.iadd, 1) := by decide +kernel
theorem dX3_book_31 : decode cX3_book 31 = .ok (.aload_n 0, 1) := by decide +kernel
theorem dX3_book_32 : decode cX3_book 32 = .ok (.getfield 26, 3) := by decide +kernel
theorem dX3_book_35 : decode cX3_book 35 = .ok (.getfield 122, 3) := by decide +kernel
theorem dX3_book_38 : decode cX3_book 38 = .ok (.if_icmp .ge 13, 3) := by decide +kernel
theorem dX3_book_41 : decode cX3_book 41 = .ok (.new 161, 3) := by decide +kernel
theorem dX3_book_44 : decode cX3_book 44 = .ok (.dup, 1) := by decide +kernel
theorem dX3_book_45 : decode cX3_book 45 = .ok (.ldc 163, 2) := by decide +kernel
theorem dX3_book_47 : decode cX3_book 47 = .ok (.invokespecial 165, 3) := by decide +kernel
theorem dX3_book_50 : decode cX3_book 50 = .ok (.athrow, 1) := by decide +kernel
theorem dX3_book_51 : decode cX3_book 51 = .ok (.aload_n 0, 1) := by decide +kernel
theorem dX3_book_52 : decode cX3_book 52 = .ok (.getfield 26, 3) := by decide +kernel
theorem dX3_book_55 : decode cX3_book 55 = .ok (.getfield 97, 3) := by decide +kernel
theorem dX3_book_58 : decode cX3_book 58 = .ok (.bipush 40, 2) := by decide +kernel
theorem dX3_book_60 : decode cX3_book 60 = .ok (.if_icmp .lt 13, 3) := by decide +kernel
theorem dX3_book_63 : decode cX3_book 63 = .ok (.new 70, 3) := by decide +kernel
theorem dX3_book_66 : decode cX3_book 66 = .ok (.dup, 1) := by decide +kernel
theorem dX3_book_67 : decode cX3_book 67 = .ok (.ldc 166, 2) := by decide +kernel
theorem dX3_book_69 : decode cX3_book 69 = .ok (.invokespecial 74, 3) := by decide +kernel
theorem dX3_book_72 : decode cX3_book 72 = .ok (.athrow, 1) := by decide +kernel
theorem dX3_book_73 : decode cX3_book 73 = .ok (.aload_n 0, 1) := by decide +kernel
theorem dX3_book_74 : decode cX3_book 74 = .ok (.getfield 26, 3) := by decide +kernel
theorem dX3_book_77 : decode cX3_book 77 = .ok (.iload_n 1, 1) := by decide +kernel
theorem dX3_book_78 : decode cX3_book 78 = .ok (.invokevirtual 168, 3) := by decide +kernel
theorem dX3_book_81 : decode cX3_book 81 = .ok (.ifCond .ne 14, 3) := by decide +kernel
theorem dX3_book_84 : decode cX3_book 84 = .ok (.aload_n 0, 1) := by decide +kernel
theorem dX3_book_85 : decode cX3_book 85 = .ok (.getfield 26, 3) := by decide +kernel
theorem dX3_book_88 : decode cX3_book 88 = .ok (.iload_n 1, 1) := by decide +kernel
theorem dX3_book_89 : decode cX3_book 89 = .ok (.invokevirtual 144, 3) := by decide +kernel
theorem dX3_book_92 : decode cX3_book 92 = .ok (.ifCond .eq 13, 3) := by decide +kernel
theorem dX3_book_95 : decode cX3_book 95 = .ok (.new 70, 3) := by decide +kernel
theorem dX3_book_98 : decode cX3_book 98 = .ok (.dup, 1) := by decide +kernel
theorem dX3_book_99 : decode cX3_book 99 = .ok (.ldc 171, 2) := by decide +kernel
theorem dX3_book_101 : decode cX3_book 101 = .ok (.invokespecial 74, 3) := by decide +kernel
theorem dX3_book_104 : decode cX3_book 104 = .ok (.athrow, 1) := by decide +kernel
theorem dX3_book_105 : decode cX3_book 105 = .ok (.aload_n 0, 1) := by decide +kernel
theorem dX3_book_106 : decode cX3_book 106 = .ok (.getfield 26, 3) := by decide +kernel
theorem dX3_book_109 : decode cX3_book 109 = .ok (.iload_n 1, 1) := by decide +kernel
theorem dX3_book_110 : decode cX3_book 110 = .ok (.aload_n 0, 1) := by decide +kernel
theorem dX3_book_111 : decode cX3_book 111 = .ok (.getfield 55, 3) := by decide +kernel
theorem dX3_book_114 : decode cX3_book 114 = .ok (.aload_n 0, 1) := by decide +kernel
theorem dX3_book_115 : decode cX3_book 115 = .ok (.getfield 58, 3) := by decide +kernel
theorem dX3_book_118 : decode cX3_book 118 = .ok (.aload_n 0, 1) := by decide +kernel
theorem dX3_book_119 : decode cX3_book 119 = .ok (.getfield 61, 3) := by decide +kernel
theorem dX3_book_122 : decode cX3_book 122 = .ok (.iload_n 2, 1) := by decide +kernel
theorem dX3_book_123 : decode cX3_book 123 = .ok (.iload_n 3, 1) := by decide +kernel
theorem dX3_book_124 : decode cX3_book 124 = .ok (.iload 4, 2) := by decide +kernel
theorem dX3_book_126 : decode cX3_book 126 = .ok (.invokevirtual 173, 3) := by decide +kernel
theorem dX3_book_129 : decode cX3_book 129 = .ok (.ireturn, 1) := by decide +kernel
def w_X3_book_95  (Q : Int32 → V3 → Prop) (v : V3) : Prop := False
def w_X3_book (a1 : Int32) (a2 : Int32) (a3 : Int32) (a4 : Int32) (v : V3) (Q : Int32 → V3 → Prop) : Prop := w_X3_needOwner a1 v (fun v1 => w_X3_needWithin a2 0 9999 v1 (fun v2 => w_X3_needWithin a3 0 99 v2 (fun v3 => w_X3_needWithin a4 1 9 v3 (fun v4 => (((v4 8 6) ≤ (a2 + a3) → (((v4 8 8) < 40 → w_X1_hasLimit 8 a1 v4 (fun r8 v7 => ((¬ r8 = 0 → w_X3_book_95 Q v7) ∧ (r8 = 0 → w_X1_isBarred 8 a1 v7 (fun r11 v10 => ((r11 = 0 → w_X1_enterBooking 8 a1 (v10 0 9) (v10 0 10) (v10 0 11) a2 a3 a4 v10 (fun r14 v13 => Q r14 v13)) ∧ (¬ r11 = 0 → w_X3_book_95 Q v10))))))) ∧ (¬ (v4 8 8) < 40 → False))) ∧ (¬ (v4 8 6) ≤ (a2 + a3) → False))))))
set_option maxRecDepth 100000 in
set_option maxHeartbeats 4000000 in
theorem b_X3_book_95 {p : Program} (l : Launch) {e : Env} {s : State} {m : MethodId} {args : Array Value} {below : List Frame} {meth : Method} {c : Code} {G : zG}   (C0 : Cx G RX3 cX3_book 5 (some .int) p s m args meth c) {Q : Int32 → V3 → Prop} : ∀ (v : V3) (H : Heap) (locs : List Loc) (ls : Array Slot), w_X3_book_95 Q v → Zs G s v H locs → lv_has ls 5 [] → W p l e { frames := 4, cells := 0, slots := 0, locals := 111 } s m args below meth c H locs 0 0 (MQ below (QiZ G Q) args s 0 0 (zA G)) (F0 m 95 ls []) := by
  have hx := C0.1
  have hb := C0.2.1
  intro v H locs ls hw Z hl
  rw [w_X3_book_95] at hw
  exact hw.elim
set_option maxRecDepth 100000 in
set_option maxHeartbeats 4000000 in
theorem k_X3_book (l : Launch) {G : zG} (hg : 116 ≤ gn G) {a1 : Int32} {a2 : Int32} {a3 : Int32} {a4 : Int32}  {v : V3} {Q : Int32 → V3 → Prop} (hw : w_X3_book a1 a2 a3 a4 v Q) : Mz l yX3_book cX3_book 5 (some .int) 4 111 G [.ref (gad G 0), .int a1, .int a2, .int a3, .int a4] v (QiZ G Q) := by
  rw [w_X3_book] at hw
  refine z_ofW hg (by decide) (Nat.le_of_ble_eq_true rfl) ?_
  intro p e s m args below meth c ls C0 Z hl
  have hx := C0.1
  have hb := C0.2.1
  replace hl : lv_has ls 5 [(0, .ref (gad G 0)), (1, .int a1), (2, .int a2), (3, .int a3), (4, .int a4)] := hl
  generalize s.heap = H at Z ⊢
  generalize ([] : List Loc) = locs at Z ⊢
  refine lv_aload_n hx hb dX3_book_0 rfl (lv_at hl 0 rfl) ?_
  refine lv_iload_n hx hb dX3_book_1 rfl (lv_at hl 1 rfl) ?_
  refine z_callVv C0 Z hl.1 (As := [.int a1]) (rest := []) (k_X3_needOwner l (cx_g C0) hw) (gv_X3_needOwner tm_2_154) rfl ds_X3_needOwner ⟨Nat.le_of_ble_eq_true rfl, Nat.le_of_ble_eq_true rfl⟩ (ci := 3) rfl (cx_lt C0 (by decide)) rfl rfl rfl (Nat.le_of_ble_eq_true rfl) ⟨Nat.le_of_ble_eq_true rfl, Nat.le_of_ble_eq_true rfl⟩ dX3_book_2 (fun v1 H locs hw Z => ?_)
  refine lv_iload_n hx hb dX3_book_5 rfl (lv_at hl 2 rfl) ?_
  refine lv_iconst (v := 0) hx hb dX3_book_6 (by decide) ?_
  refine lv_sipush (v := 9999) hx hb dX3_book_7 (by decide) ?_
  refine z_callSv C0 Z hl.1 (As := [.int a2, .int 0, .int 9999]) (rest := []) (k_X3_needWithin l (cx_g C0) hw) (gv_X3_needWithin tm_1_228) ds_X3_needWithin ⟨Nat.le_of_ble_eq_true rfl, Nat.le_of_ble_eq_true rfl⟩ rfl rfl (Nat.le_of_ble_eq_true rfl) ⟨Nat.le_of_ble_eq_true rfl, Nat.le_of_ble_eq_true rfl⟩ dX3_book_10 (fun v2 H locs hw Z => ?_)
  refine lv_iload_n hx hb dX3_book_13 rfl (lv_at hl 3 rfl) ?_
  refine lv_iconst (v := 0) hx hb dX3_book_14 (by decide) ?_
  refine lv_bipush (v := 99) hx hb dX3_book_15 (by decide) ?_
  refine z_callSv C0 Z hl.1 (As := [.int a3, .int 0, .int 99]) (rest := []) (k_X3_needWithin l (cx_g C0) hw) (gv_X3_needWithin tm_1_228) ds_X3_needWithin ⟨Nat.le_of_ble_eq_true rfl, Nat.le_of_ble_eq_true rfl⟩ rfl rfl (Nat.le_of_ble_eq_true rfl) ⟨Nat.le_of_ble_eq_true rfl, Nat.le_of_ble_eq_true rfl⟩ dX3_book_17 (fun v3 H locs hw Z => ?_)
  refine lv_iload hx hb dX3_book_20 (lv_at hl 4 rfl) ?_
  refine lv_iconst (v := 1) hx hb dX3_book_22 (by decide) ?_
  refine lv_bipush (v := 9) hx hb dX3_book_23 (by decide) ?_
  refine z_callSv C0 Z hl.1 (As := [.int a4, .int 1, .int 9]) (rest := []) (k_X3_needWithin l (cx_g C0) hw) (gv_X3_needWithin tm_1_228) ds_X3_needWithin ⟨Nat.le_of_ble_eq_true rfl, Nat.le_of_ble_eq_true rfl⟩ rfl rfl (Nat.le_of_ble_eq_true rfl) ⟨Nat.le_of_ble_eq_true rfl, Nat.le_of_ble_eq_true rfl⟩ dX3_book_25 (fun v4 H locs hw Z => ?_)
  refine lv_iload_n hx hb dX3_book_28 rfl (lv_at hl 2 rfl) ?_
  refine lv_iload_n hx hb dX3_book_29 rfl (lv_at hl 3 rfl) ?_
  refine lv_iadd hx hb dX3_book_30 ?_
  refine lv_aload_n hx hb dX3_book_31 rfl (lv_at hl 0 rfl) ?_
  refine z_get C0 Z in_X3 rfl 4 (by decide) rfl tm_1_142 (cx_lt C0 (by decide)) rfl rfl dX3_book_32 ?_
  refine z_get C0 Z in_X1 rfl 6 (by decide) rfl tm_1_59 (isL_lt0 (isL8 (cx_g C0))) (ent_L (isL8 (cx_g C0))) rfl dX3_book_35 ?_
  refine lv_icmp_ge (tgt := 51) hx hb dX3_book_38 (by decide) (fun c5 => ?_) (fun c5 => ?_)
  · replace hw := hw.1 c5
    refine lv_aload_n hx hb dX3_book_51 rfl (lv_at hl 0 rfl) ?_
    refine z_get C0 Z in_X3 rfl 4 (by decide) rfl tm_1_142 (cx_lt C0 (by decide)) rfl rfl dX3_book_52 ?_
    refine z_get C0 Z in_X1 rfl 8 (by decide) rfl tm_1_64 (isL_lt0 (isL8 (cx_g C0))) (ent_L (isL8 (cx_g C0))) rfl dX3_book_55 ?_
    refine lv_bipush (v := 40) hx hb dX3_book_58 (by decide) ?_
    refine lv_icmp_lt (tgt := 73) hx hb dX3_book_60 (by decide) (fun c6 => ?_) (fun c6 => ?_)
    · replace hw := hw.1 c6
      refine lv_aload_n hx hb dX3_book_73 rfl (lv_at hl 0 rfl) ?_
      refine z_get C0 Z in_X3 rfl 4 (by decide) rfl tm_1_142 (cx_lt C0 (by decide)) rfl rfl dX3_book_74 ?_
      refine lv_iload_n hx hb dX3_book_77 rfl (lv_at hl 1 rfl) ?_
      refine z_callVi C0 Z hl.1 (As := [.int a1]) (rest := []) (k_X1_hasLimit l (cx_g C0) (isL8 (cx_g C0)) hw) (gv_X1_hasLimit tm_2_211) rfl ds_X1_hasLimit ⟨Nat.le_of_ble_eq_true rfl, Nat.le_of_ble_eq_true rfl⟩ (ci := 1) rfl (isL_lt0 (isL8 (cx_g C0))) (ent_L (isL8 (cx_g C0))) rfl rfl (Nat.le_of_ble_eq_true rfl) ⟨Nat.le_of_ble_eq_true rfl, Nat.le_of_ble_eq_true rfl⟩ dX3_book_78 (fun r8 v7 H locs hw Z => ?_)
      refine lv_if_ne (tgt := 95) hx hb dX3_book_81 (by decide) (fun c9 => ?_) (fun c9 => ?_)
      · replace hw := hw.1 c9
        exact b_X3_book_95 l C0 _ _ _ _ hw Z (lv_sub hl [] rfl)
      · replace hw := hw.2 c9
        refine lv_aload_n hx hb dX3_book_84 rfl (lv_at hl 0 rfl) ?_
        refine z_get C0 Z in_X3 rfl 4 (by decide) rfl tm_1_142 (cx_lt C0 (by decide)) rfl rfl dX3_book_85 ?_
        refine lv_iload_n hx hb dX3_book_88 rfl (lv_at hl 1 rfl) ?_
        refine z_callVi C0 Z hl.1 (As := [.int a1]) (rest := []) (k_X1_isBarred l (cx_g C0) (isL8 (cx_g C0)) hw) (gv_X1_isBarred tm_2_167) rfl ds_X1_isBarred ⟨Nat.le_of_ble_eq_true rfl, Nat.le_of_ble_eq_true rfl⟩ (ci := 1) rfl (isL_lt0 (isL8 (cx_g C0))) (ent_L (isL8 (cx_g C0))) rfl rfl (Nat.le_of_ble_eq_true rfl) ⟨Nat.le_of_ble_eq_true rfl, Nat.le_of_ble_eq_true rfl⟩ dX3_book_89 (fun r11 v10 H locs hw Z => ?_)
        refine lv_if_eq (tgt := 105) hx hb dX3_book_92 (by decide) (fun c12 => ?_) (fun c12 => ?_)
        · replace hw := hw.1 c12
          refine lv_aload_n hx hb dX3_book_105 rfl (lv_at hl 0 rfl) ?_
          refine z_get C0 Z in_X3 rfl 4 (by decide) rfl tm_1_142 (cx_lt C0 (by decide)) rfl rfl dX3_book_106 ?_
          refine lv_iload_n hx hb dX3_book_109 rfl (lv_at hl 1 rfl) ?_
          refine lv_aload_n hx hb dX3_book_110 rfl (lv_at hl 0 rfl) ?_
          refine z_get C0 Z in_X3 rfl 9 (by decide) rfl tm_1_147 (cx_lt C0 (by decide)) rfl rfl dX3_book_111 ?_
          refine lv_aload_n hx hb dX3_book_114 rfl (lv_at hl 0 rfl) ?_
          refine z_get C0 Z in_X3 rfl 10 (by decide) rfl tm_1_148 (cx_lt C0 (by decide)) rfl rfl dX3_book_115 ?_
          refine lv_aload_n hx hb dX3_book_118 rfl (lv_at hl 0 rfl) ?_
          refine z_get C0 Z in_X3 rfl 11 (by decide) rfl tm_1_149 (cx_lt C0 (by decide)) rfl rfl dX3_book_119 ?_
          refine lv_iload_n hx hb dX3_book_122 rfl (lv_at hl 2 rfl) ?_
          refine lv_iload_n hx hb dX3_book_123 rfl (lv_at hl 3 rfl) ?_
          refine lv_iload hx hb dX3_book_124 (lv_at hl 4 rfl) ?_
          refine z_callVi C0 Z hl.1 (As := [.int a1, .int (v10 0 9), .int (v10 0 10), .int (v10 0 11), .int a2, .int a3, .int a4]) (rest := []) (k_X1_enterBooking l (cx_g C0) (isL8 (cx_g C0)) hw) (gv_X1_enterBooking tm_2_217) rfl ds_X1_enterBooking ⟨Nat.le_of_ble_eq_true rfl, Nat.le_of_ble_eq_true rfl⟩ (ci := 1) rfl (isL_lt0 (isL8 (cx_g C0))) (ent_L (isL8 (cx_g C0))) rfl rfl (Nat.le_of_ble_eq_true rfl) ⟨Nat.le_of_ble_eq_true rfl, Nat.le_of_ble_eq_true rfl⟩ dX3_book_126 (fun r14 v13 H locs hw Z => ?_)
          exact z_iret C0 Z hw dX3_book_129
        · replace hw := hw.2 c12
          exact b_X3_book_95 l C0 _ _ _ _ hw Z (lv_sub hl [] rfl)
    · replace hw := hw.2 c6
      exact hw.elim
  · replace hw := hw.2 c5
    exact hw.elim
-- X3_booking: room (3, 82)
theorem dX3_booking_0 : decode cX3_booking 0 = .ok (.aload_n 0, 1) := by decide +kernel
theorem dX3_booking_1 : decode cX3_booking 1 = .ok (.iload_n 1, 1) := by decide +kernel
theorem dX3_booking_2 : decode cX3_booking 2 = .ok (.invokevirtual 177, 3) := by decide +kernel
theorem dX3_booking_5 : decode cX3_booking 5 = .ok (.iload_n 2, 1) := by decide +kernel
theorem dX3_booking_6 : decode cX3_booking 6 = .ok (.iconst 0, 1) := by decide +kernel
theorem dX3_booking_7 : decode cX3_booking 7 = .ok (.bipush 11, 2) := by decide +kernel
theorem dX3_booking_9 : decode cX3_booking 9 = .ok (.invokestatic 77, 3) := by decide +kernel
theorem dX3_booking_12 : decode cX3_booking 12 = .ok (.iload_n 2, 1) := by decide +kernel
theorem dX3_booking_13 : decode cX3_booking 13 = .ok (.lookupswitch 61 #[(10, 27), (11, 36)], 27) := by decide +kernel
theorem dX3_booking_40 : decode cX3_booking 40 = .ok (.aload_n 0, 1) := by decide +kernel
theorem dX3_booking_41 : decode cX3_booking 41 = .ok (.getfield 26, 3) := by decide +kernel
theorem dX3_booking_44 : decode cX3_booking 44 = .ok (.iload_n 1, 1) := by decide +kernel
theorem dX3_booking_45 : decode cX3_booking 45 = .ok (.invokevirtual 180, 3) := by decide +kernel
theorem dX3_booking_48 : decode cX3_booking 48 = .ok (.ireturn, 1) := by decide +kernel
theorem dX3_booking_49 : decode cX3_booking 49 = .ok (.aload_n 0, 1) := by decide +kernel
theorem dX3_booking_50 : decode cX3_booking 50 = .ok (.getfield 26, 3) := by decide +kernel
theorem dX3_booking_53 : decode cX3_booking 53 = .ok (.iload_n 1, 1) := by decide +kernel
theorem dX3_booking_54 : decode cX3_booking 54 = .ok (.iconst 0, 1) := by decide +kernel
theorem dX3_booking_55 : decode cX3_booking 55 = .ok (.invokevirtual 183, 3) := by decide +kernel
theorem dX3_booking_58 : decode cX3_booking 58 = .ok (.ifCond .eq 14, 3) := by decide +kernel
theorem dX3_booking_61 : decode cX3_booking 61 = .ok (.aload_n 0, 1) := by decide +kernel
theorem dX3_booking_62 : decode cX3_booking 62 = .ok (.getfield 26, 3) := by decide +kernel
theorem dX3_booking_65 : decode cX3_booking 65 = .ok (.iload_n 1, 1) := by decide +kernel
theorem dX3_booking_66 : decode cX3_booking 66 = .ok (.invokevirtual 187, 3) := by decide +kernel
theorem dX3_booking_69 : decode cX3_booking 69 = .ok (.goto 4, 3) := by decide +kernel
theorem dX3_booking_72 : decode cX3_booking 72 = .ok (.iconst (-1), 1) := by decide +kernel
theorem dX3_booking_73 : decode cX3_booking 73 = .ok (.ireturn, 1) := by decide +kernel
theorem dX3_booking_74 : decode cX3_booking 74 = .ok (.aload_n 0, 1) := by decide +kernel
theorem dX3_booking_75 : decode cX3_booking 75 = .ok (.getfield 26, 3) := by decide +kernel
theorem dX3_booking_78 : decode cX3_booking 78 = .ok (.getfield 190, 3) := by decide +kernel
theorem dX3_booking_81 : decode cX3_booking 81 = .ok (.iload_n 1, 1) := by decide +kernel
theorem dX3_booking_82 : decode cX3_booking 82 = .ok (.aaload, 1) := by decide +kernel
theorem dX3_booking_83 : decode cX3_booking 83 = .ok (.iload_n 2, 1) := by decide +kernel
theorem dX3_booking_84 : decode cX3_booking 84 = .ok (.iaload, 1) := by decide +kernel
theorem dX3_booking_85 : decode cX3_booking 85 = .ok (.ireturn, 1) := by decide +kernel
def w_X3_booking_73  (Q : Int32 → V3 → Prop) (s0 : Int32) (v : V3) : Prop := Q s0 v
def w_X3_booking (a1 : Int32) (a2 : Int32) (v : V3) (Q : Int32 → V3 → Prop) : Prop := w_X3_needBooking a1 v (fun v1 => w_X3_needWithin a2 0 11 v1 (fun v2 => ((a2 = 10 → w_X1_joyOf 8 a1 v2 (fun r5 v4 => Q r5 v4)) ∧ (a2 = 11 → w_X1_isIn 8 a1 0 v2 (fun r8 v7 => ((r8 = 0 → w_X3_booking_73 Q (-1) v7) ∧ (¬ r8 = 0 → w_X1_bestTime 8 a1 v7 (fun r11 v10 => w_X3_booking_73 Q r11 v10))))) ∧ (¬ a2 = 10 ∧ ¬ a2 = 11 → vp_in a1 40 ∧ vp_in a2 10 ∧ Q (v2 (8 + 14 + (ix a1)) (ix a2)) v2))))
set_option maxRecDepth 100000 in
set_option maxHeartbeats 4000000 in
theorem b_X3_booking_73 {p : Program} (l : Launch) {e : Env} {s : State} {m : MethodId} {args : Array Value} {below : List Frame} {meth : Method} {c : Code} {G : zG}   (C0 : Cx G RX3 cX3_booking 3 (some .int) p s m args meth c) {Q : Int32 → V3 → Prop} : ∀ (s0 : Int32) (v : V3) (H : Heap) (locs : List Loc) (ls : Array Slot), w_X3_booking_73 Q s0 v → Zs G s v H locs → lv_has ls 3 [] → W p l e { frames := 3, cells := 0, slots := 0, locals := 82 } s m args below meth c H locs 0 0 (MQ below (QiZ G Q) args s 0 0 (zA G)) (F0 m 73 ls [.int s0]) := by
  have hx := C0.1
  have hb := C0.2.1
  intro s0 v H locs ls hw Z hl
  rw [w_X3_booking_73] at hw
  exact z_iret C0 Z hw dX3_booking_73
set_option maxRecDepth 100000 in
set_option maxHeartbeats 4000000 in
theorem k_X3_booking (l : Launch) {G : zG} (hg : 116 ≤ gn G) {a1 : Int32} {a2 : Int32}  {v : V3} {Q : Int32 → V3 → Prop} (hw : w_X3_booking a1 a2 v Q) : Mz l yX3_booking cX3_booking 3 (some .int) 3 82 G [.ref (gad G 0), .int a1, .int a2] v (QiZ G Q) := by
  rw [w_X3_booking] at hw
  refine z_ofW hg (by decide) (Nat.le_of_ble_eq_true rfl) ?_
  intro p e s m args below meth c ls C0 Z hl
  have hx := C0.1
  have hb := C0.2.1
  replace hl : lv_has ls 3 [(0, .ref (gad G 0)), (1, .int a1), (2, .int a2)] := hl
  generalize s.heap = H at Z ⊢
  generalize ([] : List Loc) = locs at Z ⊢
  refine lv_aload_n hx hb dX3_booking_0 rfl (lv_at hl 0 rfl) ?_
  refine lv_iload_n hx hb dX3_booking_1 rfl (lv_at hl 1 rfl) ?_
  refine z_callVv C0 Z hl.1 (As := [.int a1]) (rest := []) (k_X3_needBooking l (cx_g C0) hw) (gv_X3_needBooking tm_3_5) rfl ds_X3_needBooking ⟨Nat.le_of_ble_eq_true rfl, Nat.le_of_ble_eq_true rfl⟩ (ci := 3) rfl (cx_lt C0 (by decide)) rfl rfl rfl (Nat.le_of_ble_eq_true rfl) ⟨Nat.le_of_ble_eq_true rfl, Nat.le_of_ble_eq_true rfl⟩ dX3_booking_2 (fun v1 H locs hw Z => ?_)
  refine lv_iload_n hx hb dX3_booking_5 rfl (lv_at hl 2 rfl) ?_
  refine lv_iconst (v := 0) hx hb dX3_booking_6 (by decide) ?_
  refine lv_bipush (v := 11) hx hb dX3_booking_7 (by decide) ?_
  refine z_callSv C0 Z hl.1 (As := [.int a2, .int 0, .int 11]) (rest := []) (k_X3_needWithin l (cx_g C0) hw) (gv_X3_needWithin tm_1_228) ds_X3_needWithin ⟨Nat.le_of_ble_eq_true rfl, Nat.le_of_ble_eq_true rfl⟩ rfl rfl (Nat.le_of_ble_eq_true rfl) ⟨Nat.le_of_ble_eq_true rfl, Nat.le_of_ble_eq_true rfl⟩ dX3_booking_9 (fun v2 H locs hw Z => ?_)
  refine lv_iload_n hx hb dX3_booking_12 rfl (lv_at hl 2 rfl) ?_
  by_cases c3 : a2 = 10
  · refine lv_lookup (tgt := 40) (off := 27) hx hb dX3_booking_13 (by decide) (by rw [c3]; rfl) (by decide) ?_
    replace hw := hw.1 c3
    refine lv_aload_n hx hb dX3_booking_40 rfl (lv_at hl 0 rfl) ?_
    refine z_get C0 Z in_X3 rfl 4 (by decide) rfl tm_1_142 (cx_lt C0 (by decide)) rfl rfl dX3_booking_41 ?_
    refine lv_iload_n hx hb dX3_booking_44 rfl (lv_at hl 1 rfl) ?_
    refine z_callVi C0 Z hl.1 (As := [.int a1]) (rest := []) (k_X1_joyOf l (cx_g C0) (isL8 (cx_g C0)) hw) (gv_X1_joyOf tm_3_10) rfl ds_X1_joyOf ⟨Nat.le_of_ble_eq_true rfl, Nat.le_of_ble_eq_true rfl⟩ (ci := 1) rfl (isL_lt0 (isL8 (cx_g C0))) (ent_L (isL8 (cx_g C0))) rfl rfl (Nat.le_of_ble_eq_true rfl) ⟨Nat.le_of_ble_eq_true rfl, Nat.le_of_ble_eq_true rfl⟩ dX3_booking_45 (fun r5 v4 H locs hw Z => ?_)
    exact z_iret C0 Z hw dX3_booking_48
  replace hw := hw.2
  by_cases c6 : a2 = 11
  · refine lv_lookup (tgt := 49) (off := 36) hx hb dX3_booking_13 (by decide) (by rw [c6]; rfl) (by decide) ?_
    replace hw := hw.1 c6
    refine lv_aload_n hx hb dX3_booking_49 rfl (lv_at hl 0 rfl) ?_
    refine z_get C0 Z in_X3 rfl 4 (by decide) rfl tm_1_142 (cx_lt C0 (by decide)) rfl rfl dX3_booking_50 ?_
    refine lv_iload_n hx hb dX3_booking_53 rfl (lv_at hl 1 rfl) ?_
    refine lv_iconst (v := 0) hx hb dX3_booking_54 (by decide) ?_
    refine z_callVi C0 Z hl.1 (As := [.int a1, .int 0]) (rest := []) (k_X1_isIn l (cx_g C0) (isL8 (cx_g C0)) hw) (gv_X1_isIn tm_3_11) rfl ds_X1_isIn ⟨Nat.le_of_ble_eq_true rfl, Nat.le_of_ble_eq_true rfl⟩ (ci := 1) rfl (isL_lt0 (isL8 (cx_g C0))) (ent_L (isL8 (cx_g C0))) rfl rfl (Nat.le_of_ble_eq_true rfl) ⟨Nat.le_of_ble_eq_true rfl, Nat.le_of_ble_eq_true rfl⟩ dX3_booking_55 (fun r8 v7 H locs hw Z => ?_)
    refine lv_if_eq (tgt := 72) hx hb dX3_booking_58 (by decide) (fun c9 => ?_) (fun c9 => ?_)
    · replace hw := hw.1 c9
      refine lv_iconst (v := (-1)) hx hb dX3_booking_72 (by decide) ?_
      exact b_X3_booking_73 l C0 _ _ _ _ _ hw Z (lv_sub hl [] rfl)
    · replace hw := hw.2 c9
      refine lv_aload_n hx hb dX3_booking_61 rfl (lv_at hl 0 rfl) ?_
      refine z_get C0 Z in_X3 rfl 4 (by decide) rfl tm_1_142 (cx_lt C0 (by decide)) rfl rfl dX3_booking_62 ?_
      refine lv_iload_n hx hb dX3_booking_65 rfl (lv_at hl 1 rfl) ?_
      refine z_callVi C0 Z hl.1 (As := [.int a1]) (rest := []) (k_X1_bestTime l (cx_g C0) (isL8 (cx_g C0)) hw) (gv_X1_bestTime tm_3_15) rfl ds_X1_bestTime ⟨Nat.le_of_ble_eq_true rfl, Nat.le_of_ble_eq_true rfl⟩ (ci := 1) rfl (isL_lt0 (isL8 (cx_g C0))) (ent_L (isL8 (cx_g C0))) rfl rfl (Nat.le_of_ble_eq_true rfl) ⟨Nat.le_of_ble_eq_true rfl, Nat.le_of_ble_eq_true rfl⟩ dX3_booking_66 (fun r11 v10 H locs hw Z => ?_)
      refine lv_goto (tgt := 73) hx hb dX3_booking_69 (by decide) ?_
      exact b_X3_booking_73 l C0 _ _ _ _ _ hw Z (lv_sub hl [] rfl)
  replace hw := hw.2
  refine lv_lookup (tgt := 74) (off := 61) hx hb dX3_booking_13 (by decide) ((lv_osw (a := 10) c3 (by decide)).trans ((lv_osw (a := 11) c6 (by decide)).trans rfl)) (by decide) ?_
  replace hw := hw ⟨c3, c6⟩
  refine lv_aload_n hx hb dX3_booking_74 rfl (lv_at hl 0 rfl) ?_
  refine z_get C0 Z in_X3 rfl 4 (by decide) rfl tm_1_142 (cx_lt C0 (by decide)) rfl rfl dX3_booking_75 ?_
  refine z_get C0 Z in_X1 rfl 2 (by decide) rfl tm_1_51 (isL_lt0 (isL8 (cx_g C0))) (ent_L (isL8 (cx_g C0))) rfl dX3_booking_78 ?_
  refine lv_iload_n hx hb dX3_booking_81 rfl (lv_at hl 1 rfl) ?_
  obtain ⟨h12, hw⟩ := hw
  have h13 := vp_lt h12
  refine z_aald C0 Z (isL_lt (isL8 (cx_g C0)) 3 (by decide)) (ent_L3 (isL8 (cx_g C0))) h12 dX3_booking_82 ?_
  refine lv_iload_n hx hb dX3_booking_83 rfl (lv_at hl 2 rfl) ?_
  obtain ⟨h14, hw⟩ := hw
  refine z_iald C0 Z (isL_B (isL8 (cx_g C0)) h13) (ent_B (isL8 (cx_g C0)) h13) h14 dX3_booking_84 ?_
  exact z_iret C0 Z hw dX3_booking_85
-- X3_waiter: room (3, 67)
theorem dX3_waiter_0 : decode cX3_waiter 0 = .ok (.iload_n 1, 1) := by decide +kernel
theorem dX3_waiter_1 : decode cX3_waiter 1 = .ok (.ifCond .ge 13, 3) := by decide +kernel
theorem dX3_waiter_4 : decode cX3_waiter 4 = .ok (.new 193, 3) := by decide +kernel
theorem dX3_waiter_7 : decode cX3_waiter 7 = .ok (.dup, 1) := by decide +kernel
theorem dX3_waiter_8 : decode cX3_waiter 8 = .ok (.ldc 195, 2) := by decide +kernel
theorem dX3_waiter_10 : decode cX3_waiter 10 = .ok (.invokespecial 197, 3) := by decide +kernel
theorem dX3_waiter_13 : decode cX3_waiter 13 = .ok (.athrow, 1) := by decide +kernel
theorem dX3_waiter_14 : decode cX3_waiter 14 = .ok (.aload_n 0, 1) := by decide +kernel
theorem dX3_waiter_15 : decode cX3_waiter 15 = .ok (.getfield 26, 3) := by decide +kernel
theorem dX3_waiter_18 : decode cX3_waiter 18 = .ok (.iload_n 1, 1) := by decide +kernel
theorem dX3_waiter_19 : decode cX3_waiter 19 = .ok (.invokevirtual 198, 3) := by decide +kernel
theorem dX3_waiter_22 : decode cX3_waiter 22 = .ok (.ireturn, 1) := by decide +kernel
def w_X3_waiter (a1 : Int32) (v : V3) (Q : Int32 → V3 → Prop) : Prop := ((0 ≤ a1 → w_X1_waiterAt 8 a1 v (fun r3 v2 => Q r3 v2)) ∧ (¬ 0 ≤ a1 → False))
set_option maxRecDepth 100000 in
set_option maxHeartbeats 4000000 in
theorem k_X3_waiter (l : Launch) {G : zG} (hg : 116 ≤ gn G) {a1 : Int32}  {v : V3} {Q : Int32 → V3 → Prop} (hw : w_X3_waiter a1 v Q) : Mz l yX3_waiter cX3_waiter 2 (some .int) 3 67 G [.ref (gad G 0), .int a1] v (QiZ G Q) := by
  rw [w_X3_waiter] at hw
  refine z_ofW hg (by decide) (Nat.le_of_ble_eq_true rfl) ?_
  intro p e s m args below meth c ls C0 Z hl
  have hx := C0.1
  have hb := C0.2.1
  replace hl : lv_has ls 2 [(0, .ref (gad G 0)), (1, .int a1)] := hl
  generalize s.heap = H at Z ⊢
  generalize ([] : List Loc) = locs at Z ⊢
  refine lv_iload_n hx hb dX3_waiter_0 rfl (lv_at hl 1 rfl) ?_
  refine lv_if_ge (tgt := 14) hx hb dX3_waiter_1 (by decide) (fun c1 => ?_) (fun c1 => ?_)
  · replace hw := hw.1 c1
    refine lv_aload_n hx hb dX3_waiter_14 rfl (lv_at hl 0 rfl) ?_
    refine z_get C0 Z in_X3 rfl 4 (by decide) rfl tm_1_142 (cx_lt C0 (by decide)) rfl rfl dX3_waiter_15 ?_
    refine lv_iload_n hx hb dX3_waiter_18 rfl (lv_at hl 1 rfl) ?_
    refine z_callVi C0 Z hl.1 (As := [.int a1]) (rest := []) (k_X1_waiterAt l (cx_g C0) (isL8 (cx_g C0)) hw) (gv_X1_waiterAt tm_3_232) rfl ds_X1_waiterAt ⟨Nat.le_of_ble_eq_true rfl, Nat.le_of_ble_eq_true rfl⟩ (ci := 1) rfl (isL_lt0 (isL8 (cx_g C0))) (ent_L (isL8 (cx_g C0))) rfl rfl (Nat.le_of_ble_eq_true rfl) ⟨Nat.le_of_ble_eq_true rfl, Nat.le_of_ble_eq_true rfl⟩ dX3_waiter_19 (fun r3 v2 H locs hw Z => ?_)
    exact z_iret C0 Z hw dX3_waiter_22
  · replace hw := hw.2 c1
    exact hw.elim
-- X3_clean: room (2, 86)
theorem dX3_clean_0 : decode cX3_clean 0 = .ok (.aload_n 0, 1) := by decide +kernel
theorem dX3_clean_1 : decode cX3_clean 1 = .ok (.getfield 26, 3) := by decide +kernel
theorem dX3_clean_4 : decode cX3_clean 4 = .ok (.invokevirtual 201, 3) := by decide +kernel
theorem dX3_clean_7 : decode cX3_clean 7 = .ok (.ireturn, 1) := by decide +kernel
def w_X3_clean  (v : V3) (Q : Int32 → V3 → Prop) : Prop := w_X1_dropEnded 8 v (fun r2 v1 => Q r2 v1)
set_option maxRecDepth 100000 in
set_option maxHeartbeats 4000000 in
theorem k_X3_clean (l : Launch) {G : zG} (hg : 116 ≤ gn G)  {v : V3} {Q : Int32 → V3 → Prop} (hw : w_X3_clean v Q) : Mz l yX3_clean cX3_clean 1 (some .int) 2 86 G [.ref (gad G 0)] v (QiZ G Q) := by
  rw [w_X3_clean] at hw
  refine z_ofW hg (by decide) (Nat.le_of_ble_eq_true rfl) ?_
  intro p e s m args below meth c ls C0 Z hl
  have hx := C0.1
  have hb := C0.2.1
  replace hl : lv_has ls 1 [(0, .ref (gad G 0))] := hl
  generalize s.heap = H at Z ⊢
  generalize ([] : List Loc) = locs at Z ⊢
  refine lv_aload_n hx hb dX3_clean_0 rfl (lv_at hl 0 rfl) ?_
  refine z_get C0 Z in_X3 rfl 4 (by decide) rfl tm_1_142 (cx_lt C0 (by decide)) rfl rfl dX3_clean_1 ?_
  refine z_callVi C0 Z hl.1 (As := []) (rest := []) (k_X1_dropEnded l (cx_g C0) (isL8 (cx_g C0)) hw) (gv_X1_dropEnded tm_4_56) rfl ds_X1_dropEnded ⟨Nat.le_of_ble_eq_true rfl, Nat.le_of_ble_eq_true rfl⟩ (ci := 1) rfl (isL_lt0 (isL8 (cx_g C0))) (ent_L (isL8 (cx_g C0))) rfl rfl (Nat.le_of_ble_eq_true rfl) ⟨Nat.le_of_ble_eq_true rfl, Nat.le_of_ble_eq_true rfl⟩ dX3_clean_4 (fun r2 v1 H locs hw Z => ?_)
  exact z_iret C0 Z hw dX3_clean_7
