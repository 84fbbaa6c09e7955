-- X1_joyAt: room (1, 24)
theorem dX1_joyAt_0 : decode cX1_joyAt 0 = .ok (.aload_n 0, 1) := by decide +kernel
theorem dX1_joyAt_1 : decode cX1_joyAt 1 = .ok (.getfield 20, 3) := by decide +kernel
theorem dX1_joyAt_4 : decode cX1_joyAt 4 = .ok (.iload_n 1, 1) := by decide +kernel
theorem dX1_joyAt_5 : decode cX1_joyAt 5 = .ok (.aaload, 1) := by decide +kernel
theorem dX1_joyAt_6 : decode cX1_joyAt 6 = .ok (.astore_n 3, 1) := by decide +kernel
theorem dX1_joyAt_7 : decode cX1_joyAt 7 = .ok (.bipush 20, 2) := by decide +kernel
theorem dX1_joyAt_9 : decode cX1_joyAt 9 = .ok (.iload_n 2, 1) := by decide +kernel
theorem dX1_joyAt_10 : decode cX1_joyAt 10 = .ok (.aload_n 3, 1) := by decide +kernel
theorem dX1_joyAt_11 : decode cX1_joyAt 11 = .ok (.iconst 4, 1) := by decide +kernel
theorem dX1_joyAt_12 : decode cX1_joyAt 12 = .ok (.iaload, 1) := by decide +kernel
theorem dX1_joyAt_13 : decode cX1_joyAt 13 = .ok (.isub, 1) := by decide +kernel
theorem dX1_joyAt_14 : decode cX1_joyAt 14 = .ok (.invokestatic 89, 3) := by decide +kernel
theorem dX1_joyAt_17 : decode cX1_joyAt 17 = .ok (.isub, 1) := by decide +kernel
theorem dX1_joyAt_18 : decode cX1_joyAt 18 = .ok (.istore 4, 2) := by decide +kernel
theorem dX1_joyAt_20 : decode cX1_joyAt 20 = .ok (.iload 4, 2) := by decide +kernel
theorem dX1_joyAt_22 : decode cX1_joyAt 22 = .ok (.ifCond .le 13, 3) := by decide +kernel
theorem dX1_joyAt_25 : decode cX1_joyAt 25 = .ok (.aload_n 3, 1) := by decide +kernel
theorem dX1_joyAt_26 : decode cX1_joyAt 26 = .ok (.bipush 6, 2) := by decide +kernel
theorem dX1_joyAt_28 : decode cX1_joyAt 28 = .ok (.iaload, 1) := by decide +kernel
theorem dX1_joyAt_29 : decode cX1_joyAt 29 = .ok (.iload 4, 2) := by decide +kernel
theorem dX1_joyAt_31 : decode cX1_joyAt 31 = .ok (.imul, 1) := by decide +kernel
theorem dX1_joyAt_32 : decode cX1_joyAt 32 = .ok (.goto 4, 3) := by decide +kernel
theorem dX1_joyAt_35 : decode cX1_joyAt 35 = .ok (.iconst 0, 1) := by decide +kernel
theorem dX1_joyAt_36 : decode cX1_joyAt 36 = .ok (.ireturn, 1) := by decide +kernel
def w_X1_joyAt_36 (this : Nat) (Q : Int32 → V3 → Prop) (s0 : Int32) (v : V3) : Prop := Q s0 v
def w_X1_joyAt (this : Nat) (a1 : Int32) (a2 : Int32) (v : V3) (Q : Int32 → V3 → Prop) : Prop := vp_in a1 40 ∧ (((20 - (zabs (a2 - (v (this + 14 + (ix a1)) 4)))) ≤ 0 → w_X1_joyAt_36 this Q 0 v) ∧ (¬ (20 - (zabs (a2 - (v (this + 14 + (ix a1)) 4)))) ≤ 0 → w_X1_joyAt_36 this Q ((v (this + 14 + (ix a1)) 6) * (20 - (zabs (a2 - (v (this + 14 + (ix a1)) 4))))) v))
set_option maxRecDepth 100000 in
set_option maxHeartbeats 4000000 in
theorem b_X1_joyAt_36 {p : Program} (l : Launch) {e : Env} {s : State} {m : MethodId} {args : Array Value} {below : List Frame} {meth : Method} {c : Code} {G : zG} {this : Nat} (hL : isL G this) (C0 : Cx G RX1 cX1_joyAt 5 (some .int) p s m args meth c) {Q : Int32 → V3 → Prop} : ∀ (s0 : Int32) (v : V3) (H : Heap) (locs : List Loc) (ls : Array Slot), w_X1_joyAt_36 this Q s0 v → Zs G s v H locs → lv_has ls 5 [] → W p l e { frames := 1, cells := 0, slots := 0, locals := 24 } s m args below meth c H locs 0 0 (MQ below (QiZ G Q) args s 0 0 (zA G)) (F0 m 36 ls [.int s0]) := by
  have hx := C0.1
  have hb := C0.2.1
  intro s0 v H locs ls hw Z hl
  rw [w_X1_joyAt_36] at hw
  exact z_iret C0 Z hw dX1_joyAt_36
set_option maxRecDepth 100000 in
set_option maxHeartbeats 4000000 in
theorem k_X1_joyAt (l : Launch) {G : zG} (hg : 116 ≤ gn G) {this : Nat} {a1 : Int32} {a2 : Int32} (hL : isL G this) {v : V3} {Q : Int32 → V3 → Prop} (hw : w_X1_joyAt this a1 a2 v Q) : Mz l yX1_joyAt cX1_joyAt 5 (some .int) 1 24 G [.ref (gad G this), .int a1, .int a2] v (QiZ G Q) := by
  rw [w_X1_joyAt] at hw
  refine z_ofW hg (by decide) (Nat.le_of_ble_eq_true rfl) ?_
  intro p e s m args below meth c ls C0 Z hl
  have hx := C0.1
  have hb := C0.2.1
  replace hl : lv_has ls 5 [(0, .ref (gad G this)), (1, .int a1), (2, .int a2)] := hl
  generalize s.heap = H at Z ⊢
  generalize ([] : List Loc) = locs at Z ⊢
  refine lv_aload_n hx hb dX1_joyAt_0 rfl (lv_at hl 0 rfl) ?_
  refine z_get C0 Z in_X1 rfl 2 (by decide) rfl tm_1_49 (isL_lt0 hL) (ent_L hL) rfl dX1_joyAt_1 ?_
  refine lv_iload_n hx hb dX1_joyAt_4 rfl (lv_at hl 1 rfl) ?_
  obtain ⟨h1, hw⟩ := hw
  have h2 := vp_lt h1
  refine z_aald C0 Z (isL_lt hL 3 (by decide)) (ent_L3 hL) h1 dX1_joyAt_5 ?_
  refine lv_astore_n (lv' := [(3, .ref (gad G (this + 14 + (ix a1)))), (0, .ref (gad G this)), (1, .int a1), (2, .int a2)]) hx hb dX1_joyAt_6 rfl hl (by decide) rfl (fun ls hl => ?_)
  refine lv_bipush (v := 20) hx hb dX1_joyAt_7 (by decide) ?_
  refine lv_iload_n hx hb dX1_joyAt_9 rfl (lv_at hl 3 rfl) ?_
  refine lv_aload_n hx hb dX1_joyAt_10 rfl (lv_at hl 0 rfl) ?_
  refine lv_iconst (v := 4) hx hb dX1_joyAt_11 (by decide) ?_
  refine z_ialdk C0 Z (isL_B hL h2) (ent_B hL h2) in_4_10 nc_4 dX1_joyAt_12 ?_
  refine lv_isub hx hb dX1_joyAt_13 ?_
  refine z_abs C0 hl.1 tm_2_187 (Nat.le_of_ble_eq_true rfl) (Nat.le_of_ble_eq_true rfl) (Nat.le_of_ble_eq_true rfl) (Nat.le_of_ble_eq_true rfl) dX1_joyAt_14 ?_
  refine lv_isub hx hb dX1_joyAt_17 ?_
  refine lv_istore (lv' := [(4, .int (20 - (zabs (a2 - (v (this + 14 + (ix a1)) 4))))), (3, .ref (gad G (this + 14 + (ix a1)))), (0, .ref (gad G this)), (1, .int a1), (2, .int a2)]) hx hb dX1_joyAt_18 hl (by decide) rfl (fun ls hl => ?_)
  refine lv_iload hx hb dX1_joyAt_20 (lv_at hl 0 rfl) ?_
  refine lv_if_le (tgt := 35) hx hb dX1_joyAt_22 (by decide) (fun c3 => ?_) (fun c3 => ?_)
  · replace hw := hw.1 c3
    refine lv_iconst (v := 0) hx hb dX1_joyAt_35 (by decide) ?_
    exact b_X1_joyAt_36 l hL C0 _ _ _ _ _ hw Z (lv_sub hl [] rfl)
  · replace hw := hw.2 c3
    refine lv_aload_n hx hb dX1_joyAt_25 rfl (lv_at hl 1 rfl) ?_
    refine lv_bipush (v := 6) hx hb dX1_joyAt_26 (by decide) ?_
    refine z_ialdk C0 Z (isL_B hL h2) (ent_B hL h2) in_6_10 nc_6 dX1_joyAt_28 ?_
    refine lv_iload hx hb dX1_joyAt_29 (lv_at hl 0 rfl) ?_
    refine lv_imul hx hb dX1_joyAt_31 ?_
    refine lv_goto (tgt := 36) hx hb dX1_joyAt_32 (by decide) ?_
    exact b_X1_joyAt_36 l hL C0 _ _ _ _ _ hw Z (lv_sub hl [] rfl)
-- X1_joyOf: room (2, 48)
theorem dX1_joyOf_0 : decode cX1_joyOf 0 = .ok (.aload_n 0, 1) := by decide +kernel
theorem dX1_joyOf_1 : decode cX1_joyOf 1 = .ok (.getfield 20, 3) := by decide +kernel
theorem dX1_joyOf_4 : decode cX1_joyOf 4 = .ok (.iload_n 1, 1) := by decide +kernel
theorem dX1_joyOf_5 : decode cX1_joyOf 5 = .ok (.aaload, 1) := by decide +kernel
theorem dX1_joyOf_6 : decode cX1_joyOf 6 = .ok (.astore_n 2, 1) := by decide +kernel
theorem dX1_joyOf_7 : decode cX1_joyOf 7 = .ok (.aload_n 2, 1) := by decide +kernel
theorem dX1_joyOf_8 : decode cX1_joyOf 8 = .ok (.bipush 7, 2) := by decide +kernel
theorem dX1_joyOf_10 : decode cX1_joyOf 10 = .ok (.iaload, 1) := by decide +kernel
theorem dX1_joyOf_11 : decode cX1_joyOf 11 = .ok (.iconst 1, 1) := by decide +kernel
theorem dX1_joyOf_12 : decode cX1_joyOf 12 = .ok (.if_icmp .ne 15, 3) := by decide +kernel
theorem dX1_joyOf_15 : decode cX1_joyOf 15 = .ok (.aload_n 0, 1) := by decide +kernel
theorem dX1_joyOf_16 : decode cX1_joyOf 16 = .ok (.iload_n 1, 1) := by decide +kernel
theorem dX1_joyOf_17 : decode cX1_joyOf 17 = .ok (.aload_n 2, 1) := by decide +kernel
theorem dX1_joyOf_18 : decode cX1_joyOf 18 = .ok (.bipush 8, 2) := by decide +kernel
theorem dX1_joyOf_20 : decode cX1_joyOf 20 = .ok (.iaload, 1) := by decide +kernel
theorem dX1_joyOf_21 : decode cX1_joyOf 21 = .ok (.invokevirtual 85, 3) := by decide +kernel
theorem dX1_joyOf_24 : decode cX1_joyOf 24 = .ok (.goto 4, 3) := by decide +kernel
theorem dX1_joyOf_27 : decode cX1_joyOf 27 = .ok (.iconst 0, 1) := by decide +kernel
theorem dX1_joyOf_28 : decode cX1_joyOf 28 = .ok (.ireturn, 1) := by decide +kernel
def w_X1_joyOf_28 (this : Nat) (Q : Int32 → V3 → Prop) (s0 : Int32) (v : V3) : Prop := Q s0 v
def w_X1_joyOf (this : Nat) (a1 : Int32) (v : V3) (Q : Int32 → V3 → Prop) : Prop := vp_in a1 40 ∧ ((¬ (v (this + 14 + (ix a1)) 7) = 1 → w_X1_joyOf_28 this Q 0 v) ∧ ((v (this + 14 + (ix a1)) 7) = 1 → w_X1_joyAt this a1 (v (this + 14 + (ix a1)) 8) v (fun r5 v4 => w_X1_joyOf_28 this Q r5 v4)))
set_option maxRecDepth 100000 in
set_option maxHeartbeats 4000000 in
theorem b_X1_joyOf_28 {p : Program} (l : Launch) {e : Env} {s : State} {m : MethodId} {args : Array Value} {below : List Frame} {meth : Method} {c : Code} {G : zG} {this : Nat} (hL : isL G this) (C0 : Cx G RX1 cX1_joyOf 3 (some .int) p s m args meth c) {Q : Int32 → V3 → Prop} : ∀ (s0 : Int32) (v : V3) (H : Heap) (locs : List Loc) (ls : Array Slot), w_X1_joyOf_28 this Q s0 v → Zs G s v H locs → lv_has ls 3 [] → W p l e { frames := 2, cells := 0, slots := 0, locals := 48 } s m args below meth c H locs 0 0 (MQ below (QiZ G Q) args s 0 0 (zA G)) (F0 m 28 ls [.int s0]) := by
  have hx := C0.1
  have hb := C0.2.1
  intro s0 v H locs ls hw Z hl
  rw [w_X1_joyOf_28] at hw
  exact z_iret C0 Z hw dX1_joyOf_28
set_option maxRecDepth 100000 in
set_option maxHeartbeats 4000000 in
theorem k_X1_joyOf (l : Launch) {G : zG} (hg : 116 ≤ gn G) {this : Nat} {a1 : Int32} (hL : isL G this) {v : V3} {Q : Int32 → V3 → Prop} (hw : w_X1_joyOf this a1 v Q) : Mz l yX1_joyOf cX1_joyOf 3 (some .int) 2 48 G [.ref (gad G this), .int a1] v (QiZ G Q) := by
  rw [w_X1_joyOf] at hw
  refine z_ofW hg (by decide) (Nat.le_of_ble_eq_true rfl) ?_
  intro p e s m args below meth c ls C0 Z hl
  have hx := C0.1
  have hb := C0.2.1
  replace hl : lv_has ls 3 [(0, .ref (gad G this)), (1, .int a1)] := hl
  generalize s.heap = H at Z ⊢
  generalize ([] : List Loc) = locs at Z ⊢
  refine lv_aload_n hx hb dX1_joyOf_0 rfl (lv_at hl 0 rfl) ?_
  refine z_get C0 Z in_X1 rfl 2 (by decide) rfl tm_1_49 (isL_lt0 hL) (ent_L hL) rfl dX1_joyOf_1 ?_
  refine lv_iload_n hx hb dX1_joyOf_4 rfl (lv_at hl 1 rfl) ?_
  obtain ⟨h1, hw⟩ := hw
  have h2 := vp_lt h1
  refine z_aald C0 Z (isL_lt hL 3 (by decide)) (ent_L3 hL) h1 dX1_joyOf_5 ?_
  refine lv_astore_n (lv' := [(2, .ref (gad G (this + 14 + (ix a1)))), (0, .ref (gad G this)), (1, .int a1)]) hx hb dX1_joyOf_6 rfl hl (by decide) rfl (fun ls hl => ?_)
  refine lv_aload_n hx hb dX1_joyOf_7 rfl (lv_at hl 0 rfl) ?_
  refine lv_bipush (v := 7) hx hb dX1_joyOf_8 (by decide) ?_
  refine z_ialdk C0 Z (isL_B hL h2) (ent_B hL h2) in_7_10 nc_7 dX1_joyOf_10 ?_
  refine lv_iconst (v := 1) hx hb dX1_joyOf_11 (by decide) ?_
  refine lv_icmp_ne (tgt := 27) hx hb dX1_joyOf_12 (by decide) (fun c3 => ?_) (fun c3 => ?_)
  · replace hw := hw.1 c3
    refine lv_iconst (v := 0) hx hb dX1_joyOf_27 (by decide) ?_
    exact b_X1_joyOf_28 l hL C0 _ _ _ _ _ hw Z (lv_sub hl [] rfl)
  · replace hw := hw.2 c3
    refine lv_aload_n hx hb dX1_joyOf_15 rfl (lv_at hl 1 rfl) ?_
    refine lv_iload_n hx hb dX1_joyOf_16 rfl (lv_at hl 2 rfl) ?_
    refine lv_aload_n hx hb dX1_joyOf_17 rfl (lv_at hl 0 rfl) ?_
    refine lv_bipush (v := 8) hx hb dX1_joyOf_18 (by decide) ?_
    refine z_ialdk C0 Z (isL_B hL h2) (ent_B hL h2) in_8_10 nc_8 dX1_joyOf_20 ?_
    refine z_callVi C0 Z hl.1 (As := [.int a1, .int (v (this + 14 + (ix a1)) 8)]) (rest := []) (k_X1_joyAt l (cx_g C0) hL hw) (gv_X1_joyAt tm_2_183) rfl ds_X1_joyAt ⟨Nat.le_of_ble_eq_true rfl, Nat.le_of_ble_eq_true rfl⟩ (ci := 1) rfl (isL_lt0 hL) (ent_L hL) rfl rfl (Nat.le_of_ble_eq_true rfl) ⟨Nat.le_of_ble_eq_true rfl, Nat.le_of_ble_eq_true rfl⟩ dX1_joyOf_21 (fun r5 v4 H locs hw Z => ?_)
    refine lv_goto (tgt := 28) hx hb dX1_joyOf_24 (by decide) ?_
    exact b_X1_joyOf_28 l hL C0 _ _ _ _ _ hw Z (lv_sub hl [] rfl)
-- X1_joyOfOwner: room (3, 70)
theorem dX1_joyOfOwner_0 : decode cX1_joyOfOwner 0 = .ok (.iconst 0, 1) := by decide +kernel
theorem dX1_joyOfOwner_1 : decode cX1_joyOfOwner 1 = .ok (.istore_n 2, 1) := by decide +kernel
theorem dX1_joyOfOwner_2 : decode cX1_joyOfOwner 2 = .ok (.iconst 0, 1) := by decide +kernel
theorem dX1_joyOfOwner_3 : decode cX1_joyOfOwner 3 = .ok (.istore_n 3, 1) := by decide +kernel
theorem dX1_joyOfOwner_4 : decode cX1_joyOfOwner 4 = .ok (.iload_n 3, 1) := by decide +kernel
theorem dX1_joyOfOwner_5 : decode cX1_joyOfOwner 5 = .ok (.aload_n 0, 1) := by decide +kernel
theorem dX1_joyOfOwner_6 : decode cX1_joyOfOwner 6 = .ok (.getfield 43, 3) := by decide +kernel
theorem dX1_joyOfOwner_9 : decode cX1_joyOfOwner 9 = .ok (.if_icmp .ge 29, 3) := by decide +kernel
theorem dX1_joyOfOwner_12 : decode cX1_joyOfOwner 12 = .ok (.aload_n 0, 1) := by decide +kernel
theorem dX1_joyOfOwner_13 : decode cX1_joyOfOwner 13 = .ok (.getfield 20, 3) := by decide +kernel
theorem dX1_joyOfOwner_16 : decode cX1_joyOfOwner 16 = .ok (.iload_n 3, 1) := by decide +kernel
theorem dX1_joyOfOwner_17 : decode cX1_joyOfOwner 17 = .ok (.aaload, 1) := by decide +kernel
theorem dX1_joyOfOwner_18 : decode cX1_joyOfOwner 18 = .ok (.iconst 0, 1) := by decide +kernel
theorem dX1_joyOfOwner_19 : decode cX1_joyOfOwner 19 = .ok (.iaload, 1) := by decide +kernel
theorem dX1_joyOfOwner_20 : decode cX1_joyOfOwner 20 = .ok (.iload_n 1, 1) := by decide +kernel
theorem dX1_joyOfOwner_21 : decode cX1_joyOfOwner 21 = .ok (.if_icmp .ne 11, 3) := by decide +kernel
theorem dX1_joyOfOwner_24 : decode cX1_joyOfOwner 24 = .ok (.iload_n 2, 1) := by decide +kernel
theorem dX1_joyOfOwner_25 : decode cX1_joyOfOwner 25 = .ok (.aload_n 0, 1) := by decide +kernel
theorem dX1_joyOfOwner_26 : decode cX1_joyOfOwner 26 = .ok (.iload_n 3, 1) := by decide +kernel
theorem dX1_joyOfOwner_27 : decode cX1_joyOfOwner 27 = .ok (.invokevirtual 72, 3) := by decide +kernel
theorem dX1_joyOfOwner_30 : decode cX1_joyOfOwner 30 = .ok (.iadd, 1) := by decide +kernel
theorem dX1_joyOfOwner_31 : decode cX1_joyOfOwner 31 = .ok (.istore_n 2, 1) := by decide +kernel
theorem dX1_joyOfOwner_32 : decode cX1_joyOfOwner 32 = .ok (.iinc 3 1, 3) := by decide +kernel
theorem dX1_joyOfOwner_35 : decode cX1_joyOfOwner 35 = .ok (.goto (-31), 3) := by decide +kernel
theorem dX1_joyOfOwner_38 : decode cX1_joyOfOwner 38 = .ok (.iload_n 2, 1) := by decide +kernel
theorem dX1_joyOfOwner_39 : decode cX1_joyOfOwner 39 = .ok (.ireturn, 1) := by decide +kernel
def w_X1_joyOfOwner_32 (this : Nat) (Q : Int32 → V3 → Prop) (K4 : Int32 → Int32 → Int32 → V3 → Prop) (x1 : Int32) (x2 : Int32) (x3 : Int32) (v : V3) : Prop := K4 x1 x2 (x3 + 1) v
def w_X1_joyOfOwner_4 (this : Nat) (Q : Int32 → V3 → Prop) : Nat → Int32 → Int32 → Int32 → V3 → Prop
  | 0, _, _, _, _ => False
  | n4 + 1, x1, x2, x3, v => (((v this 8) ≤ x3 → Q x2 v) ∧ (¬ (v this 8) ≤ x3 → vp_in x3 40 ∧ ((¬ (v (this + 14 + (ix x3)) 0) = x1 → w_X1_joyOfOwner_32 this Q (w_X1_joyOfOwner_4 this Q n4) x1 x2 x3 v) ∧ ((v (this + 14 + (ix x3)) 0) = x1 → w_X1_joyOf this x3 v (fun r6 v5 => w_X1_joyOfOwner_32 this Q (w_X1_joyOfOwner_4 this Q n4) x1 (x2 + r6) x3 v5)))))
def w_X1_joyOfOwner (this : Nat) (a1 : Int32) (v : V3) (Q : Int32 → V3 → Prop) : Prop := ∃ m4 : Nat, w_X1_joyOfOwner_4 this Q m4 a1 0 0 v
set_option maxRecDepth 100000 in
set_option maxHeartbeats 4000000 in
theorem b_X1_joyOfOwner_32 {p : Program} (l : Launch) {e : Env} {s : State} {m : MethodId} {args : Array Value} {below : List Frame} {meth : Method} {c : Code} {G : zG} {this : Nat} (hL : isL G this) (C0 : Cx G RX1 cX1_joyOfOwner 4 (some .int) p s m args meth c) {Q : Int32 → V3 → Prop} {K4 : Int32 → Int32 → Int32 → V3 → Prop} (hK4 : ∀ (x1 : Int32) (x2 : Int32) (x3 : Int32) (v : V3) (H : Heap) (locs : List Loc) (ls : Array Slot), K4 x1 x2 x3 v → Zs G s v H locs → lv_has ls 4 [(0, .ref (gad G this)), (1, .int x1), (2, .int x2), (3, .int x3)] → W p l e { frames := 3, cells := 0, slots := 0, locals := 70 } s m args below meth c H locs 0 0 (MQ below (QiZ G Q) args s 0 0 (zA G)) (F0 m 4 ls [])) : ∀ (x1 : Int32) (x2 : Int32) (x3 : Int32) (v : V3) (H : Heap) (locs : List Loc) (ls : Array Slot), w_X1_joyOfOwner_32 this Q K4 x1 x2 x3 v → Zs G s v H locs → lv_has ls 4 [(0, .ref (gad G this)), (1, .int x1), (2, .int x2), (3, .int x3)] → W p l e { frames := 3, cells := 0, slots := 0, locals := 70 } s m args below meth c H locs 0 0 (MQ below (QiZ G Q) args s 0 0 (zA G)) (F0 m 32 ls []) := by
  have hx := C0.1
  have hb := C0.2.1
  intro x1 x2 x3 v H locs ls hw Z hl
  rw [w_X1_joyOfOwner_32] at hw
  refine lv_iinc (v := x3 + 1) (lv' := [(3, .int (x3 + 1)), (0, .ref (gad G this)), (1, .int x1), (2, .int x2)]) hx hb dX1_joyOfOwner_32 hl (k := 3) rfl rfl (by decide) rfl (fun ls hl => ?_)
  refine lv_goto (tgt := 4) hx hb dX1_joyOfOwner_35 (by decide) ?_
  exact hK4 _ _ _ _ _ _ _ hw Z (lv_sub hl [1, 2, 3, 0] rfl)
set_option maxRecDepth 100000 in
set_option maxHeartbeats 4000000 in
theorem b_X1_joyOfOwner_4 {p : Program} (l : Launch) {e : Env} {s : State} {m : MethodId} {args : Array Value} {below : List Frame} {meth : Method} {c : Code} {G : zG} {this : Nat} (hL : isL G this) (C0 : Cx G RX1 cX1_joyOfOwner 4 (some .int) p s m args meth c) {Q : Int32 → V3 → Prop} : ∀ (n : Nat) (x1 : Int32) (x2 : Int32) (x3 : Int32) (v : V3) (H : Heap) (locs : List Loc) (ls : Array Slot), w_X1_joyOfOwner_4 this Q n x1 x2 x3 v → Zs G s v H locs → lv_has ls 4 [(0, .ref (gad G this)), (1, .int x1), (2, .int x2), (3, .int x3)] → W p l e { frames := 3, cells := 0, slots := 0, locals := 70 } s m args below meth c H locs 0 0 (MQ below (QiZ G Q) args s 0 0 (zA G)) (F0 m 4 ls []) := by
  have hx := C0.1
  have hb := C0.2.1
  intro n
  induction n with
  | zero =>
    intro x1 x2 x3 v H locs ls hw Z hl
    exact hw.elim
  | succ n hK4 =>
    intro x1 x2 x3 v H locs ls hw Z hl
    rw [w_X1_joyOfOwner_4] at hw
    refine lv_iload_n hx hb dX1_joyOfOwner_4 rfl (lv_at hl 3 rfl) ?_
    refine lv_aload_n hx hb dX1_joyOfOwner_5 rfl (lv_at hl 0 rfl) ?_
    refine z_get C0 Z in_X1 rfl 8 (by decide) rfl tm_1_62 (isL_lt0 hL) (ent_L hL) rfl dX1_joyOfOwner_6 ?_
    refine lv_icmp_ge (tgt := 38) hx hb dX1_joyOfOwner_9 (by decide) (fun c1 => ?_) (fun c1 => ?_)
    · replace hw := hw.1 c1
      refine lv_iload_n hx hb dX1_joyOfOwner_38 rfl (lv_at hl 2 rfl) ?_
      exact z_iret C0 Z hw dX1_joyOfOwner_39
    · replace hw := hw.2 c1
      refine lv_aload_n hx hb dX1_joyOfOwner_12 rfl (lv_at hl 0 rfl) ?_
      refine z_get C0 Z in_X1 rfl 2 (by decide) rfl tm_1_49 (isL_lt0 hL) (ent_L hL) rfl dX1_joyOfOwner_13 ?_
      refine lv_iload_n hx hb dX1_joyOfOwner_16 rfl (lv_at hl 3 rfl) ?_
      obtain ⟨h2, hw⟩ := hw
      have h3 := vp_lt h2
      refine z_aald C0 Z (isL_lt hL 3 (by decide)) (ent_L3 hL) h2 dX1_joyOfOwner_17 ?_
      refine lv_iconst (v := 0) hx hb dX1_joyOfOwner_18 (by decide) ?_
      refine z_ialdk C0 Z (isL_B hL h3) (ent_B hL h3) in_0_10 nc_0 dX1_joyOfOwner_19 ?_
      refine lv_iload_n hx hb dX1_joyOfOwner_20 rfl (lv_at hl 1 rfl) ?_
      refine lv_icmp_ne (tgt := 32) hx hb dX1_joyOfOwner_21 (by decide) (fun c4 => ?_) (fun c4 => ?_)
      · replace hw := hw.1 c4
        exact b_X1_joyOfOwner_32 l hL C0 hK4 _ _ _ _ _ _ _ hw Z (lv_sub hl [0, 1, 2, 3] rfl)
      · replace hw := hw.2 c4
        refine lv_iload_n hx hb dX1_joyOfOwner_24 rfl (lv_at hl 2 rfl) ?_
        refine lv_aload_n hx hb dX1_joyOfOwner_25 rfl (lv_at hl 0 rfl) ?_
        refine lv_iload_n hx hb dX1_joyOfOwner_26 rfl (lv_at hl 3 rfl) ?_
        refine z_callVi C0 Z hl.1 (As := [.int x3]) (rest := [.int x2]) (k_X1_joyOf l (cx_g C0) hL hw) (gv_X1_joyOf tm_2_179) rfl ds_X1_joyOf ⟨Nat.le_of_ble_eq_true rfl, Nat.le_of_ble_eq_true rfl⟩ (ci := 1) rfl (isL_lt0 hL) (ent_L hL) rfl rfl (Nat.le_of_ble_eq_true rfl) ⟨Nat.le_of_ble_eq_true rfl, Nat.le_of_ble_eq_true rfl⟩ dX1_joyOfOwner_27 (fun r6 v5 H locs hw Z => ?_)
        refine lv_iadd hx hb dX1_joyOfOwner_30 ?_
        refine lv_istore_n (lv' := [(2, .int (x2 + r6)), (0, .ref (gad G this)), (1, .int x1), (3, .int x3)]) hx hb dX1_joyOfOwner_31 rfl hl (by decide) rfl (fun ls hl => ?_)
        exact b_X1_joyOfOwner_32 l hL C0 hK4 _ _ _ _ _ _ _ hw Z (lv_sub hl [1, 2, 0, 3] rfl)
set_option maxRecDepth 100000 in
set_option maxHeartbeats 4000000 in
theorem k_X1_joyOfOwner (l : Launch) {G : zG} (hg : 116 ≤ gn G) {this : Nat} {a1 : Int32} (hL : isL G this) {v : V3} {Q : Int32 → V3 → Prop} (hw : w_X1_joyOfOwner this a1 v Q) : Mz l yX1_joyOfOwner cX1_joyOfOwner 4 (some .int) 3 70 G [.ref (gad G this), .int a1] v (QiZ G Q) := by
  rw [w_X1_joyOfOwner] at hw
  refine z_ofW hg (by decide) (Nat.le_of_ble_eq_true rfl) ?_
  intro p e s m args below meth c ls C0 Z hl
  have hx := C0.1
  have hb := C0.2.1
  replace hl : lv_has ls 4 [(0, .ref (gad G this)), (1, .int a1)] := hl
  generalize s.heap = H at Z ⊢
  generalize ([] : List Loc) = locs at Z ⊢
  refine lv_iconst (v := 0) hx hb dX1_joyOfOwner_0 (by decide) ?_
  refine lv_istore_n (lv' := [(2, .int 0), (0, .ref (gad G this)), (1, .int a1)]) hx hb dX1_joyOfOwner_1 rfl hl (by decide) rfl (fun ls hl => ?_)
  refine lv_iconst (v := 0) hx hb dX1_joyOfOwner_2 (by decide) ?_
  refine lv_istore_n (lv' := [(3, .int 0), (2, .int 0), (0, .ref (gad G this)), (1, .int a1)]) hx hb dX1_joyOfOwner_3 rfl hl (by decide) rfl (fun ls hl => ?_)
  obtain ⟨m4, hw⟩ := hw
  exact b_X1_joyOfOwner_4 l hL C0 m4 _ _ _ _ _ _ _ hw Z (lv_sub hl [2, 3, 1, 0] rfl)
-- X1_isIn: room (0, 0)
theorem dX1_isIn_0 : decode cX1_isIn 0 = .ok (.aload_n 0, 1) := by decide +kernel
theorem dX1_isIn_1 : decode cX1_isIn 1 = .ok (.getfield 20, 3) := by decide +kernel
theorem dX1_isIn_4 : decode cX1_isIn 4 = .ok (.iload_n 1, 1) := by decide +kernel
theorem dX1_isIn_5 : decode cX1_isIn 5 = .ok (.aaload, 1) := by decide +kernel
theorem dX1_isIn_6 : decode cX1_isIn 6 = .ok (.bipush 7, 2) := by decide +kernel
theorem dX1_isIn_8 : decode cX1_isIn 8 = .ok (.iaload, 1) := by decide +kernel
theorem dX1_isIn_9 : decode cX1_isIn 9 = .ok (.iload_n 2, 1) := by decide +kernel
theorem dX1_isIn_10 : decode cX1_isIn 10 = .ok (.if_icmp .ne 7, 3) := by decide +kernel
theorem dX1_isIn_13 : decode cX1_isIn 13 = .ok (.iconst 1, 1) := by decide +kernel
theorem dX1_isIn_14 : decode cX1_isIn 14 = .ok (.goto 4, 3) := by decide +kernel
theorem dX1_isIn_17 : decode cX1_isIn 17 = .ok (.iconst 0, 1) := by decide +kernel
theorem dX1_isIn_18 : decode cX1_isIn 18 = .ok (.ireturn, 1) := by decide +kernel
def w_X1_isIn_18 (this : Nat) (Q : Int32 → V3 → Prop) (s0 : Int32) (v : V3) : Prop := (s0 = 0 ∨ s0 = 1) ∧ Q s0 v
def w_X1_isIn (this : Nat) (a1 : Int32) (a2 : Int32) (v : V3) (Q : Int32 → V3 → Prop) : Prop := vp_in a1 40 ∧ ((¬ (v (this + 14 + (ix a1)) 7) = a2 → w_X1_isIn_18 this Q 0 v) ∧ ((v (this + 14 + (ix a1)) 7) = a2 → w_X1_isIn_18 this Q 1 v))
set_option maxRecDepth 100000 in
set_option maxHeartbeats 4000000 in
theorem b_X1_isIn_18 {p : Program} (l : Launch) {e : Env} {s : State} {m : MethodId} {args : Array Value} {below : List Frame} {meth : Method} {c : Code} {G : zG} {this : Nat} (hL : isL G this) (C0 : Cx G RX1 cX1_isIn 3 (some .boolean) p s m args meth c) {Q : Int32 → V3 → Prop} : ∀ (s0 : Int32) (v : V3) (H : Heap) (locs : List Loc) (ls : Array Slot), w_X1_isIn_18 this Q s0 v → Zs G s v H locs → lv_has ls 3 [] → W p l e { frames := 0, cells := 0, slots := 0, locals := 0 } s m args below meth c H locs 0 0 (MQ below (QiZ G Q) args s 0 0 (zA G)) (F0 m 18 ls [.int s0]) := by
  have hx := C0.1
  have hb := C0.2.1
  intro s0 v H locs ls hw Z hl
  rw [w_X1_isIn_18] at hw
  obtain ⟨h4, hw⟩ := hw
  exact z_zret C0 Z h4 hw dX1_isIn_18
set_option maxRecDepth 100000 in
set_option maxHeartbeats 4000000 in
theorem k_X1_isIn (l : Launch) {G : zG} (hg : 116 ≤ gn G) {this : Nat} {a1 : Int32} {a2 : Int32} (hL : isL G this) {v : V3} {Q : Int32 → V3 → Prop} (hw : w_X1_isIn this a1 a2 v Q) : Mz l yX1_isIn cX1_isIn 3 (some .boolean) 0 0 G [.ref (gad G this), .int a1, .int a2] v (QiZ G Q) := by
  rw [w_X1_isIn] at hw
  refine z_ofW hg (by decide) (Nat.le_of_ble_eq_true rfl) ?_
  intro p e s m args below meth c ls C0 Z hl
  have hx := C0.1
  have hb := C0.2.1
  replace hl : lv_has ls 3 [(0, .ref (gad G this)), (1, .int a1), (2, .int a2)] := hl
  generalize s.heap = H at Z ⊢
  generalize ([] : List Loc) = locs at Z ⊢
  refine lv_aload_n hx hb dX1_isIn_0 rfl (lv_at hl 0 rfl) ?_
  refine z_get C0 Z in_X1 rfl 2 (by decide) rfl tm_1_49 (isL_lt0 hL) (ent_L hL) rfl dX1_isIn_1 ?_
  refine lv_iload_n hx hb dX1_isIn_4 rfl (lv_at hl 1 rfl) ?_
  obtain ⟨h1, hw⟩ := hw
  have h2 := vp_lt h1
  refine z_aald C0 Z (isL_lt hL 3 (by decide)) (ent_L3 hL) h1 dX1_isIn_5 ?_
  refine lv_bipush (v := 7) hx hb dX1_isIn_6 (by decide) ?_
  refine z_ialdk C0 Z (isL_B hL h2) (ent_B hL h2) in_7_10 nc_7 dX1_isIn_8 ?_
  refine lv_iload_n hx hb dX1_isIn_9 rfl (lv_at hl 2 rfl) ?_
  refine lv_icmp_ne (tgt := 17) hx hb dX1_isIn_10 (by decide) (fun c3 => ?_) (fun c3 => ?_)
  · replace hw := hw.1 c3
    refine lv_iconst (v := 0) hx hb dX1_isIn_17 (by decide) ?_
    exact b_X1_isIn_18 l hL C0 _ _ _ _ _ hw Z (lv_sub hl [] rfl)
  · replace hw := hw.2 c3
    refine lv_iconst (v := 1) hx hb dX1_isIn_13 (by decide) ?_
    refine lv_goto (tgt := 18) hx hb dX1_isIn_14 (by decide) ?_
    exact b_X1_isIn_18 l hL C0 _ _ _ _ _ hw Z (lv_sub hl [] rfl)
-- X1_countIn: room (0, 0)
theorem dX1_countIn_0 : decode cX1_countIn 0 = .ok (.iconst 0, 1) := by decide +kernel
theorem dX1_countIn_1 : decode cX1_countIn 1 = .ok (.istore_n 2, 1) := by decide +kernel
theorem dX1_countIn_2 : decode cX1_countIn 2 = .ok (.iconst 0, 1) := by decide +kernel
theorem dX1_countIn_3 : decode cX1_countIn 3 = .ok (.istore_n 3, 1) := by decide +kernel
theorem dX1_countIn_4 : decode cX1_countIn 4 = .ok (.iload_n 3, 1) := by decide +kernel
theorem dX1_countIn_5 : decode cX1_countIn 5 = .ok (.aload_n 0, 1) := by decide +kernel
theorem dX1_countIn_6 : decode cX1_countIn 6 = .ok (.getfield 43, 3) := by decide +kernel
theorem dX1_countIn_9 : decode cX1_countIn 9 = .ok (.if_icmp .ge 25, 3) := by decide +kernel
theorem dX1_countIn_12 : decode cX1_countIn 12 = .ok (.aload_n 0, 1) := by decide +kernel
theorem dX1_countIn_13 : decode cX1_countIn 13 = .ok (.getfield 20, 3) := by decide +kernel
theorem dX1_countIn_16 : decode cX1_countIn 16 = .ok (.iload_n 3, 1) := by decide +kernel
theorem dX1_countIn_17 : decode cX1_countIn 17 = .ok (.aaload, 1) := by decide +kernel
theorem dX1_countIn_18 : decode cX1_countIn 18 = .ok (.bipush 7, 2) := by decide +kernel
theorem dX1_countIn_20 : decode cX1_countIn 20 = .ok (.iaload, 1) := by decide +kernel
theorem dX1_countIn_21 : decode cX1_countIn 21 = .ok (.iload_n 1, 1) := by decide +kernel
theorem dX1_countIn_22 : decode cX1_countIn 22 = .ok (.if_icmp .ne 6, 3) := by decide +kernel
theorem dX1_countIn_25 : decode cX1_countIn 25 = .ok (.iinc 2 1, 3) := by decide +kernel
theorem dX1_countIn_28 : decode cX1_countIn 28 = .ok (.iinc 3 1, 3) := by decide +kernel
theorem dX1_countIn_31 : decode cX1_countIn 31 = .ok (.goto (-27), 3) := by decide +kernel
theorem dX1_countIn_34 : decode cX1_countIn 34 = .ok (.iload_n 2, 1) := by decide +kernel
theorem dX1_countIn_35 : decode cX1_countIn 35 = .ok (.ireturn, 1) := by decide +kernel
def w_X1_countIn_28 (this : Nat) (Q : Int32 → V3 → Prop) (K4 : Int32 → Int32 → Int32 → V3 → Prop) (x1 : Int32) (x2 : Int32) (x3 : Int32) (v : V3) : Prop := K4 x1 x2 (x3 + 1) v
def w_X1_countIn_4 (this : Nat) (Q : Int32 → V3 → Prop) : Nat → Int32 → Int32 → Int32 → V3 → Prop
  | 0, _, _, _, _ => False
  | n4 + 1, x1, x2, x3, v => (((v this 8) ≤ x3 → Q x2 v) ∧ (¬ (v this 8) ≤ x3 → vp_in x3 40 ∧ ((¬ (v (this + 14 + (ix x3)) 7) = x1 → w_X1_countIn_28 this Q (w_X1_countIn_4 this Q n4) x1 x2 x3 v) ∧ ((v (this + 14 + (ix x3)) 7) = x1 → w_X1_countIn_28 this Q (w_X1_countIn_4 this Q n4) x1 (x2 + 1) x3 v))))
def w_X1_countIn (this : Nat) (a1 : Int32) (v : V3) (Q : Int32 → V3 → Prop) : Prop := ∃ m4 : Nat, w_X1_countIn_4 this Q m4 a1 0 0 v
set_option maxRecDepth 100000 in
set_option maxHeartbeats 4000000 in
theorem b_X1_countIn_28 {p : Program} (l : Launch) {e : Env} {s : State} {m : MethodId} {args : Array Value} {below : List Frame} {meth : Method} {c : Code} {G : zG} {this : Nat} (hL : isL G this) (C0 : Cx G RX1 cX1_countIn 4 (some .int) p s m args meth c) {Q : Int32 → V3 → Prop} {K4 : Int32 → Int32 → Int32 → V3 → Prop} (hK4 : ∀ (x1 : Int32) (x2 : Int32) (x3 : Int32) (v : V3) (H : Heap) (locs : List Loc) (ls : Array Slot), K4 x1 x2 x3 v → Zs G s v H locs → lv_has ls 4 [(0, .ref (gad G this)), (1, .int x1), (2, .int x2), (3, .int x3)] → W p l e { frames := 0, cells := 0, slots := 0, locals := 0 } s m args below meth c H locs 0 0 (MQ below (QiZ G Q) args s 0 0 (zA G)) (F0 m 4 ls [])) : ∀ (x1 : Int32) (x2 : Int32) (x3 : Int32) (v : V3) (H : Heap) (locs : List Loc) (ls : Array Slot), w_X1_countIn_28 this Q K4 x1 x2 x3 v → Zs G s v H locs → lv_has ls 4 [(0, .ref (gad G this)), (1, .int x1), (2, .int x2), (3, .int x3)] → W p l e { frames := 0, cells := 0, slots := 0, locals := 0 } s m args below meth c H locs 0 0 (MQ below (QiZ G Q) args s 0 0 (zA G)) (F0 m 28 ls []) := by
  have hx := C0.1
  have hb := C0.2.1
  intro x1 x2 x3 v H locs ls hw Z hl
  rw [w_X1_countIn_28] at hw
  refine lv_iinc (v := x3 + 1) (lv' := [(3, .int (x3 + 1)), (0, .ref (gad G this)), (1, .int x1), (2, .int x2)]) hx hb dX1_countIn_28 hl (k := 3) rfl rfl (by decide) rfl (fun ls hl => ?_)
  refine lv_goto (tgt := 4) hx hb dX1_countIn_31 (by decide) ?_
  exact hK4 _ _ _ _ _ _ _ hw Z (lv_sub hl [1, 2, 3, 0] rfl)
set_option maxRecDepth 100000 in
set_option maxHeartbeats 4000000 in
theorem b_X1_countIn_4 {p : Program} (l : Launch) {e : Env} {s : State} {m : MethodId} {args : Array Value} {below : List Frame} {meth : Method} {c : Code} {G : zG} {this : Nat} (hL : isL G this) (C0 : Cx G RX1 cX1_countIn 4 (some .int) p s m args meth c) {Q : Int32 → V3 → Prop} : ∀ (n : Nat) (x1 : Int32) (x2 : Int32) (x3 : Int32) (v : V3) (H : Heap) (locs : List Loc) (ls : Array Slot), w_X1_countIn_4 this Q n x1 x2 x3 v → Zs G s v H locs → lv_has ls 4 [(0, .ref (gad G this)), (1, .int x1), (2, .int x2), (3, .int x3)] → W p l e { frames := 0, cells := 0, slots := 0, locals := 0 } s m args below meth c H locs 0 0 (MQ below (QiZ G Q) args s 0 0 (zA G)) (F0 m 4 ls []) := by
  have hx := C0.1
  have hb := C0.2.1
  intro n
  induction n with
  | zero =>
    intro x1 x2 x3 v H locs ls hw Z hl
    exact hw.elim
  | succ n hK4 =>
    intro x1 x2 x3 v H locs ls hw Z hl
    rw [w_X1_countIn_4] at hw
    refine lv_iload_n hx hb dX1_countIn_4 rfl (lv_at hl 3 rfl) ?_
    refine lv_aload_n hx hb dX1_countIn_5 rfl (lv_at hl 0 rfl) ?_
    refine z_get C0 Z in_X1 rfl 8 (by decide) rfl tm_1_62 (isL_lt0 hL) (ent_L hL) rfl dX1_countIn_6 ?_
    refine lv_icmp_ge (tgt := 34) hx hb dX1_countIn_9 (by decide) (fun c1 => ?_) (fun c1 => ?_)
    · replace hw := hw.1 c1
      refine lv_iload_n hx hb dX1_countIn_34 rfl (lv_at hl 2 rfl) ?_
      exact z_iret C0 Z hw dX1_countIn_35
    · replace hw := hw.2 c1
      refine lv_aload_n hx hb dX1_countIn_12 rfl (lv_at hl 0 rfl) ?_
      refine z_get C0 Z in_X1 rfl 2 (by decide) rfl tm_1_49 (isL_lt0 hL) (ent_L hL) rfl dX1_countIn_13 ?_
      refine lv_iload_n hx hb dX1_countIn_16 rfl (lv_at hl 3 rfl) ?_
      obtain ⟨h2, hw⟩ := hw
      have h3 := vp_lt h2
      refine z_aald C0 Z (isL_lt hL 3 (by decide)) (ent_L3 hL) h2 dX1_countIn_17 ?_
      refine lv_bipush (v := 7) hx hb dX1_countIn_18 (by decide) ?_
      refine z_ialdk C0 Z (isL_B hL h3) (ent_B hL h3) in_7_10 nc_7 dX1_countIn_20 ?_
      refine lv_iload_n hx hb dX1_countIn_21 rfl (lv_at hl 1 rfl) ?_
      refine lv_icmp_ne (tgt := 28) hx hb dX1_countIn_22 (by decide) (fun c4 => ?_) (fun c4 => ?_)
      · replace hw := hw.1 c4
        exact b_X1_countIn_28 l hL C0 hK4 _ _ _ _ _ _ _ hw Z (lv_sub hl [0, 1, 2, 3] rfl)
      · replace hw := hw.2 c4
        refine lv_iinc (v := x2 + 1) (lv' := [(2, .int (x2 + 1)), (0, .ref (gad G this)), (1, .int x1), (3, .int x3)]) hx hb dX1_countIn_25 hl (k := 2) rfl rfl (by decide) rfl (fun ls hl => ?_)
        exact b_X1_countIn_28 l hL C0 hK4 _ _ _ _ _ _ _ hw Z (lv_sub hl [1, 2, 0, 3] rfl)
set_option maxRecDepth 100000 in
set_option maxHeartbeats 4000000 in
theorem k_X1_countIn (l : Launch) {G : zG} (hg : 116 ≤ gn G) {this : Nat} {a1 : Int32} (hL : isL G this) {v : V3} {Q : Int32 → V3 → Prop} (hw : w_X1_countIn this a1 v Q) : Mz l yX1_countIn cX1_countIn 4 (some .int) 0 0 G [.ref (gad G this), .int a1] v (QiZ G Q) := by
  rw [w_X1_countIn] at hw
  refine z_ofW hg (by decide) (Nat.le_of_ble_eq_true rfl) ?_
  intro p e s m args below meth c ls C0 Z hl
  have hx := C0.1
  have hb := C0.2.1
  replace hl : lv_has ls 4 [(0, .ref (gad G this)), (1, .int a1)] := hl
  generalize s.heap = H at Z ⊢
  generalize ([] : List Loc) = locs at Z ⊢
  refine lv_iconst (v := 0) hx hb dX1_countIn_0 (by decide) ?_
  refine lv_istore_n (lv' := [(2, .int 0), (0, .ref (gad G this)), (1, .int a1)]) hx hb dX1_countIn_1 rfl hl (by decide) rfl (fun ls hl => ?_)
  refine lv_iconst (v := 0) hx hb dX1_countIn_2 (by decide) ?_
  refine lv_istore_n (lv' := [(3, .int 0), (2, .int 0), (0, .ref (gad G this)), (1, .int a1)]) hx hb dX1_countIn_3 rfl hl (by decide) rfl (fun ls hl => ?_)
  obtain ⟨m4, hw⟩ := hw
  exact b_X1_countIn_4 l hL C0 m4 _ _ _ _ _ _ _ hw Z (lv_sub hl [2, 3, 1, 0] rfl)
-- X1_letWait: room (0, 0)
theorem dX1_letWait_0 : decode cX1_letWait 0 = .ok (.aload_n 0, 1) := by decide +kernel
theorem dX1_letWait_1 : decode cX1_letWait 1 = .ok (.getfield 20, 3) := by decide +kernel
theorem dX1_letWait_4 : decode cX1_letWait 4 = .ok (.iload_n 1, 1) := by decide +kernel
theorem dX1_letWait_5 : decode cX1_letWait 5 = .ok (.aaload, 1) := by decide +kernel
theorem dX1_letWait_6 : decode cX1_letWait 6 = .ok (.astore_n 2, 1) := by decide +kernel
theorem dX1_letWait_7 : decode cX1_letWait 7 = .ok (.aload_n 2, 1) := by decide +kernel
theorem dX1_letWait_8 : decode cX1_letWait 8 = .ok (.bipush 7, 2) := by decide +kernel
theorem dX1_letWait_10 : decode cX1_letWait 10 = .ok (.iconst 0, 1) := by decide +kernel
theorem dX1_letWait_11 : decode cX1_letWait 11 = .ok (.iastore, 1) := by decide +kernel
theorem dX1_letWait_12 : decode cX1_letWait 12 = .ok (.aload_n 2, 1) := by decide +kernel
theorem dX1_letWait_13 : decode cX1_letWait 13 = .ok (.bipush 8, 2) := by decide +kernel
theorem dX1_letWait_15 : decode cX1_letWait 15 = .ok (.iconst (-1), 1) := by decide +kernel
theorem dX1_letWait_16 : decode cX1_letWait 16 = .ok (.iastore, 1) := by decide +kernel
theorem dX1_letWait_17 : decode cX1_letWait 17 = .ok (.aload_n 2, 1) := by decide +kernel
theorem dX1_letWait_18 : decode cX1_letWait 18 = .ok (.bipush 9, 2) := by decide +kernel
theorem dX1_letWait_20 : decode cX1_letWait 20 = .ok (.iconst (-1), 1) := by decide +kernel
theorem dX1_letWait_21 : decode cX1_letWait 21 = .ok (.iastore, 1) := by decide +kernel
theorem dX1_letWait_22 : decode cX1_letWait 22 = .ok (.return_, 1) := by decide +kernel
def w_X1_letWait (this : Nat) (a1 : Int32) (v : V3) (Q : V3 → Prop) : Prop := vp_in a1 40 ∧ ∀ v3 : V3, v3 = up2 v (this + 14 + (ix a1)) 7 0 → ∀ v4 : V3, v4 = up2 v3 (this + 14 + (ix a1)) 8 (-1) → ∀ v5 : V3, v5 = up2 v4 (this + 14 + (ix a1)) 9 (-1) → Q v5
set_option maxRecDepth 100000 in
set_option maxHeartbeats 4000000 in
theorem k_X1_letWait (l : Launch) {G : zG} (hg : 116 ≤ gn G) {this : Nat} {a1 : Int32} (hL : isL G this) {v : V3} {Q : V3 → Prop} (hw : w_X1_letWait this a1 v Q) : Mz l yX1_letWait cX1_letWait 3 none 0 0 G [.ref (gad G this), .int a1] v (QvZ G Q) := by
  rw [w_X1_letWait] at hw
  refine z_ofW hg (by decide) (Nat.le_of_ble_eq_true rfl) ?_
  intro p e s m args below meth c ls C0 Z hl
  have hx := C0.1
  have hb := C0.2.1
  replace hl : lv_has ls 3 [(0, .ref (gad G this)), (1, .int a1)] := hl
  generalize s.heap = H at Z ⊢
  generalize ([] : List Loc) = locs at Z ⊢
  refine lv_aload_n hx hb dX1_letWait_0 rfl (lv_at hl 0 rfl) ?_
  refine z_get C0 Z in_X1 rfl 2 (by decide) rfl tm_1_49 (isL_lt0 hL) (ent_L hL) rfl dX1_letWait_1 ?_
  refine lv_iload_n hx hb dX1_letWait_4 rfl (lv_at hl 1 rfl) ?_
  obtain ⟨h1, hw⟩ := hw
  have h2 := vp_lt h1
  refine z_aald C0 Z (isL_lt hL 3 (by decide)) (ent_L3 hL) h1 dX1_letWait_5 ?_
  refine lv_astore_n (lv' := [(2, .ref (gad G (this + 14 + (ix a1)))), (0, .ref (gad G this)), (1, .int a1)]) hx hb dX1_letWait_6 rfl hl (by decide) rfl (fun ls hl => ?_)
  refine lv_aload_n hx hb dX1_letWait_7 rfl (lv_at hl 0 rfl) ?_
  refine lv_bipush (v := 7) hx hb dX1_letWait_8 (by decide) ?_
  refine lv_iconst (v := 0) hx hb dX1_letWait_10 (by decide) ?_
  refine z_iastk C0 Z (isL_B hL h2) (fun _ => ent_B hL h2) in_7_10 nc_7 dX1_letWait_11 (fun H locs Z => ?_)
  obtain ⟨v3, ev3⟩ : ∃ z : V3, z = up2 v (this + 14 + (ix a1)) 7 0 := ⟨_, rfl⟩
  rw [← ev3] at Z
  replace hw := hw v3 ev3
  refine lv_aload_n hx hb dX1_letWait_12 rfl (lv_at hl 0 rfl) ?_
  refine lv_bipush (v := 8) hx hb dX1_letWait_13 (by decide) ?_
  refine lv_iconst (v := (-1)) hx hb dX1_letWait_15 (by decide) ?_
  refine z_iastk C0 Z (isL_B hL h2) (fun _ => ent_B hL h2) in_8_10 nc_8 dX1_letWait_16 (fun H locs Z => ?_)
  obtain ⟨v4, ev4⟩ : ∃ z : V3, z = up2 v3 (this + 14 + (ix a1)) 8 (-1) := ⟨_, rfl⟩
  rw [← ev4] at Z
  replace hw := hw v4 ev4
  refine lv_aload_n hx hb dX1_letWait_17 rfl (lv_at hl 0 rfl) ?_
  refine lv_bipush (v := 9) hx hb dX1_letWait_18 (by decide) ?_
  refine lv_iconst (v := (-1)) hx hb dX1_letWait_20 (by decide) ?_
  refine z_iastk C0 Z (isL_B hL h2) (fun _ => ent_B hL h2) in_9_10 nc_9 dX1_letWait_21 (fun H locs Z => ?_)
  obtain ⟨v5, ev5⟩ : ∃ z : V3, z = up2 v4 (this + 14 + (ix a1)) 9 (-1) := ⟨_, rfl⟩
  rw [← ev5] at Z
  replace hw := hw v5 ev5
  exact z_vret C0 Z hw dX1_letWait_22
-- X1_bookAt: room (0, 0)
theorem dX1_bookAt_0 : decode cX1_bookAt 0 = .ok (.iload_n 2, 1) := by decide +kernel
theorem dX1_bookAt_1 : decode cX1_bookAt 1 = .ok (.iconst (-1), 1) := by decide +kernel
theorem dX1_bookAt_2 : decode cX1_bookAt 2 = .ok (.if_icmp .ne 5, 3) := by decide +kernel
theorem dX1_bookAt_5 : decode cX1_bookAt 5 = .ok (.iconst 0, 1) := by decide +kernel
theorem dX1_bookAt_6 : decode cX1_bookAt 6 = .ok (.ireturn, 1) := by decide +kernel
theorem dX1_bookAt_7 : decode cX1_bookAt 7 = .ok (.aload_n 0, 1) := by decide +kernel
theorem dX1_bookAt_8 : decode cX1_bookAt 8 = .ok (.getfield 20, 3) := by decide +kernel
theorem dX1_bookAt_11 : decode cX1_bookAt 11 = .ok (.iload_n 1, 1) := by decide +kernel
theorem dX1_bookAt_12 : decode cX1_bookAt 12 = .ok (.aaload, 1) := by decide +kernel
theorem dX1_bookAt_13 : decode cX1_bookAt 13 = .ok (.astore_n 3, 1) := by decide +kernel
theorem dX1_bookAt_14 : decode cX1_bookAt 14 = .ok (.aload_n 3, 1) := by decide +kernel
theorem dX1_bookAt_15 : decode cX1_bookAt 15 = .ok (.bipush 7, 2) := by decide +kernel
theorem dX1_bookAt_17 : decode cX1_bookAt 17 = .ok (.iconst 1, 1) := by decide +kernel
theorem dX1_bookAt_18 : decode cX1_bookAt 18 = .ok (.iastore, 1) := by decide +kernel
theorem dX1_bookAt_19 : decode cX1_bookAt 19 = .ok (.aload_n 3, 1) := by decide +kernel
theorem dX1_bookAt_20 : decode cX1_bookAt 20 = .ok (.bipush 8, 2) := by decide +kernel
theorem dX1_bookAt_22 : decode cX1_bookAt 22 = .ok (.iload_n 2, 1) := by decide +kernel
theorem dX1_bookAt_23 : decode cX1_bookAt 23 = .ok (.iastore, 1) := by decide +kernel
theorem dX1_bookAt_24 : decode cX1_bookAt 24 = .ok (.aload_n 3, 1) := by decide +kernel
theorem dX1_bookAt_25 : decode cX1_bookAt 25 = .ok (.bipush 9, 2) := by decide +kernel
theorem dX1_bookAt_27 : decode cX1_bookAt 27 = .ok (.iload_n 2, 1) := by decide +kernel
theorem dX1_bookAt_28 : decode cX1_bookAt 28 = .ok (.aload_n 3, 1) := by decide +kernel
theorem dX1_bookAt_29 : decode cX1_bookAt 29 = .ok (.iconst 3, 1) := by decide +kernel
theorem dX1_bookAt_30 : decode cX1_bookAt 30 = .ok (.iaload, 1) := by decide +kernel
theorem dX1_bookAt_31 : decode cX1_bookAt 31 = .ok (.iadd, 1) := by decide +kernel
theorem dX1_bookAt_32 : decode cX1_bookAt 32 = .ok (.iastore, 1) := by decide +kernel
theorem dX1_bookAt_33 : decode cX1_bookAt 33 = .ok (.iconst 1, 1) := by decide +kernel
theorem dX1_bookAt_34 : decode cX1_bookAt 34 = .ok (.ireturn, 1) := by decide +kernel
def w_X1_bookAt (this : Nat) (a1 : Int32) (a2 : Int32) (v : V3) (Q : Int32 → V3 → Prop) : Prop := ((¬ a2 = (-1) → vp_in a1 40 ∧ ∀ v4 : V3, v4 = up2 v (this + 14 + (ix a1)) 7 1 → ∀ v5 : V3, v5 = up2 v4 (this + 14 + (ix a1)) 8 a2 → ∀ v6 : V3, v6 = up2 v5 (this + 14 + (ix a1)) 9 (a2 + (v5 (this + 14 + (ix a1)) 3)) → Q 1 v6) ∧ (a2 = (-1) → Q 0 v))
set_option maxRecDepth 100000 in
set_option maxHeartbeats 4000000 in
theorem k_X1_bookAt (l : Launch) {G : zG} (hg : 116 ≤ gn G) {this : Nat} {a1 : Int32} {a2 : Int32} (hL : isL G this) {v : V3} {Q : Int32 → V3 → Prop} (hw : w_X1_bookAt this a1 a2 v Q) : Mz l yX1_bookAt cX1_bookAt 4 (some .boolean) 0 0 G [.ref (gad G this), .int a1, .int a2] v (QiZ G Q) := by
  rw [w_X1_bookAt] at hw
  refine z_ofW hg (by decide) (Nat.le_of_ble_eq_true rfl) ?_
  intro p e s m args below meth c ls C0 Z hl
  have hx := C0.1
  have hb := C0.2.1
  replace hl : lv_has ls 4 [(0, .ref (gad G this)), (1, .int a1), (2, .int a2)] := hl
  generalize s.heap = H at Z ⊢
  generalize ([] : List Loc) = locs at Z ⊢
  refine lv_iload_n hx hb dX1_bookAt_0 rfl (lv_at hl 2 rfl) ?_
  refine lv_iconst (v := (-1)) hx hb dX1_bookAt_1 (by decide) ?_
  refine lv_icmp_ne (tgt := 7) hx hb dX1_bookAt_2 (by decide) (fun c1 => ?_) (fun c1 => ?_)
  · replace hw := hw.1 c1
    refine lv_aload_n hx hb dX1_bookAt_7 rfl (lv_at hl 0 rfl) ?_
    refine z_get C0 Z in_X1 rfl 2 (by decide) rfl tm_1_49 (isL_lt0 hL) (ent_L hL) rfl dX1_bookAt_8 ?_
    refine lv_iload_n hx hb dX1_bookAt_11 rfl (lv_at hl 1 rfl) ?_
    obtain ⟨h2, hw⟩ := hw
    have h3 := vp_lt h2
    refine z_aald C0 Z (isL_lt hL 3 (by decide)) (ent_L3 hL) h2 dX1_bookAt_12 ?_
    refine lv_astore_n (lv' := [(3, .ref (gad G (this + 14 + (ix a1)))), (0, .ref (gad G this)), (1, .int a1), (2, .int a2)]) hx hb dX1_bookAt_13 rfl hl (by decide) rfl (fun ls hl => ?_)
    refine lv_aload_n hx hb dX1_bookAt_14 rfl (lv_at hl 0 rfl) ?_
    refine lv_bipush (v := 7) hx hb dX1_bookAt_15 (by decide) ?_
    refine lv_iconst (v := 1) hx hb dX1_bookAt_17 (by decide) ?_
    refine z_iastk C0 Z (isL_B hL h3) (fun _ => ent_B hL h3) in_7_10 nc_7 dX1_bookAt_18 (fun H locs Z => ?_)
    obtain ⟨v4, ev4⟩ : ∃ z : V3, z = up2 v (this + 14 + (ix a1)) 7 1 := ⟨_, rfl⟩
    rw [← ev4] at Z
    replace hw := hw v4 ev4
    refine lv_aload_n hx hb dX1_bookAt_19 rfl (lv_at hl 0 rfl) ?_
    refine lv_bipush (v := 8) hx hb dX1_bookAt_20 (by decide) ?_
    refine lv_iload_n hx hb dX1_bookAt_22 rfl (lv_at hl 3 rfl) ?_
    refine z_iastk C0 Z (isL_B hL h3) (fun _ => ent_B hL h3) in_8_10 nc_8 dX1_bookAt_23 (fun H locs Z => ?_)
    obtain ⟨v5, ev5⟩ : ∃ z : V3, z = up2 v4 (this + 14 + (ix a1)) 8 a2 := ⟨_, rfl⟩
    rw [← ev5] at Z
    replace hw := hw v5 ev5
    refine lv_aload_n hx hb dX1_bookAt_24 rfl (lv_at hl 0 rfl) ?_
    refine lv_bipush (v := 9) hx hb dX1_bookAt_25 (by decide) ?_
    refine lv_iload_n hx hb dX1_bookAt_27 rfl (lv_at hl 3 rfl) ?_
    refine lv_aload_n hx hb dX1_bookAt_28 rfl (lv_at hl 0 rfl) ?_
    refine lv_iconst (v := 3) hx hb dX1_bookAt_29 (by decide) ?_
    refine z_ialdk C0 Z (isL_B hL h3) (ent_B hL h3) in_3_10 nc_3 dX1_bookAt_30 ?_
    refine lv_iadd hx hb dX1_bookAt_31 ?_
    refine z_iastk C0 Z (isL_B hL h3) (fun _ => ent_B hL h3) in_9_10 nc_9 dX1_bookAt_32 (fun H locs Z => ?_)
    obtain ⟨v6, ev6⟩ : ∃ z : V3, z = up2 v5 (this + 14 + (ix a1)) 9 (a2 + (v5 (this + 14 + (ix a1)) 3)) := ⟨_, rfl⟩
    rw [← ev6] at Z
    replace hw := hw v6 ev6
    refine lv_iconst (v := 1) hx hb dX1_bookAt_33 (by decide) ?_
    exact z_zret C0 Z (by decide) hw dX1_bookAt_34
  · replace hw := hw.2 c1
    refine lv_iconst (v := 0) hx hb dX1_bookAt_5 (by decide) ?_
    exact z_zret C0 Z (by decide) hw dX1_bookAt_6
-- X1_clashing: room (0, 0)
theorem dX1_clashing_0 : decode cX1_clashing 0 = .ok (.iconst 0, 1) := by decide +kernel
theorem dX1_clashing_1 : decode cX1_clashing 1 = .ok (.istore 7, 2) := by decide +kernel
theorem dX1_clashing_3 : decode cX1_clashing 3 = .ok (.iload 7, 2) := by decide +kernel
theorem dX1_clashing_5 : decode cX1_clashing 5 = .ok (.aload_n 0, 1) := by decide +kernel
theorem dX1_clashing_6 : decode cX1_clashing 6 = .ok (.getfield 43, 3) := by decide +kernel
theorem dX1_clashing_9 : decode cX1_clashing 9 = .ok (.if_icmp .ge 95, 3) := by decide +kernel
theorem dX1_clashing_12 : decode cX1_clashing 12 = .ok (.aload_n 0, 1) := by decide +kernel
theorem dX1_clashing_13 : decode cX1_clashing 13 = .ok (.getfield 20, 3) := by decide +kernel
theorem dX1_clashing_16 : decode cX1_clashing 16 = .ok (.iload 7, 2) := by decide +kernel
theorem dX1_clashing_18 : decode cX1_clashing 18 = .ok (.aaload, 1) := by decide +kernel
theorem dX1_clashing_19 : decode cX1_clashing 19 = .ok (.astore 8, 2) := by decide +kernel
theorem dX1_clashing_21 : decode cX1_clashing 21 = .ok (.aload 8, 2) := by decide +kernel
theorem dX1_clashing_23 : decode cX1_clashing 23 = .ok (.bipush 7, 2) := by decide +kernel
theorem dX1_clashing_25 : decode cX1_clashing 25 = .ok (.iaload, 1) := by decide +kernel
theorem dX1_clashing_26 : decode cX1_clashing 26 = .ok (.iconst 1, 1) := by decide +kernel
theorem dX1_clashing_27 : decode cX1_clashing 27 = .ok (.if_icmp .eq 12, 3) := by decide +kernel
theorem dX1_clashing_30 : decode cX1_clashing 30 = .ok (.aload 8, 2) := by decide +kernel
theorem dX1_clashing_32 : decode cX1_clashing 32 = .ok (.bipush 7, 2) := by decide +kernel
theorem dX1_clashing_34 : decode cX1_clashing 34 = .ok (.iaload, 1) := by decide +kernel
theorem dX1_clashing_35 : decode cX1_clashing 35 = .ok (.iconst 2, 1) := by decide +kernel
theorem dX1_clashing_36 : decode cX1_clashing 36 = .ok (.if_icmp .ne 62, 3) := by decide +kernel
theorem dX1_clashing_39 : decode cX1_clashing 39 = .ok (.iload 7, 2) := by decide +kernel
theorem dX1_clashing_41 : decode cX1_clashing 41 = .ok (.iload 5, 2) := by decide +kernel
theorem dX1_clashing_43 : decode cX1_clashing 43 = .ok (.if_icmp .eq 55, 3) := by decide +kernel
theorem dX1_clashing_46 : decode cX1_clashing 46 = .ok (.iload 7, 2) := by decide +kernel
theorem dX1_clashing_48 : decode cX1_clashing 48 = .ok (.iload 6, 2) := by decide +kernel
theorem dX1_clashing_50 : decode cX1_clashing 50 = .ok (.if_icmp .eq 48, 3) := by decide +kernel
theorem dX1_clashing_53 : decode cX1_clashing 53 = .ok (.aload 8, 2) := by decide +kernel
theorem dX1_clashing_55 : decode cX1_clashing 55 = .ok (.iconst 1, 1) := by decide +kernel
theorem dX1_clashing_56 : decode cX1_clashing 56 = .ok (.iaload, 1) := by decide +kernel
theorem dX1_clashing_57 : decode cX1_clashing 57 = .ok (.iload_n 1, 1) := by decide +kernel
theorem dX1_clashing_58 : decode cX1_clashing 58 = .ok (.iload_n 2, 1) := by decide +kernel
theorem dX1_clashing_59 : decode cX1_clashing 59 = .ok (.iadd, 1) := by decide +kernel
theorem dX1_clashing_60 : decode cX1_clashing 60 = .ok (.if_icmp .ge 38, 3) := by decide +kernel
theorem dX1_clashing_63 : decode cX1_clashing 63 = .ok (.iload_n 1, 1) := by decide +kernel
theorem dX1_clashing_64 : decode cX1_clashing 64 = .ok (.aload 8, 2) := by decide +kernel
theorem dX1_clashing_66 : decode cX1_clashing 66 = .ok (.iconst 1, 1) := by decide +kernel
theorem dX1_clashing_67 : decode cX1_clashing 67 = .ok (.iaload, 1) := by decide +kernel
theorem dX1_clashing_68 : decode cX1_clashing 68 = .ok (.aload 8, 2) := by decide +kernel
theorem dX1_clashing_70 : decode cX1_clashing 70 = .ok (.iconst 2, 1) := by decide +kernel
theorem dX1_clashing_71 : decode cX1_clashing 71 = .ok (.iaload, 1) := by decide +kernel
theorem dX1_clashing_72 : decode cX1_clashing 72 = .ok (.iadd, 1) := by decide +kernel
theorem dX1_clashing_73 : decode cX1_clashing 73 = .ok (.if_icmp .ge 25, 3) := by decide +kernel
theorem dX1_clashing_76 : decode cX1_clashing 76 = .ok (.aload 8, 2) := by decide +kernel
theorem dX1_clashing_78 : decode cX1_clashing 78 = .ok (.bipush 8, 2) := by decide +kernel
theorem dX1_clashing_80 : decode cX1_clashing 80 = .ok (.iaload, 1) := by decide +kernel
theorem dX1_clashing_81 : decode cX1_clashing 81 = .ok (.iload 4, 2) := by decide +kernel
theorem dX1_clashing_83 : decode cX1_clashing 83 = .ok (.if_icmp .ge 15, 3) := by decide +kernel
theorem dX1_clashing_86 : decode cX1_clashing 86 = .ok (.iload_n 3, 1) := by decide +kernel
theorem dX1_clashing_87 : decode cX1_clashing 87 = .ok (.aload 8, 2) := by decide +kernel
theorem dX1_clashing_89 : decode cX1_clashing 89 = .ok (.bipush 9, 2) := by decide +kernel
theorem dX1_clashing_91 : decode cX1_clashing 91 = .ok (.iaload, 1) := by decide +kernel
theorem dX1_clashing_92 : decode cX1_clashing 92 = .ok (.if_icmp .ge 6, 3) := by decide +kernel
theorem dX1_clashing_95 : decode cX1_clashing 95 = .ok (.iload 7, 2) := by decide +kernel
theorem dX1_clashing_97 : decode cX1_clashing 97 = .ok (.ireturn, 1) := by decide +kernel
theorem dX1_clashing_98 : decode cX1_clashing 98 = .ok (.iinc 7 1, 3) := by decide +kernel
theorem dX1_clashing_101 : decode cX1_clashing 101 = .ok (.goto (-98), 3) := by decide +kernel
theorem dX1_clashing_104 : decode cX1_clashing 104 = .ok (.iconst (-1), 1) := by decide +kernel
theorem dX1_clashing_105 : decode cX1_clashing 105 = .ok (.ireturn, 1) := by decide +kernel
def w_X1_clashing_98 (this : Nat) (Q : Int32 → V3 → Prop) (K3 : Int32 → Int32 → Int32 → Int32 → Int32 → Int32 → Int32 → V3 → Prop) (x1 : Int32) (x2 : Int32) (x3 : Int32) (x4 : Int32) (x5 : Int32) (x6 : Int32) (x7 : Int32) (v : V3) : Prop := K3 x1 x2 x3 x4 x5 x6 (x7 + 1) v
def w_X1_clashing_39 (this : Nat) (Q : Int32 → V3 → Prop) (K3 : Int32 → Int32 → Int32 → Int32 → Int32 → Int32 → Int32 → V3 → Prop) (x1 : Int32) (x2 : Int32) (x3 : Int32) (x4 : Int32) (x5 : Int32) (x6 : Int32) (x7 : Int32) (x8 : Nat) (v : V3) : Prop := ((x7 = x5 → w_X1_clashing_98 this Q K3 x1 x2 x3 x4 x5 x6 x7 v) ∧ (¬ x7 = x5 → ((x7 = x6 → w_X1_clashing_98 this Q K3 x1 x2 x3 x4 x5 x6 x7 v) ∧ (¬ x7 = x6 → (((x1 + x2) ≤ (v (this + 14 + x8) 1) → w_X1_clashing_98 this Q K3 x1 x2 x3 x4 x5 x6 x7 v) ∧ (¬ (x1 + x2) ≤ (v (this + 14 + x8) 1) → ((((v (this + 14 + x8) 1) + (v (this + 14 + x8) 2)) ≤ x1 → w_X1_clashing_98 this Q K3 x1 x2 x3 x4 x5 x6 x7 v) ∧ (¬ ((v (this + 14 + x8) 1) + (v (this + 14 + x8) 2)) ≤ x1 → ((x4 ≤ (v (this + 14 + x8) 8) → w_X1_clashing_98 this Q K3 x1 x2 x3 x4 x5 x6 x7 v) ∧ (¬ x4 ≤ (v (this + 14 + x8) 8) → (((v (this + 14 + x8) 9) ≤ x3 → w_X1_clashing_98 this Q K3 x1 x2 x3 x4 x5 x6 x7 v) ∧ (¬ (v (this + 14 + x8) 9) ≤ x3 → Q x7 v))))))))))))
def w_X1_clashing_3 (this : Nat) (Q : Int32 → V3 → Prop) : Nat → Int32 → Int32 → Int32 → Int32 → Int32 → Int32 → Int32 → V3 → Prop
  | 0, _, _, _, _, _, _, _, _ => False
  | n3 + 1, x1, x2, x3, x4, x5, x6, x7, v => (((v this 8) ≤ x7 → Q (-1) v) ∧ (¬ (v this 8) ≤ x7 → vp_in x7 40 ∧ (((v (this + 14 + (ix x7)) 7) = 1 → w_X1_clashing_39 this Q (w_X1_clashing_3 this Q n3) x1 x2 x3 x4 x5 x6 x7 (ix x7) v) ∧ (¬ (v (this + 14 + (ix x7)) 7) = 1 → ((¬ (v (this + 14 + (ix x7)) 7) = 2 → w_X1_clashing_98 this Q (w_X1_clashing_3 this Q n3) x1 x2 x3 x4 x5 x6 x7 v) ∧ ((v (this + 14 + (ix x7)) 7) = 2 → w_X1_clashing_39 this Q (w_X1_clashing_3 this Q n3) x1 x2 x3 x4 x5 x6 x7 (ix x7) v))))))
def w_X1_clashing (this : Nat) (a1 : Int32) (a2 : Int32) (a3 : Int32) (a4 : Int32) (a5 : Int32) (a6 : Int32) (v : V3) (Q : Int32 → V3 → Prop) : Prop := ∃ m3 : Nat, w_X1_clashing_3 this Q m3 a1 a2 a3 a4 a5 a6 0 v
set_option maxRecDepth 100000 in
set_option maxHeartbeats 4000000 in
theorem b_X1_clashing_98 {p : Program} (l : Launch) {e : Env} {s : State} {m : MethodId} {args : Array Value} {below : List Frame} {meth : Method} {c : Code} {G : zG} {this : Nat} (hL : isL G this) (C0 : Cx G RX1 cX1_clashing 9 (some .int) p s m args meth c) {Q : Int32 → V3 → Prop} {K3 : Int32 → Int32 → Int32 → Int32 → Int32 → Int32 → Int32 → V3 → Prop} (hK3 : ∀ (x1 : Int32) (x2 : Int32) (x3 : Int32) (x4 : Int32) (x5 : Int32) (x6 : Int32) (x7 : Int32) (v : V3) (H : Heap) (locs : List Loc) (ls : Array Slot), K3 x1 x2 x3 x4 x5 x6 x7 v → Zs G s v H locs → lv_has ls 9 [(0, .ref (gad G this)), (1, .int x1), (2, .int x2), (3, .int x3), (4, .int x4), (5, .int x5), (6, .int x6), (7, .int x7)] → W p l e { frames := 0, cells := 0, slots := 0, locals := 0 } s m args below meth c H locs 0 0 (MQ below (QiZ G Q) args s 0 0 (zA G)) (F0 m 3 ls [])) : ∀ (x1 : Int32) (x2 : Int32) (x3 : Int32) (x4 : Int32) (x5 : Int32) (x6 : Int32) (x7 : Int32) (v : V3) (H : Heap) (locs : List Loc) (ls : Array Slot), w_X1_clashing_98 this Q K3 x1 x2 x3 x4 x5 x6 x7 v → Zs G s v H locs → lv_has ls 9 [(0, .ref (gad G this)), (1, .int x1), (2, .int x2), (3, .int x3), (4, .int x4), (5, .int x5), (6, .int x6), (7, .int x7)] → W p l e { frames := 0, cells := 0, slots := 0, locals := 0 } s m args below meth c H locs 0 0 (MQ below (QiZ G Q) args s 0 0 (zA G)) (F0 m 98 ls []) := by
  have hx := C0.1
  have hb := C0.2.1
  intro x1 x2 x3 x4 x5 x6 x7 v H locs ls hw Z hl
  rw [w_X1_clashing_98] at hw
  refine lv_iinc (v := x7 + 1) (lv' := [(7, .int (x7 + 1)), (0, .ref (gad G this)), (1, .int x1), (2, .int x2), (3, .int x3), (4, .int x4), (5, .int x5), (6, .int x6)]) hx hb dX1_clashing_98 hl (k := 7) rfl rfl (by decide) rfl (fun ls hl => ?_)
  refine lv_goto (tgt := 3) hx hb dX1_clashing_101 (by decide) ?_
  exact hK3 _ _ _ _ _ _ _ _ _ _ _ hw Z (lv_sub hl [1, 2, 3, 4, 5, 6, 7, 0] rfl)
set_option maxRecDepth 100000 in
set_option maxHeartbeats 4000000 in
theorem b_X1_clashing_39 {p : Program} (l : Launch) {e : Env} {s : State} {m : MethodId} {args : Array Value} {below : List Frame} {meth : Method} {c : Code} {G : zG} {this : Nat} (hL : isL G this) (C0 : Cx G RX1 cX1_clashing 9 (some .int) p s m args meth c) {Q : Int32 → V3 → Prop} {K3 : Int32 → Int32 → Int32 → Int32 → Int32 → Int32 → Int32 → V3 → Prop} (hK3 : ∀ (x1 : Int32) (x2 : Int32) (x3 : Int32) (x4 : Int32) (x5 : Int32) (x6 : Int32) (x7 : Int32) (v : V3) (H : Heap) (locs : List Loc) (ls : Array Slot), K3 x1 x2 x3 x4 x5 x6 x7 v → Zs G s v H locs → lv_has ls 9 [(0, .ref (gad G this)), (1, .int x1), (2, .int x2), (3, .int x3), (4, .int x4), (5, .int x5), (6, .int x6), (7, .int x7)] → W p l e { frames := 0, cells := 0, slots := 0, locals := 0 } s m args below meth c H locs 0 0 (MQ below (QiZ G Q) args s 0 0 (zA G)) (F0 m 3 ls [])) : ∀ (x1 : Int32) (x2 : Int32) (x3 : Int32) (x4 : Int32) (x5 : Int32) (x6 : Int32) (x7 : Int32) (x8 : Nat) (v : V3) (H : Heap) (locs : List Loc) (ls : Array Slot), x8 < 40 → w_X1_clashing_39 this Q K3 x1 x2 x3 x4 x5 x6 x7 x8 v → Zs G s v H locs → lv_has ls 9 [(0, .ref (gad G this)), (1, .int x1), (2, .int x2), (3, .int x3), (4, .int x4), (5, .int x5), (6, .int x6), (7, .int x7), (8, .ref (gad G (this + 14 + x8)))] → W p l e { frames := 0, cells := 0, slots := 0, locals := 0 } s m args below meth c H locs 0 0 (MQ below (QiZ G Q) args s 0 0 (zA G)) (F0 m 39 ls []) := by
  have hx := C0.1
  have hb := C0.2.1
  intro x1 x2 x3 x4 x5 x6 x7 x8 v H locs ls hx8 hw Z hl
  rw [w_X1_clashing_39] at hw
  refine lv_iload hx hb dX1_clashing_39 (lv_at hl 7 rfl) ?_
  refine lv_iload hx hb dX1_clashing_41 (lv_at hl 5 rfl) ?_
  refine lv_icmp_eq (tgt := 98) hx hb dX1_clashing_43 (by decide) (fun c5 => ?_) (fun c5 => ?_)
  · replace hw := hw.1 c5
    exact b_X1_clashing_98 l hL C0 hK3 _ _ _ _ _ _ _ _ _ _ _ hw Z (lv_sub hl [0, 1, 2, 3, 4, 5, 6, 7] rfl)
  · replace hw := hw.2 c5
    refine lv_iload hx hb dX1_clashing_46 (lv_at hl 7 rfl) ?_
    refine lv_iload hx hb dX1_clashing_48 (lv_at hl 6 rfl) ?_
    refine lv_icmp_eq (tgt := 98) hx hb dX1_clashing_50 (by decide) (fun c6 => ?_) (fun c6 => ?_)
    · replace hw := hw.1 c6
      exact b_X1_clashing_98 l hL C0 hK3 _ _ _ _ _ _ _ _ _ _ _ hw Z (lv_sub hl [0, 1, 2, 3, 4, 5, 6, 7] rfl)
    · replace hw := hw.2 c6
      refine lv_aload hx hb dX1_clashing_53 (lv_at hl 8 rfl) ?_
      refine lv_iconst (v := 1) hx hb dX1_clashing_55 (by decide) ?_
      refine z_ialdk C0 Z (isL_B hL hx8) (ent_B hL hx8) in_1_10 nc_1 dX1_clashing_56 ?_
      refine lv_iload_n hx hb dX1_clashing_57 rfl (lv_at hl 1 rfl) ?_
      refine lv_iload_n hx hb dX1_clashing_58 rfl (lv_at hl 2 rfl) ?_
      refine lv_iadd hx hb dX1_clashing_59 ?_
      refine lv_icmp_ge (tgt := 98) hx hb dX1_clashing_60 (by decide) (fun c7 => ?_) (fun c7 => ?_)
      · replace hw := hw.1 c7
        exact b_X1_clashing_98 l hL C0 hK3 _ _ _ _ _ _ _ _ _ _ _ hw Z (lv_sub hl [0, 1, 2, 3, 4, 5, 6, 7] rfl)
      · replace hw := hw.2 c7
        refine lv_iload_n hx hb dX1_clashing_63 rfl (lv_at hl 1 rfl) ?_
        refine lv_aload hx hb dX1_clashing_64 (lv_at hl 8 rfl) ?_
        refine lv_iconst (v := 1) hx hb dX1_clashing_66 (by decide) ?_
        refine z_ialdk C0 Z (isL_B hL hx8) (ent_B hL hx8) in_1_10 nc_1 dX1_clashing_67 ?_
        refine lv_aload hx hb dX1_clashing_68 (lv_at hl 8 rfl) ?_
        refine lv_iconst (v := 2) hx hb dX1_clashing_70 (by decide) ?_
        refine z_ialdk C0 Z (isL_B hL hx8) (ent_B hL hx8) in_2_10 nc_2 dX1_clashing_71 ?_
        refine lv_iadd hx hb dX1_clashing_72 ?_
        refine lv_icmp_ge (tgt := 98) hx hb dX1_clashing_73 (by decide) (fun c8 => ?_) (fun c8 => ?_)
        · replace hw := hw.1 c8
          exact b_X1_clashing_98 l hL C0 hK3 _ _ _ _ _ _ _ _ _ _ _ hw Z (lv_sub hl [0, 1, 2, 3, 4, 5, 6, 7] rfl)
        · replace hw := hw.2 c8
          refine lv_aload hx hb dX1_clashing_76 (lv_at hl 8 rfl) ?_
          refine lv_bipush (v := 8) hx hb dX1_clashing_78 (by decide) ?_
          refine z_ialdk C0 Z (isL_B hL hx8) (ent_B hL hx8) in_8_10 nc_8 dX1_clashing_80 ?_
          refine lv_iload hx hb dX1_clashing_81 (lv_at hl 4 rfl) ?_
          refine lv_icmp_ge (tgt := 98) hx hb dX1_clashing_83 (by decide) (fun c9 => ?_) (fun c9 => ?_)
          · replace hw := hw.1 c9
            exact b_X1_clashing_98 l hL C0 hK3 _ _ _ _ _ _ _ _ _ _ _ hw Z (lv_sub hl [0, 1, 2, 3, 4, 5, 6, 7] rfl)
          · replace hw := hw.2 c9
            refine lv_iload_n hx hb dX1_clashing_86 rfl (lv_at hl 3 rfl) ?_
            refine lv_aload hx hb dX1_clashing_87 (lv_at hl 8 rfl) ?_
            refine lv_bipush (v := 9) hx hb dX1_clashing_89 (by decide) ?_
            refine z_ialdk C0 Z (isL_B hL hx8) (ent_B hL hx8) in_9_10 nc_9 dX1_clashing_91 ?_
            refine lv_icmp_ge (tgt := 98) hx hb dX1_clashing_92 (by decide) (fun c10 => ?_) (fun c10 => ?_)
            · replace hw := hw.1 c10
              exact b_X1_clashing_98 l hL C0 hK3 _ _ _ _ _ _ _ _ _ _ _ hw Z (lv_sub hl [0, 1, 2, 3, 4, 5, 6, 7] rfl)
            · replace hw := hw.2 c10
              refine lv_iload hx hb dX1_clashing_95 (lv_at hl 7 rfl) ?_
              exact z_iret C0 Z hw dX1_clashing_97
set_option maxRecDepth 100000 in
set_option maxHeartbeats 4000000 in
theorem b_X1_clashing_3 {p : Program} (l : Launch) {e : Env} {s : State} {m : MethodId} {args : Array Value} {below : List Frame} {meth : Method} {c : Code} {G : zG} {this : Nat} (hL : isL G this) (C0 : Cx G RX1 cX1_clashing 9 (some .int) p s m args meth c) {Q : Int32 → V3 → Prop} : ∀ (n : Nat) (x1 : Int32) (x2 : Int32) (x3 : Int32) (x4 : Int32) (x5 : Int32) (x6 : Int32) (x7 : Int32) (v : V3) (H : Heap) (locs : List Loc) (ls : Array Slot), w_X1_clashing_3 this Q n x1 x2 x3 x4 x5 x6 x7 v → Zs G s v H locs → lv_has ls 9 [(0, .ref (gad G this)), (1, .int x1), (2, .int x2), (3, .int x3), (4, .int x4), (5, .int x5), (6, .int x6), (7, .int x7)] → W p l e { frames := 0, cells := 0, slots := 0, locals := 0 } s m args below meth c H locs 0 0 (MQ below (QiZ G Q) args s 0 0 (zA G)) (F0 m 3 ls []) := by
  have hx := C0.1
  have hb := C0.2.1
  intro n
  induction n with
  | zero =>
    intro x1 x2 x3 x4 x5 x6 x7 v H locs ls hw Z hl
    exact hw.elim
  | succ n hK3 =>
    intro x1 x2 x3 x4 x5 x6 x7 v H locs ls hw Z hl
    rw [w_X1_clashing_3] at hw
    refine lv_iload hx hb dX1_clashing_3 (lv_at hl 7 rfl) ?_
    refine lv_aload_n hx hb dX1_clashing_5 rfl (lv_at hl 0 rfl) ?_
    refine z_get C0 Z in_X1 rfl 8 (by decide) rfl tm_1_62 (isL_lt0 hL) (ent_L hL) rfl dX1_clashing_6 ?_
    refine lv_icmp_ge (tgt := 104) hx hb dX1_clashing_9 (by decide) (fun c1 => ?_) (fun c1 => ?_)
    · replace hw := hw.1 c1
      refine lv_iconst (v := (-1)) hx hb dX1_clashing_104 (by decide) ?_
      exact z_iret C0 Z hw dX1_clashing_105
    · replace hw := hw.2 c1
      refine lv_aload_n hx hb dX1_clashing_12 rfl (lv_at hl 0 rfl) ?_
      refine z_get C0 Z in_X1 rfl 2 (by decide) rfl tm_1_49 (isL_lt0 hL) (ent_L hL) rfl dX1_clashing_13 ?_
      refine lv_iload hx hb dX1_clashing_16 (lv_at hl 7 rfl) ?_
      obtain ⟨h2, hw⟩ := hw
      have h3 := vp_lt h2
      refine z_aald C0 Z (isL_lt hL 3 (by decide)) (ent_L3 hL) h2 dX1_clashing_18 ?_
      refine lv_astore (lv' := [(8, .ref (gad G (this + 14 + (ix x7)))), (0, .ref (gad G this)), (1, .int x1), (2, .int x2), (3, .int x3), (4, .int x4), (5, .int x5), (6, .int x6), (7, .int x7)]) hx hb dX1_clashing_19 hl (by decide) rfl (fun ls hl => ?_)
      refine lv_aload hx hb dX1_clashing_21 (lv_at hl 0 rfl) ?_
      refine lv_bipush (v := 7) hx hb dX1_clashing_23 (by decide) ?_
      refine z_ialdk C0 Z (isL_B hL h3) (ent_B hL h3) in_7_10 nc_7 dX1_clashing_25 ?_
      refine lv_iconst (v := 1) hx hb dX1_clashing_26 (by decide) ?_
      refine lv_icmp_eq (tgt := 39) hx hb dX1_clashing_27 (by decide) (fun c4 => ?_) (fun c4 => ?_)
      · replace hw := hw.1 c4
        exact b_X1_clashing_39 l hL C0 hK3 _ _ _ _ _ _ _ _ _ _ _ _ h3 hw Z (lv_sub hl [1, 2, 3, 4, 5, 6, 7, 8, 0] rfl)
      · replace hw := hw.2 c4
        refine lv_aload hx hb dX1_clashing_30 (lv_at hl 0 rfl) ?_
        refine lv_bipush (v := 7) hx hb dX1_clashing_32 (by decide) ?_
        refine z_ialdk C0 Z (isL_B hL h3) (ent_B hL h3) in_7_10 nc_7 dX1_clashing_34 ?_
        refine lv_iconst (v := 2) hx hb dX1_clashing_35 (by decide) ?_
        refine lv_icmp_ne (tgt := 98) hx hb dX1_clashing_36 (by decide) (fun c11 => ?_) (fun c11 => ?_)
        · replace hw := hw.1 c11
          exact b_X1_clashing_98 l hL C0 hK3 _ _ _ _ _ _ _ _ _ _ _ hw Z (lv_sub hl [1, 2, 3, 4, 5, 6, 7, 8] rfl)
        · replace hw := hw.2 c11
          exact b_X1_clashing_39 l hL C0 hK3 _ _ _ _ _ _ _ _ _ _ _ _ h3 hw Z (lv_sub hl [1, 2, 3, 4, 5, 6, 7, 8, 0] rfl)
set_option maxRecDepth 100000 in
set_option maxHeartbeats 4000000 in
theorem k_X1_clashing (l : Launch) {G : zG} (hg : 116 ≤ gn G) {this : Nat} {a1 : Int32} {a2 : Int32} {a3 : Int32} {a4 : Int32} {a5 : Int32} {a6 : Int32} (hL : isL G this) {v : V3} {Q : Int32 → V3 → Prop} (hw : w_X1_clashing this a1 a2 a3 a4 a5 a6 v Q) : Mz l yX1_clashing cX1_clashing 9 (some .int) 0 0 G [.ref (gad G this), .int a1, .int a2, .int a3, .int a4, .int a5, .int a6] v (QiZ G Q) := by
  rw [w_X1_clashing] at hw
  refine z_ofW hg (by decide) (Nat.le_of_ble_eq_true rfl) ?_
  intro p e s m args below meth c ls C0 Z hl
  have hx := C0.1
  have hb := C0.2.1
  replace hl : lv_has ls 9 [(0, .ref (gad G this)), (1, .int a1), (2, .int a2), (3, .int a3), (4, .int a4), (5, .int a5), (6, .int a6)] := hl
  generalize s.heap = H at Z ⊢
  generalize ([] : List Loc) = locs at Z ⊢
  refine lv_iconst (v := 0) hx hb dX1_clashing_0 (by decide) ?_
  refine lv_istore (lv' := [(7, .int 0), (0, .ref (gad G this)), (1, .int a1), (2, .int a2), (3, .int a3), (4, .int a4), (5, .int a5), (6, .int a6)]) hx hb dX1_clashing_1 hl (by decide) rfl (fun ls hl => ?_)
  obtain ⟨m3, hw⟩ := hw
  exact b_X1_clashing_3 l hL C0 m3 _ _ _ _ _ _ _ _ _ _ _ hw Z (lv_sub hl [1, 2, 3, 4, 5, 6, 7, 0] rfl)
-- X1_wouldClash: room (1, 28)
theorem dX1_wouldClash_0 : decode cX1_wouldClash 0 = .ok (.aload_n 0, 1) := by decide +kernel
theorem dX1_wouldClash_1 : decode cX1_wouldClash 1 = .ok (.getfield 20, 3) := by decide +kernel
theorem dX1_wouldClash_4 : decode cX1_wouldClash 4 = .ok (.iload_n 1, 1) := by decide +kernel
theorem dX1_wouldClash_5 : decode cX1_wouldClash 5 = .ok (.aaload, 1) := by decide +kernel
theorem dX1_wouldClash_6 : decode cX1_wouldClash 6 = .ok (.astore 5, 2) := by decide +kernel
theorem dX1_wouldClash_8 : decode cX1_wouldClash 8 = .ok (.aload_n 0, 1) := by decide +kernel
theorem dX1_wouldClash_9 : decode cX1_wouldClash 9 = .ok (.aload 5, 2) := by decide +kernel
theorem dX1_wouldClash_11 : decode cX1_wouldClash 11 = .ok (.iconst 1, 1) := by decide +kernel
theorem dX1_wouldClash_12 : decode cX1_wouldClash 12 = .ok (.iaload, 1) := by decide +kernel
theorem dX1_wouldClash_13 : decode cX1_wouldClash 13 = .ok (.aload 5, 2) := by decide +kernel
theorem dX1_wouldClash_15 : decode cX1_wouldClash 15 = .ok (.iconst 2, 1) := by decide +kernel
theorem dX1_wouldClash_16 : decode cX1_wouldClash 16 = .ok (.iaload, 1) := by decide +kernel
theorem dX1_wouldClash_17 : decode cX1_wouldClash 17 = .ok (.iload_n 2, 1) := by decide +kernel
theorem dX1_wouldClash_18 : decode cX1_wouldClash 18 = .ok (.iload_n 3, 1) := by decide +kernel
theorem dX1_wouldClash_19 : decode cX1_wouldClash 19 = .ok (.iload_n 1, 1) := by decide +kernel
theorem dX1_wouldClash_20 : decode cX1_wouldClash 20 = .ok (.iload 4, 2) := by decide +kernel
theorem dX1_wouldClash_22 : decode cX1_wouldClash 22 = .ok (.invokevirtual 94, 3) := by decide +kernel
theorem dX1_wouldClash_25 : decode cX1_wouldClash 25 = .ok (.iconst (-1), 1) := by decide +kernel
theorem dX1_wouldClash_26 : decode cX1_wouldClash 26 = .ok (.if_icmp .eq 7, 3) := by decide +kernel
theorem dX1_wouldClash_29 : decode cX1_wouldClash 29 = .ok (.iconst 1, 1) := by decide +kernel
theorem dX1_wouldClash_30 : decode cX1_wouldClash 30 = .ok (.goto 4, 3) := by decide +kernel
theorem dX1_wouldClash_33 : decode cX1_wouldClash 33 = .ok (.iconst 0, 1) := by decide +kernel
theorem dX1_wouldClash_34 : decode cX1_wouldClash 34 = .ok (.ireturn, 1) := by decide +kernel
def w_X1_wouldClash_34 (this : Nat) (Q : Int32 → V3 → Prop) (s0 : Int32) (v : V3) : Prop := (s0 = 0 ∨ s0 = 1) ∧ Q s0 v
def w_X1_wouldClash (this : Nat) (a1 : Int32) (a2 : Int32) (a3 : Int32) (a4 : Int32) (v : V3) (Q : Int32 → V3 → Prop) : Prop := vp_in a1 40 ∧ w_X1_clashing this (v (this + 14 + (ix a1)) 1) (v (this + 14 + (ix a1)) 2) a2 a3 a1 a4 v (fun r4 v3 => ((r4 = (-1) → w_X1_wouldClash_34 this Q 0 v3) ∧ (¬ r4 = (-1) → w_X1_wouldClash_34 this Q 1 v3)))
set_option maxRecDepth 100000 in
set_option maxHeartbeats 4000000 in
theorem b_X1_wouldClash_34 {p : Program} (l : Launch) {e : Env} {s : State} {m : MethodId} {args : Array Value} {below : List Frame} {meth : Method} {c : Code} {G : zG} {this : Nat} (hL : isL G this) (C0 : Cx G RX1 cX1_wouldClash 6 (some .boolean) p s m args meth c) {Q : Int32 → V3 → Prop} : ∀ (s0 : Int32) (v : V3) (H : Heap) (locs : List Loc) (ls : Array Slot), w_X1_wouldClash_34 this Q s0 v → Zs G s v H locs → lv_has ls 6 [] → W p l e { frames := 1, cells := 0, slots := 0, locals := 28 } s m args below meth c H locs 0 0 (MQ below (QiZ G Q) args s 0 0 (zA G)) (F0 m 34 ls [.int s0]) := by
  have hx := C0.1
  have hb := C0.2.1
  intro s0 v H locs ls hw Z hl
  rw [w_X1_wouldClash_34] at hw
  obtain ⟨h6, hw⟩ := hw
  exact z_zret C0 Z h6 hw dX1_wouldClash_34
set_option maxRecDepth 100000 in
set_option maxHeartbeats 4000000 in
theorem k_X1_wouldClash (l : Launch) {G : zG} (hg : 116 ≤ gn G) {this : Nat} {a1 : Int32} {a2 : Int32} {a3 : Int32} {a4 : Int32} (hL : isL G this) {v : V3} {Q : Int32 → V3 → Prop} (hw : w_X1_wouldClash this a1 a2 a3 a4 v Q) : Mz l yX1_wouldClash cX1_wouldClash 6 (some .boolean) 1 28 G [.ref (gad G this), .int a1, .int a2, .int a3, .int a4] v (QiZ G Q) := by
  rw [w_X1_wouldClash] at hw
  refine z_ofW hg (by decide) (Nat.le_of_ble_eq_true rfl) ?_
  intro p e s m args below meth c ls C0 Z hl
  have hx := C0.1
  have hb := C0.2.1
  replace hl : lv_has ls 6 [(0, .ref (gad G this)), (1, .int a1), (2, .int a2), (3, .int a3), (4, .int a4)] := hl
  generalize s.heap = H at Z ⊢
  generalize ([] : List Loc) = locs at Z ⊢
  refine lv_aload_n hx hb dX1_wouldClash_0 rfl (lv_at hl 0 rfl) ?_
  refine z_get C0 Z in_X1 rfl 2 (by decide) rfl tm_1_49 (isL_lt0 hL) (ent_L hL) rfl dX1_wouldClash_1 ?_
  refine lv_iload_n hx hb dX1_wouldClash_4 rfl (lv_at hl 1 rfl) ?_
  obtain ⟨h1, hw⟩ := hw
  have h2 := vp_lt h1
  refine z_aald C0 Z (isL_lt hL 3 (by decide)) (ent_L3 hL) h1 dX1_wouldClash_5 ?_
  refine lv_astore (lv' := [(5, .ref (gad G (this + 14 + (ix a1)))), (0, .ref (gad G this)), (1, .int a1), (2, .int a2), (3, .int a3), (4, .int a4)]) hx hb dX1_wouldClash_6 hl (by decide) rfl (fun ls hl => ?_)
  refine lv_aload_n hx hb dX1_wouldClash_8 rfl (lv_at hl 1 rfl) ?_
  refine lv_aload hx hb dX1_wouldClash_9 (lv_at hl 0 rfl) ?_
  refine lv_iconst (v := 1) hx hb dX1_wouldClash_11 (by decide) ?_
  refine z_ialdk C0 Z (isL_B hL h2) (ent_B hL h2) in_1_10 nc_1 dX1_wouldClash_12 ?_
  refine lv_aload hx hb dX1_wouldClash_13 (lv_at hl 0 rfl) ?_
  refine lv_iconst (v := 2) hx hb dX1_wouldClash_15 (by decide) ?_
  refine z_ialdk C0 Z (isL_B hL h2) (ent_B hL h2) in_2_10 nc_2 dX1_wouldClash_16 ?_
  refine lv_iload_n hx hb dX1_wouldClash_17 rfl (lv_at hl 3 rfl) ?_
  refine lv_iload_n hx hb dX1_wouldClash_18 rfl (lv_at hl 4 rfl) ?_
  refine lv_iload_n hx hb dX1_wouldClash_19 rfl (lv_at hl 2 rfl) ?_
  refine lv_iload hx hb dX1_wouldClash_20 (lv_at hl 5 rfl) ?_
  refine z_callVi C0 Z hl.1 (As := [.int (v (this + 14 + (ix a1)) 1), .int (v (this + 14 + (ix a1)) 2), .int a2, .int a3, .int a1, .int a4]) (rest := []) (k_X1_clashing l (cx_g C0) hL hw) (gv_X1_clashing tm_2_198) rfl ds_X1_clashing ⟨Nat.le_of_ble_eq_true rfl, Nat.le_of_ble_eq_true rfl⟩ (ci := 1) rfl (isL_lt0 hL) (ent_L hL) rfl rfl (Nat.le_of_ble_eq_true rfl) ⟨Nat.le_of_ble_eq_true rfl, Nat.le_of_ble_eq_true rfl⟩ dX1_wouldClash_22 (fun r4 v3 H locs hw Z => ?_)
  refine lv_iconst (v := (-1)) hx hb dX1_wouldClash_25 (by decide) ?_
  refine lv_icmp_eq (tgt := 33) hx hb dX1_wouldClash_26 (by decide) (fun c5 => ?_) (fun c5 => ?_)
  · replace hw := hw.1 c5
    refine lv_iconst (v := 0) hx hb dX1_wouldClash_33 (by decide) ?_
    exact b_X1_wouldClash_34 l hL C0 _ _ _ _ _ hw Z (lv_sub hl [] rfl)
  · replace hw := hw.2 c5
    refine lv_iconst (v := 1) hx hb dX1_wouldClash_29 (by decide) ?_
    refine lv_goto (tgt := 34) hx hb dX1_wouldClash_30 (by decide) ?_
    exact b_X1_wouldClash_34 l hL C0 _ _ _ _ _ hw Z (lv_sub hl [] rfl)
-- X1_holderAt: room (1, 28)
theorem dX1_holderAt_0 : decode cX1_holderAt 0 = .ok (.aload_n 0, 1) := by decide +kernel
theorem dX1_holderAt_1 : decode cX1_holderAt 1 = .ok (.iload_n 1, 1) := by decide +kernel
theorem dX1_holderAt_2 : decode cX1_holderAt 2 = .ok (.iconst 1, 1) := by decide +kernel
theorem dX1_holderAt_3 : decode cX1_holderAt 3 = .ok (.iload_n 2, 1) := by decide +kernel
theorem dX1_holderAt_4 : decode cX1_holderAt 4 = .ok (.iload_n 2, 1) := by decide +kernel
theorem dX1_holderAt_5 : decode cX1_holderAt 5 = .ok (.iconst 1, 1) := by decide +kernel
theorem dX1_holderAt_6 : decode cX1_holderAt 6 = .ok (.iadd, 1) := by decide +kernel
theorem dX1_holderAt_7 : decode cX1_holderAt 7 = .ok (.iconst (-1), 1) := by decide +kernel
theorem dX1_holderAt_8 : decode cX1_holderAt 8 = .ok (.iconst (-1), 1) := by decide +kernel
theorem dX1_holderAt_9 : decode cX1_holderAt 9 = .ok (.invokevirtual 94, 3) := by decide +kernel
theorem dX1_holderAt_12 : decode cX1_holderAt 12 = .ok (.ireturn, 1) := by decide +kernel
def w_X1_holderAt (this : Nat) (a1 : Int32) (a2 : Int32) (v : V3) (Q : Int32 → V3 → Prop) : Prop := w_X1_clashing this a1 1 a2 (a2 + 1) (-1) (-1) v (fun r2 v1 => Q r2 v1)
set_option maxRecDepth 100000 in
set_option maxHeartbeats 4000000 in
theorem k_X1_holderAt (l : Launch) {G : zG} (hg : 116 ≤ gn G) {this : Nat} {a1 : Int32} {a2 : Int32} (hL : isL G this) {v : V3} {Q : Int32 → V3 → Prop} (hw : w_X1_holderAt this a1 a2 v Q) : Mz l yX1_holderAt cX1_holderAt 3 (some .int) 1 28 G [.ref (gad G this), .int a1, .int a2] v (QiZ G Q) := by
  rw [w_X1_holderAt] at hw
  refine z_ofW hg (by decide) (Nat.le_of_ble_eq_true rfl) ?_
  intro p e s m args below meth c ls C0 Z hl
  have hx := C0.1
  have hb := C0.2.1
  replace hl : lv_has ls 3 [(0, .ref (gad G this)), (1, .int a1), (2, .int a2)] := hl
  generalize s.heap = H at Z ⊢
  generalize ([] : List Loc) = locs at Z ⊢
  refine lv_aload_n hx hb dX1_holderAt_0 rfl (lv_at hl 0 rfl) ?_
  refine lv_iload_n hx hb dX1_holderAt_1 rfl (lv_at hl 1 rfl) ?_
  refine lv_iconst (v := 1) hx hb dX1_holderAt_2 (by decide) ?_
  refine lv_iload_n hx hb dX1_holderAt_3 rfl (lv_at hl 2 rfl) ?_
  refine lv_iload_n hx hb dX1_holderAt_4 rfl (lv_at hl 2 rfl) ?_
  refine lv_iconst (v := 1) hx hb dX1_holderAt_5 (by decide) ?_
  refine lv_iadd hx hb dX1_holderAt_6 ?_
  refine lv_iconst (v := (-1)) hx hb dX1_holderAt_7 (by decide) ?_
  refine lv_iconst (v := (-1)) hx hb dX1_holderAt_8 (by decide) ?_
  refine z_callVi C0 Z hl.1 (As := [.int a1, .int 1, .int a2, .int (a2 + 1), .int (-1), .int (-1)]) (rest := []) (k_X1_clashing l (cx_g C0) hL hw) (gv_X1_clashing tm_2_198) rfl ds_X1_clashing ⟨Nat.le_of_ble_eq_true rfl, Nat.le_of_ble_eq_true rfl⟩ (ci := 1) rfl (isL_lt0 hL) (ent_L hL) rfl rfl (Nat.le_of_ble_eq_true rfl) ⟨Nat.le_of_ble_eq_true rfl, Nat.le_of_ble_eq_true rfl⟩ dX1_holderAt_9 (fun r2 v1 H locs hw Z => ?_)
  exact z_iret C0 Z hw dX1_holderAt_12
