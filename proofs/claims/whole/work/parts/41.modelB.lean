-- X4_forgive: room (2, 46)
theorem dX4_forgive_0 : decode cX4_forgive 0 = .ok (.aload_n 0, 1) := by decide +kernel
theorem dX4_forgive_1 : decode cX4_forgive 1 = .ok (.iconst 0, 1) := by decide +kernel
theorem dX4_forgive_2 : decode cX4_forgive 2 = .ok (.putfield 55, 3) := by decide +kernel
theorem dX4_forgive_5 : decode cX4_forgive 5 = .ok (.aload_n 0, 1) := by decide +kernel
theorem dX4_forgive_6 : decode cX4_forgive 6 = .ok (.iload_n 1, 1) := by decide +kernel
theorem dX4_forgive_7 : decode cX4_forgive 7 = .ok (.invokevirtual 245, 3) := by decide +kernel
theorem dX4_forgive_10 : decode cX4_forgive 10 = .ok (.ifCond .ne 9, 3) := by decide +kernel
theorem dX4_forgive_13 : decode cX4_forgive 13 = .ok (.aload_n 0, 1) := by decide +kernel
theorem dX4_forgive_14 : decode cX4_forgive 14 = .ok (.iconst 1, 1) := by decide +kernel
theorem dX4_forgive_15 : decode cX4_forgive 15 = .ok (.invokevirtual 78, 3) := by decide +kernel
theorem dX4_forgive_18 : decode cX4_forgive 18 = .ok (.ireturn, 1) := by decide +kernel
theorem dX4_forgive_19 : decode cX4_forgive 19 = .ok (.aload_n 0, 1) := by decide +kernel
theorem dX4_forgive_20 : decode cX4_forgive 20 = .ok (.iload_n 1, 1) := by decide +kernel
theorem dX4_forgive_21 : decode cX4_forgive 21 = .ok (.invokevirtual 248, 3) := by decide +kernel
theorem dX4_forgive_24 : decode cX4_forgive 24 = .ok (.istore_n 2, 1) := by decide +kernel
theorem dX4_forgive_25 : decode cX4_forgive 25 = .ok (.aload_n 0, 1) := by decide +kernel
theorem dX4_forgive_26 : decode cX4_forgive 26 = .ok (.iload_n 1, 1) := by decide +kernel
theorem dX4_forgive_27 : decode cX4_forgive 27 = .ok (.iconst 2, 1) := by decide +kernel
theorem dX4_forgive_28 : decode cX4_forgive 28 = .ok (.aload_n 0, 1) := by decide +kernel
theorem dX4_forgive_29 : decode cX4_forgive 29 = .ok (.iload_n 1, 1) := by decide +kernel
theorem dX4_forgive_30 : decode cX4_forgive 30 = .ok (.iconst 2, 1) := by decide +kernel
theorem dX4_forgive_31 : decode cX4_forgive 31 = .ok (.invokevirtual 228, 3) := by decide +kernel
theorem dX4_forgive_34 : decode cX4_forgive 34 = .ok (.ineg, 1) := by decide +kernel
theorem dX4_forgive_35 : decode cX4_forgive 35 = .ok (.invokevirtual 254, 3) := by decide +kernel
theorem dX4_forgive_38 : decode cX4_forgive 38 = .ok (.aload_n 0, 1) := by decide +kernel
theorem dX4_forgive_39 : decode cX4_forgive 39 = .ok (.iload_n 1, 1) := by decide +kernel
theorem dX4_forgive_40 : decode cX4_forgive 40 = .ok (.iconst 3, 1) := by decide +kernel
theorem dX4_forgive_41 : decode cX4_forgive 41 = .ok (.aload_n 0, 1) := by decide +kernel
theorem dX4_forgive_42 : decode cX4_forgive 42 = .ok (.iload_n 1, 1) := by decide +kernel
theorem dX4_forgive_43 : decode cX4_forgive 43 = .ok (.iconst 3, 1) := by decide +kernel
theorem dX4_forgive_44 : decode cX4_forgive 44 = .ok (.invokevirtual 228, 3) := by decide +kernel
theorem dX4_forgive_47 : decode cX4_forgive 47 = .ok (.ineg, 1) := by decide +kernel
theorem dX4_forgive_48 : decode cX4_forgive 48 = .ok (.invokevirtual 254, 3) := by decide +kernel
theorem dX4_forgive_51 : decode cX4_forgive 51 = .ok (.iload_n 2, 1) := by decide +kernel
theorem dX4_forgive_52 : decode cX4_forgive 52 = .ok (.ireturn, 1) := by decide +kernel
def w_X4_forgive (a1 : Int32) (v : V3) (Q : Int32 → V3 → Prop) : Prop := ∀ v1 : V3, v1 = up2 v 7 11 0 → w_X4_isOwner a1 v1 (fun r3 v2 => ((¬ r3 = 0 → w_X4_broken a1 v2 (fun r6 v5 => w_X4_ofOwner a1 2 v5 (fun r8 v7 => w_X4_grow a1 2 (-r8) v7 (fun v9 => w_X4_ofOwner a1 3 v9 (fun r11 v10 => w_X4_grow a1 3 (-r11) v10 (fun v12 => Q r6 v12)))))) ∧ (r3 = 0 → w_X4_fail 1 v2 (fun r14 v13 => Q r14 v13))))
set_option maxRecDepth 100000 in
set_option maxHeartbeats 4000000 in
theorem k_X4_forgive (l : Launch) {G : zG} (hg : 129 ≤ gn G) {a1 : Int32}  {v : V3} {Q : Int32 → V3 → Prop} (hw : w_X4_forgive a1 v Q) : Mz l yX4_forgive cX4_forgive 3 (some .int) 2 46 G [.ref (gad G 7), .int a1] v (QiZ G Q) := by
  rw [w_X4_forgive] at hw
  refine z_ofW hg (by decide) (Nat.le_of_ble_eq_true rfl) ?_
  intro p e s m args below meth c ls C0 Z hl
  have hx := C0.1
  have hb := C0.2.1
  replace hl : lv_has ls 3 [(0, .ref (gad G 7)), (1, .int a1)] := hl
  generalize s.heap = H at Z ⊢
  generalize ([] : List Loc) = locs at Z ⊢
  refine lv_aload_n hx hb dX4_forgive_0 rfl (lv_at hl 0 rfl) ?_
  refine lv_iconst (v := 0) hx hb dX4_forgive_1 (by decide) ?_
  refine z_put C0 Z in_X4 tyX4_ok nmX4 rfl 11 (by decide) rfl rfl tm_4_214 (cx_lt C0 (by decide)) rfl p_X4_11 (fun c' h => up2_off _ _ _ h) rfl rfl (Nat.le_of_ble_eq_true rfl) dX4_forgive_2 (fun H locs Z => ?_)
  obtain ⟨v1, ev1⟩ : ∃ z : V3, z = up2 v 7 11 0 := ⟨_, rfl⟩
  rw [← ev1] at Z
  replace hw := hw v1 ev1
  refine lv_aload_n hx hb dX4_forgive_5 rfl (lv_at hl 0 rfl) ?_
  refine lv_iload_n hx hb dX4_forgive_6 rfl (lv_at hl 1 rfl) ?_
  refine z_callVi C0 Z hl.1 (As := [.int a1]) (rest := []) (k_X4_isOwner l (cx_g C0) hw) (gv_X4_isOwner tm_6_18) rfl ds_X4_isOwner ⟨Nat.le_of_ble_eq_true rfl, Nat.le_of_ble_eq_true rfl⟩ (ci := 4) rfl (cx_lt C0 (by decide)) rfl rfl rfl (Nat.le_of_ble_eq_true rfl) ⟨Nat.le_of_ble_eq_true rfl, Nat.le_of_ble_eq_true rfl⟩ dX4_forgive_7 (fun r3 v2 H locs hw Z => ?_)
  refine lv_if_ne (tgt := 19) hx hb dX4_forgive_10 (by decide) (fun c4 => ?_) (fun c4 => ?_)
  · replace hw := hw.1 c4
    refine lv_aload_n hx hb dX4_forgive_19 rfl (lv_at hl 0 rfl) ?_
    refine lv_iload_n hx hb dX4_forgive_20 rfl (lv_at hl 1 rfl) ?_
    refine z_callVi C0 Z hl.1 (As := [.int a1]) (rest := []) (k_X4_broken l (cx_g C0) hw) (gv_X4_broken tm_6_22) rfl ds_X4_broken ⟨Nat.le_of_ble_eq_true rfl, Nat.le_of_ble_eq_true rfl⟩ (ci := 4) rfl (cx_lt C0 (by decide)) rfl rfl rfl (Nat.le_of_ble_eq_true rfl) ⟨Nat.le_of_ble_eq_true rfl, Nat.le_of_ble_eq_true rfl⟩ dX4_forgive_21 (fun r6 v5 H locs hw Z => ?_)
    refine lv_istore_n (lv' := [(2, .int r6), (0, .ref (gad G 7)), (1, .int a1)]) hx hb dX4_forgive_24 rfl hl (by decide) rfl (fun ls hl => ?_)
    refine lv_aload_n hx hb dX4_forgive_25 rfl (lv_at hl 1 rfl) ?_
    refine lv_iload_n hx hb dX4_forgive_26 rfl (lv_at hl 2 rfl) ?_
    refine lv_iconst (v := 2) hx hb dX4_forgive_27 (by decide) ?_
    refine lv_aload_n hx hb dX4_forgive_28 rfl (lv_at hl 1 rfl) ?_
    refine lv_iload_n hx hb dX4_forgive_29 rfl (lv_at hl 2 rfl) ?_
    refine lv_iconst (v := 2) hx hb dX4_forgive_30 (by decide) ?_
    refine z_callVi C0 Z hl.1 (As := [.int a1, .int 2]) (rest := [.int 2, .int a1, .ref (gad G 7)]) (k_X4_ofOwner l (cx_g C0) hw) (gv_X4_ofOwner tm_6_26) rfl ds_X4_ofOwner ⟨Nat.le_of_ble_eq_true rfl, Nat.le_of_ble_eq_true rfl⟩ (ci := 4) rfl (cx_lt C0 (by decide)) rfl rfl rfl (Nat.le_of_ble_eq_true rfl) ⟨Nat.le_of_ble_eq_true rfl, Nat.le_of_ble_eq_true rfl⟩ dX4_forgive_31 (fun r8 v7 H locs hw Z => ?_)
    refine lv_ineg hx hb dX4_forgive_34 ?_
    refine z_callVv C0 Z hl.1 (As := [.int a1, .int 2, .int (-r8)]) (rest := []) (k_X4_grow l (cx_g C0) hw) (gv_X4_grow tm_6_52) rfl ds_X4_grow ⟨Nat.le_of_ble_eq_true rfl, Nat.le_of_ble_eq_true rfl⟩ (ci := 4) rfl (cx_lt C0 (by decide)) rfl rfl rfl (Nat.le_of_ble_eq_true rfl) ⟨Nat.le_of_ble_eq_true rfl, Nat.le_of_ble_eq_true rfl⟩ dX4_forgive_35 (fun v9 H locs hw Z => ?_)
    refine lv_aload_n hx hb dX4_forgive_38 rfl (lv_at hl 1 rfl) ?_
    refine lv_iload_n hx hb dX4_forgive_39 rfl (lv_at hl 2 rfl) ?_
    refine lv_iconst (v := 3) hx hb dX4_forgive_40 (by decide) ?_
    refine lv_aload_n hx hb dX4_forgive_41 rfl (lv_at hl 1 rfl) ?_
    refine lv_iload_n hx hb dX4_forgive_42 rfl (lv_at hl 2 rfl) ?_
    refine lv_iconst (v := 3) hx hb dX4_forgive_43 (by decide) ?_
    refine z_callVi C0 Z hl.1 (As := [.int a1, .int 3]) (rest := [.int 3, .int a1, .ref (gad G 7)]) (k_X4_ofOwner l (cx_g C0) hw) (gv_X4_ofOwner tm_6_26) rfl ds_X4_ofOwner ⟨Nat.le_of_ble_eq_true rfl, Nat.le_of_ble_eq_true rfl⟩ (ci := 4) rfl (cx_lt C0 (by decide)) rfl rfl rfl (Nat.le_of_ble_eq_true rfl) ⟨Nat.le_of_ble_eq_true rfl, Nat.le_of_ble_eq_true rfl⟩ dX4_forgive_44 (fun r11 v10 H locs hw Z => ?_)
    refine lv_ineg hx hb dX4_forgive_47 ?_
    refine z_callVv C0 Z hl.1 (As := [.int a1, .int 3, .int (-r11)]) (rest := []) (k_X4_grow l (cx_g C0) hw) (gv_X4_grow tm_6_52) rfl ds_X4_grow ⟨Nat.le_of_ble_eq_true rfl, Nat.le_of_ble_eq_true rfl⟩ (ci := 4) rfl (cx_lt C0 (by decide)) rfl rfl rfl (Nat.le_of_ble_eq_true rfl) ⟨Nat.le_of_ble_eq_true rfl, Nat.le_of_ble_eq_true rfl⟩ dX4_forgive_48 (fun v12 H locs hw Z => ?_)
    refine lv_iload_n hx hb dX4_forgive_51 rfl (lv_at hl 0 rfl) ?_
    exact z_iret C0 Z hw dX4_forgive_52
  · replace hw := hw.2 c4
    refine lv_aload_n hx hb dX4_forgive_13 rfl (lv_at hl 0 rfl) ?_
    refine lv_iconst (v := 1) hx hb dX4_forgive_14 (by decide) ?_
    refine z_callVi C0 Z hl.1 (As := [.int 1]) (rest := []) (k_X4_fail l (cx_g C0) hw) (gv_X4_fail tm_5_75) rfl ds_X4_fail ⟨Nat.le_of_ble_eq_true rfl, Nat.le_of_ble_eq_true rfl⟩ (ci := 4) rfl (cx_lt C0 (by decide)) rfl rfl rfl (Nat.le_of_ble_eq_true rfl) ⟨Nat.le_of_ble_eq_true rfl, Nat.le_of_ble_eq_true rfl⟩ dX4_forgive_15 (fun r14 v13 H locs hw Z => ?_)
    exact z_iret C0 Z hw dX4_forgive_18
-- X4_isSpan: room (1, 25)
theorem dX4_isSpan_0 : decode cX4_isSpan 0 = .ok (.iload_n 1, 1) := by decide +kernel
theorem dX4_isSpan_1 : decode cX4_isSpan 1 = .ok (.i2l, 1) := by decide +kernel
theorem dX4_isSpan_2 : decode cX4_isSpan 2 = .ok (.lconst 0, 1) := by decide +kernel
theorem dX4_isSpan_3 : decode cX4_isSpan 3 = .ok (.aload_n 0, 1) := by decide +kernel
theorem dX4_isSpan_4 : decode cX4_isSpan 4 = .ok (.getfield 7, 3) := by decide +kernel
theorem dX4_isSpan_7 : decode cX4_isSpan 7 = .ok (.iconst 4, 1) := by decide +kernel
theorem dX4_isSpan_8 : decode cX4_isSpan 8 = .ok (.iaload, 1) := by decide +kernel
theorem dX4_isSpan_9 : decode cX4_isSpan 9 = .ok (.iconst 1, 1) := by decide +kernel
theorem dX4_isSpan_10 : decode cX4_isSpan 10 = .ok (.isub, 1) := by decide +kernel
theorem dX4_isSpan_11 : decode cX4_isSpan 11 = .ok (.i2l, 1) := by decide +kernel
theorem dX4_isSpan_12 : decode cX4_isSpan 12 = .ok (.invokestatic 67, 3) := by decide +kernel
theorem dX4_isSpan_15 : decode cX4_isSpan 15 = .ok (.ifCond .eq 23, 3) := by decide +kernel
theorem dX4_isSpan_18 : decode cX4_isSpan 18 = .ok (.iload_n 1, 1) := by decide +kernel
theorem dX4_isSpan_19 : decode cX4_isSpan 19 = .ok (.i2l, 1) := by decide +kernel
theorem dX4_isSpan_20 : decode cX4_isSpan 20 = .ok (.iload_n 2, 1) := by decide +kernel
theorem dX4_isSpan_21 : decode cX4_isSpan 21 = .ok (.i2l, 1) := by decide +kernel
theorem dX4_isSpan_22 : decode cX4_isSpan 22 = .ok (.ladd, 1) := by decide +kernel
theorem dX4_isSpan_23 : decode cX4_isSpan 23 = .ok (.aload_n 0, 1) := by decide +kernel
theorem dX4_isSpan_24 : decode cX4_isSpan 24 = .ok (.getfield 7, 3) := by decide +kernel
theorem dX4_isSpan_27 : decode cX4_isSpan 27 = .ok (.iconst 4, 1) := by decide +kernel
theorem dX4_isSpan_28 : decode cX4_isSpan 28 = .ok (.iaload, 1) := by decide +kernel
theorem dX4_isSpan_29 : decode cX4_isSpan 29 = .ok (.i2l, 1) := by decide +kernel
theorem dX4_isSpan_30 : decode cX4_isSpan 30 = .ok (.lcmp, 1) := by decide +kernel
theorem dX4_isSpan_31 : decode cX4_isSpan 31 = .ok (.ifCond .gt 7, 3) := by decide +kernel
theorem dX4_isSpan_34 : decode cX4_isSpan 34 = .ok (.iconst 1, 1) := by decide +kernel
theorem dX4_isSpan_35 : decode cX4_isSpan 35 = .ok (.goto 4, 3) := by decide +kernel
theorem dX4_isSpan_38 : decode cX4_isSpan 38 = .ok (.iconst 0, 1) := by decide +kernel
theorem dX4_isSpan_39 : decode cX4_isSpan 39 = .ok (.ireturn, 1) := by decide +kernel
def w_X4_isSpan_39  (Q : Int32 → V3 → Prop) (s0 : Int32) (v : V3) : Prop := (s0 = 0 ∨ s0 = 1) ∧ Q s0 v
def w_X4_isSpan_38  (Q : Int32 → V3 → Prop) (v : V3) : Prop := w_X4_isSpan_39 Q 0 v
def w_X4_isSpan (a1 : Int32) (a2 : Int32) (v : V3) (Q : Int32 → V3 → Prop) : Prop := w_X4_isBetween ((a1).toInt64) 0 (((v 8 4) - 1).toInt64) v (fun r2 v1 => ((r2 = 0 → w_X4_isSpan_38 Q v1) ∧ (¬ r2 = 0 → ((0 < (lg_cmp (((a1).toInt64) + ((a2).toInt64)) ((v1 8 4).toInt64)) → w_X4_isSpan_38 Q v1) ∧ (¬ 0 < (lg_cmp (((a1).toInt64) + ((a2).toInt64)) ((v1 8 4).toInt64)) → w_X4_isSpan_39 Q 1 v1)))))
set_option maxRecDepth 100000 in
set_option maxHeartbeats 4000000 in
theorem b_X4_isSpan_39 {p : Program} (l : Launch) {e : Env} {s : State} {m : MethodId} {args : Array Value} {below : List Frame} {meth : Method} {c : Code} {G : zG}   (C0 : Cx G RX4 cX4_isSpan 3 (some .boolean) p s m args meth c) {Q : Int32 → V3 → Prop} : ∀ (s0 : Int32) (v : V3) (H : Heap) (locs : List Loc) (ls : Array Slot), w_X4_isSpan_39 Q s0 v → Zs G s v H locs → lv_has ls 3 [] → W p l e { frames := 1, cells := 0, slots := 0, locals := 25 } s m args below meth c H locs 0 0 (MQ below (QiZ G Q) args s 0 0 (zA G)) (F0 m 39 ls [.int s0]) := by
  have hx := C0.1
  have hb := C0.2.1
  intro s0 v H locs ls hw Z hl
  rw [w_X4_isSpan_39] at hw
  obtain ⟨h4, hw⟩ := hw
  exact z_zret C0 Z h4 hw dX4_isSpan_39
set_option maxRecDepth 100000 in
set_option maxHeartbeats 4000000 in
theorem b_X4_isSpan_38 {p : Program} (l : Launch) {e : Env} {s : State} {m : MethodId} {args : Array Value} {below : List Frame} {meth : Method} {c : Code} {G : zG}   (C0 : Cx G RX4 cX4_isSpan 3 (some .boolean) p s m args meth c) {Q : Int32 → V3 → Prop} : ∀ (v : V3) (H : Heap) (locs : List Loc) (ls : Array Slot), w_X4_isSpan_38 Q v → Zs G s v H locs → lv_has ls 3 [] → W p l e { frames := 1, cells := 0, slots := 0, locals := 25 } s m args below meth c H locs 0 0 (MQ below (QiZ G Q) args s 0 0 (zA G)) (F0 m 38 ls []) := by
  have hx := C0.1
  have hb := C0.2.1
  intro v H locs ls hw Z hl
  rw [w_X4_isSpan_38] at hw
  refine lv_iconst (v := 0) hx hb dX4_isSpan_38 (by decide) ?_
  exact b_X4_isSpan_39 l C0 _ _ _ _ _ hw Z (lv_sub hl [] rfl)
set_option maxRecDepth 100000 in
set_option maxHeartbeats 4000000 in
theorem k_X4_isSpan (l : Launch) {G : zG} (hg : 129 ≤ gn G) {a1 : Int32} {a2 : Int32}  {v : V3} {Q : Int32 → V3 → Prop} (hw : w_X4_isSpan a1 a2 v Q) : Mz l yX4_isSpan cX4_isSpan 3 (some .boolean) 1 25 G [.ref (gad G 7), .int a1, .int a2] v (QiZ G Q) := by
  rw [w_X4_isSpan] at hw
  refine z_ofW hg (by decide) (Nat.le_of_ble_eq_true rfl) ?_
  intro p e s m args below meth c ls C0 Z hl
  have hx := C0.1
  have hb := C0.2.1
  replace hl : lv_has ls 3 [(0, .ref (gad G 7)), (1, .int a1), (2, .int a2)] := hl
  generalize s.heap = H at Z ⊢
  generalize ([] : List Loc) = locs at Z ⊢
  refine lv_iload_n hx hb dX4_isSpan_0 rfl (lv_at hl 1 rfl) ?_
  refine lv_i2l (v := (a1).toInt64) hx hb dX4_isSpan_1 rfl ?_
  refine lv_lconst (v := 0) hx hb dX4_isSpan_2 (by decide) ?_
  refine lv_aload_n hx hb dX4_isSpan_3 rfl (lv_at hl 0 rfl) ?_
  refine z_get C0 Z in_X4 rfl 0 (by decide) rfl tm_4_203 (cx_lt C0 (by decide)) rfl rfl dX4_isSpan_4 ?_
  refine lv_iconst (v := 4) hx hb dX4_isSpan_7 (by decide) ?_
  refine z_ialdk C0 Z (cx_lt C0 (by decide)) rfl in_4_474 nc_4 dX4_isSpan_8 ?_
  refine lv_iconst (v := 1) hx hb dX4_isSpan_9 (by decide) ?_
  refine lv_isub hx hb dX4_isSpan_10 ?_
  refine lv_i2l (v := ((v 8 4) - 1).toInt64) hx hb dX4_isSpan_11 rfl ?_
  refine z_callSi C0 Z hl.1 (As := [.long ((a1).toInt64), .long 0, .long (((v 8 4) - 1).toInt64)]) (rest := []) (k_X4_isBetween l (cx_g C0) hw) (gv_X4_isBetween tm_5_83) ds_X4_isBetween ⟨Nat.le_of_ble_eq_true rfl, Nat.le_of_ble_eq_true rfl⟩ rfl rfl (Nat.le_of_ble_eq_true rfl) ⟨Nat.le_of_ble_eq_true rfl, Nat.le_of_ble_eq_true rfl⟩ dX4_isSpan_12 (fun r2 v1 H locs hw Z => ?_)
  refine lv_if_eq (tgt := 38) hx hb dX4_isSpan_15 (by decide) (fun c3 => ?_) (fun c3 => ?_)
  · replace hw := hw.1 c3
    exact b_X4_isSpan_38 l C0 _ _ _ _ hw Z (lv_sub hl [] rfl)
  · replace hw := hw.2 c3
    refine lv_iload_n hx hb dX4_isSpan_18 rfl (lv_at hl 1 rfl) ?_
    refine lv_i2l (v := (a1).toInt64) hx hb dX4_isSpan_19 rfl ?_
    refine lv_iload_n hx hb dX4_isSpan_20 rfl (lv_at hl 2 rfl) ?_
    refine lv_i2l (v := (a2).toInt64) hx hb dX4_isSpan_21 rfl ?_
    refine lv_ladd hx hb dX4_isSpan_22 ?_
    refine lv_aload_n hx hb dX4_isSpan_23 rfl (lv_at hl 0 rfl) ?_
    refine z_get C0 Z in_X4 rfl 0 (by decide) rfl tm_4_203 (cx_lt C0 (by decide)) rfl rfl dX4_isSpan_24 ?_
    refine lv_iconst (v := 4) hx hb dX4_isSpan_27 (by decide) ?_
    refine z_ialdk C0 Z (cx_lt C0 (by decide)) rfl in_4_474 nc_4 dX4_isSpan_28 ?_
    refine lv_i2l (v := (v1 8 4).toInt64) hx hb dX4_isSpan_29 rfl ?_
    refine W.lcmp hx hb dX4_isSpan_30 ?_
    refine lv_if_gt (tgt := 38) hx hb dX4_isSpan_31 (by decide) (fun c5 => ?_) (fun c5 => ?_)
    · replace hw := hw.1 c5
      exact b_X4_isSpan_38 l C0 _ _ _ _ hw Z (lv_sub hl [] rfl)
    · replace hw := hw.2 c5
      refine lv_iconst (v := 1) hx hb dX4_isSpan_34 (by decide) ?_
      refine lv_goto (tgt := 39) hx hb dX4_isSpan_35 (by decide) ?_
      exact b_X4_isSpan_39 l C0 _ _ _ _ _ hw Z (lv_sub hl [] rfl)
-- X4_draft: room (2, 47)
theorem dX4_draft_0 : decode cX4_draft 0 = .ok (.aload_n 0, 1) := by decide +kernel
theorem dX4_draft_1 : decode cX4_draft 1 = .ok (.aload_n 0, 1) := by decide +kernel
theorem dX4_draft_2 : decode cX4_draft 2 = .ok (.iload_n 1, 1) := by decide +kernel
theorem dX4_draft_3 : decode cX4_draft 3 = .ok (.iload_n 2, 1) := by decide +kernel
theorem dX4_draft_4 : decode cX4_draft 4 = .ok (.invokevirtual 258, 3) := by decide +kernel
theorem dX4_draft_7 : decode cX4_draft 7 = .ok (.ifCond .ne 7, 3) := by decide +kernel
theorem dX4_draft_10 : decode cX4_draft 10 = .ok (.iconst 1, 1) := by decide +kernel
theorem dX4_draft_11 : decode cX4_draft 11 = .ok (.goto 25, 3) := by decide +kernel
theorem dX4_draft_14 : decode cX4_draft 14 = .ok (.iload_n 2, 1) := by decide +kernel
theorem dX4_draft_15 : decode cX4_draft 15 = .ok (.iconst 1, 1) := by decide +kernel
theorem dX4_draft_16 : decode cX4_draft 16 = .ok (.if_icmp .lt 15, 3) := by decide +kernel
theorem dX4_draft_19 : decode cX4_draft 19 = .ok (.iload_n 3, 1) := by decide +kernel
theorem dX4_draft_20 : decode cX4_draft 20 = .ok (.i2l, 1) := by decide +kernel
theorem dX4_draft_21 : decode cX4_draft 21 = .ok (.lconst 1, 1) := by decide +kernel
theorem dX4_draft_22 : decode cX4_draft 22 = .ok (.ldc2_w 261, 3) := by decide +kernel
theorem dX4_draft_25 : decode cX4_draft 25 = .ok (.invokestatic 67, 3) := by decide +kernel
theorem dX4_draft_28 : decode cX4_draft 28 = .ok (.ifCond .ne 7, 3) := by decide +kernel
theorem dX4_draft_31 : decode cX4_draft 31 = .ok (.iconst 2, 1) := by decide +kernel
theorem dX4_draft_32 : decode cX4_draft 32 = .ok (.goto 4, 3) := by decide +kernel
theorem dX4_draft_35 : decode cX4_draft 35 = .ok (.iconst 0, 1) := by decide +kernel
theorem dX4_draft_36 : decode cX4_draft 36 = .ok (.putfield 55, 3) := by decide +kernel
theorem dX4_draft_39 : decode cX4_draft 39 = .ok (.aload_n 0, 1) := by decide +kernel
theorem dX4_draft_40 : decode cX4_draft 40 = .ok (.getfield 55, 3) := by decide +kernel
theorem dX4_draft_43 : decode cX4_draft 43 = .ok (.ifCond .ne 18, 3) := by decide +kernel
theorem dX4_draft_46 : decode cX4_draft 46 = .ok (.aload_n 0, 1) := by decide +kernel
theorem dX4_draft_47 : decode cX4_draft 47 = .ok (.iload_n 1, 1) := by decide +kernel
theorem dX4_draft_48 : decode cX4_draft 48 = .ok (.putfield 58, 3) := by decide +kernel
theorem dX4_draft_51 : decode cX4_draft 51 = .ok (.aload_n 0, 1) := by decide +kernel
theorem dX4_draft_52 : decode cX4_draft 52 = .ok (.iload_n 2, 1) := by decide +kernel
theorem dX4_draft_53 : decode cX4_draft 53 = .ok (.putfield 61, 3) := by decide +kernel
theorem dX4_draft_56 : decode cX4_draft 56 = .ok (.aload_n 0, 1) := by decide +kernel
theorem dX4_draft_57 : decode cX4_draft 57 = .ok (.iload_n 3, 1) := by decide +kernel
theorem dX4_draft_58 : decode cX4_draft 58 = .ok (.putfield 64, 3) := by decide +kernel
theorem dX4_draft_61 : decode cX4_draft 61 = .ok (.return_, 1) := by decide +kernel
def w_X4_draft_61  (Q : V3 → Prop) (v : V3) : Prop := Q v
def w_X4_draft_36  (Q : V3 → Prop) (x1 : Int32) (x2 : Int32) (x3 : Int32) (s1 : Int32) (v : V3) : Prop := ∀ v5 : V3, v5 = up2 v 7 11 s1 → ((¬ (v5 7 11) = 0 → w_X4_draft_61 Q v5) ∧ ((v5 7 11) = 0 → ∀ v7 : V3, v7 = up2 v5 7 8 x1 → ∀ v8 : V3, v8 = up2 v7 7 9 x2 → ∀ v9 : V3, v9 = up2 v8 7 10 x3 → w_X4_draft_61 Q v9))
def w_X4_draft_31  (Q : V3 → Prop) (x1 : Int32) (x2 : Int32) (x3 : Int32) (v : V3) : Prop := w_X4_draft_36 Q x1 x2 x3 2 v
def w_X4_draft (a1 : Int32) (a2 : Int32) (a3 : Int32) (v : V3) (Q : V3 → Prop) : Prop := w_X4_isSpan a1 a2 v (fun r2 v1 => ((¬ r2 = 0 → ((a2 < 1 → w_X4_draft_31 Q a1 a2 a3 v1) ∧ (¬ a2 < 1 → w_X4_isBetween ((a3).toInt64) 1 99 v1 (fun r11 v10 => ((¬ r11 = 0 → w_X4_draft_36 Q a1 a2 a3 0 v10) ∧ (r11 = 0 → w_X4_draft_31 Q a1 a2 a3 v10)))))) ∧ (r2 = 0 → w_X4_draft_36 Q a1 a2 a3 1 v1)))
set_option maxRecDepth 100000 in
set_option maxHeartbeats 4000000 in
theorem b_X4_draft_61 {p : Program} (l : Launch) {e : Env} {s : State} {m : MethodId} {args : Array Value} {below : List Frame} {meth : Method} {c : Code} {G : zG}   (C0 : Cx G RX4 cX4_draft 4 none p s m args meth c) {Q : V3 → Prop} : ∀ (v : V3) (H : Heap) (locs : List Loc) (ls : Array Slot), w_X4_draft_61 Q v → Zs G s v H locs → lv_has ls 4 [] → W p l e { frames := 2, cells := 0, slots := 0, locals := 47 } s m args below meth c H locs 0 0 (MQ below (QvZ G Q) args s 0 0 (zA G)) (F0 m 61 ls []) := by
  have hx := C0.1
  have hb := C0.2.1
  intro v H locs ls hw Z hl
  rw [w_X4_draft_61] at hw
  exact z_vret C0 Z hw dX4_draft_61
set_option maxRecDepth 100000 in
set_option maxHeartbeats 4000000 in
theorem b_X4_draft_36 {p : Program} (l : Launch) {e : Env} {s : State} {m : MethodId} {args : Array Value} {below : List Frame} {meth : Method} {c : Code} {G : zG}   (C0 : Cx G RX4 cX4_draft 4 none p s m args meth c) {Q : V3 → Prop} : ∀ (x1 : Int32) (x2 : Int32) (x3 : Int32) (s1 : Int32) (v : V3) (H : Heap) (locs : List Loc) (ls : Array Slot), w_X4_draft_36 Q x1 x2 x3 s1 v → Zs G s v H locs → lv_has ls 4 [(0, .ref (gad G 7)), (1, .int x1), (2, .int x2), (3, .int x3)] → W p l e { frames := 2, cells := 0, slots := 0, locals := 47 } s m args below meth c H locs 0 0 (MQ below (QvZ G Q) args s 0 0 (zA G)) (F0 m 36 ls [.int s1, .ref (gad G 7)]) := by
  have hx := C0.1
  have hb := C0.2.1
  intro x1 x2 x3 s1 v H locs ls hw Z hl
  rw [w_X4_draft_36] at hw
  refine z_put C0 Z in_X4 tyX4_ok nmX4 rfl 11 (by decide) rfl rfl tm_4_214 (cx_lt C0 (by decide)) rfl p_X4_11 (fun c' h => up2_off _ _ _ h) rfl rfl (Nat.le_of_ble_eq_true rfl) dX4_draft_36 (fun H locs Z => ?_)
  obtain ⟨v5, ev5⟩ : ∃ z : V3, z = up2 v 7 11 s1 := ⟨_, rfl⟩
  rw [← ev5] at Z
  replace hw := hw v5 ev5
  refine lv_aload_n hx hb dX4_draft_39 rfl (lv_at hl 0 rfl) ?_
  refine z_get C0 Z in_X4 rfl 11 (by decide) rfl tm_4_214 (cx_lt C0 (by decide)) rfl rfl dX4_draft_40 ?_
  refine lv_if_ne (tgt := 61) hx hb dX4_draft_43 (by decide) (fun c6 => ?_) (fun c6 => ?_)
  · replace hw := hw.1 c6
    exact b_X4_draft_61 l C0 _ _ _ _ hw Z (lv_sub hl [] rfl)
  · replace hw := hw.2 c6
    refine lv_aload_n hx hb dX4_draft_46 rfl (lv_at hl 0 rfl) ?_
    refine lv_iload_n hx hb dX4_draft_47 rfl (lv_at hl 1 rfl) ?_
    refine z_put C0 Z in_X4 tyX4_ok nmX4 rfl 8 (by decide) rfl rfl tm_4_211 (cx_lt C0 (by decide)) rfl p_X4_8 (fun c' h => up2_off _ _ _ h) rfl rfl (Nat.le_of_ble_eq_true rfl) dX4_draft_48 (fun H locs Z => ?_)
    obtain ⟨v7, ev7⟩ : ∃ z : V3, z = up2 v5 7 8 x1 := ⟨_, rfl⟩
    rw [← ev7] at Z
    replace hw := hw v7 ev7
    refine lv_aload_n hx hb dX4_draft_51 rfl (lv_at hl 0 rfl) ?_
    refine lv_iload_n hx hb dX4_draft_52 rfl (lv_at hl 2 rfl) ?_
    refine z_put C0 Z in_X4 tyX4_ok nmX4 rfl 9 (by decide) rfl rfl tm_4_212 (cx_lt C0 (by decide)) rfl p_X4_9 (fun c' h => up2_off _ _ _ h) rfl rfl (Nat.le_of_ble_eq_true rfl) dX4_draft_53 (fun H locs Z => ?_)
    obtain ⟨v8, ev8⟩ : ∃ z : V3, z = up2 v7 7 9 x2 := ⟨_, rfl⟩
    rw [← ev8] at Z
    replace hw := hw v8 ev8
    refine lv_aload_n hx hb dX4_draft_56 rfl (lv_at hl 0 rfl) ?_
    refine lv_iload_n hx hb dX4_draft_57 rfl (lv_at hl 3 rfl) ?_
    refine z_put C0 Z in_X4 tyX4_ok nmX4 rfl 10 (by decide) rfl rfl tm_4_213 (cx_lt C0 (by decide)) rfl p_X4_10 (fun c' h => up2_off _ _ _ h) rfl rfl (Nat.le_of_ble_eq_true rfl) dX4_draft_58 (fun H locs Z => ?_)
    obtain ⟨v9, ev9⟩ : ∃ z : V3, z = up2 v8 7 10 x3 := ⟨_, rfl⟩
    rw [← ev9] at Z
    replace hw := hw v9 ev9
    exact b_X4_draft_61 l C0 _ _ _ _ hw Z (lv_sub hl [] rfl)
set_option maxRecDepth 100000 in
set_option maxHeartbeats 4000000 in
theorem b_X4_draft_31 {p : Program} (l : Launch) {e : Env} {s : State} {m : MethodId} {args : Array Value} {below : List Frame} {meth : Method} {c : Code} {G : zG}   (C0 : Cx G RX4 cX4_draft 4 none p s m args meth c) {Q : V3 → Prop} : ∀ (x1 : Int32) (x2 : Int32) (x3 : Int32) (v : V3) (H : Heap) (locs : List Loc) (ls : Array Slot), w_X4_draft_31 Q x1 x2 x3 v → Zs G s v H locs → lv_has ls 4 [(0, .ref (gad G 7)), (1, .int x1), (2, .int x2), (3, .int x3)] → W p l e { frames := 2, cells := 0, slots := 0, locals := 47 } s m args below meth c H locs 0 0 (MQ below (QvZ G Q) args s 0 0 (zA G)) (F0 m 31 ls [.ref (gad G 7)]) := by
  have hx := C0.1
  have hb := C0.2.1
  intro x1 x2 x3 v H locs ls hw Z hl
  rw [w_X4_draft_31] at hw
  refine lv_iconst (v := 2) hx hb dX4_draft_31 (by decide) ?_
  refine lv_goto (tgt := 36) hx hb dX4_draft_32 (by decide) ?_
  exact b_X4_draft_36 l C0 _ _ _ _ _ _ _ _ hw Z (lv_sub hl [0, 1, 2, 3] rfl)
set_option maxRecDepth 100000 in
set_option maxHeartbeats 4000000 in
theorem k_X4_draft (l : Launch) {G : zG} (hg : 129 ≤ gn G) {a1 : Int32} {a2 : Int32} {a3 : Int32}  {v : V3} {Q : V3 → Prop} (hw : w_X4_draft a1 a2 a3 v Q) : Mz l yX4_draft cX4_draft 4 none 2 47 G [.ref (gad G 7), .int a1, .int a2, .int a3] v (QvZ G Q) := by
  rw [w_X4_draft] at hw
  refine z_ofW hg (by decide) (Nat.le_of_ble_eq_true rfl) ?_
  intro p e s m args below meth c ls C0 Z hl
  have hx := C0.1
  have hb := C0.2.1
  replace hl : lv_has ls 4 [(0, .ref (gad G 7)), (1, .int a1), (2, .int a2), (3, .int a3)] := hl
  generalize s.heap = H at Z ⊢
  generalize ([] : List Loc) = locs at Z ⊢
  refine lv_aload_n hx hb dX4_draft_0 rfl (lv_at hl 0 rfl) ?_
  refine lv_aload_n hx hb dX4_draft_1 rfl (lv_at hl 0 rfl) ?_
  refine lv_iload_n hx hb dX4_draft_2 rfl (lv_at hl 1 rfl) ?_
  refine lv_iload_n hx hb dX4_draft_3 rfl (lv_at hl 2 rfl) ?_
  refine z_callVi C0 Z hl.1 (As := [.int a1, .int a2]) (rest := [.ref (gad G 7)]) (k_X4_isSpan l (cx_g C0) hw) (gv_X4_isSpan tm_6_60) rfl ds_X4_isSpan ⟨Nat.le_of_ble_eq_true rfl, Nat.le_of_ble_eq_true rfl⟩ (ci := 4) rfl (cx_lt C0 (by decide)) rfl rfl rfl (Nat.le_of_ble_eq_true rfl) ⟨Nat.le_of_ble_eq_true rfl, Nat.le_of_ble_eq_true rfl⟩ dX4_draft_4 (fun r2 v1 H locs hw Z => ?_)
  refine lv_if_ne (tgt := 14) hx hb dX4_draft_7 (by decide) (fun c3 => ?_) (fun c3 => ?_)
  · replace hw := hw.1 c3
    refine lv_iload_n hx hb dX4_draft_14 rfl (lv_at hl 2 rfl) ?_
    refine lv_iconst (v := 1) hx hb dX4_draft_15 (by decide) ?_
    refine lv_icmp_lt (tgt := 31) hx hb dX4_draft_16 (by decide) (fun c4 => ?_) (fun c4 => ?_)
    · replace hw := hw.1 c4
      exact b_X4_draft_31 l C0 _ _ _ _ _ _ _ hw Z (lv_sub hl [0, 1, 2, 3] rfl)
    · replace hw := hw.2 c4
      refine lv_iload_n hx hb dX4_draft_19 rfl (lv_at hl 3 rfl) ?_
      refine lv_i2l (v := (a3).toInt64) hx hb dX4_draft_20 rfl ?_
      refine lv_lconst (v := 1) hx hb dX4_draft_21 (by decide) ?_
      refine lv_ldc2 hx hb (cx_own C0) (cx_w C0 tm_6_64) dX4_draft_22 ?_
      refine z_callSi C0 Z hl.1 (As := [.long ((a3).toInt64), .long 1, .long 99]) (rest := [.ref (gad G 7)]) (k_X4_isBetween l (cx_g C0) hw) (gv_X4_isBetween tm_5_83) ds_X4_isBetween ⟨Nat.le_of_ble_eq_true rfl, Nat.le_of_ble_eq_true rfl⟩ rfl rfl (Nat.le_of_ble_eq_true rfl) ⟨Nat.le_of_ble_eq_true rfl, Nat.le_of_ble_eq_true rfl⟩ dX4_draft_25 (fun r11 v10 H locs hw Z => ?_)
      refine lv_if_ne (tgt := 35) hx hb dX4_draft_28 (by decide) (fun c12 => ?_) (fun c12 => ?_)
      · replace hw := hw.1 c12
        refine lv_iconst (v := 0) hx hb dX4_draft_35 (by decide) ?_
        exact b_X4_draft_36 l C0 _ _ _ _ _ _ _ _ hw Z (lv_sub hl [0, 1, 2, 3] rfl)
      · replace hw := hw.2 c12
        exact b_X4_draft_31 l C0 _ _ _ _ _ _ _ hw Z (lv_sub hl [0, 1, 2, 3] rfl)
  · replace hw := hw.2 c3
    refine lv_iconst (v := 1) hx hb dX4_draft_10 (by decide) ?_
    refine lv_goto (tgt := 36) hx hb dX4_draft_11 (by decide) ?_
    exact b_X4_draft_36 l C0 _ _ _ _ _ _ _ _ hw Z (lv_sub hl [0, 1, 2, 3] rfl)
-- X4_isTaken: room (2, 43)
theorem dX4_isTaken_0 : decode cX4_isTaken 0 = .ok (.iconst 0, 1) := by decide +kernel
theorem dX4_isTaken_1 : decode cX4_isTaken 1 = .ok (.istore 7, 2) := by decide +kernel
theorem dX4_isTaken_3 : decode cX4_isTaken 3 = .ok (.iload 7, 2) := by decide +kernel
theorem dX4_isTaken_5 : decode cX4_isTaken 5 = .ok (.aload_n 0, 1) := by decide +kernel
theorem dX4_isTaken_6 : decode cX4_isTaken 6 = .ok (.getfield 7, 3) := by decide +kernel
theorem dX4_isTaken_9 : decode cX4_isTaken 9 = .ok (.bipush 6, 2) := by decide +kernel
theorem dX4_isTaken_11 : decode cX4_isTaken 11 = .ok (.iaload, 1) := by decide +kernel
theorem dX4_isTaken_12 : decode cX4_isTaken 12 = .ok (.if_icmp .ge 122, 3) := by decide +kernel
theorem dX4_isTaken_15 : decode cX4_isTaken 15 = .ok (.iload_n 1, 1) := by decide +kernel
theorem dX4_isTaken_16 : decode cX4_isTaken 16 = .ok (.aload_n 0, 1) := by decide +kernel
theorem dX4_isTaken_17 : decode cX4_isTaken 17 = .ok (.iload 7, 2) := by decide +kernel
theorem dX4_isTaken_19 : decode cX4_isTaken 19 = .ok (.iconst 1, 1) := by decide +kernel
theorem dX4_isTaken_20 : decode cX4_isTaken 20 = .ok (.invokevirtual 71, 3) := by decide +kernel
theorem dX4_isTaken_23 : decode cX4_isTaken 23 = .ok (.aload_n 0, 1) := by decide +kernel
theorem dX4_isTaken_24 : decode cX4_isTaken 24 = .ok (.iload 7, 2) := by decide +kernel
theorem dX4_isTaken_26 : decode cX4_isTaken 26 = .ok (.iconst 2, 1) := by decide +kernel
theorem dX4_isTaken_27 : decode cX4_isTaken 27 = .ok (.invokevirtual 71, 3) := by decide +kernel
theorem dX4_isTaken_30 : decode cX4_isTaken 30 = .ok (.iadd, 1) := by decide +kernel
theorem dX4_isTaken_31 : decode cX4_isTaken 31 = .ok (.if_icmp .ge 45, 3) := by decide +kernel
theorem dX4_isTaken_34 : decode cX4_isTaken 34 = .ok (.aload_n 0, 1) := by decide +kernel
theorem dX4_isTaken_35 : decode cX4_isTaken 35 = .ok (.iload 7, 2) := by decide +kernel
theorem dX4_isTaken_37 : decode cX4_isTaken 37 = .ok (.iconst 1, 1) := by decide +kernel
theorem dX4_isTaken_38 : decode cX4_isTaken 38 = .ok (.invokevirtual 71, 3) := by decide +kernel
theorem dX4_isTaken_41 : decode cX4_isTaken 41 = .ok (.iload_n 1, 1) := by decide +kernel
theorem dX4_isTaken_42 : decode cX4_isTaken 42 = .ok (.iload_n 2, 1) := by decide +kernel
theorem dX4_isTaken_43 : decode cX4_isTaken 43 = .ok (.iadd, 1) := by decide +kernel
theorem dX4_isTaken_44 : decode cX4_isTaken 44 = .ok (.if_icmp .ge 32, 3) := by decide +kernel
theorem dX4_isTaken_47 : decode cX4_isTaken 47 = .ok (.iload_n 3, 1) := by decide +kernel
theorem dX4_isTaken_48 : decode cX4_isTaken 48 = .ok (.aload_n 0, 1) := by decide +kernel
theorem dX4_isTaken_49 : decode cX4_isTaken 49 = .ok (.iload 7, 2) := by decide +kernel
theorem dX4_isTaken_51 : decode cX4_isTaken 51 = .ok (.bipush 9, 2) := by decide +kernel
theorem dX4_isTaken_53 : decode cX4_isTaken 53 = .ok (.invokevirtual 71, 3) := by decide +kernel
theorem dX4_isTaken_56 : decode cX4_isTaken 56 = .ok (.if_icmp .ge 20, 3) := by decide +kernel
theorem dX4_isTaken_59 : decode cX4_isTaken 59 = .ok (.aload_n 0, 1) := by decide +kernel
theorem dX4_isTaken_60 : decode cX4_isTaken 60 = .ok (.iload 7, 2) := by decide +kernel
theorem dX4_isTaken_62 : decode cX4_isTaken 62 = .ok (.bipush 8, 2) := by decide +kernel
theorem dX4_isTaken_64 : decode cX4_isTaken 64 = .ok (.invokevirtual 71, 3) := by decide +kernel
theorem dX4_isTaken_67 : decode cX4_isTaken 67 = .ok (.iload 4, 2) := by decide +kernel
theorem dX4_isTaken_69 : decode cX4_isTaken 69 = .ok (.if_icmp .ge 7, 3) := by decide +kernel
theorem dX4_isTaken_72 : decode cX4_isTaken 72 = .ok (.iconst 1, 1) := by decide +kernel
theorem dX4_isTaken_73 : decode cX4_isTaken 73 = .ok (.goto 4, 3) := by decide +kernel
theorem dX4_isTaken_76 : decode cX4_isTaken 76 = .ok (.iconst 0, 1) := by decide +kernel
theorem dX4_isTaken_77 : decode cX4_isTaken 77 = .ok (.istore 8, 2) := by decide +kernel
theorem dX4_isTaken_79 : decode cX4_isTaken 79 = .ok (.iload 7, 2) := by decide +kernel
theorem dX4_isTaken_81 : decode cX4_isTaken 81 = .ok (.iload 5, 2) := by decide +kernel
theorem dX4_isTaken_83 : decode cX4_isTaken 83 = .ok (.if_icmp .eq 45, 3) := by decide +kernel
theorem dX4_isTaken_86 : decode cX4_isTaken 86 = .ok (.iload 7, 2) := by decide +kernel
theorem dX4_isTaken_88 : decode cX4_isTaken 88 = .ok (.iload 6, 2) := by decide +kernel
theorem dX4_isTaken_90 : decode cX4_isTaken 90 = .ok (.if_icmp .eq 38, 3) := by decide +kernel
theorem dX4_isTaken_93 : decode cX4_isTaken 93 = .ok (.aload_n 0, 1) := by decide +kernel
theorem dX4_isTaken_94 : decode cX4_isTaken 94 = .ok (.iload 7, 2) := by decide +kernel
theorem dX4_isTaken_96 : decode cX4_isTaken 96 = .ok (.invokevirtual 210, 3) := by decide +kernel
theorem dX4_isTaken_99 : decode cX4_isTaken 99 = .ok (.ifCond .eq 29, 3) := by decide +kernel
theorem dX4_isTaken_102 : decode cX4_isTaken 102 = .ok (.iload 8, 2) := by decide +kernel
theorem dX4_isTaken_104 : decode cX4_isTaken 104 = .ok (.ifCond .eq 24, 3) := by decide +kernel
theorem dX4_isTaken_107 : decode cX4_isTaken 107 = .ok (.aload_n 0, 1) := by decide +kernel
theorem dX4_isTaken_108 : decode cX4_isTaken 108 = .ok (.iload 7, 2) := by decide +kernel
theorem dX4_isTaken_110 : decode cX4_isTaken 110 = .ok (.bipush 8, 2) := by decide +kernel
theorem dX4_isTaken_112 : decode cX4_isTaken 112 = .ok (.invokevirtual 71, 3) := by decide +kernel
theorem dX4_isTaken_115 : decode cX4_isTaken 115 = .ok (.aload_n 0, 1) := by decide +kernel
theorem dX4_isTaken_116 : decode cX4_isTaken 116 = .ok (.iload 7, 2) := by decide +kernel
theorem dX4_isTaken_118 : decode cX4_isTaken 118 = .ok (.bipush 9, 2) := by decide +kernel
theorem dX4_isTaken_120 : decode cX4_isTaken 120 = .ok (.invokevirtual 71, 3) := by decide +kernel
theorem dX4_isTaken_123 : decode cX4_isTaken 123 = .ok (.if_icmp .ge 5, 3) := by decide +kernel
theorem dX4_isTaken_126 : decode cX4_isTaken 126 = .ok (.iconst 1, 1) := by decide +kernel
theorem dX4_isTaken_127 : decode cX4_isTaken 127 = .ok (.ireturn, 1) := by decide +kernel
theorem dX4_isTaken_128 : decode cX4_isTaken 128 = .ok (.iinc 7 1, 3) := by decide +kernel
theorem dX4_isTaken_131 : decode cX4_isTaken 131 = .ok (.goto (-128), 3) := by decide +kernel
theorem dX4_isTaken_134 : decode cX4_isTaken 134 = .ok (.iconst 0, 1) := by decide +kernel
theorem dX4_isTaken_135 : decode cX4_isTaken 135 = .ok (.ireturn, 1) := by decide +kernel
def w_X4_isTaken_128  (Q : Int32 → V3 → Prop) (K3 : Int32 → Int32 → Int32 → Int32 → Int32 → Int32 → Int32 → V3 → Prop) (x1 : Int32) (x2 : Int32) (x3 : Int32) (x4 : Int32) (x5 : Int32) (x6 : Int32) (x7 : Int32) (v : V3) : Prop := K3 x1 x2 x3 x4 x5 x6 (x7 + 1) v
def w_X4_isTaken_77  (Q : Int32 → V3 → Prop) (K3 : Int32 → Int32 → Int32 → Int32 → Int32 → Int32 → Int32 → V3 → Prop) (x1 : Int32) (x2 : Int32) (x3 : Int32) (x4 : Int32) (x5 : Int32) (x6 : Int32) (x7 : Int32) (s0 : Int32) (v : V3) : Prop := ((x7 = x5 → w_X4_isTaken_128 Q K3 x1 x2 x3 x4 x5 x6 x7 v) ∧ (¬ x7 = x5 → ((x7 = x6 → w_X4_isTaken_128 Q K3 x1 x2 x3 x4 x5 x6 x7 v) ∧ (¬ x7 = x6 → w_X4_isLive x7 v (fun r10 v9 => ((r10 = 0 → w_X4_isTaken_128 Q K3 x1 x2 x3 x4 x5 x6 x7 v9) ∧ (¬ r10 = 0 → ((s0 = 0 → w_X4_isTaken_128 Q K3 x1 x2 x3 x4 x5 x6 x7 v9) ∧ (¬ s0 = 0 → w_X4_of x7 8 v9 (fun r14 v13 => w_X4_of x7 9 v13 (fun r16 v15 => ((r16 ≤ r14 → w_X4_isTaken_128 Q K3 x1 x2 x3 x4 x5 x6 x7 v15) ∧ (¬ r16 ≤ r14 → Q 1 v15)))))))))))))
def w_X4_isTaken_76  (Q : Int32 → V3 → Prop) (K3 : Int32 → Int32 → Int32 → Int32 → Int32 → Int32 → Int32 → V3 → Prop) (x1 : Int32) (x2 : Int32) (x3 : Int32) (x4 : Int32) (x5 : Int32) (x6 : Int32) (x7 : Int32) (v : V3) : Prop := w_X4_isTaken_77 Q K3 x1 x2 x3 x4 x5 x6 x7 0 v
def w_X4_isTaken_3  (Q : Int32 → V3 → Prop) : Nat → Int32 → Int32 → Int32 → Int32 → Int32 → Int32 → Int32 → V3 → Prop
  | 0, _, _, _, _, _, _, _, _ => False
  | n3 + 1, x1, x2, x3, x4, x5, x6, x7, v => (((v 8 6) ≤ x7 → Q 0 v) ∧ (¬ (v 8 6) ≤ x7 → w_X4_of x7 1 v (fun r3 v2 => w_X4_of x7 2 v2 (fun r5 v4 => (((r3 + r5) ≤ x1 → w_X4_isTaken_76 Q (w_X4_isTaken_3 Q n3) x1 x2 x3 x4 x5 x6 x7 v4) ∧ (¬ (r3 + r5) ≤ x1 → w_X4_of x7 1 v4 (fun r19 v18 => (((x1 + x2) ≤ r19 → w_X4_isTaken_76 Q (w_X4_isTaken_3 Q n3) x1 x2 x3 x4 x5 x6 x7 v18) ∧ (¬ (x1 + x2) ≤ r19 → w_X4_of x7 9 v18 (fun r22 v21 => ((r22 ≤ x3 → w_X4_isTaken_76 Q (w_X4_isTaken_3 Q n3) x1 x2 x3 x4 x5 x6 x7 v21) ∧ (¬ r22 ≤ x3 → w_X4_of x7 8 v21 (fun r25 v24 => ((x4 ≤ r25 → w_X4_isTaken_76 Q (w_X4_isTaken_3 Q n3) x1 x2 x3 x4 x5 x6 x7 v24) ∧ (¬ x4 ≤ r25 → w_X4_isTaken_77 Q (w_X4_isTaken_3 Q n3) x1 x2 x3 x4 x5 x6 x7 1 v24)))))))))))))))
def w_X4_isTaken (a1 : Int32) (a2 : Int32) (a3 : Int32) (a4 : Int32) (a5 : Int32) (a6 : Int32) (v : V3) (Q : Int32 → V3 → Prop) : Prop := ∃ m3 : Nat, w_X4_isTaken_3 Q m3 a1 a2 a3 a4 a5 a6 0 v
set_option maxRecDepth 100000 in
set_option maxHeartbeats 4000000 in
theorem b_X4_isTaken_128 {p : Program} (l : Launch) {e : Env} {s : State} {m : MethodId} {args : Array Value} {below : List Frame} {meth : Method} {c : Code} {G : zG}   (C0 : Cx G RX4 cX4_isTaken 9 (some .boolean) p s m args meth c) {Q : Int32 → V3 → Prop} {K3 : Int32 → Int32 → Int32 → Int32 → Int32 → Int32 → Int32 → V3 → Prop} (hK3 : ∀ (x1 : Int32) (x2 : Int32) (x3 : Int32) (x4 : Int32) (x5 : Int32) (x6 : Int32) (x7 : Int32) (v : V3) (H : Heap) (locs : List Loc) (ls : Array Slot), K3 x1 x2 x3 x4 x5 x6 x7 v → Zs G s v H locs → lv_has ls 9 [(0, .ref (gad G 7)), (1, .int x1), (2, .int x2), (3, .int x3), (4, .int x4), (5, .int x5), (6, .int x6), (7, .int x7)] → W p l e { frames := 2, cells := 0, slots := 0, locals := 43 } s m args below meth c H locs 0 0 (MQ below (QiZ G Q) args s 0 0 (zA G)) (F0 m 3 ls [])) : ∀ (x1 : Int32) (x2 : Int32) (x3 : Int32) (x4 : Int32) (x5 : Int32) (x6 : Int32) (x7 : Int32) (v : V3) (H : Heap) (locs : List Loc) (ls : Array Slot), w_X4_isTaken_128 Q K3 x1 x2 x3 x4 x5 x6 x7 v → Zs G s v H locs → lv_has ls 9 [(0, .ref (gad G 7)), (1, .int x1), (2, .int x2), (3, .int x3), (4, .int x4), (5, .int x5), (6, .int x6), (7, .int x7)] → W p l e { frames := 2, cells := 0, slots := 0, locals := 43 } s m args below meth c H locs 0 0 (MQ below (QiZ G Q) args s 0 0 (zA G)) (F0 m 128 ls []) := by
  have hx := C0.1
  have hb := C0.2.1
  intro x1 x2 x3 x4 x5 x6 x7 v H locs ls hw Z hl
  rw [w_X4_isTaken_128] at hw
  refine lv_iinc (v := x7 + 1) (lv' := [(7, .int (x7 + 1)), (0, .ref (gad G 7)), (1, .int x1), (2, .int x2), (3, .int x3), (4, .int x4), (5, .int x5), (6, .int x6)]) hx hb dX4_isTaken_128 hl (k := 7) rfl rfl (by decide) rfl (fun ls hl => ?_)
  refine lv_goto (tgt := 3) hx hb dX4_isTaken_131 (by decide) ?_
  exact hK3 _ _ _ _ _ _ _ _ _ _ _ hw Z (lv_sub hl [1, 2, 3, 4, 5, 6, 7, 0] rfl)
set_option maxRecDepth 100000 in
set_option maxHeartbeats 4000000 in
theorem b_X4_isTaken_77 {p : Program} (l : Launch) {e : Env} {s : State} {m : MethodId} {args : Array Value} {below : List Frame} {meth : Method} {c : Code} {G : zG}   (C0 : Cx G RX4 cX4_isTaken 9 (some .boolean) p s m args meth c) {Q : Int32 → V3 → Prop} {K3 : Int32 → Int32 → Int32 → Int32 → Int32 → Int32 → Int32 → V3 → Prop} (hK3 : ∀ (x1 : Int32) (x2 : Int32) (x3 : Int32) (x4 : Int32) (x5 : Int32) (x6 : Int32) (x7 : Int32) (v : V3) (H : Heap) (locs : List Loc) (ls : Array Slot), K3 x1 x2 x3 x4 x5 x6 x7 v → Zs G s v H locs → lv_has ls 9 [(0, .ref (gad G 7)), (1, .int x1), (2, .int x2), (3, .int x3), (4, .int x4), (5, .int x5), (6, .int x6), (7, .int x7)] → W p l e { frames := 2, cells := 0, slots := 0, locals := 43 } s m args below meth c H locs 0 0 (MQ below (QiZ G Q) args s 0 0 (zA G)) (F0 m 3 ls [])) : ∀ (x1 : Int32) (x2 : Int32) (x3 : Int32) (x4 : Int32) (x5 : Int32) (x6 : Int32) (x7 : Int32) (s0 : Int32) (v : V3) (H : Heap) (locs : List Loc) (ls : Array Slot), w_X4_isTaken_77 Q K3 x1 x2 x3 x4 x5 x6 x7 s0 v → Zs G s v H locs → lv_has ls 9 [(0, .ref (gad G 7)), (1, .int x1), (2, .int x2), (3, .int x3), (4, .int x4), (5, .int x5), (6, .int x6), (7, .int x7)] → W p l e { frames := 2, cells := 0, slots := 0, locals := 43 } s m args below meth c H locs 0 0 (MQ below (QiZ G Q) args s 0 0 (zA G)) (F0 m 77 ls [.int s0]) := by
  have hx := C0.1
  have hb := C0.2.1
  intro x1 x2 x3 x4 x5 x6 x7 s0 v H locs ls hw Z hl
  rw [w_X4_isTaken_77] at hw
  refine lv_istore (lv' := [(8, .int s0), (0, .ref (gad G 7)), (1, .int x1), (2, .int x2), (3, .int x3), (4, .int x4), (5, .int x5), (6, .int x6), (7, .int x7)]) hx hb dX4_isTaken_77 hl (by decide) rfl (fun ls hl => ?_)
  refine lv_iload hx hb dX4_isTaken_79 (lv_at hl 8 rfl) ?_
  refine lv_iload hx hb dX4_isTaken_81 (lv_at hl 6 rfl) ?_
  refine lv_icmp_eq (tgt := 128) hx hb dX4_isTaken_83 (by decide) (fun c7 => ?_) (fun c7 => ?_)
  · replace hw := hw.1 c7
    exact b_X4_isTaken_128 l C0 hK3 _ _ _ _ _ _ _ _ _ _ _ hw Z (lv_sub hl [1, 2, 3, 4, 5, 6, 7, 8] rfl)
  · replace hw := hw.2 c7
    refine lv_iload hx hb dX4_isTaken_86 (lv_at hl 8 rfl) ?_
    refine lv_iload hx hb dX4_isTaken_88 (lv_at hl 7 rfl) ?_
    refine lv_icmp_eq (tgt := 128) hx hb dX4_isTaken_90 (by decide) (fun c8 => ?_) (fun c8 => ?_)
    · replace hw := hw.1 c8
      exact b_X4_isTaken_128 l C0 hK3 _ _ _ _ _ _ _ _ _ _ _ hw Z (lv_sub hl [1, 2, 3, 4, 5, 6, 7, 8] rfl)
    · replace hw := hw.2 c8
      refine lv_aload_n hx hb dX4_isTaken_93 rfl (lv_at hl 1 rfl) ?_
      refine lv_iload hx hb dX4_isTaken_94 (lv_at hl 8 rfl) ?_
      refine z_callVi C0 Z hl.1 (As := [.int x7]) (rest := []) (k_X4_isLive l (cx_g C0) hw) (gv_X4_isLive tm_5_202) rfl ds_X4_isLive ⟨Nat.le_of_ble_eq_true rfl, Nat.le_of_ble_eq_true rfl⟩ (ci := 4) rfl (cx_lt C0 (by decide)) rfl rfl rfl (Nat.le_of_ble_eq_true rfl) ⟨Nat.le_of_ble_eq_true rfl, Nat.le_of_ble_eq_true rfl⟩ dX4_isTaken_96 (fun r10 v9 H locs hw Z => ?_)
      refine lv_if_eq (tgt := 128) hx hb dX4_isTaken_99 (by decide) (fun c11 => ?_) (fun c11 => ?_)
      · replace hw := hw.1 c11
        exact b_X4_isTaken_128 l C0 hK3 _ _ _ _ _ _ _ _ _ _ _ hw Z (lv_sub hl [1, 2, 3, 4, 5, 6, 7, 8] rfl)
      · replace hw := hw.2 c11
        refine lv_iload hx hb dX4_isTaken_102 (lv_at hl 0 rfl) ?_
        refine lv_if_eq (tgt := 128) hx hb dX4_isTaken_104 (by decide) (fun c12 => ?_) (fun c12 => ?_)
        · replace hw := hw.1 c12
          exact b_X4_isTaken_128 l C0 hK3 _ _ _ _ _ _ _ _ _ _ _ hw Z (lv_sub hl [1, 2, 3, 4, 5, 6, 7, 8] rfl)
        · replace hw := hw.2 c12
          refine lv_aload_n hx hb dX4_isTaken_107 rfl (lv_at hl 1 rfl) ?_
          refine lv_iload hx hb dX4_isTaken_108 (lv_at hl 8 rfl) ?_
          refine lv_bipush (v := 8) hx hb dX4_isTaken_110 (by decide) ?_
          refine z_callVi C0 Z hl.1 (As := [.int x7, .int 8]) (rest := []) (k_X4_of l (cx_g C0) hw) (gv_X4_of tm_5_163) rfl ds_X4_of ⟨Nat.le_of_ble_eq_true rfl, Nat.le_of_ble_eq_true rfl⟩ (ci := 4) rfl (cx_lt C0 (by decide)) rfl rfl rfl (Nat.le_of_ble_eq_true rfl) ⟨Nat.le_of_ble_eq_true rfl, Nat.le_of_ble_eq_true rfl⟩ dX4_isTaken_112 (fun r14 v13 H locs hw Z => ?_)
          refine lv_aload_n hx hb dX4_isTaken_115 rfl (lv_at hl 1 rfl) ?_
          refine lv_iload hx hb dX4_isTaken_116 (lv_at hl 8 rfl) ?_
          refine lv_bipush (v := 9) hx hb dX4_isTaken_118 (by decide) ?_
          refine z_callVi C0 Z hl.1 (As := [.int x7, .int 9]) (rest := [.int r14]) (k_X4_of l (cx_g C0) hw) (gv_X4_of tm_5_163) rfl ds_X4_of ⟨Nat.le_of_ble_eq_true rfl, Nat.le_of_ble_eq_true rfl⟩ (ci := 4) rfl (cx_lt C0 (by decide)) rfl rfl rfl (Nat.le_of_ble_eq_true rfl) ⟨Nat.le_of_ble_eq_true rfl, Nat.le_of_ble_eq_true rfl⟩ dX4_isTaken_120 (fun r16 v15 H locs hw Z => ?_)
          refine lv_icmp_ge (tgt := 128) hx hb dX4_isTaken_123 (by decide) (fun c17 => ?_) (fun c17 => ?_)
          · replace hw := hw.1 c17
            exact b_X4_isTaken_128 l C0 hK3 _ _ _ _ _ _ _ _ _ _ _ hw Z (lv_sub hl [1, 2, 3, 4, 5, 6, 7, 8] rfl)
          · replace hw := hw.2 c17
            refine lv_iconst (v := 1) hx hb dX4_isTaken_126 (by decide) ?_
            exact z_zret C0 Z (by decide) hw dX4_isTaken_127
set_option maxRecDepth 100000 in
set_option maxHeartbeats 4000000 in
theorem b_X4_isTaken_76 {p : Program} (l : Launch) {e : Env} {s : State} {m : MethodId} {args : Array Value} {below : List Frame} {meth : Method} {c : Code} {G : zG}   (C0 : Cx G RX4 cX4_isTaken 9 (some .boolean) p s m args meth c) {Q : Int32 → V3 → Prop} {K3 : Int32 → Int32 → Int32 → Int32 → Int32 → Int32 → Int32 → V3 → Prop} (hK3 : ∀ (x1 : Int32) (x2 : Int32) (x3 : Int32) (x4 : Int32) (x5 : Int32) (x6 : Int32) (x7 : Int32) (v : V3) (H : Heap) (locs : List Loc) (ls : Array Slot), K3 x1 x2 x3 x4 x5 x6 x7 v → Zs G s v H locs → lv_has ls 9 [(0, .ref (gad G 7)), (1, .int x1), (2, .int x2), (3, .int x3), (4, .int x4), (5, .int x5), (6, .int x6), (7, .int x7)] → W p l e { frames := 2, cells := 0, slots := 0, locals := 43 } s m args below meth c H locs 0 0 (MQ below (QiZ G Q) args s 0 0 (zA G)) (F0 m 3 ls [])) : ∀ (x1 : Int32) (x2 : Int32) (x3 : Int32) (x4 : Int32) (x5 : Int32) (x6 : Int32) (x7 : Int32) (v : V3) (H : Heap) (locs : List Loc) (ls : Array Slot), w_X4_isTaken_76 Q K3 x1 x2 x3 x4 x5 x6 x7 v → Zs G s v H locs → lv_has ls 9 [(0, .ref (gad G 7)), (1, .int x1), (2, .int x2), (3, .int x3), (4, .int x4), (5, .int x5), (6, .int x6), (7, .int x7)] → W p l e { frames := 2, cells := 0, slots := 0, locals := 43 } s m args below meth c H locs 0 0 (MQ below (QiZ G Q) args s 0 0 (zA G)) (F0 m 76 ls []) := by
  have hx := C0.1
  have hb := C0.2.1
  intro x1 x2 x3 x4 x5 x6 x7 v H locs ls hw Z hl
  rw [w_X4_isTaken_76] at hw
  refine lv_iconst (v := 0) hx hb dX4_isTaken_76 (by decide) ?_
  exact b_X4_isTaken_77 l C0 hK3 _ _ _ _ _ _ _ _ _ _ _ _ hw Z (lv_sub hl [0, 1, 2, 3, 4, 5, 6, 7] rfl)
set_option maxRecDepth 100000 in
set_option maxHeartbeats 4000000 in
theorem b_X4_isTaken_3 {p : Program} (l : Launch) {e : Env} {s : State} {m : MethodId} {args : Array Value} {below : List Frame} {meth : Method} {c : Code} {G : zG}   (C0 : Cx G RX4 cX4_isTaken 9 (some .boolean) p s m args meth c) {Q : Int32 → V3 → Prop} : ∀ (n : Nat) (x1 : Int32) (x2 : Int32) (x3 : Int32) (x4 : Int32) (x5 : Int32) (x6 : Int32) (x7 : Int32) (v : V3) (H : Heap) (locs : List Loc) (ls : Array Slot), w_X4_isTaken_3 Q n x1 x2 x3 x4 x5 x6 x7 v → Zs G s v H locs → lv_has ls 9 [(0, .ref (gad G 7)), (1, .int x1), (2, .int x2), (3, .int x3), (4, .int x4), (5, .int x5), (6, .int x6), (7, .int x7)] → W p l e { frames := 2, cells := 0, slots := 0, locals := 43 } s m args below meth c H locs 0 0 (MQ below (QiZ G Q) args s 0 0 (zA G)) (F0 m 3 ls []) := by
  have hx := C0.1
  have hb := C0.2.1
  intro n
  induction n with
  | zero =>
    intro x1 x2 x3 x4 x5 x6 x7 v H locs ls hw Z hl
    exact hw.elim
  | succ n hK3 =>
    intro x1 x2 x3 x4 x5 x6 x7 v H locs ls hw Z hl
    rw [w_X4_isTaken_3] at hw
    refine lv_iload hx hb dX4_isTaken_3 (lv_at hl 7 rfl) ?_
    refine lv_aload_n hx hb dX4_isTaken_5 rfl (lv_at hl 0 rfl) ?_
    refine z_get C0 Z in_X4 rfl 0 (by decide) rfl tm_4_203 (cx_lt C0 (by decide)) rfl rfl dX4_isTaken_6 ?_
    refine lv_bipush (v := 6) hx hb dX4_isTaken_9 (by decide) ?_
    refine z_ialdk C0 Z (cx_lt C0 (by decide)) rfl in_6_474 nc_6 dX4_isTaken_11 ?_
    refine lv_icmp_ge (tgt := 134) hx hb dX4_isTaken_12 (by decide) (fun c1 => ?_) (fun c1 => ?_)
    · replace hw := hw.1 c1
      refine lv_iconst (v := 0) hx hb dX4_isTaken_134 (by decide) ?_
      exact z_zret C0 Z (by decide) hw dX4_isTaken_135
    · replace hw := hw.2 c1
      refine lv_iload_n hx hb dX4_isTaken_15 rfl (lv_at hl 1 rfl) ?_
      refine lv_aload_n hx hb dX4_isTaken_16 rfl (lv_at hl 0 rfl) ?_
      refine lv_iload hx hb dX4_isTaken_17 (lv_at hl 7 rfl) ?_
      refine lv_iconst (v := 1) hx hb dX4_isTaken_19 (by decide) ?_
      refine z_callVi C0 Z hl.1 (As := [.int x7, .int 1]) (rest := [.int x1]) (k_X4_of l (cx_g C0) hw) (gv_X4_of tm_5_163) rfl ds_X4_of ⟨Nat.le_of_ble_eq_true rfl, Nat.le_of_ble_eq_true rfl⟩ (ci := 4) rfl (cx_lt C0 (by decide)) rfl rfl rfl (Nat.le_of_ble_eq_true rfl) ⟨Nat.le_of_ble_eq_true rfl, Nat.le_of_ble_eq_true rfl⟩ dX4_isTaken_20 (fun r3 v2 H locs hw Z => ?_)
      refine lv_aload_n hx hb dX4_isTaken_23 rfl (lv_at hl 0 rfl) ?_
      refine lv_iload hx hb dX4_isTaken_24 (lv_at hl 7 rfl) ?_
      refine lv_iconst (v := 2) hx hb dX4_isTaken_26 (by decide) ?_
      refine z_callVi C0 Z hl.1 (As := [.int x7, .int 2]) (rest := [.int r3, .int x1]) (k_X4_of l (cx_g C0) hw) (gv_X4_of tm_5_163) rfl ds_X4_of ⟨Nat.le_of_ble_eq_true rfl, Nat.le_of_ble_eq_true rfl⟩ (ci := 4) rfl (cx_lt C0 (by decide)) rfl rfl rfl (Nat.le_of_ble_eq_true rfl) ⟨Nat.le_of_ble_eq_true rfl, Nat.le_of_ble_eq_true rfl⟩ dX4_isTaken_27 (fun r5 v4 H locs hw Z => ?_)
      refine lv_iadd hx hb dX4_isTaken_30 ?_
      refine lv_icmp_ge (tgt := 76) hx hb dX4_isTaken_31 (by decide) (fun c6 => ?_) (fun c6 => ?_)
      · replace hw := hw.1 c6
        exact b_X4_isTaken_76 l C0 hK3 _ _ _ _ _ _ _ _ _ _ _ hw Z (lv_sub hl [0, 1, 2, 3, 4, 5, 6, 7] rfl)
      · replace hw := hw.2 c6
        refine lv_aload_n hx hb dX4_isTaken_34 rfl (lv_at hl 0 rfl) ?_
        refine lv_iload hx hb dX4_isTaken_35 (lv_at hl 7 rfl) ?_
        refine lv_iconst (v := 1) hx hb dX4_isTaken_37 (by decide) ?_
        refine z_callVi C0 Z hl.1 (As := [.int x7, .int 1]) (rest := []) (k_X4_of l (cx_g C0) hw) (gv_X4_of tm_5_163) rfl ds_X4_of ⟨Nat.le_of_ble_eq_true rfl, Nat.le_of_ble_eq_true rfl⟩ (ci := 4) rfl (cx_lt C0 (by decide)) rfl rfl rfl (Nat.le_of_ble_eq_true rfl) ⟨Nat.le_of_ble_eq_true rfl, Nat.le_of_ble_eq_true rfl⟩ dX4_isTaken_38 (fun r19 v18 H locs hw Z => ?_)
        refine lv_iload_n hx hb dX4_isTaken_41 rfl (lv_at hl 1 rfl) ?_
        refine lv_iload_n hx hb dX4_isTaken_42 rfl (lv_at hl 2 rfl) ?_
        refine lv_iadd hx hb dX4_isTaken_43 ?_
        refine lv_icmp_ge (tgt := 76) hx hb dX4_isTaken_44 (by decide) (fun c20 => ?_) (fun c20 => ?_)
        · replace hw := hw.1 c20
          exact b_X4_isTaken_76 l C0 hK3 _ _ _ _ _ _ _ _ _ _ _ hw Z (lv_sub hl [0, 1, 2, 3, 4, 5, 6, 7] rfl)
        · replace hw := hw.2 c20
          refine lv_iload_n hx hb dX4_isTaken_47 rfl (lv_at hl 3 rfl) ?_
          refine lv_aload_n hx hb dX4_isTaken_48 rfl (lv_at hl 0 rfl) ?_
          refine lv_iload hx hb dX4_isTaken_49 (lv_at hl 7 rfl) ?_
          refine lv_bipush (v := 9) hx hb dX4_isTaken_51 (by decide) ?_
          refine z_callVi C0 Z hl.1 (As := [.int x7, .int 9]) (rest := [.int x3]) (k_X4_of l (cx_g C0) hw) (gv_X4_of tm_5_163) rfl ds_X4_of ⟨Nat.le_of_ble_eq_true rfl, Nat.le_of_ble_eq_true rfl⟩ (ci := 4) rfl (cx_lt C0 (by decide)) rfl rfl rfl (Nat.le_of_ble_eq_true rfl) ⟨Nat.le_of_ble_eq_true rfl, Nat.le_of_ble_eq_true rfl⟩ dX4_isTaken_53 (fun r22 v21 H locs hw Z => ?_)
          refine lv_icmp_ge (tgt := 76) hx hb dX4_isTaken_56 (by decide) (fun c23 => ?_) (fun c23 => ?_)
          · replace hw := hw.1 c23
            exact b_X4_isTaken_76 l C0 hK3 _ _ _ _ _ _ _ _ _ _ _ hw Z (lv_sub hl [0, 1, 2, 3, 4, 5, 6, 7] rfl)
          · replace hw := hw.2 c23
            refine lv_aload_n hx hb dX4_isTaken_59 rfl (lv_at hl 0 rfl) ?_
            refine lv_iload hx hb dX4_isTaken_60 (lv_at hl 7 rfl) ?_
            refine lv_bipush (v := 8) hx hb dX4_isTaken_62 (by decide) ?_
            refine z_callVi C0 Z hl.1 (As := [.int x7, .int 8]) (rest := []) (k_X4_of l (cx_g C0) hw) (gv_X4_of tm_5_163) rfl ds_X4_of ⟨Nat.le_of_ble_eq_true rfl, Nat.le_of_ble_eq_true rfl⟩ (ci := 4) rfl (cx_lt C0 (by decide)) rfl rfl rfl (Nat.le_of_ble_eq_true rfl) ⟨Nat.le_of_ble_eq_true rfl, Nat.le_of_ble_eq_true rfl⟩ dX4_isTaken_64 (fun r25 v24 H locs hw Z => ?_)
            refine lv_iload hx hb dX4_isTaken_67 (lv_at hl 4 rfl) ?_
            refine lv_icmp_ge (tgt := 76) hx hb dX4_isTaken_69 (by decide) (fun c26 => ?_) (fun c26 => ?_)
            · replace hw := hw.1 c26
              exact b_X4_isTaken_76 l C0 hK3 _ _ _ _ _ _ _ _ _ _ _ hw Z (lv_sub hl [0, 1, 2, 3, 4, 5, 6, 7] rfl)
            · replace hw := hw.2 c26
              refine lv_iconst (v := 1) hx hb dX4_isTaken_72 (by decide) ?_
              refine lv_goto (tgt := 77) hx hb dX4_isTaken_73 (by decide) ?_
              exact b_X4_isTaken_77 l C0 hK3 _ _ _ _ _ _ _ _ _ _ _ _ hw Z (lv_sub hl [0, 1, 2, 3, 4, 5, 6, 7] rfl)
set_option maxRecDepth 100000 in
set_option maxHeartbeats 4000000 in
theorem k_X4_isTaken (l : Launch) {G : zG} (hg : 129 ≤ gn G) {a1 : Int32} {a2 : Int32} {a3 : Int32} {a4 : Int32} {a5 : Int32} {a6 : Int32}  {v : V3} {Q : Int32 → V3 → Prop} (hw : w_X4_isTaken a1 a2 a3 a4 a5 a6 v Q) : Mz l yX4_isTaken cX4_isTaken 9 (some .boolean) 2 43 G [.ref (gad G 7), .int a1, .int a2, .int a3, .int a4, .int a5, .int a6] v (QiZ G Q) := by
  rw [w_X4_isTaken] at hw
  refine z_ofW hg (by decide) (Nat.le_of_ble_eq_true rfl) ?_
  intro p e s m args below meth c ls C0 Z hl
  have hx := C0.1
  have hb := C0.2.1
  replace hl : lv_has ls 9 [(0, .ref (gad G 7)), (1, .int a1), (2, .int a2), (3, .int a3), (4, .int a4), (5, .int a5), (6, .int a6)] := hl
  generalize s.heap = H at Z ⊢
  generalize ([] : List Loc) = locs at Z ⊢
  refine lv_iconst (v := 0) hx hb dX4_isTaken_0 (by decide) ?_
  refine lv_istore (lv' := [(7, .int 0), (0, .ref (gad G 7)), (1, .int a1), (2, .int a2), (3, .int a3), (4, .int a4), (5, .int a5), (6, .int a6)]) hx hb dX4_isTaken_1 hl (by decide) rfl (fun ls hl => ?_)
  obtain ⟨m3, hw⟩ := hw
  exact b_X4_isTaken_3 l C0 m3 _ _ _ _ _ _ _ _ _ _ _ hw Z (lv_sub hl [1, 2, 3, 4, 5, 6, 7, 0] rfl)
-- X4_fitsAt: room (3, 71)
theorem dX4_fitsAt_0 : decode cX4_fitsAt 0 = .ok (.iload_n 2, 1) := by decide +kernel
theorem dX4_fitsAt_1 : decode cX4_fitsAt 1 = .ok (.aload_n 0, 1) := by decide +kernel
theorem dX4_fitsAt_2 : decode cX4_fitsAt 2 = .ok (.getfield 7, 3) := by decide +kernel
theorem dX4_fitsAt_5 : decode cX4_fitsAt 5 = .ok (.bipush 7, 2) := by decide +kernel
theorem dX4_fitsAt_7 : decode cX4_fitsAt 7 = .ok (.iaload, 1) := by decide +kernel
theorem dX4_fitsAt_8 : decode cX4_fitsAt 8 = .ok (.if_icmp .lt 37, 3) := by decide +kernel
theorem dX4_fitsAt_11 : decode cX4_fitsAt 11 = .ok (.aload_n 0, 1) := by decide +kernel
theorem dX4_fitsAt_12 : decode cX4_fitsAt 12 = .ok (.aload_n 0, 1) := by decide +kernel
theorem dX4_fitsAt_13 : decode cX4_fitsAt 13 = .ok (.iload_n 1, 1) := by decide +kernel
theorem dX4_fitsAt_14 : decode cX4_fitsAt 14 = .ok (.iconst 1, 1) := by decide +kernel
theorem dX4_fitsAt_15 : decode cX4_fitsAt 15 = .ok (.invokevirtual 71, 3) := by decide +kernel
theorem dX4_fitsAt_18 : decode cX4_fitsAt 18 = .ok (.aload_n 0, 1) := by decide +kernel
theorem dX4_fitsAt_19 : decode cX4_fitsAt 19 = .ok (.iload_n 1, 1) := by decide +kernel
theorem dX4_fitsAt_20 : decode cX4_fitsAt 20 = .ok (.iconst 2, 1) := by decide +kernel
theorem dX4_fitsAt_21 : decode cX4_fitsAt 21 = .ok (.invokevirtual 71, 3) := by decide +kernel
theorem dX4_fitsAt_24 : decode cX4_fitsAt 24 = .ok (.iload_n 2, 1) := by decide +kernel
theorem dX4_fitsAt_25 : decode cX4_fitsAt 25 = .ok (.iload_n 2, 1) := by decide +kernel
theorem dX4_fitsAt_26 : decode cX4_fitsAt 26 = .ok (.aload_n 0, 1) := by decide +kernel
theorem dX4_fitsAt_27 : decode cX4_fitsAt 27 = .ok (.iload_n 1, 1) := by decide +kernel
theorem dX4_fitsAt_28 : decode cX4_fitsAt 28 = .ok (.iconst 3, 1) := by decide +kernel
theorem dX4_fitsAt_29 : decode cX4_fitsAt 29 = .ok (.invokevirtual 71, 3) := by decide +kernel
theorem dX4_fitsAt_32 : decode cX4_fitsAt 32 = .ok (.iadd, 1) := by decide +kernel
theorem dX4_fitsAt_33 : decode cX4_fitsAt 33 = .ok (.iload_n 1, 1) := by decide +kernel
theorem dX4_fitsAt_34 : decode cX4_fitsAt 34 = .ok (.iload_n 3, 1) := by decide +kernel
theorem dX4_fitsAt_35 : decode cX4_fitsAt 35 = .ok (.invokevirtual 263, 3) := by decide +kernel
theorem dX4_fitsAt_38 : decode cX4_fitsAt 38 = .ok (.ifCond .ne 7, 3) := by decide +kernel
theorem dX4_fitsAt_41 : decode cX4_fitsAt 41 = .ok (.iconst 1, 1) := by decide +kernel
theorem dX4_fitsAt_42 : decode cX4_fitsAt 42 = .ok (.goto 4, 3) := by decide +kernel
theorem dX4_fitsAt_45 : decode cX4_fitsAt 45 = .ok (.iconst 0, 1) := by decide +kernel
theorem dX4_fitsAt_46 : decode cX4_fitsAt 46 = .ok (.ireturn, 1) := by decide +kernel
def w_X4_fitsAt_46  (Q : Int32 → V3 → Prop) (s0 : Int32) (v : V3) : Prop := (s0 = 0 ∨ s0 = 1) ∧ Q s0 v
def w_X4_fitsAt_45  (Q : Int32 → V3 → Prop) (v : V3) : Prop := w_X4_fitsAt_46 Q 0 v
def w_X4_fitsAt (a1 : Int32) (a2 : Int32) (a3 : Int32) (v : V3) (Q : Int32 → V3 → Prop) : Prop := ((a2 < (v 8 7) → w_X4_fitsAt_45 Q v) ∧ (¬ a2 < (v 8 7) → w_X4_of a1 1 v (fun r4 v3 => w_X4_of a1 2 v3 (fun r6 v5 => w_X4_of a1 3 v5 (fun r8 v7 => w_X4_isTaken r4 r6 a2 (a2 + r8) a1 a3 v7 (fun r10 v9 => ((¬ r10 = 0 → w_X4_fitsAt_45 Q v9) ∧ (r10 = 0 → w_X4_fitsAt_46 Q 1 v9))))))))
set_option maxRecDepth 100000 in
set_option maxHeartbeats 4000000 in
theorem b_X4_fitsAt_46 {p : Program} (l : Launch) {e : Env} {s : State} {m : MethodId} {args : Array Value} {below : List Frame} {meth : Method} {c : Code} {G : zG}   (C0 : Cx G RX4 cX4_fitsAt 4 (some .boolean) p s m args meth c) {Q : Int32 → V3 → Prop} : ∀ (s0 : Int32) (v : V3) (H : Heap) (locs : List Loc) (ls : Array Slot), w_X4_fitsAt_46 Q s0 v → Zs G s v H locs → lv_has ls 4 [] → W p l e { frames := 3, cells := 0, slots := 0, locals := 71 } s m args below meth c H locs 0 0 (MQ below (QiZ G Q) args s 0 0 (zA G)) (F0 m 46 ls [.int s0]) := by
  have hx := C0.1
  have hb := C0.2.1
  intro s0 v H locs ls hw Z hl
  rw [w_X4_fitsAt_46] at hw
  obtain ⟨h2, hw⟩ := hw
  exact z_zret C0 Z h2 hw dX4_fitsAt_46
set_option maxRecDepth 100000 in
set_option maxHeartbeats 4000000 in
theorem b_X4_fitsAt_45 {p : Program} (l : Launch) {e : Env} {s : State} {m : MethodId} {args : Array Value} {below : List Frame} {meth : Method} {c : Code} {G : zG}   (C0 : Cx G RX4 cX4_fitsAt 4 (some .boolean) p s m args meth c) {Q : Int32 → V3 → Prop} : ∀ (v : V3) (H : Heap) (locs : List Loc) (ls : Array Slot), w_X4_fitsAt_45 Q v → Zs G s v H locs → lv_has ls 4 [] → W p l e { frames := 3, cells := 0, slots := 0, locals := 71 } s m args below meth c H locs 0 0 (MQ below (QiZ G Q) args s 0 0 (zA G)) (F0 m 45 ls []) := by
  have hx := C0.1
  have hb := C0.2.1
  intro v H locs ls hw Z hl
  rw [w_X4_fitsAt_45] at hw
  refine lv_iconst (v := 0) hx hb dX4_fitsAt_45 (by decide) ?_
  exact b_X4_fitsAt_46 l C0 _ _ _ _ _ hw Z (lv_sub hl [] rfl)
set_option maxRecDepth 100000 in
set_option maxHeartbeats 4000000 in
theorem k_X4_fitsAt (l : Launch) {G : zG} (hg : 129 ≤ gn G) {a1 : Int32} {a2 : Int32} {a3 : Int32}  {v : V3} {Q : Int32 → V3 → Prop} (hw : w_X4_fitsAt a1 a2 a3 v Q) : Mz l yX4_fitsAt cX4_fitsAt 4 (some .boolean) 3 71 G [.ref (gad G 7), .int a1, .int a2, .int a3] v (QiZ G Q) := by
  rw [w_X4_fitsAt] at hw
  refine z_ofW hg (by decide) (Nat.le_of_ble_eq_true rfl) ?_
  intro p e s m args below meth c ls C0 Z hl
  have hx := C0.1
  have hb := C0.2.1
  replace hl : lv_has ls 4 [(0, .ref (gad G 7)), (1, .int a1), (2, .int a2), (3, .int a3)] := hl
  generalize s.heap = H at Z ⊢
  generalize ([] : List Loc) = locs at Z ⊢
  refine lv_iload_n hx hb dX4_fitsAt_0 rfl (lv_at hl 2 rfl) ?_
  refine lv_aload_n hx hb dX4_fitsAt_1 rfl (lv_at hl 0 rfl) ?_
  refine z_get C0 Z in_X4 rfl 0 (by decide) rfl tm_4_203 (cx_lt C0 (by decide)) rfl rfl dX4_fitsAt_2 ?_
  refine lv_bipush (v := 7) hx hb dX4_fitsAt_5 (by decide) ?_
  refine z_ialdk C0 Z (cx_lt C0 (by decide)) rfl in_7_474 nc_7 dX4_fitsAt_7 ?_
  refine lv_icmp_lt (tgt := 45) hx hb dX4_fitsAt_8 (by decide) (fun c1 => ?_) (fun c1 => ?_)
  · replace hw := hw.1 c1
    exact b_X4_fitsAt_45 l C0 _ _ _ _ hw Z (lv_sub hl [] rfl)
  · replace hw := hw.2 c1
    refine lv_aload_n hx hb dX4_fitsAt_11 rfl (lv_at hl 0 rfl) ?_
    refine lv_aload_n hx hb dX4_fitsAt_12 rfl (lv_at hl 0 rfl) ?_
    refine lv_iload_n hx hb dX4_fitsAt_13 rfl (lv_at hl 1 rfl) ?_
    refine lv_iconst (v := 1) hx hb dX4_fitsAt_14 (by decide) ?_
    refine z_callVi C0 Z hl.1 (As := [.int a1, .int 1]) (rest := [.ref (gad G 7)]) (k_X4_of l (cx_g C0) hw) (gv_X4_of tm_5_163) rfl ds_X4_of ⟨Nat.le_of_ble_eq_true rfl, Nat.le_of_ble_eq_true rfl⟩ (ci := 4) rfl (cx_lt C0 (by decide)) rfl rfl rfl (Nat.le_of_ble_eq_true rfl) ⟨Nat.le_of_ble_eq_true rfl, Nat.le_of_ble_eq_true rfl⟩ dX4_fitsAt_15 (fun r4 v3 H locs hw Z => ?_)
    refine lv_aload_n hx hb dX4_fitsAt_18 rfl (lv_at hl 0 rfl) ?_
    refine lv_iload_n hx hb dX4_fitsAt_19 rfl (lv_at hl 1 rfl) ?_
    refine lv_iconst (v := 2) hx hb dX4_fitsAt_20 (by decide) ?_
    refine z_callVi C0 Z hl.1 (As := [.int a1, .int 2]) (rest := [.int r4, .ref (gad G 7)]) (k_X4_of l (cx_g C0) hw) (gv_X4_of tm_5_163) rfl ds_X4_of ⟨Nat.le_of_ble_eq_true rfl, Nat.le_of_ble_eq_true rfl⟩ (ci := 4) rfl (cx_lt C0 (by decide)) rfl rfl rfl (Nat.le_of_ble_eq_true rfl) ⟨Nat.le_of_ble_eq_true rfl, Nat.le_of_ble_eq_true rfl⟩ dX4_fitsAt_21 (fun r6 v5 H locs hw Z => ?_)
    refine lv_iload_n hx hb dX4_fitsAt_24 rfl (lv_at hl 2 rfl) ?_
    refine lv_iload_n hx hb dX4_fitsAt_25 rfl (lv_at hl 2 rfl) ?_
    refine lv_aload_n hx hb dX4_fitsAt_26 rfl (lv_at hl 0 rfl) ?_
    refine lv_iload_n hx hb dX4_fitsAt_27 rfl (lv_at hl 1 rfl) ?_
    refine lv_iconst (v := 3) hx hb dX4_fitsAt_28 (by decide) ?_
    refine z_callVi C0 Z hl.1 (As := [.int a1, .int 3]) (rest := [.int a2, .int a2, .int r6, .int r4, .ref (gad G 7)]) (k_X4_of l (cx_g C0) hw) (gv_X4_of tm_5_163) rfl ds_X4_of ⟨Nat.le_of_ble_eq_true rfl, Nat.le_of_ble_eq_true rfl⟩ (ci := 4) rfl (cx_lt C0 (by decide)) rfl rfl rfl (Nat.le_of_ble_eq_true rfl) ⟨Nat.le_of_ble_eq_true rfl, Nat.le_of_ble_eq_true rfl⟩ dX4_fitsAt_29 (fun r8 v7 H locs hw Z => ?_)
    refine lv_iadd hx hb dX4_fitsAt_32 ?_
    refine lv_iload_n hx hb dX4_fitsAt_33 rfl (lv_at hl 1 rfl) ?_
    refine lv_iload_n hx hb dX4_fitsAt_34 rfl (lv_at hl 3 rfl) ?_
    refine z_callVi C0 Z hl.1 (As := [.int r4, .int r6, .int a2, .int (a2 + r8), .int a1, .int a3]) (rest := []) (k_X4_isTaken l (cx_g C0) hw) (gv_X4_isTaken tm_5_198) rfl ds_X4_isTaken ⟨Nat.le_of_ble_eq_true rfl, Nat.le_of_ble_eq_true rfl⟩ (ci := 4) rfl (cx_lt C0 (by decide)) rfl rfl rfl (Nat.le_of_ble_eq_true rfl) ⟨Nat.le_of_ble_eq_true rfl, Nat.le_of_ble_eq_true rfl⟩ dX4_fitsAt_35 (fun r10 v9 H locs hw Z => ?_)
    refine lv_if_ne (tgt := 45) hx hb dX4_fitsAt_38 (by decide) (fun c11 => ?_) (fun c11 => ?_)
    · replace hw := hw.1 c11
      exact b_X4_fitsAt_45 l C0 _ _ _ _ hw Z (lv_sub hl [] rfl)
    · replace hw := hw.2 c11
      refine lv_iconst (v := 1) hx hb dX4_fitsAt_41 (by decide) ?_
      refine lv_goto (tgt := 46) hx hb dX4_fitsAt_42 (by decide) ?_
      exact b_X4_fitsAt_46 l C0 _ _ _ _ _ hw Z (lv_sub hl [] rfl)
-- X4_bestTime: room (4, 94)
theorem dX4_bestTime_0 : decode cX4_bestTime 0 = .ok (.aload_n 0, 1) := by decide +kernel
theorem dX4_bestTime_1 : decode cX4_bestTime 1 = .ok (.iload_n 1, 1) := by decide +kernel
theorem dX4_bestTime_2 : decode cX4_bestTime 2 = .ok (.iconst 4, 1) := by decide +kernel
theorem dX4_bestTime_3 : decode cX4_bestTime 3 = .ok (.invokevirtual 71, 3) := by decide +kernel
theorem dX4_bestTime_6 : decode cX4_bestTime 6 = .ok (.istore_n 2, 1) := by decide +kernel
theorem dX4_bestTime_7 : decode cX4_bestTime 7 = .ok (.iconst 0, 1) := by decide +kernel
theorem dX4_bestTime_8 : decode cX4_bestTime 8 = .ok (.istore_n 3, 1) := by decide +kernel
theorem dX4_bestTime_9 : decode cX4_bestTime 9 = .ok (.iload_n 3, 1) := by decide +kernel
theorem dX4_bestTime_10 : decode cX4_bestTime 10 = .ok (.aload_n 0, 1) := by decide +kernel
theorem dX4_bestTime_11 : decode cX4_bestTime 11 = .ok (.iload_n 1, 1) := by decide +kernel
theorem dX4_bestTime_12 : decode cX4_bestTime 12 = .ok (.iconst 5, 1) := by decide +kernel
theorem dX4_bestTime_13 : decode cX4_bestTime 13 = .ok (.invokevirtual 71, 3) := by decide +kernel
theorem dX4_bestTime_16 : decode cX4_bestTime 16 = .ok (.if_icmp .gt 47, 3) := by decide +kernel
theorem dX4_bestTime_19 : decode cX4_bestTime 19 = .ok (.iload_n 2, 1) := by decide +kernel
theorem dX4_bestTime_20 : decode cX4_bestTime 20 = .ok (.iload_n 3, 1) := by decide +kernel
theorem dX4_bestTime_21 : decode cX4_bestTime 21 = .ok (.isub, 1) := by decide +kernel
theorem dX4_bestTime_22 : decode cX4_bestTime 22 = .ok (.ifCond .lt 19, 3) := by decide +kernel
theorem dX4_bestTime_25 : decode cX4_bestTime 25 = .ok (.aload_n 0, 1) := by decide +kernel
theorem dX4_bestTime_26 : decode cX4_bestTime 26 = .ok (.iload_n 1, 1) := by decide +kernel
theorem dX4_bestTime_27 : decode cX4_bestTime 27 = .ok (.iload_n 2, 1) := by decide +kernel
theorem dX4_bestTime_28 : decode cX4_bestTime 28 = .ok (.iload_n 3, 1) := by decide +kernel
theorem dX4_bestTime_29 : decode cX4_bestTime 29 = .ok (.isub, 1) := by decide +kernel
theorem dX4_bestTime_30 : decode cX4_bestTime 30 = .ok (.iconst (-1), 1) := by decide +kernel
theorem dX4_bestTime_31 : decode cX4_bestTime 31 = .ok (.invokevirtual 267, 3) := by decide +kernel
theorem dX4_bestTime_34 : decode cX4_bestTime 34 = .ok (.ifCond .eq 7, 3) := by decide +kernel
theorem dX4_bestTime_37 : decode cX4_bestTime 37 = .ok (.iload_n 2, 1) := by decide +kernel
theorem dX4_bestTime_38 : decode cX4_bestTime 38 = .ok (.iload_n 3, 1) := by decide +kernel
theorem dX4_bestTime_39 : decode cX4_bestTime 39 = .ok (.isub, 1) := by decide +kernel
theorem dX4_bestTime_40 : decode cX4_bestTime 40 = .ok (.ireturn, 1) := by decide +kernel
theorem dX4_bestTime_41 : decode cX4_bestTime 41 = .ok (.aload_n 0, 1) := by decide +kernel
theorem dX4_bestTime_42 : decode cX4_bestTime 42 = .ok (.iload_n 1, 1) := by decide +kernel
theorem dX4_bestTime_43 : decode cX4_bestTime 43 = .ok (.iload_n 2, 1) := by decide +kernel
theorem dX4_bestTime_44 : decode cX4_bestTime 44 = .ok (.iload_n 3, 1) := by decide +kernel
theorem dX4_bestTime_45 : decode cX4_bestTime 45 = .ok (.iadd, 1) := by decide +kernel
theorem dX4_bestTime_46 : decode cX4_bestTime 46 = .ok (.iconst (-1), 1) := by decide +kernel
theorem dX4_bestTime_47 : decode cX4_bestTime 47 = .ok (.invokevirtual 267, 3) := by decide +kernel
theorem dX4_bestTime_50 : decode cX4_bestTime 50 = .ok (.ifCond .eq 7, 3) := by decide +kernel
theorem dX4_bestTime_53 : decode cX4_bestTime 53 = .ok (.iload_n 2, 1) := by decide +kernel
theorem dX4_bestTime_54 : decode cX4_bestTime 54 = .ok (.iload_n 3, 1) := by decide +kernel
theorem dX4_bestTime_55 : decode cX4_bestTime 55 = .ok (.iadd, 1) := by decide +kernel
theorem dX4_bestTime_56 : decode cX4_bestTime 56 = .ok (.ireturn, 1) := by decide +kernel
theorem dX4_bestTime_57 : decode cX4_bestTime 57 = .ok (.iinc 3 1, 3) := by decide +kernel
theorem dX4_bestTime_60 : decode cX4_bestTime 60 = .ok (.goto (-51), 3) := by decide +kernel
theorem dX4_bestTime_63 : decode cX4_bestTime 63 = .ok (.iconst (-1), 1) := by decide +kernel
theorem dX4_bestTime_64 : decode cX4_bestTime 64 = .ok (.ireturn, 1) := by decide +kernel
def w_X4_bestTime_41  (Q : Int32 → V3 → Prop) (K9 : Int32 → Int32 → Int32 → V3 → Prop) (x1 : Int32) (x2 : Int32) (x3 : Int32) (v : V3) : Prop := w_X4_fitsAt x1 (x2 + x3) (-1) v (fun r8 v7 => ((r8 = 0 → K9 x1 x2 (x3 + 1) v7) ∧ (¬ r8 = 0 → Q (x2 + x3) v7)))
def w_X4_bestTime_9  (Q : Int32 → V3 → Prop) : Nat → Int32 → Int32 → Int32 → V3 → Prop
  | 0, _, _, _, _ => False
  | n9 + 1, x1, x2, x3, v => w_X4_of x1 5 v (fun r4 v3 => ((r4 < x3 → Q (-1) v3) ∧ (¬ r4 < x3 → (((x2 - x3) < 0 → w_X4_bestTime_41 Q (w_X4_bestTime_9 Q n9) x1 x2 x3 v3) ∧ (¬ (x2 - x3) < 0 → w_X4_fitsAt x1 (x2 - x3) (-1) v3 (fun r11 v10 => ((r11 = 0 → w_X4_bestTime_41 Q (w_X4_bestTime_9 Q n9) x1 x2 x3 v10) ∧ (¬ r11 = 0 → Q (x2 - x3) v10))))))))
def w_X4_bestTime (a1 : Int32) (v : V3) (Q : Int32 → V3 → Prop) : Prop := w_X4_of a1 4 v (fun r2 v1 => ∃ m9 : Nat, w_X4_bestTime_9 Q m9 a1 r2 0 v1)
set_option maxRecDepth 100000 in
set_option maxHeartbeats 4000000 in
theorem b_X4_bestTime_41 {p : Program} (l : Launch) {e : Env} {s : State} {m : MethodId} {args : Array Value} {below : List Frame} {meth : Method} {c : Code} {G : zG}   (C0 : Cx G RX4 cX4_bestTime 4 (some .int) p s m args meth c) {Q : Int32 → V3 → Prop} {K9 : Int32 → Int32 → Int32 → V3 → Prop} (hK9 : ∀ (x1 : Int32) (x2 : Int32) (x3 : Int32) (v : V3) (H : Heap) (locs : List Loc) (ls : Array Slot), K9 x1 x2 x3 v → Zs G s v H locs → lv_has ls 4 [(0, .ref (gad G 7)), (1, .int x1), (2, .int x2), (3, .int x3)] → W p l e { frames := 4, cells := 0, slots := 0, locals := 94 } s m args below meth c H locs 0 0 (MQ below (QiZ G Q) args s 0 0 (zA G)) (F0 m 9 ls [])) : ∀ (x1 : Int32) (x2 : Int32) (x3 : Int32) (v : V3) (H : Heap) (locs : List Loc) (ls : Array Slot), w_X4_bestTime_41 Q K9 x1 x2 x3 v → Zs G s v H locs → lv_has ls 4 [(0, .ref (gad G 7)), (1, .int x1), (2, .int x2), (3, .int x3)] → W p l e { frames := 4, cells := 0, slots := 0, locals := 94 } s m args below meth c H locs 0 0 (MQ below (QiZ G Q) args s 0 0 (zA G)) (F0 m 41 ls []) := by
  have hx := C0.1
  have hb := C0.2.1
  intro x1 x2 x3 v H locs ls hw Z hl
  rw [w_X4_bestTime_41] at hw
  refine lv_aload_n hx hb dX4_bestTime_41 rfl (lv_at hl 0 rfl) ?_
  refine lv_iload_n hx hb dX4_bestTime_42 rfl (lv_at hl 1 rfl) ?_
  refine lv_iload_n hx hb dX4_bestTime_43 rfl (lv_at hl 2 rfl) ?_
  refine lv_iload_n hx hb dX4_bestTime_44 rfl (lv_at hl 3 rfl) ?_
  refine lv_iadd hx hb dX4_bestTime_45 ?_
  refine lv_iconst (v := (-1)) hx hb dX4_bestTime_46 (by decide) ?_
  refine z_callVi C0 Z hl.1 (As := [.int x1, .int (x2 + x3), .int (-1)]) (rest := []) (k_X4_fitsAt l (cx_g C0) hw) (gv_X4_fitsAt tm_5_194) rfl ds_X4_fitsAt ⟨Nat.le_of_ble_eq_true rfl, Nat.le_of_ble_eq_true rfl⟩ (ci := 4) rfl (cx_lt C0 (by decide)) rfl rfl rfl (Nat.le_of_ble_eq_true rfl) ⟨Nat.le_of_ble_eq_true rfl, Nat.le_of_ble_eq_true rfl⟩ dX4_bestTime_47 (fun r8 v7 H locs hw Z => ?_)
  refine lv_if_eq (tgt := 57) hx hb dX4_bestTime_50 (by decide) (fun c9 => ?_) (fun c9 => ?_)
  · replace hw := hw.1 c9
    refine lv_iinc (v := x3 + 1) (lv' := [(3, .int (x3 + 1)), (0, .ref (gad G 7)), (1, .int x1), (2, .int x2)]) hx hb dX4_bestTime_57 hl (k := 3) rfl rfl (by decide) rfl (fun ls hl => ?_)
    refine lv_goto (tgt := 9) hx hb dX4_bestTime_60 (by decide) ?_
    exact hK9 _ _ _ _ _ _ _ hw Z (lv_sub hl [1, 2, 3, 0] rfl)
  · replace hw := hw.2 c9
    refine lv_iload_n hx hb dX4_bestTime_53 rfl (lv_at hl 2 rfl) ?_
    refine lv_iload_n hx hb dX4_bestTime_54 rfl (lv_at hl 3 rfl) ?_
    refine lv_iadd hx hb dX4_bestTime_55 ?_
    exact z_iret C0 Z hw dX4_bestTime_56
set_option maxRecDepth 100000 in
set_option maxHeartbeats 4000000 in
theorem b_X4_bestTime_9 {p : Program} (l : Launch) {e : Env} {s : State} {m : MethodId} {args : Array Value} {below : List Frame} {meth : Method} {c : Code} {G : zG}   (C0 : Cx G RX4 cX4_bestTime 4 (some .int) p s m args meth c) {Q : Int32 → V3 → Prop} : ∀ (n : Nat) (x1 : Int32) (x2 : Int32) (x3 : Int32) (v : V3) (H : Heap) (locs : List Loc) (ls : Array Slot), w_X4_bestTime_9 Q n x1 x2 x3 v → Zs G s v H locs → lv_has ls 4 [(0, .ref (gad G 7)), (1, .int x1), (2, .int x2), (3, .int x3)] → W p l e { frames := 4, cells := 0, slots := 0, locals := 94 } s m args below meth c H locs 0 0 (MQ below (QiZ G Q) args s 0 0 (zA G)) (F0 m 9 ls []) := by
  have hx := C0.1
  have hb := C0.2.1
  intro n
  induction n with
  | zero =>
    intro x1 x2 x3 v H locs ls hw Z hl
    exact hw.elim
  | succ n hK9 =>
    intro x1 x2 x3 v H locs ls hw Z hl
    rw [w_X4_bestTime_9] at hw
    refine lv_iload_n hx hb dX4_bestTime_9 rfl (lv_at hl 3 rfl) ?_
    refine lv_aload_n hx hb dX4_bestTime_10 rfl (lv_at hl 0 rfl) ?_
    refine lv_iload_n hx hb dX4_bestTime_11 rfl (lv_at hl 1 rfl) ?_
    refine lv_iconst (v := 5) hx hb dX4_bestTime_12 (by decide) ?_
    refine z_callVi C0 Z hl.1 (As := [.int x1, .int 5]) (rest := [.int x3]) (k_X4_of l (cx_g C0) hw) (gv_X4_of tm_5_163) rfl ds_X4_of ⟨Nat.le_of_ble_eq_true rfl, Nat.le_of_ble_eq_true rfl⟩ (ci := 4) rfl (cx_lt C0 (by decide)) rfl rfl rfl (Nat.le_of_ble_eq_true rfl) ⟨Nat.le_of_ble_eq_true rfl, Nat.le_of_ble_eq_true rfl⟩ dX4_bestTime_13 (fun r4 v3 H locs hw Z => ?_)
    refine lv_icmp_gt (tgt := 63) hx hb dX4_bestTime_16 (by decide) (fun c5 => ?_) (fun c5 => ?_)
    · replace hw := hw.1 c5
      refine lv_iconst (v := (-1)) hx hb dX4_bestTime_63 (by decide) ?_
      exact z_iret C0 Z hw dX4_bestTime_64
    · replace hw := hw.2 c5
      refine lv_iload_n hx hb dX4_bestTime_19 rfl (lv_at hl 2 rfl) ?_
      refine lv_iload_n hx hb dX4_bestTime_20 rfl (lv_at hl 3 rfl) ?_
      refine lv_isub hx hb dX4_bestTime_21 ?_
      refine lv_if_lt (tgt := 41) hx hb dX4_bestTime_22 (by decide) (fun c6 => ?_) (fun c6 => ?_)
      · replace hw := hw.1 c6
        exact b_X4_bestTime_41 l C0 hK9 _ _ _ _ _ _ _ hw Z (lv_sub hl [0, 1, 2, 3] rfl)
      · replace hw := hw.2 c6
        refine lv_aload_n hx hb dX4_bestTime_25 rfl (lv_at hl 0 rfl) ?_
        refine lv_iload_n hx hb dX4_bestTime_26 rfl (lv_at hl 1 rfl) ?_
        refine lv_iload_n hx hb dX4_bestTime_27 rfl (lv_at hl 2 rfl) ?_
        refine lv_iload_n hx hb dX4_bestTime_28 rfl (lv_at hl 3 rfl) ?_
        refine lv_isub hx hb dX4_bestTime_29 ?_
        refine lv_iconst (v := (-1)) hx hb dX4_bestTime_30 (by decide) ?_
        refine z_callVi C0 Z hl.1 (As := [.int x1, .int (x2 - x3), .int (-1)]) (rest := []) (k_X4_fitsAt l (cx_g C0) hw) (gv_X4_fitsAt tm_5_194) rfl ds_X4_fitsAt ⟨Nat.le_of_ble_eq_true rfl, Nat.le_of_ble_eq_true rfl⟩ (ci := 4) rfl (cx_lt C0 (by decide)) rfl rfl rfl (Nat.le_of_ble_eq_true rfl) ⟨Nat.le_of_ble_eq_true rfl, Nat.le_of_ble_eq_true rfl⟩ dX4_bestTime_31 (fun r11 v10 H locs hw Z => ?_)
        refine lv_if_eq (tgt := 41) hx hb dX4_bestTime_34 (by decide) (fun c12 => ?_) (fun c12 => ?_)
        · replace hw := hw.1 c12
          exact b_X4_bestTime_41 l C0 hK9 _ _ _ _ _ _ _ hw Z (lv_sub hl [0, 1, 2, 3] rfl)
        · replace hw := hw.2 c12
          refine lv_iload_n hx hb dX4_bestTime_37 rfl (lv_at hl 2 rfl) ?_
          refine lv_iload_n hx hb dX4_bestTime_38 rfl (lv_at hl 3 rfl) ?_
          refine lv_isub hx hb dX4_bestTime_39 ?_
          exact z_iret C0 Z hw dX4_bestTime_40
set_option maxRecDepth 100000 in
set_option maxHeartbeats 4000000 in
theorem k_X4_bestTime (l : Launch) {G : zG} (hg : 129 ≤ gn G) {a1 : Int32}  {v : V3} {Q : Int32 → V3 → Prop} (hw : w_X4_bestTime a1 v Q) : Mz l yX4_bestTime cX4_bestTime 4 (some .int) 4 94 G [.ref (gad G 7), .int a1] v (QiZ G Q) := by
  rw [w_X4_bestTime] at hw
  refine z_ofW hg (by decide) (Nat.le_of_ble_eq_true rfl) ?_
  intro p e s m args below meth c ls C0 Z hl
  have hx := C0.1
  have hb := C0.2.1
  replace hl : lv_has ls 4 [(0, .ref (gad G 7)), (1, .int a1)] := hl
  generalize s.heap = H at Z ⊢
  generalize ([] : List Loc) = locs at Z ⊢
  refine lv_aload_n hx hb dX4_bestTime_0 rfl (lv_at hl 0 rfl) ?_
  refine lv_iload_n hx hb dX4_bestTime_1 rfl (lv_at hl 1 rfl) ?_
  refine lv_iconst (v := 4) hx hb dX4_bestTime_2 (by decide) ?_
  refine z_callVi C0 Z hl.1 (As := [.int a1, .int 4]) (rest := []) (k_X4_of l (cx_g C0) hw) (gv_X4_of tm_5_163) rfl ds_X4_of ⟨Nat.le_of_ble_eq_true rfl, Nat.le_of_ble_eq_true rfl⟩ (ci := 4) rfl (cx_lt C0 (by decide)) rfl rfl rfl (Nat.le_of_ble_eq_true rfl) ⟨Nat.le_of_ble_eq_true rfl, Nat.le_of_ble_eq_true rfl⟩ dX4_bestTime_3 (fun r2 v1 H locs hw Z => ?_)
  refine lv_istore_n (lv' := [(2, .int r2), (0, .ref (gad G 7)), (1, .int a1)]) hx hb dX4_bestTime_6 rfl hl (by decide) rfl (fun ls hl => ?_)
  refine lv_iconst (v := 0) hx hb dX4_bestTime_7 (by decide) ?_
  refine lv_istore_n (lv' := [(3, .int 0), (2, .int r2), (0, .ref (gad G 7)), (1, .int a1)]) hx hb dX4_bestTime_8 rfl hl (by decide) rfl (fun ls hl => ?_)
  obtain ⟨m9, hw⟩ := hw
  exact b_X4_bestTime_9 l C0 m9 _ _ _ _ _ _ _ hw Z (lv_sub hl [2, 3, 1, 0] rfl)
-- X4_settle: room (1, 23)
theorem dX4_settle_0 : decode cX4_settle 0 = .ok (.aload_n 0, 1) := by decide +kernel
theorem dX4_settle_1 : decode cX4_settle 1 = .ok (.iload_n 1, 1) := by decide +kernel
theorem dX4_settle_2 : decode cX4_settle 2 = .ok (.bipush 7, 2) := by decide +kernel
theorem dX4_settle_4 : decode cX4_settle 4 = .ok (.iconst 1, 1) := by decide +kernel
theorem dX4_settle_5 : decode cX4_settle 5 = .ok (.invokevirtual 271, 3) := by decide +kernel
theorem dX4_settle_8 : decode cX4_settle 8 = .ok (.aload_n 0, 1) := by decide +kernel
theorem dX4_settle_9 : decode cX4_settle 9 = .ok (.iload_n 1, 1) := by decide +kernel
theorem dX4_settle_10 : decode cX4_settle 10 = .ok (.bipush 8, 2) := by decide +kernel
theorem dX4_settle_12 : decode cX4_settle 12 = .ok (.iload_n 2, 1) := by decide +kernel
theorem dX4_settle_13 : decode cX4_settle 13 = .ok (.invokevirtual 271, 3) := by decide +kernel
theorem dX4_settle_16 : decode cX4_settle 16 = .ok (.aload_n 0, 1) := by decide +kernel
theorem dX4_settle_17 : decode cX4_settle 17 = .ok (.iload_n 1, 1) := by decide +kernel
theorem dX4_settle_18 : decode cX4_settle 18 = .ok (.bipush 9, 2) := by decide +kernel
theorem dX4_settle_20 : decode cX4_settle 20 = .ok (.iload_n 2, 1) := by decide +kernel
theorem dX4_settle_21 : decode cX4_settle 21 = .ok (.aload_n 0, 1) := by decide +kernel
theorem dX4_settle_22 : decode cX4_settle 22 = .ok (.iload_n 1, 1) := by decide +kernel
theorem dX4_settle_23 : decode cX4_settle 23 = .ok (.iconst 3, 1) := by decide +kernel
theorem dX4_settle_24 : decode cX4_settle 24 = .ok (.invokevirtual 71, 3) := by decide +kernel
theorem dX4_settle_27 : decode cX4_settle 27 = .ok (.iadd, 1) := by decide +kernel
theorem dX4_settle_28 : decode cX4_settle 28 = .ok (.invokevirtual 271, 3) := by decide +kernel
theorem dX4_settle_31 : decode cX4_settle 31 = .ok (.return_, 1) := by decide +kernel
def w_X4_settle (a1 : Int32) (a2 : Int32) (v : V3) (Q : V3 → Prop) : Prop := w_X4_put a1 7 1 v (fun v1 => w_X4_put a1 8 a2 v1 (fun v2 => w_X4_of a1 3 v2 (fun r4 v3 => w_X4_put a1 9 (a2 + r4) v3 (fun v5 => Q v5))))
set_option maxRecDepth 100000 in
set_option maxHeartbeats 4000000 in
theorem k_X4_settle (l : Launch) {G : zG} (hg : 129 ≤ gn G) {a1 : Int32} {a2 : Int32}  {v : V3} {Q : V3 → Prop} (hw : w_X4_settle a1 a2 v Q) : Mz l yX4_settle cX4_settle 3 none 1 23 G [.ref (gad G 7), .int a1, .int a2] v (QvZ G Q) := by
  rw [w_X4_settle] at hw
  refine z_ofW hg (by decide) (Nat.le_of_ble_eq_true rfl) ?_
  intro p e s m args below meth c ls C0 Z hl
  have hx := C0.1
  have hb := C0.2.1
  replace hl : lv_has ls 3 [(0, .ref (gad G 7)), (1, .int a1), (2, .int a2)] := hl
  generalize s.heap = H at Z ⊢
  generalize ([] : List Loc) = locs at Z ⊢
  refine lv_aload_n hx hb dX4_settle_0 rfl (lv_at hl 0 rfl) ?_
  refine lv_iload_n hx hb dX4_settle_1 rfl (lv_at hl 1 rfl) ?_
  refine lv_bipush (v := 7) hx hb dX4_settle_2 (by decide) ?_
  refine lv_iconst (v := 1) hx hb dX4_settle_4 (by decide) ?_
  refine z_callVv C0 Z hl.1 (As := [.int a1, .int 7, .int 1]) (rest := []) (k_X4_put l (cx_g C0) hw) (gv_X4_put tm_5_178) rfl ds_X4_put ⟨Nat.le_of_ble_eq_true rfl, Nat.le_of_ble_eq_true rfl⟩ (ci := 4) rfl (cx_lt C0 (by decide)) rfl rfl rfl (Nat.le_of_ble_eq_true rfl) ⟨Nat.le_of_ble_eq_true rfl, Nat.le_of_ble_eq_true rfl⟩ dX4_settle_5 (fun v1 H locs hw Z => ?_)
  refine lv_aload_n hx hb dX4_settle_8 rfl (lv_at hl 0 rfl) ?_
  refine lv_iload_n hx hb dX4_settle_9 rfl (lv_at hl 1 rfl) ?_
  refine lv_bipush (v := 8) hx hb dX4_settle_10 (by decide) ?_
  refine lv_iload_n hx hb dX4_settle_12 rfl (lv_at hl 2 rfl) ?_
  refine z_callVv C0 Z hl.1 (As := [.int a1, .int 8, .int a2]) (rest := []) (k_X4_put l (cx_g C0) hw) (gv_X4_put tm_5_178) rfl ds_X4_put ⟨Nat.le_of_ble_eq_true rfl, Nat.le_of_ble_eq_true rfl⟩ (ci := 4) rfl (cx_lt C0 (by decide)) rfl rfl rfl (Nat.le_of_ble_eq_true rfl) ⟨Nat.le_of_ble_eq_true rfl, Nat.le_of_ble_eq_true rfl⟩ dX4_settle_13 (fun v2 H locs hw Z => ?_)
  refine lv_aload_n hx hb dX4_settle_16 rfl (lv_at hl 0 rfl) ?_
  refine lv_iload_n hx hb dX4_settle_17 rfl (lv_at hl 1 rfl) ?_
  refine lv_bipush (v := 9) hx hb dX4_settle_18 (by decide) ?_
  refine lv_iload_n hx hb dX4_settle_20 rfl (lv_at hl 2 rfl) ?_
  refine lv_aload_n hx hb dX4_settle_21 rfl (lv_at hl 0 rfl) ?_
  refine lv_iload_n hx hb dX4_settle_22 rfl (lv_at hl 1 rfl) ?_
  refine lv_iconst (v := 3) hx hb dX4_settle_23 (by decide) ?_
  refine z_callVi C0 Z hl.1 (As := [.int a1, .int 3]) (rest := [.int a2, .int 9, .int a1, .ref (gad G 7)]) (k_X4_of l (cx_g C0) hw) (gv_X4_of tm_5_163) rfl ds_X4_of ⟨Nat.le_of_ble_eq_true rfl, Nat.le_of_ble_eq_true rfl⟩ (ci := 4) rfl (cx_lt C0 (by decide)) rfl rfl rfl (Nat.le_of_ble_eq_true rfl) ⟨Nat.le_of_ble_eq_true rfl, Nat.le_of_ble_eq_true rfl⟩ dX4_settle_24 (fun r4 v3 H locs hw Z => ?_)
  refine lv_iadd hx hb dX4_settle_27 ?_
  refine z_callVv C0 Z hl.1 (As := [.int a1, .int 9, .int (a2 + r4)]) (rest := []) (k_X4_put l (cx_g C0) hw) (gv_X4_put tm_5_178) rfl ds_X4_put ⟨Nat.le_of_ble_eq_true rfl, Nat.le_of_ble_eq_true rfl⟩ (ci := 4) rfl (cx_lt C0 (by decide)) rfl rfl rfl (Nat.le_of_ble_eq_true rfl) ⟨Nat.le_of_ble_eq_true rfl, Nat.le_of_ble_eq_true rfl⟩ dX4_settle_28 (fun v5 H locs hw Z => ?_)
  exact z_vret C0 Z hw dX4_settle_31
-- X4_await: room (1, 23)
theorem dX4_await_0 : decode cX4_await 0 = .ok (.aload_n 0, 1) := by decide +kernel
theorem dX4_await_1 : decode cX4_await 1 = .ok (.iload_n 1, 1) := by decide +kernel
theorem dX4_await_2 : decode cX4_await 2 = .ok (.bipush 7, 2) := by decide +kernel
theorem dX4_await_4 : decode cX4_await 4 = .ok (.iconst 0, 1) := by decide +kernel
theorem dX4_await_5 : decode cX4_await 5 = .ok (.invokevirtual 271, 3) := by decide +kernel
theorem dX4_await_8 : decode cX4_await 8 = .ok (.aload_n 0, 1) := by decide +kernel
theorem dX4_await_9 : decode cX4_await 9 = .ok (.iload_n 1, 1) := by decide +kernel
theorem dX4_await_10 : decode cX4_await 10 = .ok (.bipush 8, 2) := by decide +kernel
theorem dX4_await_12 : decode cX4_await 12 = .ok (.iconst (-1), 1) := by decide +kernel
theorem dX4_await_13 : decode cX4_await 13 = .ok (.invokevirtual 271, 3) := by decide +kernel
theorem dX4_await_16 : decode cX4_await 16 = .ok (.aload_n 0, 1) := by decide +kernel
theorem dX4_await_17 : decode cX4_await 17 = .ok (.iload_n 1, 1) := by decide +kernel
theorem dX4_await_18 : decode cX4_await 18 = .ok (.bipush 9, 2) := by decide +kernel
theorem dX4_await_20 : decode cX4_await 20 = .ok (.iconst (-1), 1) := by decide +kernel
theorem dX4_await_21 : decode cX4_await 21 = .ok (.invokevirtual 271, 3) := by decide +kernel
theorem dX4_await_24 : decode cX4_await 24 = .ok (.return_, 1) := by decide +kernel
def w_X4_await (a1 : Int32) (v : V3) (Q : V3 → Prop) : Prop := w_X4_put a1 7 0 v (fun v1 => w_X4_put a1 8 (-1) v1 (fun v2 => w_X4_put a1 9 (-1) v2 (fun v3 => Q v3)))
set_option maxRecDepth 100000 in
set_option maxHeartbeats 4000000 in
theorem k_X4_await (l : Launch) {G : zG} (hg : 129 ≤ gn G) {a1 : Int32}  {v : V3} {Q : V3 → Prop} (hw : w_X4_await a1 v Q) : Mz l yX4_await cX4_await 2 none 1 23 G [.ref (gad G 7), .int a1] v (QvZ G Q) := by
  rw [w_X4_await] at hw
  refine z_ofW hg (by decide) (Nat.le_of_ble_eq_true rfl) ?_
  intro p e s m args below meth c ls C0 Z hl
  have hx := C0.1
  have hb := C0.2.1
  replace hl : lv_has ls 2 [(0, .ref (gad G 7)), (1, .int a1)] := hl
  generalize s.heap = H at Z ⊢
  generalize ([] : List Loc) = locs at Z ⊢
  refine lv_aload_n hx hb dX4_await_0 rfl (lv_at hl 0 rfl) ?_
  refine lv_iload_n hx hb dX4_await_1 rfl (lv_at hl 1 rfl) ?_
  refine lv_bipush (v := 7) hx hb dX4_await_2 (by decide) ?_
  refine lv_iconst (v := 0) hx hb dX4_await_4 (by decide) ?_
  refine z_callVv C0 Z hl.1 (As := [.int a1, .int 7, .int 0]) (rest := []) (k_X4_put l (cx_g C0) hw) (gv_X4_put tm_5_178) rfl ds_X4_put ⟨Nat.le_of_ble_eq_true rfl, Nat.le_of_ble_eq_true rfl⟩ (ci := 4) rfl (cx_lt C0 (by decide)) rfl rfl rfl (Nat.le_of_ble_eq_true rfl) ⟨Nat.le_of_ble_eq_true rfl, Nat.le_of_ble_eq_true rfl⟩ dX4_await_5 (fun v1 H locs hw Z => ?_)
  refine lv_aload_n hx hb dX4_await_8 rfl (lv_at hl 0 rfl) ?_
  refine lv_iload_n hx hb dX4_await_9 rfl (lv_at hl 1 rfl) ?_
  refine lv_bipush (v := 8) hx hb dX4_await_10 (by decide) ?_
  refine lv_iconst (v := (-1)) hx hb dX4_await_12 (by decide) ?_
  refine z_callVv C0 Z hl.1 (As := [.int a1, .int 8, .int (-1)]) (rest := []) (k_X4_put l (cx_g C0) hw) (gv_X4_put tm_5_178) rfl ds_X4_put ⟨Nat.le_of_ble_eq_true rfl, Nat.le_of_ble_eq_true rfl⟩ (ci := 4) rfl (cx_lt C0 (by decide)) rfl rfl rfl (Nat.le_of_ble_eq_true rfl) ⟨Nat.le_of_ble_eq_true rfl, Nat.le_of_ble_eq_true rfl⟩ dX4_await_13 (fun v2 H locs hw Z => ?_)
  refine lv_aload_n hx hb dX4_await_16 rfl (lv_at hl 0 rfl) ?_
  refine lv_iload_n hx hb dX4_await_17 rfl (lv_at hl 1 rfl) ?_
  refine lv_bipush (v := 9) hx hb dX4_await_18 (by decide) ?_
  refine lv_iconst (v := (-1)) hx hb dX4_await_20 (by decide) ?_
  refine z_callVv C0 Z hl.1 (As := [.int a1, .int 9, .int (-1)]) (rest := []) (k_X4_put l (cx_g C0) hw) (gv_X4_put tm_5_178) rfl ds_X4_put ⟨Nat.le_of_ble_eq_true rfl, Nat.le_of_ble_eq_true rfl⟩ (ci := 4) rfl (cx_lt C0 (by decide)) rfl rfl rfl (Nat.le_of_ble_eq_true rfl) ⟨Nat.le_of_ble_eq_true rfl, Nat.le_of_ble_eq_true rfl⟩ dX4_await_21 (fun v3 H locs hw Z => ?_)
  exact z_vret C0 Z hw dX4_await_24
-- X4_place: room (5, 117)
theorem dX4_place_0 : decode cX4_place 0 = .ok (.aload_n 0, 1) := by decide +kernel
theorem dX4_place_1 : decode cX4_place 1 = .ok (.iload_n 1, 1) := by decide +kernel
theorem dX4_place_2 : decode cX4_place 2 = .ok (.invokevirtual 274, 3) := by decide +kernel
theorem dX4_place_5 : decode cX4_place 5 = .ok (.istore_n 2, 1) := by decide +kernel
theorem dX4_place_6 : decode cX4_place 6 = .ok (.iload_n 2, 1) := by decide +kernel
theorem dX4_place_7 : decode cX4_place 7 = .ok (.iconst (-1), 1) := by decide +kernel
theorem dX4_place_8 : decode cX4_place 8 = .ok (.if_icmp .eq 9, 3) := by decide +kernel
theorem dX4_place_11 : decode cX4_place 11 = .ok (.aload_n 0, 1) := by decide +kernel
theorem dX4_place_12 : decode cX4_place 12 = .ok (.iload_n 1, 1) := by decide +kernel
theorem dX4_place_13 : decode cX4_place 13 = .ok (.iload_n 2, 1) := by decide +kernel
theorem dX4_place_14 : decode cX4_place 14 = .ok (.invokevirtual 277, 3) := by decide +kernel
theorem dX4_place_17 : decode cX4_place 17 = .ok (.iload_n 2, 1) := by decide +kernel
theorem dX4_place_18 : decode cX4_place 18 = .ok (.iconst (-1), 1) := by decide +kernel
theorem dX4_place_19 : decode cX4_place 19 = .ok (.if_icmp .eq 7, 3) := by decide +kernel
theorem dX4_place_22 : decode cX4_place 22 = .ok (.iconst 1, 1) := by decide +kernel
theorem dX4_place_23 : decode cX4_place 23 = .ok (.goto 4, 3) := by decide +kernel
theorem dX4_place_26 : decode cX4_place 26 = .ok (.iconst 0, 1) := by decide +kernel
theorem dX4_place_27 : decode cX4_place 27 = .ok (.ireturn, 1) := by decide +kernel
def w_X4_place_27  (Q : Int32 → V3 → Prop) (s0 : Int32) (v : V3) : Prop := (s0 = 0 ∨ s0 = 1) ∧ Q s0 v
def w_X4_place_17  (Q : Int32 → V3 → Prop) (x2 : Int32) (v : V3) : Prop := ((x2 = (-1) → w_X4_place_27 Q 0 v) ∧ (¬ x2 = (-1) → w_X4_place_27 Q 1 v))
def w_X4_place (a1 : Int32) (v : V3) (Q : Int32 → V3 → Prop) : Prop := w_X4_bestTime a1 v (fun r2 v1 => ((r2 = (-1) → w_X4_place_17 Q r2 v1) ∧ (¬ r2 = (-1) → w_X4_settle a1 r2 v1 (fun v6 => w_X4_place_17 Q r2 v6))))
set_option maxRecDepth 100000 in
set_option maxHeartbeats 4000000 in
theorem b_X4_place_27 {p : Program} (l : Launch) {e : Env} {s : State} {m : MethodId} {args : Array Value} {below : List Frame} {meth : Method} {c : Code} {G : zG}   (C0 : Cx G RX4 cX4_place 3 (some .boolean) p s m args meth c) {Q : Int32 → V3 → Prop} : ∀ (s0 : Int32) (v : V3) (H : Heap) (locs : List Loc) (ls : Array Slot), w_X4_place_27 Q s0 v → Zs G s v H locs → lv_has ls 3 [] → W p l e { frames := 5, cells := 0, slots := 0, locals := 117 } s m args below meth c H locs 0 0 (MQ below (QiZ G Q) args s 0 0 (zA G)) (F0 m 27 ls [.int s0]) := by
  have hx := C0.1
  have hb := C0.2.1
  intro s0 v H locs ls hw Z hl
  rw [w_X4_place_27] at hw
  obtain ⟨h5, hw⟩ := hw
  exact z_zret C0 Z h5 hw dX4_place_27
set_option maxRecDepth 100000 in
set_option maxHeartbeats 4000000 in
theorem b_X4_place_17 {p : Program} (l : Launch) {e : Env} {s : State} {m : MethodId} {args : Array Value} {below : List Frame} {meth : Method} {c : Code} {G : zG}   (C0 : Cx G RX4 cX4_place 3 (some .boolean) p s m args meth c) {Q : Int32 → V3 → Prop} : ∀ (x2 : Int32) (v : V3) (H : Heap) (locs : List Loc) (ls : Array Slot), w_X4_place_17 Q x2 v → Zs G s v H locs → lv_has ls 3 [(2, .int x2)] → W p l e { frames := 5, cells := 0, slots := 0, locals := 117 } s m args below meth c H locs 0 0 (MQ below (QiZ G Q) args s 0 0 (zA G)) (F0 m 17 ls []) := by
  have hx := C0.1
  have hb := C0.2.1
  intro x2 v H locs ls hw Z hl
  rw [w_X4_place_17] at hw
  refine lv_iload_n hx hb dX4_place_17 rfl (lv_at hl 0 rfl) ?_
  refine lv_iconst (v := (-1)) hx hb dX4_place_18 (by decide) ?_
  refine lv_icmp_eq (tgt := 26) hx hb dX4_place_19 (by decide) (fun c4 => ?_) (fun c4 => ?_)
  · replace hw := hw.1 c4
    refine lv_iconst (v := 0) hx hb dX4_place_26 (by decide) ?_
    exact b_X4_place_27 l C0 _ _ _ _ _ hw Z (lv_sub hl [] rfl)
  · replace hw := hw.2 c4
    refine lv_iconst (v := 1) hx hb dX4_place_22 (by decide) ?_
    refine lv_goto (tgt := 27) hx hb dX4_place_23 (by decide) ?_
    exact b_X4_place_27 l C0 _ _ _ _ _ hw Z (lv_sub hl [] rfl)
set_option maxRecDepth 100000 in
set_option maxHeartbeats 4000000 in
theorem k_X4_place (l : Launch) {G : zG} (hg : 129 ≤ gn G) {a1 : Int32}  {v : V3} {Q : Int32 → V3 → Prop} (hw : w_X4_place a1 v Q) : Mz l yX4_place cX4_place 3 (some .boolean) 5 117 G [.ref (gad G 7), .int a1] v (QiZ G Q) := by
  rw [w_X4_place] at hw
  refine z_ofW hg (by decide) (Nat.le_of_ble_eq_true rfl) ?_
  intro p e s m args below meth c ls C0 Z hl
  have hx := C0.1
  have hb := C0.2.1
  replace hl : lv_has ls 3 [(0, .ref (gad G 7)), (1, .int a1)] := hl
  generalize s.heap = H at Z ⊢
  generalize ([] : List Loc) = locs at Z ⊢
  refine lv_aload_n hx hb dX4_place_0 rfl (lv_at hl 0 rfl) ?_
  refine lv_iload_n hx hb dX4_place_1 rfl (lv_at hl 1 rfl) ?_
  refine z_callVi C0 Z hl.1 (As := [.int a1]) (rest := []) (k_X4_bestTime l (cx_g C0) hw) (gv_X4_bestTime tm_5_190) rfl ds_X4_bestTime ⟨Nat.le_of_ble_eq_true rfl, Nat.le_of_ble_eq_true rfl⟩ (ci := 4) rfl (cx_lt C0 (by decide)) rfl rfl rfl (Nat.le_of_ble_eq_true rfl) ⟨Nat.le_of_ble_eq_true rfl, Nat.le_of_ble_eq_true rfl⟩ dX4_place_2 (fun r2 v1 H locs hw Z => ?_)
  refine lv_istore_n (lv' := [(2, .int r2), (0, .ref (gad G 7)), (1, .int a1)]) hx hb dX4_place_5 rfl hl (by decide) rfl (fun ls hl => ?_)
  refine lv_iload_n hx hb dX4_place_6 rfl (lv_at hl 0 rfl) ?_
  refine lv_iconst (v := (-1)) hx hb dX4_place_7 (by decide) ?_
  refine lv_icmp_eq (tgt := 17) hx hb dX4_place_8 (by decide) (fun c3 => ?_) (fun c3 => ?_)
  · replace hw := hw.1 c3
    exact b_X4_place_17 l C0 _ _ _ _ _ hw Z (lv_sub hl [0] rfl)
  · replace hw := hw.2 c3
    refine lv_aload_n hx hb dX4_place_11 rfl (lv_at hl 1 rfl) ?_
    refine lv_iload_n hx hb dX4_place_12 rfl (lv_at hl 2 rfl) ?_
    refine lv_iload_n hx hb dX4_place_13 rfl (lv_at hl 0 rfl) ?_
    refine z_callVv C0 Z hl.1 (As := [.int a1, .int r2]) (rest := []) (k_X4_settle l (cx_g C0) hw) (gv_X4_settle tm_5_206) rfl ds_X4_settle ⟨Nat.le_of_ble_eq_true rfl, Nat.le_of_ble_eq_true rfl⟩ (ci := 4) rfl (cx_lt C0 (by decide)) rfl rfl rfl (Nat.le_of_ble_eq_true rfl) ⟨Nat.le_of_ble_eq_true rfl, Nat.le_of_ble_eq_true rfl⟩ dX4_place_14 (fun v6 H locs hw Z => ?_)
    exact b_X4_place_17 l C0 _ _ _ _ _ hw Z (lv_sub hl [0] rfl)
-- X4_appendBooking: room (6, 139)
theorem dX4_appendBooking_0 : decode cX4_appendBooking 0 = .ok (.aload_n 0, 1) := by decide +kernel
theorem dX4_appendBooking_1 : decode cX4_appendBooking 1 = .ok (.getfield 7, 3) := by decide +kernel
theorem dX4_appendBooking_4 : decode cX4_appendBooking 4 = .ok (.bipush 6, 2) := by decide +kernel
theorem dX4_appendBooking_6 : decode cX4_appendBooking 6 = .ok (.iaload, 1) := by decide +kernel
theorem dX4_appendBooking_7 : decode cX4_appendBooking 7 = .ok (.istore 5, 2) := by decide +kernel
theorem dX4_appendBooking_9 : decode cX4_appendBooking 9 = .ok (.aload_n 0, 1) := by decide +kernel
theorem dX4_appendBooking_10 : decode cX4_appendBooking 10 = .ok (.iload 5, 2) := by decide +kernel
theorem dX4_appendBooking_12 : decode cX4_appendBooking 12 = .ok (.iconst 0, 1) := by decide +kernel
theorem dX4_appendBooking_13 : decode cX4_appendBooking 13 = .ok (.iload_n 1, 1) := by decide +kernel
theorem dX4_appendBooking_14 : decode cX4_appendBooking 14 = .ok (.invokevirtual 271, 3) := by decide +kernel
theorem dX4_appendBooking_17 : decode cX4_appendBooking 17 = .ok (.aload_n 0, 1) := by decide +kernel
theorem dX4_appendBooking_18 : decode cX4_appendBooking 18 = .ok (.iload 5, 2) := by decide +kernel
theorem dX4_appendBooking_20 : decode cX4_appendBooking 20 = .ok (.iconst 1, 1) := by decide +kernel
theorem dX4_appendBooking_21 : decode cX4_appendBooking 21 = .ok (.aload_n 0, 1) := by decide +kernel
theorem dX4_appendBooking_22 : decode cX4_appendBooking 22 = .ok (.getfield 58, 3) := by decide +kernel
theorem dX4_appendBooking_25 : decode cX4_appendBooking 25 = .ok (.invokevirtual 271, 3) := by decide +kernel
theorem dX4_appendBooking_28 : decode cX4_appendBooking 28 = .ok (.aload_n 0, 1) := by decide +kernel
theorem dX4_appendBooking_29 : decode cX4_appendBooking 29 = .ok (.iload 5, 2) := by decide +kernel
theorem dX4_appendBooking_31 : decode cX4_appendBooking 31 = .ok (.iconst 2, 1) := by decide +kernel
theorem dX4_appendBooking_32 : decode cX4_appendBooking 32 = .ok (.aload_n 0, 1) := by decide +kernel
theorem dX4_appendBooking_33 : decode cX4_appendBooking 33 = .ok (.getfield 61, 3) := by decide +kernel
theorem dX4_appendBooking_36 : decode cX4_appendBooking 36 = .ok (.invokevirtual 271, 3) := by decide +kernel
theorem dX4_appendBooking_39 : decode cX4_appendBooking 39 = .ok (.aload_n 0, 1) := by decide +kernel
theorem dX4_appendBooking_40 : decode cX4_appendBooking 40 = .ok (.iload 5, 2) := by decide +kernel
theorem dX4_appendBooking_42 : decode cX4_appendBooking 42 = .ok (.iconst 3, 1) := by decide +kernel
theorem dX4_appendBooking_43 : decode cX4_appendBooking 43 = .ok (.aload_n 0, 1) := by decide +kernel
theorem dX4_appendBooking_44 : decode cX4_appendBooking 44 = .ok (.getfield 64, 3) := by decide +kernel
theorem dX4_appendBooking_47 : decode cX4_appendBooking 47 = .ok (.invokevirtual 271, 3) := by decide +kernel
theorem dX4_appendBooking_50 : decode cX4_appendBooking 50 = .ok (.aload_n 0, 1) := by decide +kernel
theorem dX4_appendBooking_51 : decode cX4_appendBooking 51 = .ok (.iload 5, 2) := by decide +kernel
theorem dX4_appendBooking_53 : decode cX4_appendBooking 53 = .ok (.iconst 4, 1) := by decide +kernel
theorem dX4_appendBooking_54 : decode cX4_appendBooking 54 = .ok (.iload_n 2, 1) := by decide +kernel
theorem dX4_appendBooking_55 : decode cX4_appendBooking 55 = .ok (.invokevirtual 271, 3) := by decide +kernel
theorem dX4_appendBooking_58 : decode cX4_appendBooking 58 = .ok (.aload_n 0, 1) := by decide +kernel
theorem dX4_appendBooking_59 : decode cX4_appendBooking 59 = .ok (.iload 5, 2) := by decide +kernel
theorem dX4_appendBooking_61 : decode cX4_appendBooking 61 = .ok (.iconst 5, 1) := by decide +kernel
theorem dX4_appendBooking_62 : decode cX4_appendBooking 62 = .ok (.iload_n 3, 1) := by decide +kernel
theorem dX4_appendBooking_63 : decode cX4_appendBooking 63 = .ok (.invokevirtual 271, 3) := by decide +kernel
theorem dX4_appendBooking_66 : decode cX4_appendBooking 66 = .ok (.aload_n 0, 1) := by decide +kernel
theorem dX4_appendBooking_67 : decode cX4_appendBooking 67 = .ok (.iload 5, 2) := by decide +kernel
theorem dX4_appendBooking_69 : decode cX4_appendBooking 69 = .ok (.bipush 6, 2) := by decide +kernel
theorem dX4_appendBooking_71 : decode cX4_appendBooking 71 = .ok (.iload 4, 2) := by decide +kernel
theorem dX4_appendBooking_73 : decode cX4_appendBooking 73 = .ok (.invokevirtual 271, 3) := by decide +kernel
theorem dX4_appendBooking_76 : decode cX4_appendBooking 76 = .ok (.aload_n 0, 1) := by decide +kernel
theorem dX4_appendBooking_77 : decode cX4_appendBooking 77 = .ok (.iload 5, 2) := by decide +kernel
theorem dX4_appendBooking_79 : decode cX4_appendBooking 79 = .ok (.invokevirtual 280, 3) := by decide +kernel
theorem dX4_appendBooking_82 : decode cX4_appendBooking 82 = .ok (.aload_n 0, 1) := by decide +kernel
theorem dX4_appendBooking_83 : decode cX4_appendBooking 83 = .ok (.getfield 7, 3) := by decide +kernel
theorem dX4_appendBooking_86 : decode cX4_appendBooking 86 = .ok (.bipush 6, 2) := by decide +kernel
theorem dX4_appendBooking_88 : decode cX4_appendBooking 88 = .ok (.dup2, 1) := by decide +kernel
theorem dX4_appendBooking_89 : decode cX4_appendBooking 89 = .ok (.iaload, 1) := by decide +kernel
theorem dX4_appendBooking_90 : decode cX4_appendBooking 90 = .ok (.iconst 1, 1) := by decide +kernel
theorem dX4_appendBooking_91 : decode cX4_appendBooking 91 = .ok (.iadd, 1) := by decide +kernel
theorem dX4_appendBooking_92 : decode cX4_appendBooking 92 = .ok (.iastore, 1) := by decide +kernel
theorem dX4_appendBooking_93 : decode cX4_appendBooking 93 = .ok (.aload_n 0, 1) := by decide +kernel
theorem dX4_appendBooking_94 : decode cX4_appendBooking 94 = .ok (.iload 5, 2) := by decide +kernel
theorem dX4_appendBooking_96 : decode cX4_appendBooking 96 = .ok (.invokevirtual 283, 3) := by decide +kernel
theorem dX4_appendBooking_99 : decode cX4_appendBooking 99 = .ok (.istore 6, 2) := by decide +kernel
theorem dX4_appendBooking_101 : decode cX4_appendBooking 101 = .ok (.iload 5, 2) := by decide +kernel
theorem dX4_appendBooking_103 : decode cX4_appendBooking 103 = .ok (.ireturn, 1) := by decide +kernel
def w_X4_appendBooking (a1 : Int32) (a2 : Int32) (a3 : Int32) (a4 : Int32) (v : V3) (Q : Int32 → V3 → Prop) : Prop := w_X4_put (v 8 6) 0 a1 v (fun v1 => w_X4_put (v 8 6) 1 (v1 7 8) v1 (fun v2 => w_X4_put (v 8 6) 2 (v2 7 9) v2 (fun v3 => w_X4_put (v 8 6) 3 (v3 7 10) v3 (fun v4 => w_X4_put (v 8 6) 4 a2 v4 (fun v5 => w_X4_put (v 8 6) 5 a3 v5 (fun v6 => w_X4_put (v 8 6) 6 a4 v6 (fun v7 => w_X4_await (v 8 6) v7 (fun v8 => ∀ v9 : V3, v9 = up2 v8 8 6 ((v8 8 6) + 1) → w_X4_place (v 8 6) v9 (fun r11 v10 => Q (v 8 6) v10)))))))))
set_option maxRecDepth 100000 in
set_option maxHeartbeats 4000000 in
theorem k_X4_appendBooking (l : Launch) {G : zG} (hg : 129 ≤ gn G) {a1 : Int32} {a2 : Int32} {a3 : Int32} {a4 : Int32}  {v : V3} {Q : Int32 → V3 → Prop} (hw : w_X4_appendBooking a1 a2 a3 a4 v Q) : Mz l yX4_appendBooking cX4_appendBooking 7 (some .int) 6 139 G [.ref (gad G 7), .int a1, .int a2, .int a3, .int a4] v (QiZ G Q) := by
  rw [w_X4_appendBooking] at hw
  refine z_ofW hg (by decide) (Nat.le_of_ble_eq_true rfl) ?_
  intro p e s m args below meth c ls C0 Z hl
  have hx := C0.1
  have hb := C0.2.1
  replace hl : lv_has ls 7 [(0, .ref (gad G 7)), (1, .int a1), (2, .int a2), (3, .int a3), (4, .int a4)] := hl
  generalize s.heap = H at Z ⊢
  generalize ([] : List Loc) = locs at Z ⊢
  refine lv_aload_n hx hb dX4_appendBooking_0 rfl (lv_at hl 0 rfl) ?_
  refine z_get C0 Z in_X4 rfl 0 (by decide) rfl tm_4_203 (cx_lt C0 (by decide)) rfl rfl dX4_appendBooking_1 ?_
  refine lv_bipush (v := 6) hx hb dX4_appendBooking_4 (by decide) ?_
  refine z_ialdk C0 Z (cx_lt C0 (by decide)) rfl in_6_474 nc_6 dX4_appendBooking_6 ?_
  refine lv_istore (lv' := [(5, .int (v 8 6)), (0, .ref (gad G 7)), (1, .int a1), (2, .int a2), (3, .int a3), (4, .int a4)]) hx hb dX4_appendBooking_7 hl (by decide) rfl (fun ls hl => ?_)
  refine lv_aload_n hx hb dX4_appendBooking_9 rfl (lv_at hl 1 rfl) ?_
  refine lv_iload hx hb dX4_appendBooking_10 (lv_at hl 0 rfl) ?_
  refine lv_iconst (v := 0) hx hb dX4_appendBooking_12 (by decide) ?_
  refine lv_iload_n hx hb dX4_appendBooking_13 rfl (lv_at hl 2 rfl) ?_
  refine z_callVv C0 Z hl.1 (As := [.int (v 8 6), .int 0, .int a1]) (rest := []) (k_X4_put l (cx_g C0) hw) (gv_X4_put tm_5_178) rfl ds_X4_put ⟨Nat.le_of_ble_eq_true rfl, Nat.le_of_ble_eq_true rfl⟩ (ci := 4) rfl (cx_lt C0 (by decide)) rfl rfl rfl (Nat.le_of_ble_eq_true rfl) ⟨Nat.le_of_ble_eq_true rfl, Nat.le_of_ble_eq_true rfl⟩ dX4_appendBooking_14 (fun v1 H locs hw Z => ?_)
  refine lv_aload_n hx hb dX4_appendBooking_17 rfl (lv_at hl 1 rfl) ?_
  refine lv_iload hx hb dX4_appendBooking_18 (lv_at hl 0 rfl) ?_
  refine lv_iconst (v := 1) hx hb dX4_appendBooking_20 (by decide) ?_
  refine lv_aload_n hx hb dX4_appendBooking_21 rfl (lv_at hl 1 rfl) ?_
  refine z_get C0 Z in_X4 rfl 8 (by decide) rfl tm_4_211 (cx_lt C0 (by decide)) rfl rfl dX4_appendBooking_22 ?_
  refine z_callVv C0 Z hl.1 (As := [.int (v 8 6), .int 1, .int (v1 7 8)]) (rest := []) (k_X4_put l (cx_g C0) hw) (gv_X4_put tm_5_178) rfl ds_X4_put ⟨Nat.le_of_ble_eq_true rfl, Nat.le_of_ble_eq_true rfl⟩ (ci := 4) rfl (cx_lt C0 (by decide)) rfl rfl rfl (Nat.le_of_ble_eq_true rfl) ⟨Nat.le_of_ble_eq_true rfl, Nat.le_of_ble_eq_true rfl⟩ dX4_appendBooking_25 (fun v2 H locs hw Z => ?_)
  refine lv_aload_n hx hb dX4_appendBooking_28 rfl (lv_at hl 1 rfl) ?_
  refine lv_iload hx hb dX4_appendBooking_29 (lv_at hl 0 rfl) ?_
  refine lv_iconst (v := 2) hx hb dX4_appendBooking_31 (by decide) ?_
  refine lv_aload_n hx hb dX4_appendBooking_32 rfl (lv_at hl 1 rfl) ?_
  refine z_get C0 Z in_X4 rfl 9 (by decide) rfl tm_4_212 (cx_lt C0 (by decide)) rfl rfl dX4_appendBooking_33 ?_
  refine z_callVv C0 Z hl.1 (As := [.int (v 8 6), .int 2, .int (v2 7 9)]) (rest := []) (k_X4_put l (cx_g C0) hw) (gv_X4_put tm_5_178) rfl ds_X4_put ⟨Nat.le_of_ble_eq_true rfl, Nat.le_of_ble_eq_true rfl⟩ (ci := 4) rfl (cx_lt C0 (by decide)) rfl rfl rfl (Nat.le_of_ble_eq_true rfl) ⟨Nat.le_of_ble_eq_true rfl, Nat.le_of_ble_eq_true rfl⟩ dX4_appendBooking_36 (fun v3 H locs hw Z => ?_)
  refine lv_aload_n hx hb dX4_appendBooking_39 rfl (lv_at hl 1 rfl) ?_
  refine lv_iload hx hb dX4_appendBooking_40 (lv_at hl 0 rfl) ?_
  refine lv_iconst (v := 3) hx hb dX4_appendBooking_42 (by decide) ?_
  refine lv_aload_n hx hb dX4_appendBooking_43 rfl (lv_at hl 1 rfl) ?_
  refine z_get C0 Z in_X4 rfl 10 (by decide) rfl tm_4_213 (cx_lt C0 (by decide)) rfl rfl dX4_appendBooking_44 ?_
  refine z_callVv C0 Z hl.1 (As := [.int (v 8 6), .int 3, .int (v3 7 10)]) (rest := []) (k_X4_put l (cx_g C0) hw) (gv_X4_put tm_5_178) rfl ds_X4_put ⟨Nat.le_of_ble_eq_true rfl, Nat.le_of_ble_eq_true rfl⟩ (ci := 4) rfl (cx_lt C0 (by decide)) rfl rfl rfl (Nat.le_of_ble_eq_true rfl) ⟨Nat.le_of_ble_eq_true rfl, Nat.le_of_ble_eq_true rfl⟩ dX4_appendBooking_47 (fun v4 H locs hw Z => ?_)
  refine lv_aload_n hx hb dX4_appendBooking_50 rfl (lv_at hl 1 rfl) ?_
  refine lv_iload hx hb dX4_appendBooking_51 (lv_at hl 0 rfl) ?_
  refine lv_iconst (v := 4) hx hb dX4_appendBooking_53 (by decide) ?_
  refine lv_iload_n hx hb dX4_appendBooking_54 rfl (lv_at hl 3 rfl) ?_
  refine z_callVv C0 Z hl.1 (As := [.int (v 8 6), .int 4, .int a2]) (rest := []) (k_X4_put l (cx_g C0) hw) (gv_X4_put tm_5_178) rfl ds_X4_put ⟨Nat.le_of_ble_eq_true rfl, Nat.le_of_ble_eq_true rfl⟩ (ci := 4) rfl (cx_lt C0 (by decide)) rfl rfl rfl (Nat.le_of_ble_eq_true rfl) ⟨Nat.le_of_ble_eq_true rfl, Nat.le_of_ble_eq_true rfl⟩ dX4_appendBooking_55 (fun v5 H locs hw Z => ?_)
  refine lv_aload_n hx hb dX4_appendBooking_58 rfl (lv_at hl 1 rfl) ?_
  refine lv_iload hx hb dX4_appendBooking_59 (lv_at hl 0 rfl) ?_
  refine lv_iconst (v := 5) hx hb dX4_appendBooking_61 (by decide) ?_
  refine lv_iload_n hx hb dX4_appendBooking_62 rfl (lv_at hl 4 rfl) ?_
  refine z_callVv C0 Z hl.1 (As := [.int (v 8 6), .int 5, .int a3]) (rest := []) (k_X4_put l (cx_g C0) hw) (gv_X4_put tm_5_178) rfl ds_X4_put ⟨Nat.le_of_ble_eq_true rfl, Nat.le_of_ble_eq_true rfl⟩ (ci := 4) rfl (cx_lt C0 (by decide)) rfl rfl rfl (Nat.le_of_ble_eq_true rfl) ⟨Nat.le_of_ble_eq_true rfl, Nat.le_of_ble_eq_true rfl⟩ dX4_appendBooking_63 (fun v6 H locs hw Z => ?_)
  refine lv_aload_n hx hb dX4_appendBooking_66 rfl (lv_at hl 1 rfl) ?_
  refine lv_iload hx hb dX4_appendBooking_67 (lv_at hl 0 rfl) ?_
  refine lv_bipush (v := 6) hx hb dX4_appendBooking_69 (by decide) ?_
  refine lv_iload hx hb dX4_appendBooking_71 (lv_at hl 5 rfl) ?_
  refine z_callVv C0 Z hl.1 (As := [.int (v 8 6), .int 6, .int a4]) (rest := []) (k_X4_put l (cx_g C0) hw) (gv_X4_put tm_5_178) rfl ds_X4_put ⟨Nat.le_of_ble_eq_true rfl, Nat.le_of_ble_eq_true rfl⟩ (ci := 4) rfl (cx_lt C0 (by decide)) rfl rfl rfl (Nat.le_of_ble_eq_true rfl) ⟨Nat.le_of_ble_eq_true rfl, Nat.le_of_ble_eq_true rfl⟩ dX4_appendBooking_73 (fun v7 H locs hw Z => ?_)
  refine lv_aload_n hx hb dX4_appendBooking_76 rfl (lv_at hl 1 rfl) ?_
  refine lv_iload hx hb dX4_appendBooking_77 (lv_at hl 0 rfl) ?_
  refine z_callVv C0 Z hl.1 (As := [.int (v 8 6)]) (rest := []) (k_X4_await l (cx_g C0) hw) (gv_X4_await tm_5_182) rfl ds_X4_await ⟨Nat.le_of_ble_eq_true rfl, Nat.le_of_ble_eq_true rfl⟩ (ci := 4) rfl (cx_lt C0 (by decide)) rfl rfl rfl (Nat.le_of_ble_eq_true rfl) ⟨Nat.le_of_ble_eq_true rfl, Nat.le_of_ble_eq_true rfl⟩ dX4_appendBooking_79 (fun v8 H locs hw Z => ?_)
  refine lv_aload_n hx hb dX4_appendBooking_82 rfl (lv_at hl 1 rfl) ?_
  refine z_get C0 Z in_X4 rfl 0 (by decide) rfl tm_4_203 (cx_lt C0 (by decide)) rfl rfl dX4_appendBooking_83 ?_
  refine lv_bipush (v := 6) hx hb dX4_appendBooking_86 (by decide) ?_
  refine lv_dup2_11 hx hb dX4_appendBooking_88 rfl rfl ?_
  refine z_ialdk C0 Z (cx_lt C0 (by decide)) rfl in_6_474 nc_6 dX4_appendBooking_89 ?_
  refine lv_iconst (v := 1) hx hb dX4_appendBooking_90 (by decide) ?_
  refine lv_iadd hx hb dX4_appendBooking_91 ?_
  refine z_iastk C0 Z (cx_lt C0 (by decide)) (fun _ => rfl) in_6_474 nc_6 dX4_appendBooking_92 (fun H locs Z => ?_)
  obtain ⟨v9, ev9⟩ : ∃ z : V3, z = up2 v8 8 6 ((v8 8 6) + 1) := ⟨_, rfl⟩
  rw [← ev9] at Z
  replace hw := hw v9 ev9
  refine lv_aload_n hx hb dX4_appendBooking_93 rfl (lv_at hl 1 rfl) ?_
  refine lv_iload hx hb dX4_appendBooking_94 (lv_at hl 0 rfl) ?_
  refine z_callVi C0 Z hl.1 (As := [.int (v 8 6)]) (rest := []) (k_X4_place l (cx_g C0) hw) (gv_X4_place tm_5_186) rfl ds_X4_place ⟨Nat.le_of_ble_eq_true rfl, Nat.le_of_ble_eq_true rfl⟩ (ci := 4) rfl (cx_lt C0 (by decide)) rfl rfl rfl (Nat.le_of_ble_eq_true rfl) ⟨Nat.le_of_ble_eq_true rfl, Nat.le_of_ble_eq_true rfl⟩ dX4_appendBooking_96 (fun r11 v10 H locs hw Z => ?_)
  refine lv_istore (lv' := [(6, .int r11), (5, .int (v 8 6)), (0, .ref (gad G 7)), (1, .int a1), (2, .int a2), (3, .int a3), (4, .int a4)]) hx hb dX4_appendBooking_99 hl (by decide) rfl (fun ls hl => ?_)
  refine lv_iload hx hb dX4_appendBooking_101 (lv_at hl 1 rfl) ?_
  exact z_iret C0 Z hw dX4_appendBooking_103
-- X4_book: room (7, 165)
theorem dX4_book_0 : decode cX4_book 0 = .ok (.aload_n 0, 1) := by decide +kernel
theorem dX4_book_1 : decode cX4_book 1 = .ok (.iconst 0, 1) := by decide +kernel
theorem dX4_book_2 : decode cX4_book 2 = .ok (.putfield 55, 3) := by decide +kernel
theorem dX4_book_5 : decode cX4_book 5 = .ok (.aload_n 0, 1) := by decide +kernel
theorem dX4_book_6 : decode cX4_book 6 = .ok (.iload_n 1, 1) := by decide +kernel
theorem dX4_book_7 : decode cX4_book 7 = .ok (.invokevirtual 245, 3) := by decide +kernel
theorem dX4_book_10 : decode cX4_book 10 = .ok (.ifCond .ne 9, 3) := by decide +kernel
theorem dX4_book_13 : decode cX4_book 13 = .ok (.aload_n 0, 1) := by decide +kernel
theorem dX4_book_14 : decode cX4_book 14 = .ok (.iconst 1, 1) := by decide +kernel
theorem dX4_book_15 : decode cX4_book 15 = .ok (.invokevirtual 78, 3) := by decide +kernel
theorem dX4_book_18 : decode cX4_book 18 = .ok (.ireturn, 1) := by decide +kernel
theorem dX4_book_19 : decode cX4_book 19 = .ok (.iload_n 2, 1) := by decide +kernel
theorem dX4_book_20 : decode cX4_book 20 = .ok (.i2l, 1) := by decide +kernel
theorem dX4_book_21 : decode cX4_book 21 = .ok (.lconst 0, 1) := by decide +kernel
theorem dX4_book_22 : decode cX4_book 22 = .ok (.ldc2_w 286, 3) := by decide +kernel
theorem dX4_book_25 : decode cX4_book 25 = .ok (.invokestatic 67, 3) := by decide +kernel
theorem dX4_book_28 : decode cX4_book 28 = .ok (.ifCond .eq 41, 3) := by decide +kernel
theorem dX4_book_31 : decode cX4_book 31 = .ok (.iload_n 3, 1) := by decide +kernel
theorem dX4_book_32 : decode cX4_book 32 = .ok (.i2l, 1) := by decide +kernel
theorem dX4_book_33 : decode cX4_book 33 = .ok (.lconst 0, 1) := by decide +kernel
theorem dX4_book_34 : decode cX4_book 34 = .ok (.ldc2_w 261, 3) := by decide +kernel
theorem dX4_book_37 : decode cX4_book 37 = .ok (.invokestatic 67, 3) := by decide +kernel
theorem dX4_book_40 : decode cX4_book 40 = .ok (.ifCond .eq 29, 3) := by decide +kernel
theorem dX4_book_43 : decode cX4_book 43 = .ok (.iload 4, 2) := by decide +kernel
theorem dX4_book_45 : decode cX4_book 45 = .ok (.i2l, 1) := by decide +kernel
theorem dX4_book_46 : decode cX4_book 46 = .ok (.lconst 1, 1) := by decide +kernel
theorem dX4_book_47 : decode cX4_book 47 = .ok (.ldc2_w 288, 3) := by decide +kernel
theorem dX4_book_50 : decode cX4_book 50 = .ok (.invokestatic 67, 3) := by decide +kernel
theorem dX4_book_53 : decode cX4_book 53 = .ok (.ifCond .eq 16, 3) := by decide +kernel
theorem dX4_book_56 : decode cX4_book 56 = .ok (.iload_n 2, 1) := by decide +kernel
theorem dX4_book_57 : decode cX4_book 57 = .ok (.iload_n 3, 1) := by decide +kernel
theorem dX4_book_58 : decode cX4_book 58 = .ok (.iadd, 1) := by decide +kernel
theorem dX4_book_59 : decode cX4_book 59 = .ok (.aload_n 0, 1) := by decide +kernel
theorem dX4_book_60 : decode cX4_book 60 = .ok (.getfield 7, 3) := by decide +kernel
theorem dX4_book_63 : decode cX4_book 63 = .ok (.bipush 7, 2) := by decide +kernel
theorem dX4_book_65 : decode cX4_book 65 = .ok (.iaload, 1) := by decide +kernel
theorem dX4_book_66 : decode cX4_book 66 = .ok (.if_icmp .ge 9, 3) := by decide +kernel
theorem dX4_book_69 : decode cX4_book 69 = .ok (.aload_n 0, 1) := by decide +kernel
theorem dX4_book_70 : decode cX4_book 70 = .ok (.iconst 2, 1) := by decide +kernel
theorem dX4_book_71 : decode cX4_book 71 = .ok (.invokevirtual 78, 3) := by decide +kernel
theorem dX4_book_74 : decode cX4_book 74 = .ok (.ireturn, 1) := by decide +kernel
theorem dX4_book_75 : decode cX4_book 75 = .ok (.aload_n 0, 1) := by decide +kernel
theorem dX4_book_76 : decode cX4_book 76 = .ok (.getfield 7, 3) := by decide +kernel
theorem dX4_book_79 : decode cX4_book 79 = .ok (.bipush 6, 2) := by decide +kernel
theorem dX4_book_81 : decode cX4_book 81 = .ok (.iaload, 1) := by decide +kernel
theorem dX4_book_82 : decode cX4_book 82 = .ok (.bipush 40, 2) := by decide +kernel
theorem dX4_book_84 : decode cX4_book 84 = .ok (.if_icmp .eq 31, 3) := by decide +kernel
theorem dX4_book_87 : decode cX4_book 87 = .ok (.aload_n 0, 1) := by decide +kernel
theorem dX4_book_88 : decode cX4_book 88 = .ok (.iload_n 1, 1) := by decide +kernel
theorem dX4_book_89 : decode cX4_book 89 = .ok (.invokevirtual 165, 3) := by decide +kernel
theorem dX4_book_92 : decode cX4_book 92 = .ok (.aload_n 0, 1) := by decide +kernel
theorem dX4_book_93 : decode cX4_book 93 = .ok (.getfield 7, 3) := by decide +kernel
theorem dX4_book_96 : decode cX4_book 96 = .ok (.iconst 2, 1) := by decide +kernel
theorem dX4_book_97 : decode cX4_book 97 = .ok (.iaload, 1) := by decide +kernel
theorem dX4_book_98 : decode cX4_book 98 = .ok (.if_icmp .ge 17, 3) := by decide +kernel
theorem dX4_book_101 : decode cX4_book 101 = .ok (.aload_n 0, 1) := by decide +kernel
theorem dX4_book_102 : decode cX4_book 102 = .ok (.iload_n 1, 1) := by decide +kernel
theorem dX4_book_103 : decode cX4_book 103 = .ok (.invokevirtual 248, 3) := by decide +kernel
theorem dX4_book_106 : decode cX4_book 106 = .ok (.aload_n 0, 1) := by decide +kernel
theorem dX4_book_107 : decode cX4_book 107 = .ok (.getfield 7, 3) := by decide +kernel
theorem dX4_book_110 : decode cX4_book 110 = .ok (.iconst 3, 1) := by decide +kernel
theorem dX4_book_111 : decode cX4_book 111 = .ok (.iaload, 1) := by decide +kernel
theorem dX4_book_112 : decode cX4_book 112 = .ok (.if_icmp .lt 9, 3) := by decide +kernel
theorem dX4_book_115 : decode cX4_book 115 = .ok (.aload_n 0, 1) := by decide +kernel
theorem dX4_book_116 : decode cX4_book 116 = .ok (.iconst 3, 1) := by decide +kernel
theorem dX4_book_117 : decode cX4_book 117 = .ok (.invokevirtual 78, 3) := by decide +kernel
theorem dX4_book_120 : decode cX4_book 120 = .ok (.ireturn, 1) := by decide +kernel
theorem dX4_book_121 : decode cX4_book 121 = .ok (.aload_n 0, 1) := by decide +kernel
theorem dX4_book_122 : decode cX4_book 122 = .ok (.iload_n 1, 1) := by decide +kernel
theorem dX4_book_123 : decode cX4_book 123 = .ok (.iload_n 2, 1) := by decide +kernel
theorem dX4_book_124 : decode cX4_book 124 = .ok (.iload_n 3, 1) := by decide +kernel
theorem dX4_book_125 : decode cX4_book 125 = .ok (.iload 4, 2) := by decide +kernel
theorem dX4_book_127 : decode cX4_book 127 = .ok (.invokevirtual 178, 3) := by decide +kernel
theorem dX4_book_130 : decode cX4_book 130 = .ok (.ireturn, 1) := by decide +kernel
def w_X4_book_69  (Q : Int32 → V3 → Prop) (v : V3) : Prop := w_X4_fail 2 v (fun r9 v8 => Q r9 v8)
def w_X4_book_115  (Q : Int32 → V3 → Prop) (v : V3) : Prop := w_X4_fail 3 v (fun r19 v18 => Q r19 v18)
def w_X4_book (a1 : Int32) (a2 : Int32) (a3 : Int32) (a4 : Int32) (v : V3) (Q : Int32 → V3 → Prop) : Prop := ∀ v1 : V3, v1 = up2 v 7 11 0 → w_X4_isOwner a1 v1 (fun r3 v2 => ((¬ r3 = 0 → w_X4_isBetween ((a2).toInt64) 0 9999 v2 (fun r6 v5 => ((r6 = 0 → w_X4_book_69 Q v5) ∧ (¬ r6 = 0 → w_X4_isBetween ((a3).toInt64) 0 99 v5 (fun r11 v10 => ((r11 = 0 → w_X4_book_69 Q v10) ∧ (¬ r11 = 0 → w_X4_isBetween ((a4).toInt64) 1 9 v10 (fun r14 v13 => ((r14 = 0 → w_X4_book_69 Q v13) ∧ (¬ r14 = 0 → (((v13 8 7) ≤ (a2 + a3) → (((v13 8 6) = 40 → w_X4_book_115 Q v13) ∧ (¬ (v13 8 6) = 40 → w_X4_openBookings a1 v13 (fun r21 v20 => (((v20 8 2) ≤ r21 → w_X4_book_115 Q v20) ∧ (¬ (v20 8 2) ≤ r21 → w_X4_broken a1 v20 (fun r24 v23 => ((r24 < (v23 8 3) → w_X4_appendBooking a1 a2 a3 a4 v23 (fun r27 v26 => Q r27 v26)) ∧ (¬ r24 < (v23 8 3) → w_X4_book_115 Q v23))))))))) ∧ (¬ (v13 8 7) ≤ (a2 + a3) → w_X4_book_69 Q v13)))))))))))) ∧ (r3 = 0 → w_X4_fail 1 v2 (fun r29 v28 => Q r29 v28))))
set_option maxRecDepth 100000 in
set_option maxHeartbeats 4000000 in
theorem b_X4_book_69 {p : Program} (l : Launch) {e : Env} {s : State} {m : MethodId} {args : Array Value} {below : List Frame} {meth : Method} {c : Code} {G : zG}   (C0 : Cx G RX4 cX4_book 5 (some .int) p s m args meth c) {Q : Int32 → V3 → Prop} : ∀ (v : V3) (H : Heap) (locs : List Loc) (ls : Array Slot), w_X4_book_69 Q v → Zs G s v H locs → lv_has ls 5 [(0, .ref (gad G 7))] → W p l e { frames := 7, cells := 0, slots := 0, locals := 165 } s m args below meth c H locs 0 0 (MQ below (QiZ G Q) args s 0 0 (zA G)) (F0 m 69 ls []) := by
  have hx := C0.1
  have hb := C0.2.1
  intro v H locs ls hw Z hl
  rw [w_X4_book_69] at hw
  refine lv_aload_n hx hb dX4_book_69 rfl (lv_at hl 0 rfl) ?_
  refine lv_iconst (v := 2) hx hb dX4_book_70 (by decide) ?_
  refine z_callVi C0 Z hl.1 (As := [.int 2]) (rest := []) (k_X4_fail l (cx_g C0) hw) (gv_X4_fail tm_5_75) rfl ds_X4_fail ⟨Nat.le_of_ble_eq_true rfl, Nat.le_of_ble_eq_true rfl⟩ (ci := 4) rfl (cx_lt C0 (by decide)) rfl rfl rfl (Nat.le_of_ble_eq_true rfl) ⟨Nat.le_of_ble_eq_true rfl, Nat.le_of_ble_eq_true rfl⟩ dX4_book_71 (fun r9 v8 H locs hw Z => ?_)
  exact z_iret C0 Z hw dX4_book_74
set_option maxRecDepth 100000 in
set_option maxHeartbeats 4000000 in
theorem b_X4_book_115 {p : Program} (l : Launch) {e : Env} {s : State} {m : MethodId} {args : Array Value} {below : List Frame} {meth : Method} {c : Code} {G : zG}   (C0 : Cx G RX4 cX4_book 5 (some .int) p s m args meth c) {Q : Int32 → V3 → Prop} : ∀ (v : V3) (H : Heap) (locs : List Loc) (ls : Array Slot), w_X4_book_115 Q v → Zs G s v H locs → lv_has ls 5 [(0, .ref (gad G 7))] → W p l e { frames := 7, cells := 0, slots := 0, locals := 165 } s m args below meth c H locs 0 0 (MQ below (QiZ G Q) args s 0 0 (zA G)) (F0 m 115 ls []) := by
  have hx := C0.1
  have hb := C0.2.1
  intro v H locs ls hw Z hl
  rw [w_X4_book_115] at hw
  refine lv_aload_n hx hb dX4_book_115 rfl (lv_at hl 0 rfl) ?_
  refine lv_iconst (v := 3) hx hb dX4_book_116 (by decide) ?_
  refine z_callVi C0 Z hl.1 (As := [.int 3]) (rest := []) (k_X4_fail l (cx_g C0) hw) (gv_X4_fail tm_5_75) rfl ds_X4_fail ⟨Nat.le_of_ble_eq_true rfl, Nat.le_of_ble_eq_true rfl⟩ (ci := 4) rfl (cx_lt C0 (by decide)) rfl rfl rfl (Nat.le_of_ble_eq_true rfl) ⟨Nat.le_of_ble_eq_true rfl, Nat.le_of_ble_eq_true rfl⟩ dX4_book_117 (fun r19 v18 H locs hw Z => ?_)
  exact z_iret C0 Z hw dX4_book_120
set_option maxRecDepth 100000 in
set_option maxHeartbeats 4000000 in
theorem k_X4_book (l : Launch) {G : zG} (hg : 129 ≤ gn G) {a1 : Int32} {a2 : Int32} {a3 : Int32} {a4 : Int32}  {v : V3} {Q : Int32 → V3 → Prop} (hw : w_X4_book a1 a2 a3 a4 v Q) : Mz l yX4_book cX4_book 5 (some .int) 7 165 G [.ref (gad G 7), .int a1, .int a2, .int a3, .int a4] v (QiZ G Q) := by
  rw [w_X4_book] at hw
  refine z_ofW hg (by decide) (Nat.le_of_ble_eq_true rfl) ?_
  intro p e s m args below meth c ls C0 Z hl
  have hx := C0.1
  have hb := C0.2.1
  replace hl : lv_has ls 5 [(0, .ref (gad G 7)), (1, .int a1), (2, .int a2), (3, .int a3), (4, .int a4)] := hl
  generalize s.heap = H at Z ⊢
  generalize ([] : List Loc) = locs at Z ⊢
  refine lv_aload_n hx hb dX4_book_0 rfl (lv_at hl 0 rfl) ?_
  refine lv_iconst (v := 0) hx hb dX4_book_1 (by decide) ?_
  refine z_put C0 Z in_X4 tyX4_ok nmX4 rfl 11 (by decide) rfl rfl tm_4_214 (cx_lt C0 (by decide)) rfl p_X4_11 (fun c' h => up2_off _ _ _ h) rfl rfl (Nat.le_of_ble_eq_true rfl) dX4_book_2 (fun H locs Z => ?_)
  obtain ⟨v1, ev1⟩ : ∃ z : V3, z = up2 v 7 11 0 := ⟨_, rfl⟩
  rw [← ev1] at Z
  replace hw := hw v1 ev1
  refine lv_aload_n hx hb dX4_book_5 rfl (lv_at hl 0 rfl) ?_
  refine lv_iload_n hx hb dX4_book_6 rfl (lv_at hl 1 rfl) ?_
  refine z_callVi C0 Z hl.1 (As := [.int a1]) (rest := []) (k_X4_isOwner l (cx_g C0) hw) (gv_X4_isOwner tm_6_18) rfl ds_X4_isOwner ⟨Nat.le_of_ble_eq_true rfl, Nat.le_of_ble_eq_true rfl⟩ (ci := 4) rfl (cx_lt C0 (by decide)) rfl rfl rfl (Nat.le_of_ble_eq_true rfl) ⟨Nat.le_of_ble_eq_true rfl, Nat.le_of_ble_eq_true rfl⟩ dX4_book_7 (fun r3 v2 H locs hw Z => ?_)
  refine lv_if_ne (tgt := 19) hx hb dX4_book_10 (by decide) (fun c4 => ?_) (fun c4 => ?_)
  · replace hw := hw.1 c4
    refine lv_iload_n hx hb dX4_book_19 rfl (lv_at hl 2 rfl) ?_
    refine lv_i2l (v := (a2).toInt64) hx hb dX4_book_20 rfl ?_
    refine lv_lconst (v := 0) hx hb dX4_book_21 (by decide) ?_
    refine lv_ldc2 hx hb (cx_own C0) (cx_w C0 tm_6_69) dX4_book_22 ?_
    refine z_callSi C0 Z hl.1 (As := [.long ((a2).toInt64), .long 0, .long 9999]) (rest := []) (k_X4_isBetween l (cx_g C0) hw) (gv_X4_isBetween tm_5_83) ds_X4_isBetween ⟨Nat.le_of_ble_eq_true rfl, Nat.le_of_ble_eq_true rfl⟩ rfl rfl (Nat.le_of_ble_eq_true rfl) ⟨Nat.le_of_ble_eq_true rfl, Nat.le_of_ble_eq_true rfl⟩ dX4_book_25 (fun r6 v5 H locs hw Z => ?_)
    refine lv_if_eq (tgt := 69) hx hb dX4_book_28 (by decide) (fun c7 => ?_) (fun c7 => ?_)
    · replace hw := hw.1 c7
      exact b_X4_book_69 l C0 _ _ _ _ hw Z (lv_sub hl [0] rfl)
    · replace hw := hw.2 c7
      refine lv_iload_n hx hb dX4_book_31 rfl (lv_at hl 3 rfl) ?_
      refine lv_i2l (v := (a3).toInt64) hx hb dX4_book_32 rfl ?_
      refine lv_lconst (v := 0) hx hb dX4_book_33 (by decide) ?_
      refine lv_ldc2 hx hb (cx_own C0) (cx_w C0 tm_6_64) dX4_book_34 ?_
      refine z_callSi C0 Z hl.1 (As := [.long ((a3).toInt64), .long 0, .long 99]) (rest := []) (k_X4_isBetween l (cx_g C0) hw) (gv_X4_isBetween tm_5_83) ds_X4_isBetween ⟨Nat.le_of_ble_eq_true rfl, Nat.le_of_ble_eq_true rfl⟩ rfl rfl (Nat.le_of_ble_eq_true rfl) ⟨Nat.le_of_ble_eq_true rfl, Nat.le_of_ble_eq_true rfl⟩ dX4_book_37 (fun r11 v10 H locs hw Z => ?_)
      refine lv_if_eq (tgt := 69) hx hb dX4_book_40 (by decide) (fun c12 => ?_) (fun c12 => ?_)
      · replace hw := hw.1 c12
        exact b_X4_book_69 l C0 _ _ _ _ hw Z (lv_sub hl [0] rfl)
      · replace hw := hw.2 c12
        refine lv_iload hx hb dX4_book_43 (lv_at hl 4 rfl) ?_
        refine lv_i2l (v := (a4).toInt64) hx hb dX4_book_45 rfl ?_
        refine lv_lconst (v := 1) hx hb dX4_book_46 (by decide) ?_
        refine lv_ldc2 hx hb (cx_own C0) (cx_w C0 tm_6_70) dX4_book_47 ?_
        refine z_callSi C0 Z hl.1 (As := [.long ((a4).toInt64), .long 1, .long 9]) (rest := []) (k_X4_isBetween l (cx_g C0) hw) (gv_X4_isBetween tm_5_83) ds_X4_isBetween ⟨Nat.le_of_ble_eq_true rfl, Nat.le_of_ble_eq_true rfl⟩ rfl rfl (Nat.le_of_ble_eq_true rfl) ⟨Nat.le_of_ble_eq_true rfl, Nat.le_of_ble_eq_true rfl⟩ dX4_book_50 (fun r14 v13 H locs hw Z => ?_)
        refine lv_if_eq (tgt := 69) hx hb dX4_book_53 (by decide) (fun c15 => ?_) (fun c15 => ?_)
        · replace hw := hw.1 c15
          exact b_X4_book_69 l C0 _ _ _ _ hw Z (lv_sub hl [0] rfl)
        · replace hw := hw.2 c15
          refine lv_iload_n hx hb dX4_book_56 rfl (lv_at hl 2 rfl) ?_
          refine lv_iload_n hx hb dX4_book_57 rfl (lv_at hl 3 rfl) ?_
          refine lv_iadd hx hb dX4_book_58 ?_
          refine lv_aload_n hx hb dX4_book_59 rfl (lv_at hl 0 rfl) ?_
          refine z_get C0 Z in_X4 rfl 0 (by decide) rfl tm_4_203 (cx_lt C0 (by decide)) rfl rfl dX4_book_60 ?_
          refine lv_bipush (v := 7) hx hb dX4_book_63 (by decide) ?_
          refine z_ialdk C0 Z (cx_lt C0 (by decide)) rfl in_7_474 nc_7 dX4_book_65 ?_
          refine lv_icmp_ge (tgt := 75) hx hb dX4_book_66 (by decide) (fun c16 => ?_) (fun c16 => ?_)
          · replace hw := hw.1 c16
            refine lv_aload_n hx hb dX4_book_75 rfl (lv_at hl 0 rfl) ?_
            refine z_get C0 Z in_X4 rfl 0 (by decide) rfl tm_4_203 (cx_lt C0 (by decide)) rfl rfl dX4_book_76 ?_
            refine lv_bipush (v := 6) hx hb dX4_book_79 (by decide) ?_
            refine z_ialdk C0 Z (cx_lt C0 (by decide)) rfl in_6_474 nc_6 dX4_book_81 ?_
            refine lv_bipush (v := 40) hx hb dX4_book_82 (by decide) ?_
            refine lv_icmp_eq (tgt := 115) hx hb dX4_book_84 (by decide) (fun c17 => ?_) (fun c17 => ?_)
            · replace hw := hw.1 c17
              exact b_X4_book_115 l C0 _ _ _ _ hw Z (lv_sub hl [0] rfl)
            · replace hw := hw.2 c17
              refine lv_aload_n hx hb dX4_book_87 rfl (lv_at hl 0 rfl) ?_
              refine lv_iload_n hx hb dX4_book_88 rfl (lv_at hl 1 rfl) ?_
              refine z_callVi C0 Z hl.1 (As := [.int a1]) (rest := []) (k_X4_openBookings l (cx_g C0) hw) (gv_X4_openBookings tm_5_159) rfl ds_X4_openBookings ⟨Nat.le_of_ble_eq_true rfl, Nat.le_of_ble_eq_true rfl⟩ (ci := 4) rfl (cx_lt C0 (by decide)) rfl rfl rfl (Nat.le_of_ble_eq_true rfl) ⟨Nat.le_of_ble_eq_true rfl, Nat.le_of_ble_eq_true rfl⟩ dX4_book_89 (fun r21 v20 H locs hw Z => ?_)
              refine lv_aload_n hx hb dX4_book_92 rfl (lv_at hl 0 rfl) ?_
              refine z_get C0 Z in_X4 rfl 0 (by decide) rfl tm_4_203 (cx_lt C0 (by decide)) rfl rfl dX4_book_93 ?_
              refine lv_iconst (v := 2) hx hb dX4_book_96 (by decide) ?_
              refine z_ialdk C0 Z (cx_lt C0 (by decide)) rfl in_2_474 nc_2 dX4_book_97 ?_
              refine lv_icmp_ge (tgt := 115) hx hb dX4_book_98 (by decide) (fun c22 => ?_) (fun c22 => ?_)
              · replace hw := hw.1 c22
                exact b_X4_book_115 l C0 _ _ _ _ hw Z (lv_sub hl [0] rfl)
              · replace hw := hw.2 c22
                refine lv_aload_n hx hb dX4_book_101 rfl (lv_at hl 0 rfl) ?_
                refine lv_iload_n hx hb dX4_book_102 rfl (lv_at hl 1 rfl) ?_
                refine z_callVi C0 Z hl.1 (As := [.int a1]) (rest := []) (k_X4_broken l (cx_g C0) hw) (gv_X4_broken tm_6_22) rfl ds_X4_broken ⟨Nat.le_of_ble_eq_true rfl, Nat.le_of_ble_eq_true rfl⟩ (ci := 4) rfl (cx_lt C0 (by decide)) rfl rfl rfl (Nat.le_of_ble_eq_true rfl) ⟨Nat.le_of_ble_eq_true rfl, Nat.le_of_ble_eq_true rfl⟩ dX4_book_103 (fun r24 v23 H locs hw Z => ?_)
                refine lv_aload_n hx hb dX4_book_106 rfl (lv_at hl 0 rfl) ?_
                refine z_get C0 Z in_X4 rfl 0 (by decide) rfl tm_4_203 (cx_lt C0 (by decide)) rfl rfl dX4_book_107 ?_
                refine lv_iconst (v := 3) hx hb dX4_book_110 (by decide) ?_
                refine z_ialdk C0 Z (cx_lt C0 (by decide)) rfl in_3_474 nc_3 dX4_book_111 ?_
                refine lv_icmp_lt (tgt := 121) hx hb dX4_book_112 (by decide) (fun c25 => ?_) (fun c25 => ?_)
                · replace hw := hw.1 c25
                  refine lv_aload_n hx hb dX4_book_121 rfl (lv_at hl 0 rfl) ?_
                  refine lv_iload_n hx hb dX4_book_122 rfl (lv_at hl 1 rfl) ?_
                  refine lv_iload_n hx hb dX4_book_123 rfl (lv_at hl 2 rfl) ?_
                  refine lv_iload_n hx hb dX4_book_124 rfl (lv_at hl 3 rfl) ?_
                  refine lv_iload hx hb dX4_book_125 (lv_at hl 4 rfl) ?_
                  refine z_callVi C0 Z hl.1 (As := [.int a1, .int a2, .int a3, .int a4]) (rest := []) (k_X4_appendBooking l (cx_g C0) hw) (gv_X4_appendBooking tm_5_174) rfl ds_X4_appendBooking ⟨Nat.le_of_ble_eq_true rfl, Nat.le_of_ble_eq_true rfl⟩ (ci := 4) rfl (cx_lt C0 (by decide)) rfl rfl rfl (Nat.le_of_ble_eq_true rfl) ⟨Nat.le_of_ble_eq_true rfl, Nat.le_of_ble_eq_true rfl⟩ dX4_book_127 (fun r27 v26 H locs hw Z => ?_)
                  exact z_iret C0 Z hw dX4_book_130
                · replace hw := hw.2 c25
                  exact b_X4_book_115 l C0 _ _ _ _ hw Z (lv_sub hl [0] rfl)
          · replace hw := hw.2 c16
            exact b_X4_book_69 l C0 _ _ _ _ hw Z (lv_sub hl [0] rfl)
  · replace hw := hw.2 c4
    refine lv_aload_n hx hb dX4_book_13 rfl (lv_at hl 0 rfl) ?_
    refine lv_iconst (v := 1) hx hb dX4_book_14 (by decide) ?_
    refine z_callVi C0 Z hl.1 (As := [.int 1]) (rest := []) (k_X4_fail l (cx_g C0) hw) (gv_X4_fail tm_5_75) rfl ds_X4_fail ⟨Nat.le_of_ble_eq_true rfl, Nat.le_of_ble_eq_true rfl⟩ (ci := 4) rfl (cx_lt C0 (by decide)) rfl rfl rfl (Nat.le_of_ble_eq_true rfl) ⟨Nat.le_of_ble_eq_true rfl, Nat.le_of_ble_eq_true rfl⟩ dX4_book_15 (fun r29 v28 H locs hw Z => ?_)
    exact z_iret C0 Z hw dX4_book_18
-- X4_comesAhead: room (2, 43)
theorem dX4_comesAhead_0 : decode cX4_comesAhead 0 = .ok (.aload_n 0, 1) := by decide +kernel
theorem dX4_comesAhead_1 : decode cX4_comesAhead 1 = .ok (.aload_n 0, 1) := by decide +kernel
theorem dX4_comesAhead_2 : decode cX4_comesAhead 2 = .ok (.iload_n 1, 1) := by decide +kernel
theorem dX4_comesAhead_3 : decode cX4_comesAhead 3 = .ok (.iconst 0, 1) := by decide +kernel
theorem dX4_comesAhead_4 : decode cX4_comesAhead 4 = .ok (.invokevirtual 71, 3) := by decide +kernel
theorem dX4_comesAhead_7 : decode cX4_comesAhead 7 = .ok (.invokevirtual 248, 3) := by decide +kernel
theorem dX4_comesAhead_10 : decode cX4_comesAhead 10 = .ok (.aload_n 0, 1) := by decide +kernel
theorem dX4_comesAhead_11 : decode cX4_comesAhead 11 = .ok (.aload_n 0, 1) := by decide +kernel
theorem dX4_comesAhead_12 : decode cX4_comesAhead 12 = .ok (.iload_n 2, 1) := by decide +kernel
theorem dX4_comesAhead_13 : decode cX4_comesAhead 13 = .ok (.iconst 0, 1) := by decide +kernel
theorem dX4_comesAhead_14 : decode cX4_comesAhead 14 = .ok (.invokevirtual 71, 3) := by decide +kernel
theorem dX4_comesAhead_17 : decode cX4_comesAhead 17 = .ok (.invokevirtual 248, 3) := by decide +kernel
theorem dX4_comesAhead_20 : decode cX4_comesAhead 20 = .ok (.if_icmp .ge 7, 3) := by decide +kernel
theorem dX4_comesAhead_23 : decode cX4_comesAhead 23 = .ok (.iconst 1, 1) := by decide +kernel
theorem dX4_comesAhead_24 : decode cX4_comesAhead 24 = .ok (.goto 4, 3) := by decide +kernel
theorem dX4_comesAhead_27 : decode cX4_comesAhead 27 = .ok (.iconst 0, 1) := by decide +kernel
theorem dX4_comesAhead_28 : decode cX4_comesAhead 28 = .ok (.ireturn, 1) := by decide +kernel
def w_X4_comesAhead_28  (Q : Int32 → V3 → Prop) (s0 : Int32) (v : V3) : Prop := (s0 = 0 ∨ s0 = 1) ∧ Q s0 v
def w_X4_comesAhead (a1 : Int32) (a2 : Int32) (v : V3) (Q : Int32 → V3 → Prop) : Prop := w_X4_of a1 0 v (fun r2 v1 => w_X4_broken r2 v1 (fun r4 v3 => w_X4_of a2 0 v3 (fun r6 v5 => w_X4_broken r6 v5 (fun r8 v7 => ((r8 ≤ r4 → w_X4_comesAhead_28 Q 0 v7) ∧ (¬ r8 ≤ r4 → w_X4_comesAhead_28 Q 1 v7))))))
set_option maxRecDepth 100000 in
set_option maxHeartbeats 4000000 in
theorem b_X4_comesAhead_28 {p : Program} (l : Launch) {e : Env} {s : State} {m : MethodId} {args : Array Value} {below : List Frame} {meth : Method} {c : Code} {G : zG}   (C0 : Cx G RX4 cX4_comesAhead 3 (some .boolean) p s m args meth c) {Q : Int32 → V3 → Prop} : ∀ (s0 : Int32) (v : V3) (H : Heap) (locs : List Loc) (ls : Array Slot), w_X4_comesAhead_28 Q s0 v → Zs G s v H locs → lv_has ls 3 [] → W p l e { frames := 2, cells := 0, slots := 0, locals := 43 } s m args below meth c H locs 0 0 (MQ below (QiZ G Q) args s 0 0 (zA G)) (F0 m 28 ls [.int s0]) := by
  have hx := C0.1
  have hb := C0.2.1
  intro s0 v H locs ls hw Z hl
  rw [w_X4_comesAhead_28] at hw
  obtain ⟨h10, hw⟩ := hw
  exact z_zret C0 Z h10 hw dX4_comesAhead_28
set_option maxRecDepth 100000 in
set_option maxHeartbeats 4000000 in
theorem k_X4_comesAhead (l : Launch) {G : zG} (hg : 129 ≤ gn G) {a1 : Int32} {a2 : Int32}  {v : V3} {Q : Int32 → V3 → Prop} (hw : w_X4_comesAhead a1 a2 v Q) : Mz l yX4_comesAhead cX4_comesAhead 3 (some .boolean) 2 43 G [.ref (gad G 7), .int a1, .int a2] v (QiZ G Q) := by
  rw [w_X4_comesAhead] at hw
  refine z_ofW hg (by decide) (Nat.le_of_ble_eq_true rfl) ?_
  intro p e s m args below meth c ls C0 Z hl
  have hx := C0.1
  have hb := C0.2.1
  replace hl : lv_has ls 3 [(0, .ref (gad G 7)), (1, .int a1), (2, .int a2)] := hl
  generalize s.heap = H at Z ⊢
  generalize ([] : List Loc) = locs at Z ⊢
  refine lv_aload_n hx hb dX4_comesAhead_0 rfl (lv_at hl 0 rfl) ?_
  refine lv_aload_n hx hb dX4_comesAhead_1 rfl (lv_at hl 0 rfl) ?_
  refine lv_iload_n hx hb dX4_comesAhead_2 rfl (lv_at hl 1 rfl) ?_
  refine lv_iconst (v := 0) hx hb dX4_comesAhead_3 (by decide) ?_
  refine z_callVi C0 Z hl.1 (As := [.int a1, .int 0]) (rest := [.ref (gad G 7)]) (k_X4_of l (cx_g C0) hw) (gv_X4_of tm_5_163) rfl ds_X4_of ⟨Nat.le_of_ble_eq_true rfl, Nat.le_of_ble_eq_true rfl⟩ (ci := 4) rfl (cx_lt C0 (by decide)) rfl rfl rfl (Nat.le_of_ble_eq_true rfl) ⟨Nat.le_of_ble_eq_true rfl, Nat.le_of_ble_eq_true rfl⟩ dX4_comesAhead_4 (fun r2 v1 H locs hw Z => ?_)
  refine z_callVi C0 Z hl.1 (As := [.int r2]) (rest := []) (k_X4_broken l (cx_g C0) hw) (gv_X4_broken tm_6_22) rfl ds_X4_broken ⟨Nat.le_of_ble_eq_true rfl, Nat.le_of_ble_eq_true rfl⟩ (ci := 4) rfl (cx_lt C0 (by decide)) rfl rfl rfl (Nat.le_of_ble_eq_true rfl) ⟨Nat.le_of_ble_eq_true rfl, Nat.le_of_ble_eq_true rfl⟩ dX4_comesAhead_7 (fun r4 v3 H locs hw Z => ?_)
  refine lv_aload_n hx hb dX4_comesAhead_10 rfl (lv_at hl 0 rfl) ?_
  refine lv_aload_n hx hb dX4_comesAhead_11 rfl (lv_at hl 0 rfl) ?_
  refine lv_iload_n hx hb dX4_comesAhead_12 rfl (lv_at hl 2 rfl) ?_
  refine lv_iconst (v := 0) hx hb dX4_comesAhead_13 (by decide) ?_
  refine z_callVi C0 Z hl.1 (As := [.int a2, .int 0]) (rest := [.ref (gad G 7), .int r4]) (k_X4_of l (cx_g C0) hw) (gv_X4_of tm_5_163) rfl ds_X4_of ⟨Nat.le_of_ble_eq_true rfl, Nat.le_of_ble_eq_true rfl⟩ (ci := 4) rfl (cx_lt C0 (by decide)) rfl rfl rfl (Nat.le_of_ble_eq_true rfl) ⟨Nat.le_of_ble_eq_true rfl, Nat.le_of_ble_eq_true rfl⟩ dX4_comesAhead_14 (fun r6 v5 H locs hw Z => ?_)
  refine z_callVi C0 Z hl.1 (As := [.int r6]) (rest := [.int r4]) (k_X4_broken l (cx_g C0) hw) (gv_X4_broken tm_6_22) rfl ds_X4_broken ⟨Nat.le_of_ble_eq_true rfl, Nat.le_of_ble_eq_true rfl⟩ (ci := 4) rfl (cx_lt C0 (by decide)) rfl rfl rfl (Nat.le_of_ble_eq_true rfl) ⟨Nat.le_of_ble_eq_true rfl, Nat.le_of_ble_eq_true rfl⟩ dX4_comesAhead_17 (fun r8 v7 H locs hw Z => ?_)
  refine lv_icmp_ge (tgt := 27) hx hb dX4_comesAhead_20 (by decide) (fun c9 => ?_) (fun c9 => ?_)
  · replace hw := hw.1 c9
    refine lv_iconst (v := 0) hx hb dX4_comesAhead_27 (by decide) ?_
    exact b_X4_comesAhead_28 l C0 _ _ _ _ _ hw Z (lv_sub hl [] rfl)
  · replace hw := hw.2 c9
    refine lv_iconst (v := 1) hx hb dX4_comesAhead_23 (by decide) ?_
    refine lv_goto (tgt := 28) hx hb dX4_comesAhead_24 (by decide) ?_
    exact b_X4_comesAhead_28 l C0 _ _ _ _ _ hw Z (lv_sub hl [] rfl)
-- X4_layOrder: room (3, 65)
theorem dX4_layOrder_0 : decode cX4_layOrder 0 = .ok (.aload_n 0, 1) := by decide +kernel
theorem dX4_layOrder_1 : decode cX4_layOrder 1 = .ok (.iconst 0, 1) := by decide +kernel
theorem dX4_layOrder_2 : decode cX4_layOrder 2 = .ok (.putfield 293, 3) := by decide +kernel
theorem dX4_layOrder_5 : decode cX4_layOrder 5 = .ok (.iconst 0, 1) := by decide +kernel
theorem dX4_layOrder_6 : decode cX4_layOrder 6 = .ok (.istore_n 1, 1) := by decide +kernel
theorem dX4_layOrder_7 : decode cX4_layOrder 7 = .ok (.iload_n 1, 1) := by decide +kernel
theorem dX4_layOrder_8 : decode cX4_layOrder 8 = .ok (.aload_n 0, 1) := by decide +kernel
theorem dX4_layOrder_9 : decode cX4_layOrder 9 = .ok (.getfield 7, 3) := by decide +kernel
theorem dX4_layOrder_12 : decode cX4_layOrder 12 = .ok (.bipush 6, 2) := by decide +kernel
theorem dX4_layOrder_14 : decode cX4_layOrder 14 = .ok (.iaload, 1) := by decide +kernel
theorem dX4_layOrder_15 : decode cX4_layOrder 15 = .ok (.if_icmp .ge 81, 3) := by decide +kernel
theorem dX4_layOrder_18 : decode cX4_layOrder 18 = .ok (.aload_n 0, 1) := by decide +kernel
theorem dX4_layOrder_19 : decode cX4_layOrder 19 = .ok (.iload_n 1, 1) := by decide +kernel
theorem dX4_layOrder_20 : decode cX4_layOrder 20 = .ok (.bipush 7, 2) := by decide +kernel
theorem dX4_layOrder_22 : decode cX4_layOrder 22 = .ok (.invokevirtual 71, 3) := by decide +kernel
theorem dX4_layOrder_25 : decode cX4_layOrder 25 = .ok (.ifCond .ne 65, 3) := by decide +kernel
theorem dX4_layOrder_28 : decode cX4_layOrder 28 = .ok (.aload_n 0, 1) := by decide +kernel
theorem dX4_layOrder_29 : decode cX4_layOrder 29 = .ok (.getfield 293, 3) := by decide +kernel
theorem dX4_layOrder_32 : decode cX4_layOrder 32 = .ok (.istore_n 2, 1) := by decide +kernel
theorem dX4_layOrder_33 : decode cX4_layOrder 33 = .ok (.iload_n 2, 1) := by decide +kernel
theorem dX4_layOrder_34 : decode cX4_layOrder 34 = .ok (.ifCond .le 39, 3) := by decide +kernel
theorem dX4_layOrder_37 : decode cX4_layOrder 37 = .ok (.aload_n 0, 1) := by decide +kernel
theorem dX4_layOrder_38 : decode cX4_layOrder 38 = .ok (.iload_n 1, 1) := by decide +kernel
theorem dX4_layOrder_39 : decode cX4_layOrder 39 = .ok (.aload_n 0, 1) := by decide +kernel
theorem dX4_layOrder_40 : decode cX4_layOrder 40 = .ok (.getfield 42, 3) := by decide +kernel
theorem dX4_layOrder_43 : decode cX4_layOrder 43 = .ok (.iload_n 2, 1) := by decide +kernel
theorem dX4_layOrder_44 : decode cX4_layOrder 44 = .ok (.iconst 1, 1) := by decide +kernel
theorem dX4_layOrder_45 : decode cX4_layOrder 45 = .ok (.isub, 1) := by decide +kernel
theorem dX4_layOrder_46 : decode cX4_layOrder 46 = .ok (.iaload, 1) := by decide +kernel
theorem dX4_layOrder_47 : decode cX4_layOrder 47 = .ok (.invokevirtual 296, 3) := by decide +kernel
theorem dX4_layOrder_50 : decode cX4_layOrder 50 = .ok (.ifCond .eq 23, 3) := by decide +kernel
theorem dX4_layOrder_53 : decode cX4_layOrder 53 = .ok (.aload_n 0, 1) := by decide +kernel
theorem dX4_layOrder_54 : decode cX4_layOrder 54 = .ok (.getfield 42, 3) := by decide +kernel
theorem dX4_layOrder_57 : decode cX4_layOrder 57 = .ok (.iload_n 2, 1) := by decide +kernel
theorem dX4_layOrder_58 : decode cX4_layOrder 58 = .ok (.aload_n 0, 1) := by decide +kernel
theorem dX4_layOrder_59 : decode cX4_layOrder 59 = .ok (.getfield 42, 3) := by decide +kernel
theorem dX4_layOrder_62 : decode cX4_layOrder 62 = .ok (.iload_n 2, 1) := by decide +kernel
theorem dX4_layOrder_63 : decode cX4_layOrder 63 = .ok (.iconst 1, 1) := by decide +kernel
theorem dX4_layOrder_64 : decode cX4_layOrder 64 = .ok (.isub, 1) := by decide +kernel
theorem dX4_layOrder_65 : decode cX4_layOrder 65 = .ok (.iaload, 1) := by decide +kernel
theorem dX4_layOrder_66 : decode cX4_layOrder 66 = .ok (.iastore, 1) := by decide +kernel
theorem dX4_layOrder_67 : decode cX4_layOrder 67 = .ok (.iinc 2 (-1), 3) := by decide +kernel
theorem dX4_layOrder_70 : decode cX4_layOrder 70 = .ok (.goto (-37), 3) := by decide +kernel
theorem dX4_layOrder_73 : decode cX4_layOrder 73 = .ok (.aload_n 0, 1) := by decide +kernel
theorem dX4_layOrder_74 : decode cX4_layOrder 74 = .ok (.getfield 42, 3) := by decide +kernel
theorem dX4_layOrder_77 : decode cX4_layOrder 77 = .ok (.iload_n 2, 1) := by decide +kernel
theorem dX4_layOrder_78 : decode cX4_layOrder 78 = .ok (.iload_n 1, 1) := by decide +kernel
theorem dX4_layOrder_79 : decode cX4_layOrder 79 = .ok (.iastore, 1) := by decide +kernel
theorem dX4_layOrder_80 : decode cX4_layOrder 80 = .ok (.aload_n 0, 1) := by decide +kernel
theorem dX4_layOrder_81 : decode cX4_layOrder 81 = .ok (.dup, 1) := by decide +kernel
theorem dX4_layOrder_82 : decode cX4_layOrder 82 = .ok (.getfield 293, 3) := by decide +kernel
theorem dX4_layOrder_85 : decode cX4_layOrder 85 = .ok (.iconst 1, 1) := by decide +kernel
theorem dX4_layOrder_86 : decode cX4_layOrder 86 = .ok (.iadd, 1) := by decide +kernel
theorem dX4_layOrder_87 : decode cX4_layOrder 87 = .ok (.putfield 293, 3) := by decide +kernel
theorem dX4_layOrder_90 : decode cX4_layOrder 90 = .ok (.iinc 1 1, 3) := by decide +kernel
theorem dX4_layOrder_93 : decode cX4_layOrder 93 = .ok (.goto (-86), 3) := by decide +kernel
theorem dX4_layOrder_96 : decode cX4_layOrder 96 = .ok (.return_, 1) := by decide +kernel
def w_X4_layOrder_90  (Q : V3 → Prop) (K7 : Int32 → V3 → Prop) (x1 : Int32) (v : V3) : Prop := K7 (x1 + 1) v
def w_X4_layOrder_73  (Q : V3 → Prop) (K7 : Int32 → V3 → Prop) (x1 : Int32) (x2 : Int32) (v : V3) : Prop := vp_in x2 40 ∧ ∀ v8 : V3, v8 = up2 v 17 (ix x2) x1 → ∀ v9 : V3, v9 = up2 v8 7 23 ((v8 7 23) + 1) → w_X4_layOrder_90 Q K7 x1 v9
def w_X4_layOrder_33  (Q : V3 → Prop) (K7 : Int32 → V3 → Prop) : Nat → Int32 → Int32 → V3 → Prop
  | 0, _, _, _ => False
  | n33 + 1, x1, x2, v => ((x2 ≤ 0 → w_X4_layOrder_73 Q K7 x1 x2 v) ∧ (¬ x2 ≤ 0 → vp_in (x2 - 1) 40 ∧ w_X4_comesAhead x1 (v 17 (ix (x2 - 1))) v (fun r12 v11 => ((r12 = 0 → w_X4_layOrder_73 Q K7 x1 x2 v11) ∧ (¬ r12 = 0 → vp_in (x2 - 1) 40 ∧ vp_in x2 40 ∧ ∀ v16 : V3, v16 = up2 v11 17 (ix x2) (v11 17 (ix (x2 - 1))) → (w_X4_layOrder_33 Q K7 n33) x1 (x2 + (-1)) v16)))))
def w_X4_layOrder_7  (Q : V3 → Prop) : Nat → Int32 → V3 → Prop
  | 0, _, _ => False
  | n7 + 1, x1, v => (((v 8 6) ≤ x1 → Q v) ∧ (¬ (v 8 6) ≤ x1 → w_X4_of x1 7 v (fun r4 v3 => ((¬ r4 = 0 → w_X4_layOrder_90 Q (w_X4_layOrder_7 Q n7) x1 v3) ∧ (r4 = 0 → ∃ m33 : Nat, w_X4_layOrder_33 Q (w_X4_layOrder_7 Q n7) m33 x1 (v3 7 23) v3)))))
def w_X4_layOrder  (v : V3) (Q : V3 → Prop) : Prop := ∀ v1 : V3, v1 = up2 v 7 23 0 → ∃ m7 : Nat, w_X4_layOrder_7 Q m7 0 v1
set_option maxRecDepth 100000 in
set_option maxHeartbeats 4000000 in
theorem b_X4_layOrder_90 {p : Program} (l : Launch) {e : Env} {s : State} {m : MethodId} {args : Array Value} {below : List Frame} {meth : Method} {c : Code} {G : zG}   (C0 : Cx G RX4 cX4_layOrder 3 none p s m args meth c) {Q : V3 → Prop} {K7 : Int32 → V3 → Prop} (hK7 : ∀ (x1 : Int32) (v : V3) (H : Heap) (locs : List Loc) (ls : Array Slot), K7 x1 v → Zs G s v H locs → lv_has ls 3 [(0, .ref (gad G 7)), (1, .int x1)] → W p l e { frames := 3, cells := 0, slots := 0, locals := 65 } s m args below meth c H locs 0 0 (MQ below (QvZ G Q) args s 0 0 (zA G)) (F0 m 7 ls [])) : ∀ (x1 : Int32) (v : V3) (H : Heap) (locs : List Loc) (ls : Array Slot), w_X4_layOrder_90 Q K7 x1 v → Zs G s v H locs → lv_has ls 3 [(0, .ref (gad G 7)), (1, .int x1)] → W p l e { frames := 3, cells := 0, slots := 0, locals := 65 } s m args below meth c H locs 0 0 (MQ below (QvZ G Q) args s 0 0 (zA G)) (F0 m 90 ls []) := by
  have hx := C0.1
  have hb := C0.2.1
  intro x1 v H locs ls hw Z hl
  rw [w_X4_layOrder_90] at hw
  refine lv_iinc (v := x1 + 1) (lv' := [(1, .int (x1 + 1)), (0, .ref (gad G 7))]) hx hb dX4_layOrder_90 hl (k := 1) rfl rfl (by decide) rfl (fun ls hl => ?_)
  refine lv_goto (tgt := 7) hx hb dX4_layOrder_93 (by decide) ?_
  exact hK7 _ _ _ _ _ hw Z (lv_sub hl [1, 0] rfl)
set_option maxRecDepth 100000 in
set_option maxHeartbeats 4000000 in
theorem b_X4_layOrder_73 {p : Program} (l : Launch) {e : Env} {s : State} {m : MethodId} {args : Array Value} {below : List Frame} {meth : Method} {c : Code} {G : zG}   (C0 : Cx G RX4 cX4_layOrder 3 none p s m args meth c) {Q : V3 → Prop} {K7 : Int32 → V3 → Prop} (hK7 : ∀ (x1 : Int32) (v : V3) (H : Heap) (locs : List Loc) (ls : Array Slot), K7 x1 v → Zs G s v H locs → lv_has ls 3 [(0, .ref (gad G 7)), (1, .int x1)] → W p l e { frames := 3, cells := 0, slots := 0, locals := 65 } s m args below meth c H locs 0 0 (MQ below (QvZ G Q) args s 0 0 (zA G)) (F0 m 7 ls [])) : ∀ (x1 : Int32) (x2 : Int32) (v : V3) (H : Heap) (locs : List Loc) (ls : Array Slot), w_X4_layOrder_73 Q K7 x1 x2 v → Zs G s v H locs → lv_has ls 3 [(0, .ref (gad G 7)), (1, .int x1), (2, .int x2)] → W p l e { frames := 3, cells := 0, slots := 0, locals := 65 } s m args below meth c H locs 0 0 (MQ below (QvZ G Q) args s 0 0 (zA G)) (F0 m 73 ls []) := by
  have hx := C0.1
  have hb := C0.2.1
  intro x1 x2 v H locs ls hw Z hl
  rw [w_X4_layOrder_73] at hw
  refine lv_aload_n hx hb dX4_layOrder_73 rfl (lv_at hl 0 rfl) ?_
  refine z_get C0 Z in_X4 rfl 22 (by decide) rfl tm_4_225 (cx_lt C0 (by decide)) rfl rfl dX4_layOrder_74 ?_
  refine lv_iload_n hx hb dX4_layOrder_77 rfl (lv_at hl 2 rfl) ?_
  refine lv_iload_n hx hb dX4_layOrder_78 rfl (lv_at hl 1 rfl) ?_
  obtain ⟨h7, hw⟩ := hw
  refine z_iast C0 Z (cx_lt C0 (by decide)) (fun _ => rfl) h7 dX4_layOrder_79 (fun H locs Z => ?_)
  obtain ⟨v8, ev8⟩ : ∃ z : V3, z = up2 v 17 (ix x2) x1 := ⟨_, rfl⟩
  rw [← ev8] at Z
  replace hw := hw v8 ev8
  refine lv_aload_n hx hb dX4_layOrder_80 rfl (lv_at hl 0 rfl) ?_
  refine lv_dup hx hb dX4_layOrder_81 rfl ?_
  refine z_get C0 Z in_X4 rfl 23 (by decide) rfl tm_4_226 (cx_lt C0 (by decide)) rfl rfl dX4_layOrder_82 ?_
  refine lv_iconst (v := 1) hx hb dX4_layOrder_85 (by decide) ?_
  refine lv_iadd hx hb dX4_layOrder_86 ?_
  refine z_put C0 Z in_X4 tyX4_ok nmX4 rfl 23 (by decide) rfl rfl tm_4_226 (cx_lt C0 (by decide)) rfl p_X4_23 (fun c' h => up2_off _ _ _ h) rfl rfl (Nat.le_of_ble_eq_true rfl) dX4_layOrder_87 (fun H locs Z => ?_)
  obtain ⟨v9, ev9⟩ : ∃ z : V3, z = up2 v8 7 23 ((v8 7 23) + 1) := ⟨_, rfl⟩
  rw [← ev9] at Z
  replace hw := hw v9 ev9
  exact b_X4_layOrder_90 l C0 hK7 _ _ _ _ _ hw Z (lv_sub hl [0, 1] rfl)
set_option maxRecDepth 100000 in
set_option maxHeartbeats 4000000 in
theorem b_X4_layOrder_33 {p : Program} (l : Launch) {e : Env} {s : State} {m : MethodId} {args : Array Value} {below : List Frame} {meth : Method} {c : Code} {G : zG}   (C0 : Cx G RX4 cX4_layOrder 3 none p s m args meth c) {Q : V3 → Prop} {K7 : Int32 → V3 → Prop} (hK7 : ∀ (x1 : Int32) (v : V3) (H : Heap) (locs : List Loc) (ls : Array Slot), K7 x1 v → Zs G s v H locs → lv_has ls 3 [(0, .ref (gad G 7)), (1, .int x1)] → W p l e { frames := 3, cells := 0, slots := 0, locals := 65 } s m args below meth c H locs 0 0 (MQ below (QvZ G Q) args s 0 0 (zA G)) (F0 m 7 ls [])) : ∀ (n : Nat) (x1 : Int32) (x2 : Int32) (v : V3) (H : Heap) (locs : List Loc) (ls : Array Slot), w_X4_layOrder_33 Q K7 n x1 x2 v → Zs G s v H locs → lv_has ls 3 [(0, .ref (gad G 7)), (1, .int x1), (2, .int x2)] → W p l e { frames := 3, cells := 0, slots := 0, locals := 65 } s m args below meth c H locs 0 0 (MQ below (QvZ G Q) args s 0 0 (zA G)) (F0 m 33 ls []) := by
  have hx := C0.1
  have hb := C0.2.1
  intro n
  induction n with
  | zero =>
    intro x1 x2 v H locs ls hw Z hl
    exact hw.elim
  | succ n hK33 =>
    intro x1 x2 v H locs ls hw Z hl
    rw [w_X4_layOrder_33] at hw
    refine lv_iload_n hx hb dX4_layOrder_33 rfl (lv_at hl 2 rfl) ?_
    refine lv_if_le (tgt := 73) hx hb dX4_layOrder_34 (by decide) (fun c6 => ?_) (fun c6 => ?_)
    · replace hw := hw.1 c6
      exact b_X4_layOrder_73 l C0 hK7 _ _ _ _ _ _ hw Z (lv_sub hl [0, 1, 2] rfl)
    · replace hw := hw.2 c6
      refine lv_aload_n hx hb dX4_layOrder_37 rfl (lv_at hl 0 rfl) ?_
      refine lv_iload_n hx hb dX4_layOrder_38 rfl (lv_at hl 1 rfl) ?_
      refine lv_aload_n hx hb dX4_layOrder_39 rfl (lv_at hl 0 rfl) ?_
      refine z_get C0 Z in_X4 rfl 22 (by decide) rfl tm_4_225 (cx_lt C0 (by decide)) rfl rfl dX4_layOrder_40 ?_
      refine lv_iload_n hx hb dX4_layOrder_43 rfl (lv_at hl 2 rfl) ?_
      refine lv_iconst (v := 1) hx hb dX4_layOrder_44 (by decide) ?_
      refine lv_isub hx hb dX4_layOrder_45 ?_
      obtain ⟨h10, hw⟩ := hw
      refine z_iald C0 Z (cx_lt C0 (by decide)) rfl h10 dX4_layOrder_46 ?_
      refine z_callVi C0 Z hl.1 (As := [.int x1, .int (v 17 (ix (x2 - 1)))]) (rest := []) (k_X4_comesAhead l (cx_g C0) hw) (gv_X4_comesAhead tm_6_87) rfl ds_X4_comesAhead ⟨Nat.le_of_ble_eq_true rfl, Nat.le_of_ble_eq_true rfl⟩ (ci := 4) rfl (cx_lt C0 (by decide)) rfl rfl rfl (Nat.le_of_ble_eq_true rfl) ⟨Nat.le_of_ble_eq_true rfl, Nat.le_of_ble_eq_true rfl⟩ dX4_layOrder_47 (fun r12 v11 H locs hw Z => ?_)
      refine lv_if_eq (tgt := 73) hx hb dX4_layOrder_50 (by decide) (fun c13 => ?_) (fun c13 => ?_)
      · replace hw := hw.1 c13
        exact b_X4_layOrder_73 l C0 hK7 _ _ _ _ _ _ hw Z (lv_sub hl [0, 1, 2] rfl)
      · replace hw := hw.2 c13
        refine lv_aload_n hx hb dX4_layOrder_53 rfl (lv_at hl 0 rfl) ?_
        refine z_get C0 Z in_X4 rfl 22 (by decide) rfl tm_4_225 (cx_lt C0 (by decide)) rfl rfl dX4_layOrder_54 ?_
        refine lv_iload_n hx hb dX4_layOrder_57 rfl (lv_at hl 2 rfl) ?_
        refine lv_aload_n hx hb dX4_layOrder_58 rfl (lv_at hl 0 rfl) ?_
        refine z_get C0 Z in_X4 rfl 22 (by decide) rfl tm_4_225 (cx_lt C0 (by decide)) rfl rfl dX4_layOrder_59 ?_
        refine lv_iload_n hx hb dX4_layOrder_62 rfl (lv_at hl 2 rfl) ?_
        refine lv_iconst (v := 1) hx hb dX4_layOrder_63 (by decide) ?_
        refine lv_isub hx hb dX4_layOrder_64 ?_
        obtain ⟨h14, hw⟩ := hw
        refine z_iald C0 Z (cx_lt C0 (by decide)) rfl h14 dX4_layOrder_65 ?_
        obtain ⟨h15, hw⟩ := hw
        refine z_iast C0 Z (cx_lt C0 (by decide)) (fun _ => rfl) h15 dX4_layOrder_66 (fun H locs Z => ?_)
        obtain ⟨v16, ev16⟩ : ∃ z : V3, z = up2 v11 17 (ix x2) (v11 17 (ix (x2 - 1))) := ⟨_, rfl⟩
        rw [← ev16] at Z
        replace hw := hw v16 ev16
        refine lv_iinc (v := x2 + (-1)) (lv' := [(2, .int (x2 + (-1))), (0, .ref (gad G 7)), (1, .int x1)]) hx hb dX4_layOrder_67 hl (k := 2) rfl rfl (by decide) rfl (fun ls hl => ?_)
        refine lv_goto (tgt := 33) hx hb dX4_layOrder_70 (by decide) ?_
        exact hK33 _ _ _ _ _ _ hw Z (lv_sub hl [1, 2, 0] rfl)
set_option maxRecDepth 100000 in
set_option maxHeartbeats 4000000 in
theorem b_X4_layOrder_7 {p : Program} (l : Launch) {e : Env} {s : State} {m : MethodId} {args : Array Value} {below : List Frame} {meth : Method} {c : Code} {G : zG}   (C0 : Cx G RX4 cX4_layOrder 3 none p s m args meth c) {Q : V3 → Prop} : ∀ (n : Nat) (x1 : Int32) (v : V3) (H : Heap) (locs : List Loc) (ls : Array Slot), w_X4_layOrder_7 Q n x1 v → Zs G s v H locs → lv_has ls 3 [(0, .ref (gad G 7)), (1, .int x1)] → W p l e { frames := 3, cells := 0, slots := 0, locals := 65 } s m args below meth c H locs 0 0 (MQ below (QvZ G Q) args s 0 0 (zA G)) (F0 m 7 ls []) := by
  have hx := C0.1
  have hb := C0.2.1
  intro n
  induction n with
  | zero =>
    intro x1 v H locs ls hw Z hl
    exact hw.elim
  | succ n hK7 =>
    intro x1 v H locs ls hw Z hl
    rw [w_X4_layOrder_7] at hw
    refine lv_iload_n hx hb dX4_layOrder_7 rfl (lv_at hl 1 rfl) ?_
    refine lv_aload_n hx hb dX4_layOrder_8 rfl (lv_at hl 0 rfl) ?_
    refine z_get C0 Z in_X4 rfl 0 (by decide) rfl tm_4_203 (cx_lt C0 (by decide)) rfl rfl dX4_layOrder_9 ?_
    refine lv_bipush (v := 6) hx hb dX4_layOrder_12 (by decide) ?_
    refine z_ialdk C0 Z (cx_lt C0 (by decide)) rfl in_6_474 nc_6 dX4_layOrder_14 ?_
    refine lv_icmp_ge (tgt := 96) hx hb dX4_layOrder_15 (by decide) (fun c2 => ?_) (fun c2 => ?_)
    · replace hw := hw.1 c2
      exact z_vret C0 Z hw dX4_layOrder_96
    · replace hw := hw.2 c2
      refine lv_aload_n hx hb dX4_layOrder_18 rfl (lv_at hl 0 rfl) ?_
      refine lv_iload_n hx hb dX4_layOrder_19 rfl (lv_at hl 1 rfl) ?_
      refine lv_bipush (v := 7) hx hb dX4_layOrder_20 (by decide) ?_
      refine z_callVi C0 Z hl.1 (As := [.int x1, .int 7]) (rest := []) (k_X4_of l (cx_g C0) hw) (gv_X4_of tm_5_163) rfl ds_X4_of ⟨Nat.le_of_ble_eq_true rfl, Nat.le_of_ble_eq_true rfl⟩ (ci := 4) rfl (cx_lt C0 (by decide)) rfl rfl rfl (Nat.le_of_ble_eq_true rfl) ⟨Nat.le_of_ble_eq_true rfl, Nat.le_of_ble_eq_true rfl⟩ dX4_layOrder_22 (fun r4 v3 H locs hw Z => ?_)
      refine lv_if_ne (tgt := 90) hx hb dX4_layOrder_25 (by decide) (fun c5 => ?_) (fun c5 => ?_)
      · replace hw := hw.1 c5
        exact b_X4_layOrder_90 l C0 hK7 _ _ _ _ _ hw Z (lv_sub hl [0, 1] rfl)
      · replace hw := hw.2 c5
        refine lv_aload_n hx hb dX4_layOrder_28 rfl (lv_at hl 0 rfl) ?_
        refine z_get C0 Z in_X4 rfl 23 (by decide) rfl tm_4_226 (cx_lt C0 (by decide)) rfl rfl dX4_layOrder_29 ?_
        refine lv_istore_n (lv' := [(2, .int (v3 7 23)), (0, .ref (gad G 7)), (1, .int x1)]) hx hb dX4_layOrder_32 rfl hl (by decide) rfl (fun ls hl => ?_)
        obtain ⟨m33, hw⟩ := hw
        exact b_X4_layOrder_33 l C0 hK7 m33 _ _ _ _ _ _ hw Z (lv_sub hl [1, 2, 0] rfl)
set_option maxRecDepth 100000 in
set_option maxHeartbeats 4000000 in
theorem k_X4_layOrder (l : Launch) {G : zG} (hg : 129 ≤ gn G)  {v : V3} {Q : V3 → Prop} (hw : w_X4_layOrder v Q) : Mz l yX4_layOrder cX4_layOrder 3 none 3 65 G [.ref (gad G 7)] v (QvZ G Q) := by
  rw [w_X4_layOrder] at hw
  refine z_ofW hg (by decide) (Nat.le_of_ble_eq_true rfl) ?_
  intro p e s m args below meth c ls C0 Z hl
  have hx := C0.1
  have hb := C0.2.1
  replace hl : lv_has ls 3 [(0, .ref (gad G 7))] := hl
  generalize s.heap = H at Z ⊢
  generalize ([] : List Loc) = locs at Z ⊢
  refine lv_aload_n hx hb dX4_layOrder_0 rfl (lv_at hl 0 rfl) ?_
  refine lv_iconst (v := 0) hx hb dX4_layOrder_1 (by decide) ?_
  refine z_put C0 Z in_X4 tyX4_ok nmX4 rfl 23 (by decide) rfl rfl tm_4_226 (cx_lt C0 (by decide)) rfl p_X4_23 (fun c' h => up2_off _ _ _ h) rfl rfl (Nat.le_of_ble_eq_true rfl) dX4_layOrder_2 (fun H locs Z => ?_)
  obtain ⟨v1, ev1⟩ : ∃ z : V3, z = up2 v 7 23 0 := ⟨_, rfl⟩
  rw [← ev1] at Z
  replace hw := hw v1 ev1
  refine lv_iconst (v := 0) hx hb dX4_layOrder_5 (by decide) ?_
  refine lv_istore_n (lv' := [(1, .int 0), (0, .ref (gad G 7))]) hx hb dX4_layOrder_6 rfl hl (by decide) rfl (fun ls hl => ?_)
  obtain ⟨m7, hw⟩ := hw
  exact b_X4_layOrder_7 l C0 m7 _ _ _ _ _ hw Z (lv_sub hl [1, 0] rfl)
-- X4_waiter: room (4, 87)
theorem dX4_waiter_0 : decode cX4_waiter 0 = .ok (.aload_n 0, 1) := by decide +kernel
theorem dX4_waiter_1 : decode cX4_waiter 1 = .ok (.iconst 0, 1) := by decide +kernel
theorem dX4_waiter_2 : decode cX4_waiter 2 = .ok (.putfield 55, 3) := by decide +kernel
theorem dX4_waiter_5 : decode cX4_waiter 5 = .ok (.iload_n 1, 1) := by decide +kernel
theorem dX4_waiter_6 : decode cX4_waiter 6 = .ok (.ifCond .ge 9, 3) := by decide +kernel
theorem dX4_waiter_9 : decode cX4_waiter 9 = .ok (.aload_n 0, 1) := by decide +kernel
theorem dX4_waiter_10 : decode cX4_waiter 10 = .ok (.iconst 1, 1) := by decide +kernel
theorem dX4_waiter_11 : decode cX4_waiter 11 = .ok (.invokevirtual 78, 3) := by decide +kernel
theorem dX4_waiter_14 : decode cX4_waiter 14 = .ok (.ireturn, 1) := by decide +kernel
theorem dX4_waiter_15 : decode cX4_waiter 15 = .ok (.aload_n 0, 1) := by decide +kernel
theorem dX4_waiter_16 : decode cX4_waiter 16 = .ok (.invokevirtual 299, 3) := by decide +kernel
theorem dX4_waiter_19 : decode cX4_waiter 19 = .ok (.iload_n 1, 1) := by decide +kernel
theorem dX4_waiter_20 : decode cX4_waiter 20 = .ok (.aload_n 0, 1) := by decide +kernel
theorem dX4_waiter_21 : decode cX4_waiter 21 = .ok (.getfield 293, 3) := by decide +kernel
theorem dX4_waiter_24 : decode cX4_waiter 24 = .ok (.if_icmp .ge 12, 3) := by decide +kernel
theorem dX4_waiter_27 : decode cX4_waiter 27 = .ok (.aload_n 0, 1) := by decide +kernel
theorem dX4_waiter_28 : decode cX4_waiter 28 = .ok (.getfield 42, 3) := by decide +kernel
theorem dX4_waiter_31 : decode cX4_waiter 31 = .ok (.iload_n 1, 1) := by decide +kernel
theorem dX4_waiter_32 : decode cX4_waiter 32 = .ok (.iaload, 1) := by decide +kernel
theorem dX4_waiter_33 : decode cX4_waiter 33 = .ok (.goto 4, 3) := by decide +kernel
theorem dX4_waiter_36 : decode cX4_waiter 36 = .ok (.iconst (-1), 1) := by decide +kernel
theorem dX4_waiter_37 : decode cX4_waiter 37 = .ok (.ireturn, 1) := by decide +kernel
def w_X4_waiter_37  (Q : Int32 → V3 → Prop) (s0 : Int32) (v : V3) : Prop := Q s0 v
def w_X4_waiter (a1 : Int32) (v : V3) (Q : Int32 → V3 → Prop) : Prop := ∀ v1 : V3, v1 = up2 v 7 11 0 → ((0 ≤ a1 → w_X4_layOrder v1 (fun v3 => (((v3 7 23) ≤ a1 → w_X4_waiter_37 Q (-1) v3) ∧ (¬ (v3 7 23) ≤ a1 → vp_in a1 40 ∧ w_X4_waiter_37 Q (v3 17 (ix a1)) v3)))) ∧ (¬ 0 ≤ a1 → w_X4_fail 1 v1 (fun r7 v6 => Q r7 v6)))
set_option maxRecDepth 100000 in
set_option maxHeartbeats 4000000 in
theorem b_X4_waiter_37 {p : Program} (l : Launch) {e : Env} {s : State} {m : MethodId} {args : Array Value} {below : List Frame} {meth : Method} {c : Code} {G : zG}   (C0 : Cx G RX4 cX4_waiter 2 (some .int) p s m args meth c) {Q : Int32 → V3 → Prop} : ∀ (s0 : Int32) (v : V3) (H : Heap) (locs : List Loc) (ls : Array Slot), w_X4_waiter_37 Q s0 v → Zs G s v H locs → lv_has ls 2 [] → W p l e { frames := 4, cells := 0, slots := 0, locals := 87 } s m args below meth c H locs 0 0 (MQ below (QiZ G Q) args s 0 0 (zA G)) (F0 m 37 ls [.int s0]) := by
  have hx := C0.1
  have hb := C0.2.1
  intro s0 v H locs ls hw Z hl
  rw [w_X4_waiter_37] at hw
  exact z_iret C0 Z hw dX4_waiter_37
set_option maxRecDepth 100000 in
set_option maxHeartbeats 4000000 in
theorem k_X4_waiter (l : Launch) {G : zG} (hg : 129 ≤ gn G) {a1 : Int32}  {v : V3} {Q : Int32 → V3 → Prop} (hw : w_X4_waiter a1 v Q) : Mz l yX4_waiter cX4_waiter 2 (some .int) 4 87 G [.ref (gad G 7), .int a1] v (QiZ G Q) := by
  rw [w_X4_waiter] at hw
  refine z_ofW hg (by decide) (Nat.le_of_ble_eq_true rfl) ?_
  intro p e s m args below meth c ls C0 Z hl
  have hx := C0.1
  have hb := C0.2.1
  replace hl : lv_has ls 2 [(0, .ref (gad G 7)), (1, .int a1)] := hl
  generalize s.heap = H at Z ⊢
  generalize ([] : List Loc) = locs at Z ⊢
  refine lv_aload_n hx hb dX4_waiter_0 rfl (lv_at hl 0 rfl) ?_
  refine lv_iconst (v := 0) hx hb dX4_waiter_1 (by decide) ?_
  refine z_put C0 Z in_X4 tyX4_ok nmX4 rfl 11 (by decide) rfl rfl tm_4_214 (cx_lt C0 (by decide)) rfl p_X4_11 (fun c' h => up2_off _ _ _ h) rfl rfl (Nat.le_of_ble_eq_true rfl) dX4_waiter_2 (fun H locs Z => ?_)
  obtain ⟨v1, ev1⟩ : ∃ z : V3, z = up2 v 7 11 0 := ⟨_, rfl⟩
  rw [← ev1] at Z
  replace hw := hw v1 ev1
  refine lv_iload_n hx hb dX4_waiter_5 rfl (lv_at hl 1 rfl) ?_
  refine lv_if_ge (tgt := 15) hx hb dX4_waiter_6 (by decide) (fun c2 => ?_) (fun c2 => ?_)
  · replace hw := hw.1 c2
    refine lv_aload_n hx hb dX4_waiter_15 rfl (lv_at hl 0 rfl) ?_
    refine z_callVv C0 Z hl.1 (As := []) (rest := []) (k_X4_layOrder l (cx_g C0) hw) (gv_X4_layOrder tm_6_83) rfl ds_X4_layOrder ⟨Nat.le_of_ble_eq_true rfl, Nat.le_of_ble_eq_true rfl⟩ (ci := 4) rfl (cx_lt C0 (by decide)) rfl rfl rfl (Nat.le_of_ble_eq_true rfl) ⟨Nat.le_of_ble_eq_true rfl, Nat.le_of_ble_eq_true rfl⟩ dX4_waiter_16 (fun v3 H locs hw Z => ?_)
    refine lv_iload_n hx hb dX4_waiter_19 rfl (lv_at hl 1 rfl) ?_
    refine lv_aload_n hx hb dX4_waiter_20 rfl (lv_at hl 0 rfl) ?_
    refine z_get C0 Z in_X4 rfl 23 (by decide) rfl tm_4_226 (cx_lt C0 (by decide)) rfl rfl dX4_waiter_21 ?_
    refine lv_icmp_ge (tgt := 36) hx hb dX4_waiter_24 (by decide) (fun c4 => ?_) (fun c4 => ?_)
    · replace hw := hw.1 c4
      refine lv_iconst (v := (-1)) hx hb dX4_waiter_36 (by decide) ?_
      exact b_X4_waiter_37 l C0 _ _ _ _ _ hw Z (lv_sub hl [] rfl)
    · replace hw := hw.2 c4
      refine lv_aload_n hx hb dX4_waiter_27 rfl (lv_at hl 0 rfl) ?_
      refine z_get C0 Z in_X4 rfl 22 (by decide) rfl tm_4_225 (cx_lt C0 (by decide)) rfl rfl dX4_waiter_28 ?_
      refine lv_iload_n hx hb dX4_waiter_31 rfl (lv_at hl 1 rfl) ?_
      obtain ⟨h5, hw⟩ := hw
      refine z_iald C0 Z (cx_lt C0 (by decide)) rfl h5 dX4_waiter_32 ?_
      refine lv_goto (tgt := 37) hx hb dX4_waiter_33 (by decide) ?_
      exact b_X4_waiter_37 l C0 _ _ _ _ _ hw Z (lv_sub hl [] rfl)
  · replace hw := hw.2 c2
    refine lv_aload_n hx hb dX4_waiter_9 rfl (lv_at hl 0 rfl) ?_
    refine lv_iconst (v := 1) hx hb dX4_waiter_10 (by decide) ?_
    refine z_callVi C0 Z hl.1 (As := [.int 1]) (rest := []) (k_X4_fail l (cx_g C0) hw) (gv_X4_fail tm_5_75) rfl ds_X4_fail ⟨Nat.le_of_ble_eq_true rfl, Nat.le_of_ble_eq_true rfl⟩ (ci := 4) rfl (cx_lt C0 (by decide)) rfl rfl rfl (Nat.le_of_ble_eq_true rfl) ⟨Nat.le_of_ble_eq_true rfl, Nat.le_of_ble_eq_true rfl⟩ dX4_waiter_11 (fun r7 v6 H locs hw Z => ?_)
    exact z_iret C0 Z hw dX4_waiter_14
-- X4_placeAll: room (6, 139)
theorem dX4_placeAll_0 : decode cX4_placeAll 0 = .ok (.aload_n 0, 1) := by decide +kernel
theorem dX4_placeAll_1 : decode cX4_placeAll 1 = .ok (.invokevirtual 299, 3) := by decide +kernel
theorem dX4_placeAll_4 : decode cX4_placeAll 4 = .ok (.iconst 0, 1) := by decide +kernel
theorem dX4_placeAll_5 : decode cX4_placeAll 5 = .ok (.istore_n 1, 1) := by decide +kernel
theorem dX4_placeAll_6 : decode cX4_placeAll 6 = .ok (.iload_n 1, 1) := by decide +kernel
theorem dX4_placeAll_7 : decode cX4_placeAll 7 = .ok (.aload_n 0, 1) := by decide +kernel
theorem dX4_placeAll_8 : decode cX4_placeAll 8 = .ok (.getfield 293, 3) := by decide +kernel
theorem dX4_placeAll_11 : decode cX4_placeAll 11 = .ok (.if_icmp .ge 36, 3) := by decide +kernel
theorem dX4_placeAll_14 : decode cX4_placeAll 14 = .ok (.aload_n 0, 1) := by decide +kernel
theorem dX4_placeAll_15 : decode cX4_placeAll 15 = .ok (.dup, 1) := by decide +kernel
theorem dX4_placeAll_16 : decode cX4_placeAll 16 = .ok (.getfield 302, 3) := by decide +kernel
theorem dX4_placeAll_19 : decode cX4_placeAll 19 = .ok (.aload_n 0, 1) := by decide +kernel
theorem dX4_placeAll_20 : decode cX4_placeAll 20 = .ok (.aload_n 0, 1) := by decide +kernel
theorem dX4_placeAll_21 : decode cX4_placeAll 21 = .ok (.getfield 42, 3) := by decide +kernel
theorem dX4_placeAll_24 : decode cX4_placeAll 24 = .ok (.iload_n 1, 1) := by decide +kernel
theorem dX4_placeAll_25 : decode cX4_placeAll 25 = .ok (.iaload, 1) := by decide +kernel
theorem dX4_placeAll_26 : decode cX4_placeAll 26 = .ok (.invokevirtual 283, 3) := by decide +kernel
theorem dX4_placeAll_29 : decode cX4_placeAll 29 = .ok (.ifCond .eq 7, 3) := by decide +kernel
theorem dX4_placeAll_32 : decode cX4_placeAll 32 = .ok (.iconst 1, 1) := by decide +kernel
theorem dX4_placeAll_33 : decode cX4_placeAll 33 = .ok (.goto 4, 3) := by decide +kernel
theorem dX4_placeAll_36 : decode cX4_placeAll 36 = .ok (.iconst 0, 1) := by decide +kernel
theorem dX4_placeAll_37 : decode cX4_placeAll 37 = .ok (.iadd, 1) := by decide +kernel
theorem dX4_placeAll_38 : decode cX4_placeAll 38 = .ok (.putfield 302, 3) := by decide +kernel
theorem dX4_placeAll_41 : decode cX4_placeAll 41 = .ok (.iinc 1 1, 3) := by decide +kernel
theorem dX4_placeAll_44 : decode cX4_placeAll 44 = .ok (.goto (-38), 3) := by decide +kernel
theorem dX4_placeAll_47 : decode cX4_placeAll 47 = .ok (.return_, 1) := by decide +kernel
def w_X4_placeAll_37  (Q : V3 → Prop) (K6 : Int32 → V3 → Prop) (x1 : Int32) (s1 : Int32) (s2 : Int32) (v : V3) : Prop := ∀ v7 : V3, v7 = up2 v 7 24 (s1 + s2) → K6 (x1 + 1) v7
def w_X4_placeAll_6  (Q : V3 → Prop) : Nat → Int32 → V3 → Prop
  | 0, _, _ => False
  | n6 + 1, x1, v => (((v 7 23) ≤ x1 → Q v) ∧ (¬ (v 7 23) ≤ x1 → vp_in x1 40 ∧ w_X4_place (v 17 (ix x1)) v (fun r5 v4 => ((r5 = 0 → w_X4_placeAll_37 Q (w_X4_placeAll_6 Q n6) x1 (v 7 24) 0 v4) ∧ (¬ r5 = 0 → w_X4_placeAll_37 Q (w_X4_placeAll_6 Q n6) x1 (v 7 24) 1 v4)))))
def w_X4_placeAll  (v : V3) (Q : V3 → Prop) : Prop := w_X4_layOrder v (fun v1 => ∃ m6 : Nat, w_X4_placeAll_6 Q m6 0 v1)
set_option maxRecDepth 100000 in
set_option maxHeartbeats 4000000 in
theorem b_X4_placeAll_37 {p : Program} (l : Launch) {e : Env} {s : State} {m : MethodId} {args : Array Value} {below : List Frame} {meth : Method} {c : Code} {G : zG}   (C0 : Cx G RX4 cX4_placeAll 2 none p s m args meth c) {Q : V3 → Prop} {K6 : Int32 → V3 → Prop} (hK6 : ∀ (x1 : Int32) (v : V3) (H : Heap) (locs : List Loc) (ls : Array Slot), K6 x1 v → Zs G s v H locs → lv_has ls 2 [(0, .ref (gad G 7)), (1, .int x1)] → W p l e { frames := 6, cells := 0, slots := 0, locals := 139 } s m args below meth c H locs 0 0 (MQ below (QvZ G Q) args s 0 0 (zA G)) (F0 m 6 ls [])) : ∀ (x1 : Int32) (s1 : Int32) (s2 : Int32) (v : V3) (H : Heap) (locs : List Loc) (ls : Array Slot), w_X4_placeAll_37 Q K6 x1 s1 s2 v → Zs G s v H locs → lv_has ls 2 [(0, .ref (gad G 7)), (1, .int x1)] → W p l e { frames := 6, cells := 0, slots := 0, locals := 139 } s m args below meth c H locs 0 0 (MQ below (QvZ G Q) args s 0 0 (zA G)) (F0 m 37 ls [.int s2, .int s1, .ref (gad G 7)]) := by
  have hx := C0.1
  have hb := C0.2.1
  intro x1 s1 s2 v H locs ls hw Z hl
  rw [w_X4_placeAll_37] at hw
  refine lv_iadd hx hb dX4_placeAll_37 ?_
  refine z_put C0 Z in_X4 tyX4_ok nmX4 rfl 24 (by decide) rfl rfl tm_4_227 (cx_lt C0 (by decide)) rfl p_X4_24 (fun c' h => up2_off _ _ _ h) rfl rfl (Nat.le_of_ble_eq_true rfl) dX4_placeAll_38 (fun H locs Z => ?_)
  obtain ⟨v7, ev7⟩ : ∃ z : V3, z = up2 v 7 24 (s1 + s2) := ⟨_, rfl⟩
  rw [← ev7] at Z
  replace hw := hw v7 ev7
  refine lv_iinc (v := x1 + 1) (lv' := [(1, .int (x1 + 1)), (0, .ref (gad G 7))]) hx hb dX4_placeAll_41 hl (k := 1) rfl rfl (by decide) rfl (fun ls hl => ?_)
  refine lv_goto (tgt := 6) hx hb dX4_placeAll_44 (by decide) ?_
  exact hK6 _ _ _ _ _ hw Z (lv_sub hl [1, 0] rfl)
set_option maxRecDepth 100000 in
set_option maxHeartbeats 4000000 in
theorem b_X4_placeAll_6 {p : Program} (l : Launch) {e : Env} {s : State} {m : MethodId} {args : Array Value} {below : List Frame} {meth : Method} {c : Code} {G : zG}   (C0 : Cx G RX4 cX4_placeAll 2 none p s m args meth c) {Q : V3 → Prop} : ∀ (n : Nat) (x1 : Int32) (v : V3) (H : Heap) (locs : List Loc) (ls : Array Slot), w_X4_placeAll_6 Q n x1 v → Zs G s v H locs → lv_has ls 2 [(0, .ref (gad G 7)), (1, .int x1)] → W p l e { frames := 6, cells := 0, slots := 0, locals := 139 } s m args below meth c H locs 0 0 (MQ below (QvZ G Q) args s 0 0 (zA G)) (F0 m 6 ls []) := by
  have hx := C0.1
  have hb := C0.2.1
  intro n
  induction n with
  | zero =>
    intro x1 v H locs ls hw Z hl
    exact hw.elim
  | succ n hK6 =>
    intro x1 v H locs ls hw Z hl
    rw [w_X4_placeAll_6] at hw
    refine lv_iload_n hx hb dX4_placeAll_6 rfl (lv_at hl 1 rfl) ?_
    refine lv_aload_n hx hb dX4_placeAll_7 rfl (lv_at hl 0 rfl) ?_
    refine z_get C0 Z in_X4 rfl 23 (by decide) rfl tm_4_226 (cx_lt C0 (by decide)) rfl rfl dX4_placeAll_8 ?_
    refine lv_icmp_ge (tgt := 47) hx hb dX4_placeAll_11 (by decide) (fun c2 => ?_) (fun c2 => ?_)
    · replace hw := hw.1 c2
      exact z_vret C0 Z hw dX4_placeAll_47
    · replace hw := hw.2 c2
      refine lv_aload_n hx hb dX4_placeAll_14 rfl (lv_at hl 0 rfl) ?_
      refine lv_dup hx hb dX4_placeAll_15 rfl ?_
      refine z_get C0 Z in_X4 rfl 24 (by decide) rfl tm_4_227 (cx_lt C0 (by decide)) rfl rfl dX4_placeAll_16 ?_
      refine lv_aload_n hx hb dX4_placeAll_19 rfl (lv_at hl 0 rfl) ?_
      refine lv_aload_n hx hb dX4_placeAll_20 rfl (lv_at hl 0 rfl) ?_
      refine z_get C0 Z in_X4 rfl 22 (by decide) rfl tm_4_225 (cx_lt C0 (by decide)) rfl rfl dX4_placeAll_21 ?_
      refine lv_iload_n hx hb dX4_placeAll_24 rfl (lv_at hl 1 rfl) ?_
      obtain ⟨h3, hw⟩ := hw
      refine z_iald C0 Z (cx_lt C0 (by decide)) rfl h3 dX4_placeAll_25 ?_
      refine z_callVi C0 Z hl.1 (As := [.int (v 17 (ix x1))]) (rest := [.int (v 7 24), .ref (gad G 7)]) (k_X4_place l (cx_g C0) hw) (gv_X4_place tm_5_186) rfl ds_X4_place ⟨Nat.le_of_ble_eq_true rfl, Nat.le_of_ble_eq_true rfl⟩ (ci := 4) rfl (cx_lt C0 (by decide)) rfl rfl rfl (Nat.le_of_ble_eq_true rfl) ⟨Nat.le_of_ble_eq_true rfl, Nat.le_of_ble_eq_true rfl⟩ dX4_placeAll_26 (fun r5 v4 H locs hw Z => ?_)
      refine lv_if_eq (tgt := 36) hx hb dX4_placeAll_29 (by decide) (fun c6 => ?_) (fun c6 => ?_)
      · replace hw := hw.1 c6
        refine lv_iconst (v := 0) hx hb dX4_placeAll_36 (by decide) ?_
        exact b_X4_placeAll_37 l C0 hK6 _ _ _ _ _ _ _ hw Z (lv_sub hl [0, 1] rfl)
      · replace hw := hw.2 c6
        refine lv_iconst (v := 1) hx hb dX4_placeAll_32 (by decide) ?_
        refine lv_goto (tgt := 37) hx hb dX4_placeAll_33 (by decide) ?_
        exact b_X4_placeAll_37 l C0 hK6 _ _ _ _ _ _ _ hw Z (lv_sub hl [0, 1] rfl)
set_option maxRecDepth 100000 in
set_option maxHeartbeats 4000000 in
theorem k_X4_placeAll (l : Launch) {G : zG} (hg : 129 ≤ gn G)  {v : V3} {Q : V3 → Prop} (hw : w_X4_placeAll v Q) : Mz l yX4_placeAll cX4_placeAll 2 none 6 139 G [.ref (gad G 7)] v (QvZ G Q) := by
  rw [w_X4_placeAll] at hw
  refine z_ofW hg (by decide) (Nat.le_of_ble_eq_true rfl) ?_
  intro p e s m args below meth c ls C0 Z hl
  have hx := C0.1
  have hb := C0.2.1
  replace hl : lv_has ls 2 [(0, .ref (gad G 7))] := hl
  generalize s.heap = H at Z ⊢
  generalize ([] : List Loc) = locs at Z ⊢
  refine lv_aload_n hx hb dX4_placeAll_0 rfl (lv_at hl 0 rfl) ?_
  refine z_callVv C0 Z hl.1 (As := []) (rest := []) (k_X4_layOrder l (cx_g C0) hw) (gv_X4_layOrder tm_6_83) rfl ds_X4_layOrder ⟨Nat.le_of_ble_eq_true rfl, Nat.le_of_ble_eq_true rfl⟩ (ci := 4) rfl (cx_lt C0 (by decide)) rfl rfl rfl (Nat.le_of_ble_eq_true rfl) ⟨Nat.le_of_ble_eq_true rfl, Nat.le_of_ble_eq_true rfl⟩ dX4_placeAll_1 (fun v1 H locs hw Z => ?_)
  refine lv_iconst (v := 0) hx hb dX4_placeAll_4 (by decide) ?_
  refine lv_istore_n (lv' := [(1, .int 0), (0, .ref (gad G 7))]) hx hb dX4_placeAll_5 rfl hl (by decide) rfl (fun ls hl => ?_)
  obtain ⟨m6, hw⟩ := hw
  exact b_X4_placeAll_6 l C0 m6 _ _ _ _ _ hw Z (lv_sub hl [1, 0] rfl)
-- X4_clean: room (1, 23)
theorem dX4_clean_0 : decode cX4_clean 0 = .ok (.aload_n 0, 1) := by decide +kernel
theorem dX4_clean_1 : decode cX4_clean 1 = .ok (.iconst 0, 1) := by decide +kernel
theorem dX4_clean_2 : decode cX4_clean 2 = .ok (.putfield 55, 3) := by decide +kernel
theorem dX4_clean_5 : decode cX4_clean 5 = .ok (.iconst 0, 1) := by decide +kernel
theorem dX4_clean_6 : decode cX4_clean 6 = .ok (.istore_n 1, 1) := by decide +kernel
theorem dX4_clean_7 : decode cX4_clean 7 = .ok (.iconst 0, 1) := by decide +kernel
theorem dX4_clean_8 : decode cX4_clean 8 = .ok (.istore_n 2, 1) := by decide +kernel
theorem dX4_clean_9 : decode cX4_clean 9 = .ok (.iload_n 2, 1) := by decide +kernel
theorem dX4_clean_10 : decode cX4_clean 10 = .ok (.aload_n 0, 1) := by decide +kernel
theorem dX4_clean_11 : decode cX4_clean 11 = .ok (.getfield 7, 3) := by decide +kernel
theorem dX4_clean_14 : decode cX4_clean 14 = .ok (.bipush 6, 2) := by decide +kernel
theorem dX4_clean_16 : decode cX4_clean 16 = .ok (.iaload, 1) := by decide +kernel
theorem dX4_clean_17 : decode cX4_clean 17 = .ok (.if_icmp .ge 49, 3) := by decide +kernel
theorem dX4_clean_20 : decode cX4_clean 20 = .ok (.aload_n 0, 1) := by decide +kernel
theorem dX4_clean_21 : decode cX4_clean 21 = .ok (.iload_n 2, 1) := by decide +kernel
theorem dX4_clean_22 : decode cX4_clean 22 = .ok (.bipush 7, 2) := by decide +kernel
theorem dX4_clean_24 : decode cX4_clean 24 = .ok (.invokevirtual 71, 3) := by decide +kernel
theorem dX4_clean_27 : decode cX4_clean 27 = .ok (.iconst 2, 1) := by decide +kernel
theorem dX4_clean_28 : decode cX4_clean 28 = .ok (.if_icmp .gt 32, 3) := by decide +kernel
theorem dX4_clean_31 : decode cX4_clean 31 = .ok (.iconst 0, 1) := by decide +kernel
theorem dX4_clean_32 : decode cX4_clean 32 = .ok (.istore_n 3, 1) := by decide +kernel
theorem dX4_clean_33 : decode cX4_clean 33 = .ok (.iload_n 3, 1) := by decide +kernel
theorem dX4_clean_34 : decode cX4_clean 34 = .ok (.bipush 10, 2) := by decide +kernel
theorem dX4_clean_36 : decode cX4_clean 36 = .ok (.if_icmp .ge 21, 3) := by decide +kernel
theorem dX4_clean_39 : decode cX4_clean 39 = .ok (.aload_n 0, 1) := by decide +kernel
theorem dX4_clean_40 : decode cX4_clean 40 = .ok (.iload_n 1, 1) := by decide +kernel
theorem dX4_clean_41 : decode cX4_clean 41 = .ok (.iload_n 3, 1) := by decide +kernel
theorem dX4_clean_42 : decode cX4_clean 42 = .ok (.aload_n 0, 1) := by decide +kernel
theorem dX4_clean_43 : decode cX4_clean 43 = .ok (.iload_n 2, 1) := by decide +kernel
theorem dX4_clean_44 : decode cX4_clean 44 = .ok (.iload_n 3, 1) := by decide +kernel
theorem dX4_clean_45 : decode cX4_clean 45 = .ok (.invokevirtual 71, 3) := by decide +kernel
theorem dX4_clean_48 : decode cX4_clean 48 = .ok (.invokevirtual 271, 3) := by decide +kernel
theorem dX4_clean_51 : decode cX4_clean 51 = .ok (.iinc 3 1, 3) := by decide +kernel
theorem dX4_clean_54 : decode cX4_clean 54 = .ok (.goto (-21), 3) := by decide +kernel
theorem dX4_clean_57 : decode cX4_clean 57 = .ok (.iinc 1 1, 3) := by decide +kernel
theorem dX4_clean_60 : decode cX4_clean 60 = .ok (.iinc 2 1, 3) := by decide +kernel
theorem dX4_clean_63 : decode cX4_clean 63 = .ok (.goto (-54), 3) := by decide +kernel
theorem dX4_clean_66 : decode cX4_clean 66 = .ok (.aload_n 0, 1) := by decide +kernel
theorem dX4_clean_67 : decode cX4_clean 67 = .ok (.getfield 7, 3) := by decide +kernel
theorem dX4_clean_70 : decode cX4_clean 70 = .ok (.bipush 6, 2) := by decide +kernel
theorem dX4_clean_72 : decode cX4_clean 72 = .ok (.iaload, 1) := by decide +kernel
theorem dX4_clean_73 : decode cX4_clean 73 = .ok (.iload_n 1, 1) := by decide +kernel
theorem dX4_clean_74 : decode cX4_clean 74 = .ok (.isub, 1) := by decide +kernel
theorem dX4_clean_75 : decode cX4_clean 75 = .ok (.istore_n 2, 1) := by decide +kernel
theorem dX4_clean_76 : decode cX4_clean 76 = .ok (.aload_n 0, 1) := by decide +kernel
theorem dX4_clean_77 : decode cX4_clean 77 = .ok (.getfield 7, 3) := by decide +kernel
theorem dX4_clean_80 : decode cX4_clean 80 = .ok (.bipush 6, 2) := by decide +kernel
theorem dX4_clean_82 : decode cX4_clean 82 = .ok (.iload_n 1, 1) := by decide +kernel
theorem dX4_clean_83 : decode cX4_clean 83 = .ok (.iastore, 1) := by decide +kernel
theorem dX4_clean_84 : decode cX4_clean 84 = .ok (.iload_n 2, 1) := by decide +kernel
theorem dX4_clean_85 : decode cX4_clean 85 = .ok (.ireturn, 1) := by decide +kernel
def w_X4_clean_60  (Q : Int32 → V3 → Prop) (K9 : Int32 → Int32 → V3 → Prop) (x1 : Int32) (x2 : Int32) (v : V3) : Prop := K9 x1 (x2 + 1) v
def w_X4_clean_33  (Q : Int32 → V3 → Prop) (K9 : Int32 → Int32 → V3 → Prop) : Nat → Int32 → Int32 → Int32 → V3 → Prop
  | 0, _, _, _, _ => False
  | n33 + 1, x1, x2, x3, v => ((10 ≤ x3 → w_X4_clean_60 Q K9 (x1 + 1) x2 v) ∧ (¬ 10 ≤ x3 → w_X4_of x2 x3 v (fun r9 v8 => w_X4_put x1 x3 r9 v8 (fun v10 => (w_X4_clean_33 Q K9 n33) x1 x2 (x3 + 1) v10))))
def w_X4_clean_9  (Q : Int32 → V3 → Prop) : Nat → Int32 → Int32 → V3 → Prop
  | 0, _, _, _ => False
  | n9 + 1, x1, x2, v => (((v 8 6) ≤ x2 → ∀ v3 : V3, v3 = up2 v 8 6 x1 → Q ((v 8 6) - x1) v3) ∧ (¬ (v 8 6) ≤ x2 → w_X4_of x2 7 v (fun r5 v4 => ((2 < r5 → w_X4_clean_60 Q (w_X4_clean_9 Q n9) x1 x2 v4) ∧ (¬ 2 < r5 → ∃ m33 : Nat, w_X4_clean_33 Q (w_X4_clean_9 Q n9) m33 x1 x2 0 v4)))))
def w_X4_clean  (v : V3) (Q : Int32 → V3 → Prop) : Prop := ∀ v1 : V3, v1 = up2 v 7 11 0 → ∃ m9 : Nat, w_X4_clean_9 Q m9 0 0 v1
set_option maxRecDepth 100000 in
set_option maxHeartbeats 4000000 in
theorem b_X4_clean_60 {p : Program} (l : Launch) {e : Env} {s : State} {m : MethodId} {args : Array Value} {below : List Frame} {meth : Method} {c : Code} {G : zG}   (C0 : Cx G RX4 cX4_clean 4 (some .int) p s m args meth c) {Q : Int32 → V3 → Prop} {K9 : Int32 → Int32 → V3 → Prop} (hK9 : ∀ (x1 : Int32) (x2 : Int32) (v : V3) (H : Heap) (locs : List Loc) (ls : Array Slot), K9 x1 x2 v → Zs G s v H locs → lv_has ls 4 [(0, .ref (gad G 7)), (1, .int x1), (2, .int x2)] → W p l e { frames := 1, cells := 0, slots := 0, locals := 23 } s m args below meth c H locs 0 0 (MQ below (QiZ G Q) args s 0 0 (zA G)) (F0 m 9 ls [])) : ∀ (x1 : Int32) (x2 : Int32) (v : V3) (H : Heap) (locs : List Loc) (ls : Array Slot), w_X4_clean_60 Q K9 x1 x2 v → Zs G s v H locs → lv_has ls 4 [(0, .ref (gad G 7)), (1, .int x1), (2, .int x2)] → W p l e { frames := 1, cells := 0, slots := 0, locals := 23 } s m args below meth c H locs 0 0 (MQ below (QiZ G Q) args s 0 0 (zA G)) (F0 m 60 ls []) := by
  have hx := C0.1
  have hb := C0.2.1
  intro x1 x2 v H locs ls hw Z hl
  rw [w_X4_clean_60] at hw
  refine lv_iinc (v := x2 + 1) (lv' := [(2, .int (x2 + 1)), (0, .ref (gad G 7)), (1, .int x1)]) hx hb dX4_clean_60 hl (k := 2) rfl rfl (by decide) rfl (fun ls hl => ?_)
  refine lv_goto (tgt := 9) hx hb dX4_clean_63 (by decide) ?_
  exact hK9 _ _ _ _ _ _ hw Z (lv_sub hl [1, 2, 0] rfl)
set_option maxRecDepth 100000 in
set_option maxHeartbeats 4000000 in
theorem b_X4_clean_33 {p : Program} (l : Launch) {e : Env} {s : State} {m : MethodId} {args : Array Value} {below : List Frame} {meth : Method} {c : Code} {G : zG}   (C0 : Cx G RX4 cX4_clean 4 (some .int) p s m args meth c) {Q : Int32 → V3 → Prop} {K9 : Int32 → Int32 → V3 → Prop} (hK9 : ∀ (x1 : Int32) (x2 : Int32) (v : V3) (H : Heap) (locs : List Loc) (ls : Array Slot), K9 x1 x2 v → Zs G s v H locs → lv_has ls 4 [(0, .ref (gad G 7)), (1, .int x1), (2, .int x2)] → W p l e { frames := 1, cells := 0, slots := 0, locals := 23 } s m args below meth c H locs 0 0 (MQ below (QiZ G Q) args s 0 0 (zA G)) (F0 m 9 ls [])) : ∀ (n : Nat) (x1 : Int32) (x2 : Int32) (x3 : Int32) (v : V3) (H : Heap) (locs : List Loc) (ls : Array Slot), w_X4_clean_33 Q K9 n x1 x2 x3 v → Zs G s v H locs → lv_has ls 4 [(0, .ref (gad G 7)), (1, .int x1), (2, .int x2), (3, .int x3)] → W p l e { frames := 1, cells := 0, slots := 0, locals := 23 } s m args below meth c H locs 0 0 (MQ below (QiZ G Q) args s 0 0 (zA G)) (F0 m 33 ls []) := by
  have hx := C0.1
  have hb := C0.2.1
  intro n
  induction n with
  | zero =>
    intro x1 x2 x3 v H locs ls hw Z hl
    exact hw.elim
  | succ n hK33 =>
    intro x1 x2 x3 v H locs ls hw Z hl
    rw [w_X4_clean_33] at hw
    refine lv_iload_n hx hb dX4_clean_33 rfl (lv_at hl 3 rfl) ?_
    refine lv_bipush (v := 10) hx hb dX4_clean_34 (by decide) ?_
    refine lv_icmp_ge (tgt := 57) hx hb dX4_clean_36 (by decide) (fun c7 => ?_) (fun c7 => ?_)
    · replace hw := hw.1 c7
      refine lv_iinc (v := x1 + 1) (lv' := [(1, .int (x1 + 1)), (0, .ref (gad G 7)), (2, .int x2), (3, .int x3)]) hx hb dX4_clean_57 hl (k := 1) rfl rfl (by decide) rfl (fun ls hl => ?_)
      exact b_X4_clean_60 l C0 hK9 _ _ _ _ _ _ hw Z (lv_sub hl [1, 0, 2] rfl)
    · replace hw := hw.2 c7
      refine lv_aload_n hx hb dX4_clean_39 rfl (lv_at hl 0 rfl) ?_
      refine lv_iload_n hx hb dX4_clean_40 rfl (lv_at hl 1 rfl) ?_
      refine lv_iload_n hx hb dX4_clean_41 rfl (lv_at hl 3 rfl) ?_
      refine lv_aload_n hx hb dX4_clean_42 rfl (lv_at hl 0 rfl) ?_
      refine lv_iload_n hx hb dX4_clean_43 rfl (lv_at hl 2 rfl) ?_
      refine lv_iload_n hx hb dX4_clean_44 rfl (lv_at hl 3 rfl) ?_
      refine z_callVi C0 Z hl.1 (As := [.int x2, .int x3]) (rest := [.int x3, .int x1, .ref (gad G 7)]) (k_X4_of l (cx_g C0) hw) (gv_X4_of tm_5_163) rfl ds_X4_of ⟨Nat.le_of_ble_eq_true rfl, Nat.le_of_ble_eq_true rfl⟩ (ci := 4) rfl (cx_lt C0 (by decide)) rfl rfl rfl (Nat.le_of_ble_eq_true rfl) ⟨Nat.le_of_ble_eq_true rfl, Nat.le_of_ble_eq_true rfl⟩ dX4_clean_45 (fun r9 v8 H locs hw Z => ?_)
      refine z_callVv C0 Z hl.1 (As := [.int x1, .int x3, .int r9]) (rest := []) (k_X4_put l (cx_g C0) hw) (gv_X4_put tm_5_178) rfl ds_X4_put ⟨Nat.le_of_ble_eq_true rfl, Nat.le_of_ble_eq_true rfl⟩ (ci := 4) rfl (cx_lt C0 (by decide)) rfl rfl rfl (Nat.le_of_ble_eq_true rfl) ⟨Nat.le_of_ble_eq_true rfl, Nat.le_of_ble_eq_true rfl⟩ dX4_clean_48 (fun v10 H locs hw Z => ?_)
      refine lv_iinc (v := x3 + 1) (lv' := [(3, .int (x3 + 1)), (0, .ref (gad G 7)), (1, .int x1), (2, .int x2)]) hx hb dX4_clean_51 hl (k := 3) rfl rfl (by decide) rfl (fun ls hl => ?_)
      refine lv_goto (tgt := 33) hx hb dX4_clean_54 (by decide) ?_
      exact hK33 _ _ _ _ _ _ _ hw Z (lv_sub hl [1, 2, 3, 0] rfl)
set_option maxRecDepth 100000 in
set_option maxHeartbeats 4000000 in
theorem b_X4_clean_9 {p : Program} (l : Launch) {e : Env} {s : State} {m : MethodId} {args : Array Value} {below : List Frame} {meth : Method} {c : Code} {G : zG}   (C0 : Cx G RX4 cX4_clean 4 (some .int) p s m args meth c) {Q : Int32 → V3 → Prop} : ∀ (n : Nat) (x1 : Int32) (x2 : Int32) (v : V3) (H : Heap) (locs : List Loc) (ls : Array Slot), w_X4_clean_9 Q n x1 x2 v → Zs G s v H locs → lv_has ls 4 [(0, .ref (gad G 7)), (1, .int x1), (2, .int x2)] → W p l e { frames := 1, cells := 0, slots := 0, locals := 23 } s m args below meth c H locs 0 0 (MQ below (QiZ G Q) args s 0 0 (zA G)) (F0 m 9 ls []) := by
  have hx := C0.1
  have hb := C0.2.1
  intro n
  induction n with
  | zero =>
    intro x1 x2 v H locs ls hw Z hl
    exact hw.elim
  | succ n hK9 =>
    intro x1 x2 v H locs ls hw Z hl
    rw [w_X4_clean_9] at hw
    refine lv_iload_n hx hb dX4_clean_9 rfl (lv_at hl 2 rfl) ?_
    refine lv_aload_n hx hb dX4_clean_10 rfl (lv_at hl 0 rfl) ?_
    refine z_get C0 Z in_X4 rfl 0 (by decide) rfl tm_4_203 (cx_lt C0 (by decide)) rfl rfl dX4_clean_11 ?_
    refine lv_bipush (v := 6) hx hb dX4_clean_14 (by decide) ?_
    refine z_ialdk C0 Z (cx_lt C0 (by decide)) rfl in_6_474 nc_6 dX4_clean_16 ?_
    refine lv_icmp_ge (tgt := 66) hx hb dX4_clean_17 (by decide) (fun c2 => ?_) (fun c2 => ?_)
    · replace hw := hw.1 c2
      refine lv_aload_n hx hb dX4_clean_66 rfl (lv_at hl 0 rfl) ?_
      refine z_get C0 Z in_X4 rfl 0 (by decide) rfl tm_4_203 (cx_lt C0 (by decide)) rfl rfl dX4_clean_67 ?_
      refine lv_bipush (v := 6) hx hb dX4_clean_70 (by decide) ?_
      refine z_ialdk C0 Z (cx_lt C0 (by decide)) rfl in_6_474 nc_6 dX4_clean_72 ?_
      refine lv_iload_n hx hb dX4_clean_73 rfl (lv_at hl 1 rfl) ?_
      refine lv_isub hx hb dX4_clean_74 ?_
      refine lv_istore_n (lv' := [(2, .int ((v 8 6) - x1)), (0, .ref (gad G 7)), (1, .int x1)]) hx hb dX4_clean_75 rfl hl (by decide) rfl (fun ls hl => ?_)
      refine lv_aload_n hx hb dX4_clean_76 rfl (lv_at hl 1 rfl) ?_
      refine z_get C0 Z in_X4 rfl 0 (by decide) rfl tm_4_203 (cx_lt C0 (by decide)) rfl rfl dX4_clean_77 ?_
      refine lv_bipush (v := 6) hx hb dX4_clean_80 (by decide) ?_
      refine lv_iload_n hx hb dX4_clean_82 rfl (lv_at hl 2 rfl) ?_
      refine z_iastk C0 Z (cx_lt C0 (by decide)) (fun _ => rfl) in_6_474 nc_6 dX4_clean_83 (fun H locs Z => ?_)
      obtain ⟨v3, ev3⟩ : ∃ z : V3, z = up2 v 8 6 x1 := ⟨_, rfl⟩
      rw [← ev3] at Z
      replace hw := hw v3 ev3
      refine lv_iload_n hx hb dX4_clean_84 rfl (lv_at hl 0 rfl) ?_
      exact z_iret C0 Z hw dX4_clean_85
    · replace hw := hw.2 c2
      refine lv_aload_n hx hb dX4_clean_20 rfl (lv_at hl 0 rfl) ?_
      refine lv_iload_n hx hb dX4_clean_21 rfl (lv_at hl 2 rfl) ?_
      refine lv_bipush (v := 7) hx hb dX4_clean_22 (by decide) ?_
      refine z_callVi C0 Z hl.1 (As := [.int x2, .int 7]) (rest := []) (k_X4_of l (cx_g C0) hw) (gv_X4_of tm_5_163) rfl ds_X4_of ⟨Nat.le_of_ble_eq_true rfl, Nat.le_of_ble_eq_true rfl⟩ (ci := 4) rfl (cx_lt C0 (by decide)) rfl rfl rfl (Nat.le_of_ble_eq_true rfl) ⟨Nat.le_of_ble_eq_true rfl, Nat.le_of_ble_eq_true rfl⟩ dX4_clean_24 (fun r5 v4 H locs hw Z => ?_)
      refine lv_iconst (v := 2) hx hb dX4_clean_27 (by decide) ?_
      refine lv_icmp_gt (tgt := 60) hx hb dX4_clean_28 (by decide) (fun c6 => ?_) (fun c6 => ?_)
      · replace hw := hw.1 c6
        exact b_X4_clean_60 l C0 hK9 _ _ _ _ _ _ hw Z (lv_sub hl [0, 1, 2] rfl)
      · replace hw := hw.2 c6
        refine lv_iconst (v := 0) hx hb dX4_clean_31 (by decide) ?_
        refine lv_istore_n (lv' := [(3, .int 0), (0, .ref (gad G 7)), (1, .int x1), (2, .int x2)]) hx hb dX4_clean_32 rfl hl (by decide) rfl (fun ls hl => ?_)
        obtain ⟨m33, hw⟩ := hw
        exact b_X4_clean_33 l C0 hK9 m33 _ _ _ _ _ _ _ hw Z (lv_sub hl [1, 2, 3, 0] rfl)
set_option maxRecDepth 100000 in
set_option maxHeartbeats 4000000 in
theorem k_X4_clean (l : Launch) {G : zG} (hg : 129 ≤ gn G)  {v : V3} {Q : Int32 → V3 → Prop} (hw : w_X4_clean v Q) : Mz l yX4_clean cX4_clean 4 (some .int) 1 23 G [.ref (gad G 7)] v (QiZ G Q) := by
  rw [w_X4_clean] at hw
  refine z_ofW hg (by decide) (Nat.le_of_ble_eq_true rfl) ?_
  intro p e s m args below meth c ls C0 Z hl
  have hx := C0.1
  have hb := C0.2.1
  replace hl : lv_has ls 4 [(0, .ref (gad G 7))] := hl
  generalize s.heap = H at Z ⊢
  generalize ([] : List Loc) = locs at Z ⊢
  refine lv_aload_n hx hb dX4_clean_0 rfl (lv_at hl 0 rfl) ?_
  refine lv_iconst (v := 0) hx hb dX4_clean_1 (by decide) ?_
  refine z_put C0 Z in_X4 tyX4_ok nmX4 rfl 11 (by decide) rfl rfl tm_4_214 (cx_lt C0 (by decide)) rfl p_X4_11 (fun c' h => up2_off _ _ _ h) rfl rfl (Nat.le_of_ble_eq_true rfl) dX4_clean_2 (fun H locs Z => ?_)
  obtain ⟨v1, ev1⟩ : ∃ z : V3, z = up2 v 7 11 0 := ⟨_, rfl⟩
  rw [← ev1] at Z
  replace hw := hw v1 ev1
  refine lv_iconst (v := 0) hx hb dX4_clean_5 (by decide) ?_
  refine lv_istore_n (lv' := [(1, .int 0), (0, .ref (gad G 7))]) hx hb dX4_clean_6 rfl hl (by decide) rfl (fun ls hl => ?_)
  refine lv_iconst (v := 0) hx hb dX4_clean_7 (by decide) ?_
  refine lv_istore_n (lv' := [(2, .int 0), (1, .int 0), (0, .ref (gad G 7))]) hx hb dX4_clean_8 rfl hl (by decide) rfl (fun ls hl => ?_)
  obtain ⟨m9, hw⟩ := hw
  exact b_X4_clean_9 l C0 m9 _ _ _ _ _ _ hw Z (lv_sub hl [2, 1, 0] rfl)
-- X4_done: room (7, 160)
theorem dX4_done_0 : decode cX4_done 0 = .ok (.aload_n 0, 1) := by decide +kernel
theorem dX4_done_1 : decode cX4_done 1 = .ok (.invokevirtual 305, 3) := by decide +kernel
theorem dX4_done_4 : decode cX4_done 4 = .ok (.iconst 0, 1) := by decide +kernel
theorem dX4_done_5 : decode cX4_done 5 = .ok (.ireturn, 1) := by decide +kernel
def w_X4_done  (v : V3) (Q : Int32 → V3 → Prop) : Prop := w_X4_placeAll v (fun v1 => Q 0 v1)
set_option maxRecDepth 100000 in
set_option maxHeartbeats 4000000 in
theorem k_X4_done (l : Launch) {G : zG} (hg : 129 ≤ gn G)  {v : V3} {Q : Int32 → V3 → Prop} (hw : w_X4_done v Q) : Mz l yX4_done cX4_done 1 (some .int) 7 160 G [.ref (gad G 7)] v (QiZ G Q) := by
  rw [w_X4_done] at hw
  refine z_ofW hg (by decide) (Nat.le_of_ble_eq_true rfl) ?_
  intro p e s m args below meth c ls C0 Z hl
  have hx := C0.1
  have hb := C0.2.1
  replace hl : lv_has ls 1 [(0, .ref (gad G 7))] := hl
  generalize s.heap = H at Z ⊢
  generalize ([] : List Loc) = locs at Z ⊢
  refine lv_aload_n hx hb dX4_done_0 rfl (lv_at hl 0 rfl) ?_
  refine z_callVv C0 Z hl.1 (As := []) (rest := []) (k_X4_placeAll l (cx_g C0) hw) (gv_X4_placeAll tm_6_107) rfl ds_X4_placeAll ⟨Nat.le_of_ble_eq_true rfl, Nat.le_of_ble_eq_true rfl⟩ (ci := 4) rfl (cx_lt C0 (by decide)) rfl rfl rfl (Nat.le_of_ble_eq_true rfl) ⟨Nat.le_of_ble_eq_true rfl, Nat.le_of_ble_eq_true rfl⟩ dX4_done_1 (fun v1 H locs hw Z => ?_)
  refine lv_iconst (v := 0) hx hb dX4_done_4 (by decide) ?_
  exact z_iret C0 Z hw dX4_done_5
-- X4_arrive: room (2, 46)
theorem dX4_arrive_0 : decode cX4_arrive 0 = .ok (.aload_n 0, 1) := by decide +kernel
theorem dX4_arrive_1 : decode cX4_arrive 1 = .ok (.iconst 0, 1) := by decide +kernel
theorem dX4_arrive_2 : decode cX4_arrive 2 = .ok (.putfield 55, 3) := by decide +kernel
theorem dX4_arrive_5 : decode cX4_arrive 5 = .ok (.aload_n 0, 1) := by decide +kernel
theorem dX4_arrive_6 : decode cX4_arrive 6 = .ok (.iload_n 1, 1) := by decide +kernel
theorem dX4_arrive_7 : decode cX4_arrive 7 = .ok (.invokevirtual 290, 3) := by decide +kernel
theorem dX4_arrive_10 : decode cX4_arrive 10 = .ok (.ifCond .ne 9, 3) := by decide +kernel
theorem dX4_arrive_13 : decode cX4_arrive 13 = .ok (.aload_n 0, 1) := by decide +kernel
theorem dX4_arrive_14 : decode cX4_arrive 14 = .ok (.iconst 1, 1) := by decide +kernel
theorem dX4_arrive_15 : decode cX4_arrive 15 = .ok (.invokevirtual 78, 3) := by decide +kernel
theorem dX4_arrive_18 : decode cX4_arrive 18 = .ok (.ireturn, 1) := by decide +kernel
theorem dX4_arrive_19 : decode cX4_arrive 19 = .ok (.aload_n 0, 1) := by decide +kernel
theorem dX4_arrive_20 : decode cX4_arrive 20 = .ok (.iload_n 1, 1) := by decide +kernel
theorem dX4_arrive_21 : decode cX4_arrive 21 = .ok (.bipush 7, 2) := by decide +kernel
theorem dX4_arrive_23 : decode cX4_arrive 23 = .ok (.invokevirtual 71, 3) := by decide +kernel
theorem dX4_arrive_26 : decode cX4_arrive 26 = .ok (.iconst 1, 1) := by decide +kernel
theorem dX4_arrive_27 : decode cX4_arrive 27 = .ok (.if_icmp .eq 5, 3) := by decide +kernel
theorem dX4_arrive_30 : decode cX4_arrive 30 = .ok (.iconst 1, 1) := by decide +kernel
theorem dX4_arrive_31 : decode cX4_arrive 31 = .ok (.ireturn, 1) := by decide +kernel
theorem dX4_arrive_32 : decode cX4_arrive 32 = .ok (.aload_n 0, 1) := by decide +kernel
theorem dX4_arrive_33 : decode cX4_arrive 33 = .ok (.getfield 7, 3) := by decide +kernel
theorem dX4_arrive_36 : decode cX4_arrive 36 = .ok (.bipush 7, 2) := by decide +kernel
theorem dX4_arrive_38 : decode cX4_arrive 38 = .ok (.iaload, 1) := by decide +kernel
theorem dX4_arrive_39 : decode cX4_arrive 39 = .ok (.aload_n 0, 1) := by decide +kernel
theorem dX4_arrive_40 : decode cX4_arrive 40 = .ok (.iload_n 1, 1) := by decide +kernel
theorem dX4_arrive_41 : decode cX4_arrive 41 = .ok (.bipush 8, 2) := by decide +kernel
theorem dX4_arrive_43 : decode cX4_arrive 43 = .ok (.invokevirtual 71, 3) := by decide +kernel
theorem dX4_arrive_46 : decode cX4_arrive 46 = .ok (.if_icmp .ge 5, 3) := by decide +kernel
theorem dX4_arrive_49 : decode cX4_arrive 49 = .ok (.iconst 2, 1) := by decide +kernel
theorem dX4_arrive_50 : decode cX4_arrive 50 = .ok (.ireturn, 1) := by decide +kernel
theorem dX4_arrive_51 : decode cX4_arrive 51 = .ok (.aload_n 0, 1) := by decide +kernel
theorem dX4_arrive_52 : decode cX4_arrive 52 = .ok (.iload_n 1, 1) := by decide +kernel
theorem dX4_arrive_53 : decode cX4_arrive 53 = .ok (.bipush 7, 2) := by decide +kernel
theorem dX4_arrive_55 : decode cX4_arrive 55 = .ok (.iconst 2, 1) := by decide +kernel
theorem dX4_arrive_56 : decode cX4_arrive 56 = .ok (.invokevirtual 271, 3) := by decide +kernel
theorem dX4_arrive_59 : decode cX4_arrive 59 = .ok (.aload_n 0, 1) := by decide +kernel
theorem dX4_arrive_60 : decode cX4_arrive 60 = .ok (.aload_n 0, 1) := by decide +kernel
theorem dX4_arrive_61 : decode cX4_arrive 61 = .ok (.iload_n 1, 1) := by decide +kernel
theorem dX4_arrive_62 : decode cX4_arrive 62 = .ok (.iconst 0, 1) := by decide +kernel
theorem dX4_arrive_63 : decode cX4_arrive 63 = .ok (.invokevirtual 71, 3) := by decide +kernel
theorem dX4_arrive_66 : decode cX4_arrive 66 = .ok (.bipush 6, 2) := by decide +kernel
theorem dX4_arrive_68 : decode cX4_arrive 68 = .ok (.aload_n 0, 1) := by decide +kernel
theorem dX4_arrive_69 : decode cX4_arrive 69 = .ok (.getfield 7, 3) := by decide +kernel
theorem dX4_arrive_72 : decode cX4_arrive 72 = .ok (.bipush 7, 2) := by decide +kernel
theorem dX4_arrive_74 : decode cX4_arrive 74 = .ok (.iaload, 1) := by decide +kernel
theorem dX4_arrive_75 : decode cX4_arrive 75 = .ok (.aload_n 0, 1) := by decide +kernel
theorem dX4_arrive_76 : decode cX4_arrive 76 = .ok (.iload_n 1, 1) := by decide +kernel
theorem dX4_arrive_77 : decode cX4_arrive 77 = .ok (.bipush 8, 2) := by decide +kernel
theorem dX4_arrive_79 : decode cX4_arrive 79 = .ok (.invokevirtual 71, 3) := by decide +kernel
theorem dX4_arrive_82 : decode cX4_arrive 82 = .ok (.isub, 1) := by decide +kernel
theorem dX4_arrive_83 : decode cX4_arrive 83 = .ok (.invokevirtual 254, 3) := by decide +kernel
theorem dX4_arrive_86 : decode cX4_arrive 86 = .ok (.iconst 0, 1) := by decide +kernel
theorem dX4_arrive_87 : decode cX4_arrive 87 = .ok (.ireturn, 1) := by decide +kernel
def w_X4_arrive (a1 : Int32) (v : V3) (Q : Int32 → V3 → Prop) : Prop := ∀ v1 : V3, v1 = up2 v 7 11 0 → w_X4_isBooking a1 v1 (fun r3 v2 => ((¬ r3 = 0 → w_X4_of a1 7 v2 (fun r6 v5 => ((r6 = 1 → w_X4_of a1 8 v5 (fun r9 v8 => ((r9 ≤ (v5 8 7) → w_X4_put a1 7 2 v8 (fun v11 => w_X4_of a1 0 v11 (fun r13 v12 => w_X4_of a1 8 v12 (fun r15 v14 => w_X4_grow r13 6 ((v12 8 7) - r15) v14 (fun v16 => Q 0 v16))))) ∧ (¬ r9 ≤ (v5 8 7) → Q 2 v8)))) ∧ (¬ r6 = 1 → Q 1 v5)))) ∧ (r3 = 0 → w_X4_fail 1 v2 (fun r18 v17 => Q r18 v17))))
set_option maxRecDepth 100000 in
set_option maxHeartbeats 4000000 in
theorem k_X4_arrive (l : Launch) {G : zG} (hg : 129 ≤ gn G) {a1 : Int32}  {v : V3} {Q : Int32 → V3 → Prop} (hw : w_X4_arrive a1 v Q) : Mz l yX4_arrive cX4_arrive 2 (some .int) 2 46 G [.ref (gad G 7), .int a1] v (QiZ G Q) := by
  rw [w_X4_arrive] at hw
  refine z_ofW hg (by decide) (Nat.le_of_ble_eq_true rfl) ?_
  intro p e s m args below meth c ls C0 Z hl
  have hx := C0.1
  have hb := C0.2.1
  replace hl : lv_has ls 2 [(0, .ref (gad G 7)), (1, .int a1)] := hl
  generalize s.heap = H at Z ⊢
  generalize ([] : List Loc) = locs at Z ⊢
  refine lv_aload_n hx hb dX4_arrive_0 rfl (lv_at hl 0 rfl) ?_
  refine lv_iconst (v := 0) hx hb dX4_arrive_1 (by decide) ?_
  refine z_put C0 Z in_X4 tyX4_ok nmX4 rfl 11 (by decide) rfl rfl tm_4_214 (cx_lt C0 (by decide)) rfl p_X4_11 (fun c' h => up2_off _ _ _ h) rfl rfl (Nat.le_of_ble_eq_true rfl) dX4_arrive_2 (fun H locs Z => ?_)
  obtain ⟨v1, ev1⟩ : ∃ z : V3, z = up2 v 7 11 0 := ⟨_, rfl⟩
  rw [← ev1] at Z
  replace hw := hw v1 ev1
  refine lv_aload_n hx hb dX4_arrive_5 rfl (lv_at hl 0 rfl) ?_
  refine lv_iload_n hx hb dX4_arrive_6 rfl (lv_at hl 1 rfl) ?_
  refine z_callVi C0 Z hl.1 (As := [.int a1]) (rest := []) (k_X4_isBooking l (cx_g C0) hw) (gv_X4_isBooking tm_6_75) rfl ds_X4_isBooking ⟨Nat.le_of_ble_eq_true rfl, Nat.le_of_ble_eq_true rfl⟩ (ci := 4) rfl (cx_lt C0 (by decide)) rfl rfl rfl (Nat.le_of_ble_eq_true rfl) ⟨Nat.le_of_ble_eq_true rfl, Nat.le_of_ble_eq_true rfl⟩ dX4_arrive_7 (fun r3 v2 H locs hw Z => ?_)
  refine lv_if_ne (tgt := 19) hx hb dX4_arrive_10 (by decide) (fun c4 => ?_) (fun c4 => ?_)
  · replace hw := hw.1 c4
    refine lv_aload_n hx hb dX4_arrive_19 rfl (lv_at hl 0 rfl) ?_
    refine lv_iload_n hx hb dX4_arrive_20 rfl (lv_at hl 1 rfl) ?_
    refine lv_bipush (v := 7) hx hb dX4_arrive_21 (by decide) ?_
    refine z_callVi C0 Z hl.1 (As := [.int a1, .int 7]) (rest := []) (k_X4_of l (cx_g C0) hw) (gv_X4_of tm_5_163) rfl ds_X4_of ⟨Nat.le_of_ble_eq_true rfl, Nat.le_of_ble_eq_true rfl⟩ (ci := 4) rfl (cx_lt C0 (by decide)) rfl rfl rfl (Nat.le_of_ble_eq_true rfl) ⟨Nat.le_of_ble_eq_true rfl, Nat.le_of_ble_eq_true rfl⟩ dX4_arrive_23 (fun r6 v5 H locs hw Z => ?_)
    refine lv_iconst (v := 1) hx hb dX4_arrive_26 (by decide) ?_
    refine lv_icmp_eq (tgt := 32) hx hb dX4_arrive_27 (by decide) (fun c7 => ?_) (fun c7 => ?_)
    · replace hw := hw.1 c7
      refine lv_aload_n hx hb dX4_arrive_32 rfl (lv_at hl 0 rfl) ?_
      refine z_get C0 Z in_X4 rfl 0 (by decide) rfl tm_4_203 (cx_lt C0 (by decide)) rfl rfl dX4_arrive_33 ?_
      refine lv_bipush (v := 7) hx hb dX4_arrive_36 (by decide) ?_
      refine z_ialdk C0 Z (cx_lt C0 (by decide)) rfl in_7_474 nc_7 dX4_arrive_38 ?_
      refine lv_aload_n hx hb dX4_arrive_39 rfl (lv_at hl 0 rfl) ?_
      refine lv_iload_n hx hb dX4_arrive_40 rfl (lv_at hl 1 rfl) ?_
      refine lv_bipush (v := 8) hx hb dX4_arrive_41 (by decide) ?_
      refine z_callVi C0 Z hl.1 (As := [.int a1, .int 8]) (rest := [.int (v5 8 7)]) (k_X4_of l (cx_g C0) hw) (gv_X4_of tm_5_163) rfl ds_X4_of ⟨Nat.le_of_ble_eq_true rfl, Nat.le_of_ble_eq_true rfl⟩ (ci := 4) rfl (cx_lt C0 (by decide)) rfl rfl rfl (Nat.le_of_ble_eq_true rfl) ⟨Nat.le_of_ble_eq_true rfl, Nat.le_of_ble_eq_true rfl⟩ dX4_arrive_43 (fun r9 v8 H locs hw Z => ?_)
      refine lv_icmp_ge (tgt := 51) hx hb dX4_arrive_46 (by decide) (fun c10 => ?_) (fun c10 => ?_)
      · replace hw := hw.1 c10
        refine lv_aload_n hx hb dX4_arrive_51 rfl (lv_at hl 0 rfl) ?_
        refine lv_iload_n hx hb dX4_arrive_52 rfl (lv_at hl 1 rfl) ?_
        refine lv_bipush (v := 7) hx hb dX4_arrive_53 (by decide) ?_
        refine lv_iconst (v := 2) hx hb dX4_arrive_55 (by decide) ?_
        refine z_callVv C0 Z hl.1 (As := [.int a1, .int 7, .int 2]) (rest := []) (k_X4_put l (cx_g C0) hw) (gv_X4_put tm_5_178) rfl ds_X4_put ⟨Nat.le_of_ble_eq_true rfl, Nat.le_of_ble_eq_true rfl⟩ (ci := 4) rfl (cx_lt C0 (by decide)) rfl rfl rfl (Nat.le_of_ble_eq_true rfl) ⟨Nat.le_of_ble_eq_true rfl, Nat.le_of_ble_eq_true rfl⟩ dX4_arrive_56 (fun v11 H locs hw Z => ?_)
        refine lv_aload_n hx hb dX4_arrive_59 rfl (lv_at hl 0 rfl) ?_
        refine lv_aload_n hx hb dX4_arrive_60 rfl (lv_at hl 0 rfl) ?_
        refine lv_iload_n hx hb dX4_arrive_61 rfl (lv_at hl 1 rfl) ?_
        refine lv_iconst (v := 0) hx hb dX4_arrive_62 (by decide) ?_
        refine z_callVi C0 Z hl.1 (As := [.int a1, .int 0]) (rest := [.ref (gad G 7)]) (k_X4_of l (cx_g C0) hw) (gv_X4_of tm_5_163) rfl ds_X4_of ⟨Nat.le_of_ble_eq_true rfl, Nat.le_of_ble_eq_true rfl⟩ (ci := 4) rfl (cx_lt C0 (by decide)) rfl rfl rfl (Nat.le_of_ble_eq_true rfl) ⟨Nat.le_of_ble_eq_true rfl, Nat.le_of_ble_eq_true rfl⟩ dX4_arrive_63 (fun r13 v12 H locs hw Z => ?_)
        refine lv_bipush (v := 6) hx hb dX4_arrive_66 (by decide) ?_
        refine lv_aload_n hx hb dX4_arrive_68 rfl (lv_at hl 0 rfl) ?_
        refine z_get C0 Z in_X4 rfl 0 (by decide) rfl tm_4_203 (cx_lt C0 (by decide)) rfl rfl dX4_arrive_69 ?_
        refine lv_bipush (v := 7) hx hb dX4_arrive_72 (by decide) ?_
        refine z_ialdk C0 Z (cx_lt C0 (by decide)) rfl in_7_474 nc_7 dX4_arrive_74 ?_
        refine lv_aload_n hx hb dX4_arrive_75 rfl (lv_at hl 0 rfl) ?_
        refine lv_iload_n hx hb dX4_arrive_76 rfl (lv_at hl 1 rfl) ?_
        refine lv_bipush (v := 8) hx hb dX4_arrive_77 (by decide) ?_
        refine z_callVi C0 Z hl.1 (As := [.int a1, .int 8]) (rest := [.int (v12 8 7), .int 6, .int r13, .ref (gad G 7)]) (k_X4_of l (cx_g C0) hw) (gv_X4_of tm_5_163) rfl ds_X4_of ⟨Nat.le_of_ble_eq_true rfl, Nat.le_of_ble_eq_true rfl⟩ (ci := 4) rfl (cx_lt C0 (by decide)) rfl rfl rfl (Nat.le_of_ble_eq_true rfl) ⟨Nat.le_of_ble_eq_true rfl, Nat.le_of_ble_eq_true rfl⟩ dX4_arrive_79 (fun r15 v14 H locs hw Z => ?_)
        refine lv_isub hx hb dX4_arrive_82 ?_
        refine z_callVv C0 Z hl.1 (As := [.int r13, .int 6, .int ((v12 8 7) - r15)]) (rest := []) (k_X4_grow l (cx_g C0) hw) (gv_X4_grow tm_6_52) rfl ds_X4_grow ⟨Nat.le_of_ble_eq_true rfl, Nat.le_of_ble_eq_true rfl⟩ (ci := 4) rfl (cx_lt C0 (by decide)) rfl rfl rfl (Nat.le_of_ble_eq_true rfl) ⟨Nat.le_of_ble_eq_true rfl, Nat.le_of_ble_eq_true rfl⟩ dX4_arrive_83 (fun v16 H locs hw Z => ?_)
        refine lv_iconst (v := 0) hx hb dX4_arrive_86 (by decide) ?_
        exact z_iret C0 Z hw dX4_arrive_87
      · replace hw := hw.2 c10
        refine lv_iconst (v := 2) hx hb dX4_arrive_49 (by decide) ?_
        exact z_iret C0 Z hw dX4_arrive_50
    · replace hw := hw.2 c7
      refine lv_iconst (v := 1) hx hb dX4_arrive_30 (by decide) ?_
      exact z_iret C0 Z hw dX4_arrive_31
  · replace hw := hw.2 c4
    refine lv_aload_n hx hb dX4_arrive_13 rfl (lv_at hl 0 rfl) ?_
    refine lv_iconst (v := 1) hx hb dX4_arrive_14 (by decide) ?_
    refine z_callVi C0 Z hl.1 (As := [.int 1]) (rest := []) (k_X4_fail l (cx_g C0) hw) (gv_X4_fail tm_5_75) rfl ds_X4_fail ⟨Nat.le_of_ble_eq_true rfl, Nat.le_of_ble_eq_true rfl⟩ (ci := 4) rfl (cx_lt C0 (by decide)) rfl rfl rfl (Nat.le_of_ble_eq_true rfl) ⟨Nat.le_of_ble_eq_true rfl, Nat.le_of_ble_eq_true rfl⟩ dX4_arrive_15 (fun r18 v17 H locs hw Z => ?_)
    exact z_iret C0 Z hw dX4_arrive_18
-- X4_leave: room (8, 180)
theorem dX4_leave_0 : decode cX4_leave 0 = .ok (.aload_n 0, 1) := by decide +kernel
theorem dX4_leave_1 : decode cX4_leave 1 = .ok (.iconst 0, 1) := by decide +kernel
theorem dX4_leave_2 : decode cX4_leave 2 = .ok (.putfield 55, 3) := by decide +kernel
theorem dX4_leave_5 : decode cX4_leave 5 = .ok (.aload_n 0, 1) := by decide +kernel
theorem dX4_leave_6 : decode cX4_leave 6 = .ok (.iload_n 1, 1) := by decide +kernel
theorem dX4_leave_7 : decode cX4_leave 7 = .ok (.invokevirtual 290, 3) := by decide +kernel
theorem dX4_leave_10 : decode cX4_leave 10 = .ok (.ifCond .ne 9, 3) := by decide +kernel
theorem dX4_leave_13 : decode cX4_leave 13 = .ok (.aload_n 0, 1) := by decide +kernel
theorem dX4_leave_14 : decode cX4_leave 14 = .ok (.iconst 1, 1) := by decide +kernel
theorem dX4_leave_15 : decode cX4_leave 15 = .ok (.invokevirtual 78, 3) := by decide +kernel
theorem dX4_leave_18 : decode cX4_leave 18 = .ok (.ireturn, 1) := by decide +kernel
theorem dX4_leave_19 : decode cX4_leave 19 = .ok (.aload_n 0, 1) := by decide +kernel
theorem dX4_leave_20 : decode cX4_leave 20 = .ok (.iload_n 1, 1) := by decide +kernel
theorem dX4_leave_21 : decode cX4_leave 21 = .ok (.bipush 7, 2) := by decide +kernel
theorem dX4_leave_23 : decode cX4_leave 23 = .ok (.invokevirtual 71, 3) := by decide +kernel
theorem dX4_leave_26 : decode cX4_leave 26 = .ok (.iconst 2, 1) := by decide +kernel
theorem dX4_leave_27 : decode cX4_leave 27 = .ok (.if_icmp .eq 5, 3) := by decide +kernel
theorem dX4_leave_30 : decode cX4_leave 30 = .ok (.iconst 1, 1) := by decide +kernel
theorem dX4_leave_31 : decode cX4_leave 31 = .ok (.ireturn, 1) := by decide +kernel
theorem dX4_leave_32 : decode cX4_leave 32 = .ok (.aload_n 0, 1) := by decide +kernel
theorem dX4_leave_33 : decode cX4_leave 33 = .ok (.iload_n 1, 1) := by decide +kernel
theorem dX4_leave_34 : decode cX4_leave 34 = .ok (.bipush 7, 2) := by decide +kernel
theorem dX4_leave_36 : decode cX4_leave 36 = .ok (.iconst 3, 1) := by decide +kernel
theorem dX4_leave_37 : decode cX4_leave 37 = .ok (.invokevirtual 271, 3) := by decide +kernel
theorem dX4_leave_40 : decode cX4_leave 40 = .ok (.aload_n 0, 1) := by decide +kernel
theorem dX4_leave_41 : decode cX4_leave 41 = .ok (.iload_n 1, 1) := by decide +kernel
theorem dX4_leave_42 : decode cX4_leave 42 = .ok (.bipush 9, 2) := by decide +kernel
theorem dX4_leave_44 : decode cX4_leave 44 = .ok (.aload_n 0, 1) := by decide +kernel
theorem dX4_leave_45 : decode cX4_leave 45 = .ok (.getfield 7, 3) := by decide +kernel
theorem dX4_leave_48 : decode cX4_leave 48 = .ok (.bipush 7, 2) := by decide +kernel
theorem dX4_leave_50 : decode cX4_leave 50 = .ok (.iaload, 1) := by decide +kernel
theorem dX4_leave_51 : decode cX4_leave 51 = .ok (.invokevirtual 271, 3) := by decide +kernel
theorem dX4_leave_54 : decode cX4_leave 54 = .ok (.aload_n 0, 1) := by decide +kernel
theorem dX4_leave_55 : decode cX4_leave 55 = .ok (.aload_n 0, 1) := by decide +kernel
theorem dX4_leave_56 : decode cX4_leave 56 = .ok (.iload_n 1, 1) := by decide +kernel
theorem dX4_leave_57 : decode cX4_leave 57 = .ok (.iconst 0, 1) := by decide +kernel
theorem dX4_leave_58 : decode cX4_leave 58 = .ok (.invokevirtual 71, 3) := by decide +kernel
theorem dX4_leave_61 : decode cX4_leave 61 = .ok (.iconst 1, 1) := by decide +kernel
theorem dX4_leave_62 : decode cX4_leave 62 = .ok (.iconst 1, 1) := by decide +kernel
theorem dX4_leave_63 : decode cX4_leave 63 = .ok (.invokevirtual 254, 3) := by decide +kernel
theorem dX4_leave_66 : decode cX4_leave 66 = .ok (.aload_n 0, 1) := by decide +kernel
theorem dX4_leave_67 : decode cX4_leave 67 = .ok (.invokevirtual 308, 3) := by decide +kernel
theorem dX4_leave_70 : decode cX4_leave 70 = .ok (.ireturn, 1) := by decide +kernel
def w_X4_leave (a1 : Int32) (v : V3) (Q : Int32 → V3 → Prop) : Prop := ∀ v1 : V3, v1 = up2 v 7 11 0 → w_X4_isBooking a1 v1 (fun r3 v2 => ((¬ r3 = 0 → w_X4_of a1 7 v2 (fun r6 v5 => ((r6 = 2 → w_X4_put a1 7 3 v5 (fun v8 => w_X4_put a1 9 (v8 8 7) v8 (fun v9 => w_X4_of a1 0 v9 (fun r11 v10 => w_X4_grow r11 1 1 v10 (fun v12 => w_X4_done v12 (fun r14 v13 => Q r14 v13)))))) ∧ (¬ r6 = 2 → Q 1 v5)))) ∧ (r3 = 0 → w_X4_fail 1 v2 (fun r16 v15 => Q r16 v15))))
set_option maxRecDepth 100000 in
set_option maxHeartbeats 4000000 in
theorem k_X4_leave (l : Launch) {G : zG} (hg : 129 ≤ gn G) {a1 : Int32}  {v : V3} {Q : Int32 → V3 → Prop} (hw : w_X4_leave a1 v Q) : Mz l yX4_leave cX4_leave 2 (some .int) 8 180 G [.ref (gad G 7), .int a1] v (QiZ G Q) := by
  rw [w_X4_leave] at hw
  refine z_ofW hg (by decide) (Nat.le_of_ble_eq_true rfl) ?_
  intro p e s m args below meth c ls C0 Z hl
  have hx := C0.1
  have hb := C0.2.1
  replace hl : lv_has ls 2 [(0, .ref (gad G 7)), (1, .int a1)] := hl
  generalize s.heap = H at Z ⊢
  generalize ([] : List Loc) = locs at Z ⊢
  refine lv_aload_n hx hb dX4_leave_0 rfl (lv_at hl 0 rfl) ?_
  refine lv_iconst (v := 0) hx hb dX4_leave_1 (by decide) ?_
  refine z_put C0 Z in_X4 tyX4_ok nmX4 rfl 11 (by decide) rfl rfl tm_4_214 (cx_lt C0 (by decide)) rfl p_X4_11 (fun c' h => up2_off _ _ _ h) rfl rfl (Nat.le_of_ble_eq_true rfl) dX4_leave_2 (fun H locs Z => ?_)
  obtain ⟨v1, ev1⟩ : ∃ z : V3, z = up2 v 7 11 0 := ⟨_, rfl⟩
  rw [← ev1] at Z
  replace hw := hw v1 ev1
  refine lv_aload_n hx hb dX4_leave_5 rfl (lv_at hl 0 rfl) ?_
  refine lv_iload_n hx hb dX4_leave_6 rfl (lv_at hl 1 rfl) ?_
  refine z_callVi C0 Z hl.1 (As := [.int a1]) (rest := []) (k_X4_isBooking l (cx_g C0) hw) (gv_X4_isBooking tm_6_75) rfl ds_X4_isBooking ⟨Nat.le_of_ble_eq_true rfl, Nat.le_of_ble_eq_true rfl⟩ (ci := 4) rfl (cx_lt C0 (by decide)) rfl rfl rfl (Nat.le_of_ble_eq_true rfl) ⟨Nat.le_of_ble_eq_true rfl, Nat.le_of_ble_eq_true rfl⟩ dX4_leave_7 (fun r3 v2 H locs hw Z => ?_)
  refine lv_if_ne (tgt := 19) hx hb dX4_leave_10 (by decide) (fun c4 => ?_) (fun c4 => ?_)
  · replace hw := hw.1 c4
    refine lv_aload_n hx hb dX4_leave_19 rfl (lv_at hl 0 rfl) ?_
    refine lv_iload_n hx hb dX4_leave_20 rfl (lv_at hl 1 rfl) ?_
    refine lv_bipush (v := 7) hx hb dX4_leave_21 (by decide) ?_
    refine z_callVi C0 Z hl.1 (As := [.int a1, .int 7]) (rest := []) (k_X4_of l (cx_g C0) hw) (gv_X4_of tm_5_163) rfl ds_X4_of ⟨Nat.le_of_ble_eq_true rfl, Nat.le_of_ble_eq_true rfl⟩ (ci := 4) rfl (cx_lt C0 (by decide)) rfl rfl rfl (Nat.le_of_ble_eq_true rfl) ⟨Nat.le_of_ble_eq_true rfl, Nat.le_of_ble_eq_true rfl⟩ dX4_leave_23 (fun r6 v5 H locs hw Z => ?_)
    refine lv_iconst (v := 2) hx hb dX4_leave_26 (by decide) ?_
    refine lv_icmp_eq (tgt := 32) hx hb dX4_leave_27 (by decide) (fun c7 => ?_) (fun c7 => ?_)
    · replace hw := hw.1 c7
      refine lv_aload_n hx hb dX4_leave_32 rfl (lv_at hl 0 rfl) ?_
      refine lv_iload_n hx hb dX4_leave_33 rfl (lv_at hl 1 rfl) ?_
      refine lv_bipush (v := 7) hx hb dX4_leave_34 (by decide) ?_
      refine lv_iconst (v := 3) hx hb dX4_leave_36 (by decide) ?_
      refine z_callVv C0 Z hl.1 (As := [.int a1, .int 7, .int 3]) (rest := []) (k_X4_put l (cx_g C0) hw) (gv_X4_put tm_5_178) rfl ds_X4_put ⟨Nat.le_of_ble_eq_true rfl, Nat.le_of_ble_eq_true rfl⟩ (ci := 4) rfl (cx_lt C0 (by decide)) rfl rfl rfl (Nat.le_of_ble_eq_true rfl) ⟨Nat.le_of_ble_eq_true rfl, Nat.le_of_ble_eq_true rfl⟩ dX4_leave_37 (fun v8 H locs hw Z => ?_)
      refine lv_aload_n hx hb dX4_leave_40 rfl (lv_at hl 0 rfl) ?_
      refine lv_iload_n hx hb dX4_leave_41 rfl (lv_at hl 1 rfl) ?_
      refine lv_bipush (v := 9) hx hb dX4_leave_42 (by decide) ?_
      refine lv_aload_n hx hb dX4_leave_44 rfl (lv_at hl 0 rfl) ?_
      refine z_get C0 Z in_X4 rfl 0 (by decide) rfl tm_4_203 (cx_lt C0 (by decide)) rfl rfl dX4_leave_45 ?_
      refine lv_bipush (v := 7) hx hb dX4_leave_48 (by decide) ?_
      refine z_ialdk C0 Z (cx_lt C0 (by decide)) rfl in_7_474 nc_7 dX4_leave_50 ?_
      refine z_callVv C0 Z hl.1 (As := [.int a1, .int 9, .int (v8 8 7)]) (rest := []) (k_X4_put l (cx_g C0) hw) (gv_X4_put tm_5_178) rfl ds_X4_put ⟨Nat.le_of_ble_eq_true rfl, Nat.le_of_ble_eq_true rfl⟩ (ci := 4) rfl (cx_lt C0 (by decide)) rfl rfl rfl (Nat.le_of_ble_eq_true rfl) ⟨Nat.le_of_ble_eq_true rfl, Nat.le_of_ble_eq_true rfl⟩ dX4_leave_51 (fun v9 H locs hw Z => ?_)
      refine lv_aload_n hx hb dX4_leave_54 rfl (lv_at hl 0 rfl) ?_
      refine lv_aload_n hx hb dX4_leave_55 rfl (lv_at hl 0 rfl) ?_
      refine lv_iload_n hx hb dX4_leave_56 rfl (lv_at hl 1 rfl) ?_
      refine lv_iconst (v := 0) hx hb dX4_leave_57 (by decide) ?_
      refine z_callVi C0 Z hl.1 (As := [.int a1, .int 0]) (rest := [.ref (gad G 7)]) (k_X4_of l (cx_g C0) hw) (gv_X4_of tm_5_163) rfl ds_X4_of ⟨Nat.le_of_ble_eq_true rfl, Nat.le_of_ble_eq_true rfl⟩ (ci := 4) rfl (cx_lt C0 (by decide)) rfl rfl rfl (Nat.le_of_ble_eq_true rfl) ⟨Nat.le_of_ble_eq_true rfl, Nat.le_of_ble_eq_true rfl⟩ dX4_leave_58 (fun r11 v10 H locs hw Z => ?_)
      refine lv_iconst (v := 1) hx hb dX4_leave_61 (by decide) ?_
      refine lv_iconst (v := 1) hx hb dX4_leave_62 (by decide) ?_
      refine z_callVv C0 Z hl.1 (As := [.int r11, .int 1, .int 1]) (rest := []) (k_X4_grow l (cx_g C0) hw) (gv_X4_grow tm_6_52) rfl ds_X4_grow ⟨Nat.le_of_ble_eq_true rfl, Nat.le_of_ble_eq_true rfl⟩ (ci := 4) rfl (cx_lt C0 (by decide)) rfl rfl rfl (Nat.le_of_ble_eq_true rfl) ⟨Nat.le_of_ble_eq_true rfl, Nat.le_of_ble_eq_true rfl⟩ dX4_leave_63 (fun v12 H locs hw Z => ?_)
      refine lv_aload_n hx hb dX4_leave_66 rfl (lv_at hl 0 rfl) ?_
      refine z_callVi C0 Z hl.1 (As := []) (rest := []) (k_X4_done l (cx_g C0) hw) (gv_X4_done tm_6_103) rfl ds_X4_done ⟨Nat.le_of_ble_eq_true rfl, Nat.le_of_ble_eq_true rfl⟩ (ci := 4) rfl (cx_lt C0 (by decide)) rfl rfl rfl (Nat.le_of_ble_eq_true rfl) ⟨Nat.le_of_ble_eq_true rfl, Nat.le_of_ble_eq_true rfl⟩ dX4_leave_67 (fun r14 v13 H locs hw Z => ?_)
      exact z_iret C0 Z hw dX4_leave_70
    · replace hw := hw.2 c7
      refine lv_iconst (v := 1) hx hb dX4_leave_30 (by decide) ?_
      exact z_iret C0 Z hw dX4_leave_31
  · replace hw := hw.2 c4
    refine lv_aload_n hx hb dX4_leave_13 rfl (lv_at hl 0 rfl) ?_
    refine lv_iconst (v := 1) hx hb dX4_leave_14 (by decide) ?_
    refine z_callVi C0 Z hl.1 (As := [.int 1]) (rest := []) (k_X4_fail l (cx_g C0) hw) (gv_X4_fail tm_5_75) rfl ds_X4_fail ⟨Nat.le_of_ble_eq_true rfl, Nat.le_of_ble_eq_true rfl⟩ (ci := 4) rfl (cx_lt C0 (by decide)) rfl rfl rfl (Nat.le_of_ble_eq_true rfl) ⟨Nat.le_of_ble_eq_true rfl, Nat.le_of_ble_eq_true rfl⟩ dX4_leave_15 (fun r16 v15 H locs hw Z => ?_)
    exact z_iret C0 Z hw dX4_leave_18
-- X4_extend: room (8, 180)
theorem dX4_extend_0 : decode cX4_extend 0 = .ok (.aload_n 0, 1) := by decide +kernel
theorem dX4_extend_1 : decode cX4_extend 1 = .ok (.iconst 0, 1) := by decide +kernel
theorem dX4_extend_2 : decode cX4_extend 2 = .ok (.putfield 55, 3) := by decide +kernel
theorem dX4_extend_5 : decode cX4_extend 5 = .ok (.aload_n 0, 1) := by decide +kernel
theorem dX4_extend_6 : decode cX4_extend 6 = .ok (.iload_n 1, 1) := by decide +kernel
theorem dX4_extend_7 : decode cX4_extend 7 = .ok (.invokevirtual 290, 3) := by decide +kernel
theorem dX4_extend_10 : decode cX4_extend 10 = .ok (.ifCond .ne 9, 3) := by decide +kernel
theorem dX4_extend_13 : decode cX4_extend 13 = .ok (.aload_n 0, 1) := by decide +kernel
theorem dX4_extend_14 : decode cX4_extend 14 = .ok (.iconst 1, 1) := by decide +kernel
theorem dX4_extend_15 : decode cX4_extend 15 = .ok (.invokevirtual 78, 3) := by decide +kernel
theorem dX4_extend_18 : decode cX4_extend 18 = .ok (.ireturn, 1) := by decide +kernel
theorem dX4_extend_19 : decode cX4_extend 19 = .ok (.iload_n 2, 1) := by decide +kernel
theorem dX4_extend_20 : decode cX4_extend 20 = .ok (.i2l, 1) := by decide +kernel
theorem dX4_extend_21 : decode cX4_extend 21 = .ok (.lconst 1, 1) := by decide +kernel
theorem dX4_extend_22 : decode cX4_extend 22 = .ok (.ldc2_w 261, 3) := by decide +kernel
theorem dX4_extend_25 : decode cX4_extend 25 = .ok (.invokestatic 67, 3) := by decide +kernel
theorem dX4_extend_28 : decode cX4_extend 28 = .ok (.ifCond .ne 9, 3) := by decide +kernel
theorem dX4_extend_31 : decode cX4_extend 31 = .ok (.aload_n 0, 1) := by decide +kernel
theorem dX4_extend_32 : decode cX4_extend 32 = .ok (.iconst 2, 1) := by decide +kernel
theorem dX4_extend_33 : decode cX4_extend 33 = .ok (.invokevirtual 78, 3) := by decide +kernel
theorem dX4_extend_36 : decode cX4_extend 36 = .ok (.ireturn, 1) := by decide +kernel
theorem dX4_extend_37 : decode cX4_extend 37 = .ok (.aload_n 0, 1) := by decide +kernel
theorem dX4_extend_38 : decode cX4_extend 38 = .ok (.iload_n 1, 1) := by decide +kernel
theorem dX4_extend_39 : decode cX4_extend 39 = .ok (.invokevirtual 210, 3) := by decide +kernel
theorem dX4_extend_42 : decode cX4_extend 42 = .ok (.ifCond .ne 5, 3) := by decide +kernel
theorem dX4_extend_45 : decode cX4_extend 45 = .ok (.iconst 1, 1) := by decide +kernel
theorem dX4_extend_46 : decode cX4_extend 46 = .ok (.ireturn, 1) := by decide +kernel
theorem dX4_extend_47 : decode cX4_extend 47 = .ok (.aload_n 0, 1) := by decide +kernel
theorem dX4_extend_48 : decode cX4_extend 48 = .ok (.iload_n 1, 1) := by decide +kernel
theorem dX4_extend_49 : decode cX4_extend 49 = .ok (.bipush 9, 2) := by decide +kernel
theorem dX4_extend_51 : decode cX4_extend 51 = .ok (.invokevirtual 71, 3) := by decide +kernel
theorem dX4_extend_54 : decode cX4_extend 54 = .ok (.iload_n 2, 1) := by decide +kernel
theorem dX4_extend_55 : decode cX4_extend 55 = .ok (.iadd, 1) := by decide +kernel
theorem dX4_extend_56 : decode cX4_extend 56 = .ok (.istore_n 3, 1) := by decide +kernel
theorem dX4_extend_57 : decode cX4_extend 57 = .ok (.aload_n 0, 1) := by decide +kernel
theorem dX4_extend_58 : decode cX4_extend 58 = .ok (.aload_n 0, 1) := by decide +kernel
theorem dX4_extend_59 : decode cX4_extend 59 = .ok (.iload_n 1, 1) := by decide +kernel
theorem dX4_extend_60 : decode cX4_extend 60 = .ok (.iconst 1, 1) := by decide +kernel
theorem dX4_extend_61 : decode cX4_extend 61 = .ok (.invokevirtual 71, 3) := by decide +kernel
theorem dX4_extend_64 : decode cX4_extend 64 = .ok (.aload_n 0, 1) := by decide +kernel
theorem dX4_extend_65 : decode cX4_extend 65 = .ok (.iload_n 1, 1) := by decide +kernel
theorem dX4_extend_66 : decode cX4_extend 66 = .ok (.iconst 2, 1) := by decide +kernel
theorem dX4_extend_67 : decode cX4_extend 67 = .ok (.invokevirtual 71, 3) := by decide +kernel
theorem dX4_extend_70 : decode cX4_extend 70 = .ok (.aload_n 0, 1) := by decide +kernel
theorem dX4_extend_71 : decode cX4_extend 71 = .ok (.iload_n 1, 1) := by decide +kernel
theorem dX4_extend_72 : decode cX4_extend 72 = .ok (.bipush 8, 2) := by decide +kernel
theorem dX4_extend_74 : decode cX4_extend 74 = .ok (.invokevirtual 71, 3) := by decide +kernel
theorem dX4_extend_77 : decode cX4_extend 77 = .ok (.iload_n 3, 1) := by decide +kernel
theorem dX4_extend_78 : decode cX4_extend 78 = .ok (.iload_n 1, 1) := by decide +kernel
theorem dX4_extend_79 : decode cX4_extend 79 = .ok (.iconst (-1), 1) := by decide +kernel
theorem dX4_extend_80 : decode cX4_extend 80 = .ok (.invokevirtual 263, 3) := by decide +kernel
theorem dX4_extend_83 : decode cX4_extend 83 = .ok (.ifCond .eq 5, 3) := by decide +kernel
theorem dX4_extend_86 : decode cX4_extend 86 = .ok (.iconst 3, 1) := by decide +kernel
theorem dX4_extend_87 : decode cX4_extend 87 = .ok (.ireturn, 1) := by decide +kernel
theorem dX4_extend_88 : decode cX4_extend 88 = .ok (.aload_n 0, 1) := by decide +kernel
theorem dX4_extend_89 : decode cX4_extend 89 = .ok (.iload_n 1, 1) := by decide +kernel
theorem dX4_extend_90 : decode cX4_extend 90 = .ok (.bipush 9, 2) := by decide +kernel
theorem dX4_extend_92 : decode cX4_extend 92 = .ok (.iload_n 3, 1) := by decide +kernel
theorem dX4_extend_93 : decode cX4_extend 93 = .ok (.invokevirtual 271, 3) := by decide +kernel
theorem dX4_extend_96 : decode cX4_extend 96 = .ok (.aload_n 0, 1) := by decide +kernel
theorem dX4_extend_97 : decode cX4_extend 97 = .ok (.invokevirtual 308, 3) := by decide +kernel
theorem dX4_extend_100 : decode cX4_extend 100 = .ok (.ireturn, 1) := by decide +kernel
def w_X4_extend (a1 : Int32) (a2 : Int32) (v : V3) (Q : Int32 → V3 → Prop) : Prop := ∀ v1 : V3, v1 = up2 v 7 11 0 → w_X4_isBooking a1 v1 (fun r3 v2 => ((¬ r3 = 0 → w_X4_isBetween ((a2).toInt64) 1 99 v2 (fun r6 v5 => ((¬ r6 = 0 → w_X4_isLive a1 v5 (fun r9 v8 => ((¬ r9 = 0 → w_X4_of a1 9 v8 (fun r12 v11 => w_X4_of a1 1 v11 (fun r14 v13 => w_X4_of a1 2 v13 (fun r16 v15 => w_X4_of a1 8 v15 (fun r18 v17 => w_X4_isTaken r14 r16 r18 (r12 + a2) a1 (-1) v17 (fun r20 v19 => ((r20 = 0 → w_X4_put a1 9 (r12 + a2) v19 (fun v22 => w_X4_done v22 (fun r24 v23 => Q r24 v23))) ∧ (¬ r20 = 0 → Q 3 v19)))))))) ∧ (r9 = 0 → Q 1 v8)))) ∧ (r6 = 0 → w_X4_fail 2 v5 (fun r26 v25 => Q r26 v25))))) ∧ (r3 = 0 → w_X4_fail 1 v2 (fun r28 v27 => Q r28 v27))))
set_option maxRecDepth 100000 in
set_option maxHeartbeats 4000000 in
theorem k_X4_extend (l : Launch) {G : zG} (hg : 129 ≤ gn G) {a1 : Int32} {a2 : Int32}  {v : V3} {Q : Int32 → V3 → Prop} (hw : w_X4_extend a1 a2 v Q) : Mz l yX4_extend cX4_extend 4 (some .int) 8 180 G [.ref (gad G 7), .int a1, .int a2] v (QiZ G Q) := by
  rw [w_X4_extend] at hw
  refine z_ofW hg (by decide) (Nat.le_of_ble_eq_true rfl) ?_
  intro p e s m args below meth c ls C0 Z hl
  have hx := C0.1
  have hb := C0.2.1
  replace hl : lv_has ls 4 [(0, .ref (gad G 7)), (1, .int a1), (2, .int a2)] := hl
  generalize s.heap = H at Z ⊢
  generalize ([] : List Loc) = locs at Z ⊢
  refine lv_aload_n hx hb dX4_extend_0 rfl (lv_at hl 0 rfl) ?_
  refine lv_iconst (v := 0) hx hb dX4_extend_1 (by decide) ?_
  refine z_put C0 Z in_X4 tyX4_ok nmX4 rfl 11 (by decide) rfl rfl tm_4_214 (cx_lt C0 (by decide)) rfl p_X4_11 (fun c' h => up2_off _ _ _ h) rfl rfl (Nat.le_of_ble_eq_true rfl) dX4_extend_2 (fun H locs Z => ?_)
  obtain ⟨v1, ev1⟩ : ∃ z : V3, z = up2 v 7 11 0 := ⟨_, rfl⟩
  rw [← ev1] at Z
  replace hw := hw v1 ev1
  refine lv_aload_n hx hb dX4_extend_5 rfl (lv_at hl 0 rfl) ?_
  refine lv_iload_n hx hb dX4_extend_6 rfl (lv_at hl 1 rfl) ?_
  refine z_callVi C0 Z hl.1 (As := [.int a1]) (rest := []) (k_X4_isBooking l (cx_g C0) hw) (gv_X4_isBooking tm_6_75) rfl ds_X4_isBooking ⟨Nat.le_of_ble_eq_true rfl, Nat.le_of_ble_eq_true rfl⟩ (ci := 4) rfl (cx_lt C0 (by decide)) rfl rfl rfl (Nat.le_of_ble_eq_true rfl) ⟨Nat.le_of_ble_eq_true rfl, Nat.le_of_ble_eq_true rfl⟩ dX4_extend_7 (fun r3 v2 H locs hw Z => ?_)
  refine lv_if_ne (tgt := 19) hx hb dX4_extend_10 (by decide) (fun c4 => ?_) (fun c4 => ?_)
  · replace hw := hw.1 c4
    refine lv_iload_n hx hb dX4_extend_19 rfl (lv_at hl 2 rfl) ?_
    refine lv_i2l (v := (a2).toInt64) hx hb dX4_extend_20 rfl ?_
    refine lv_lconst (v := 1) hx hb dX4_extend_21 (by decide) ?_
    refine lv_ldc2 hx hb (cx_own C0) (cx_w C0 tm_6_64) dX4_extend_22 ?_
    refine z_callSi C0 Z hl.1 (As := [.long ((a2).toInt64), .long 1, .long 99]) (rest := []) (k_X4_isBetween l (cx_g C0) hw) (gv_X4_isBetween tm_5_83) ds_X4_isBetween ⟨Nat.le_of_ble_eq_true rfl, Nat.le_of_ble_eq_true rfl⟩ rfl rfl (Nat.le_of_ble_eq_true rfl) ⟨Nat.le_of_ble_eq_true rfl, Nat.le_of_ble_eq_true rfl⟩ dX4_extend_25 (fun r6 v5 H locs hw Z => ?_)
    refine lv_if_ne (tgt := 37) hx hb dX4_extend_28 (by decide) (fun c7 => ?_) (fun c7 => ?_)
    · replace hw := hw.1 c7
      refine lv_aload_n hx hb dX4_extend_37 rfl (lv_at hl 0 rfl) ?_
      refine lv_iload_n hx hb dX4_extend_38 rfl (lv_at hl 1 rfl) ?_
      refine z_callVi C0 Z hl.1 (As := [.int a1]) (rest := []) (k_X4_isLive l (cx_g C0) hw) (gv_X4_isLive tm_5_202) rfl ds_X4_isLive ⟨Nat.le_of_ble_eq_true rfl, Nat.le_of_ble_eq_true rfl⟩ (ci := 4) rfl (cx_lt C0 (by decide)) rfl rfl rfl (Nat.le_of_ble_eq_true rfl) ⟨Nat.le_of_ble_eq_true rfl, Nat.le_of_ble_eq_true rfl⟩ dX4_extend_39 (fun r9 v8 H locs hw Z => ?_)
      refine lv_if_ne (tgt := 47) hx hb dX4_extend_42 (by decide) (fun c10 => ?_) (fun c10 => ?_)
      · replace hw := hw.1 c10
        refine lv_aload_n hx hb dX4_extend_47 rfl (lv_at hl 0 rfl) ?_
        refine lv_iload_n hx hb dX4_extend_48 rfl (lv_at hl 1 rfl) ?_
        refine lv_bipush (v := 9) hx hb dX4_extend_49 (by decide) ?_
        refine z_callVi C0 Z hl.1 (As := [.int a1, .int 9]) (rest := []) (k_X4_of l (cx_g C0) hw) (gv_X4_of tm_5_163) rfl ds_X4_of ⟨Nat.le_of_ble_eq_true rfl, Nat.le_of_ble_eq_true rfl⟩ (ci := 4) rfl (cx_lt C0 (by decide)) rfl rfl rfl (Nat.le_of_ble_eq_true rfl) ⟨Nat.le_of_ble_eq_true rfl, Nat.le_of_ble_eq_true rfl⟩ dX4_extend_51 (fun r12 v11 H locs hw Z => ?_)
        refine lv_iload_n hx hb dX4_extend_54 rfl (lv_at hl 2 rfl) ?_
        refine lv_iadd hx hb dX4_extend_55 ?_
        refine lv_istore_n (lv' := [(3, .int (r12 + a2)), (0, .ref (gad G 7)), (1, .int a1), (2, .int a2)]) hx hb dX4_extend_56 rfl hl (by decide) rfl (fun ls hl => ?_)
        refine lv_aload_n hx hb dX4_extend_57 rfl (lv_at hl 1 rfl) ?_
        refine lv_aload_n hx hb dX4_extend_58 rfl (lv_at hl 1 rfl) ?_
        refine lv_iload_n hx hb dX4_extend_59 rfl (lv_at hl 2 rfl) ?_
        refine lv_iconst (v := 1) hx hb dX4_extend_60 (by decide) ?_
        refine z_callVi C0 Z hl.1 (As := [.int a1, .int 1]) (rest := [.ref (gad G 7)]) (k_X4_of l (cx_g C0) hw) (gv_X4_of tm_5_163) rfl ds_X4_of ⟨Nat.le_of_ble_eq_true rfl, Nat.le_of_ble_eq_true rfl⟩ (ci := 4) rfl (cx_lt C0 (by decide)) rfl rfl rfl (Nat.le_of_ble_eq_true rfl) ⟨Nat.le_of_ble_eq_true rfl, Nat.le_of_ble_eq_true rfl⟩ dX4_extend_61 (fun r14 v13 H locs hw Z => ?_)
        refine lv_aload_n hx hb dX4_extend_64 rfl (lv_at hl 1 rfl) ?_
        refine lv_iload_n hx hb dX4_extend_65 rfl (lv_at hl 2 rfl) ?_
        refine lv_iconst (v := 2) hx hb dX4_extend_66 (by decide) ?_
        refine z_callVi C0 Z hl.1 (As := [.int a1, .int 2]) (rest := [.int r14, .ref (gad G 7)]) (k_X4_of l (cx_g C0) hw) (gv_X4_of tm_5_163) rfl ds_X4_of ⟨Nat.le_of_ble_eq_true rfl, Nat.le_of_ble_eq_true rfl⟩ (ci := 4) rfl (cx_lt C0 (by decide)) rfl rfl rfl (Nat.le_of_ble_eq_true rfl) ⟨Nat.le_of_ble_eq_true rfl, Nat.le_of_ble_eq_true rfl⟩ dX4_extend_67 (fun r16 v15 H locs hw Z => ?_)
        refine lv_aload_n hx hb dX4_extend_70 rfl (lv_at hl 1 rfl) ?_
        refine lv_iload_n hx hb dX4_extend_71 rfl (lv_at hl 2 rfl) ?_
        refine lv_bipush (v := 8) hx hb dX4_extend_72 (by decide) ?_
        refine z_callVi C0 Z hl.1 (As := [.int a1, .int 8]) (rest := [.int r16, .int r14, .ref (gad G 7)]) (k_X4_of l (cx_g C0) hw) (gv_X4_of tm_5_163) rfl ds_X4_of ⟨Nat.le_of_ble_eq_true rfl, Nat.le_of_ble_eq_true rfl⟩ (ci := 4) rfl (cx_lt C0 (by decide)) rfl rfl rfl (Nat.le_of_ble_eq_true rfl) ⟨Nat.le_of_ble_eq_true rfl, Nat.le_of_ble_eq_true rfl⟩ dX4_extend_74 (fun r18 v17 H locs hw Z => ?_)
        refine lv_iload_n hx hb dX4_extend_77 rfl (lv_at hl 0 rfl) ?_
        refine lv_iload_n hx hb dX4_extend_78 rfl (lv_at hl 2 rfl) ?_
        refine lv_iconst (v := (-1)) hx hb dX4_extend_79 (by decide) ?_
        refine z_callVi C0 Z hl.1 (As := [.int r14, .int r16, .int r18, .int (r12 + a2), .int a1, .int (-1)]) (rest := []) (k_X4_isTaken l (cx_g C0) hw) (gv_X4_isTaken tm_5_198) rfl ds_X4_isTaken ⟨Nat.le_of_ble_eq_true rfl, Nat.le_of_ble_eq_true rfl⟩ (ci := 4) rfl (cx_lt C0 (by decide)) rfl rfl rfl (Nat.le_of_ble_eq_true rfl) ⟨Nat.le_of_ble_eq_true rfl, Nat.le_of_ble_eq_true rfl⟩ dX4_extend_80 (fun r20 v19 H locs hw Z => ?_)
        refine lv_if_eq (tgt := 88) hx hb dX4_extend_83 (by decide) (fun c21 => ?_) (fun c21 => ?_)
        · replace hw := hw.1 c21
          refine lv_aload_n hx hb dX4_extend_88 rfl (lv_at hl 1 rfl) ?_
          refine lv_iload_n hx hb dX4_extend_89 rfl (lv_at hl 2 rfl) ?_
          refine lv_bipush (v := 9) hx hb dX4_extend_90 (by decide) ?_
          refine lv_iload_n hx hb dX4_extend_92 rfl (lv_at hl 0 rfl) ?_
          refine z_callVv C0 Z hl.1 (As := [.int a1, .int 9, .int (r12 + a2)]) (rest := []) (k_X4_put l (cx_g C0) hw) (gv_X4_put tm_5_178) rfl ds_X4_put ⟨Nat.le_of_ble_eq_true rfl, Nat.le_of_ble_eq_true rfl⟩ (ci := 4) rfl (cx_lt C0 (by decide)) rfl rfl rfl (Nat.le_of_ble_eq_true rfl) ⟨Nat.le_of_ble_eq_true rfl, Nat.le_of_ble_eq_true rfl⟩ dX4_extend_93 (fun v22 H locs hw Z => ?_)
          refine lv_aload_n hx hb dX4_extend_96 rfl (lv_at hl 1 rfl) ?_
          refine z_callVi C0 Z hl.1 (As := []) (rest := []) (k_X4_done l (cx_g C0) hw) (gv_X4_done tm_6_103) rfl ds_X4_done ⟨Nat.le_of_ble_eq_true rfl, Nat.le_of_ble_eq_true rfl⟩ (ci := 4) rfl (cx_lt C0 (by decide)) rfl rfl rfl (Nat.le_of_ble_eq_true rfl) ⟨Nat.le_of_ble_eq_true rfl, Nat.le_of_ble_eq_true rfl⟩ dX4_extend_97 (fun r24 v23 H locs hw Z => ?_)
          exact z_iret C0 Z hw dX4_extend_100
        · replace hw := hw.2 c21
          refine lv_iconst (v := 3) hx hb dX4_extend_86 (by decide) ?_
          exact z_iret C0 Z hw dX4_extend_87
      · replace hw := hw.2 c10
        refine lv_iconst (v := 1) hx hb dX4_extend_45 (by decide) ?_
        exact z_iret C0 Z hw dX4_extend_46
    · replace hw := hw.2 c7
      refine lv_aload_n hx hb dX4_extend_31 rfl (lv_at hl 0 rfl) ?_
      refine lv_iconst (v := 2) hx hb dX4_extend_32 (by decide) ?_
      refine z_callVi C0 Z hl.1 (As := [.int 2]) (rest := []) (k_X4_fail l (cx_g C0) hw) (gv_X4_fail tm_5_75) rfl ds_X4_fail ⟨Nat.le_of_ble_eq_true rfl, Nat.le_of_ble_eq_true rfl⟩ (ci := 4) rfl (cx_lt C0 (by decide)) rfl rfl rfl (Nat.le_of_ble_eq_true rfl) ⟨Nat.le_of_ble_eq_true rfl, Nat.le_of_ble_eq_true rfl⟩ dX4_extend_33 (fun r26 v25 H locs hw Z => ?_)
      exact z_iret C0 Z hw dX4_extend_36
  · replace hw := hw.2 c4
    refine lv_aload_n hx hb dX4_extend_13 rfl (lv_at hl 0 rfl) ?_
    refine lv_iconst (v := 1) hx hb dX4_extend_14 (by decide) ?_
    refine z_callVi C0 Z hl.1 (As := [.int 1]) (rest := []) (k_X4_fail l (cx_g C0) hw) (gv_X4_fail tm_5_75) rfl ds_X4_fail ⟨Nat.le_of_ble_eq_true rfl, Nat.le_of_ble_eq_true rfl⟩ (ci := 4) rfl (cx_lt C0 (by decide)) rfl rfl rfl (Nat.le_of_ble_eq_true rfl) ⟨Nat.le_of_ble_eq_true rfl, Nat.le_of_ble_eq_true rfl⟩ dX4_extend_15 (fun r28 v27 H locs hw Z => ?_)
    exact z_iret C0 Z hw dX4_extend_18
-- X4_cancel: room (8, 180)
theorem dX4_cancel_0 : decode cX4_cancel 0 = .ok (.aload_n 0, 1) := by decide +kernel
theorem dX4_cancel_1 : decode cX4_cancel 1 = .ok (.iconst 0, 1) := by decide +kernel
theorem dX4_cancel_2 : decode cX4_cancel 2 = .ok (.putfield 55, 3) := by decide +kernel
theorem dX4_cancel_5 : decode cX4_cancel 5 = .ok (.aload_n 0, 1) := by decide +kernel
theorem dX4_cancel_6 : decode cX4_cancel 6 = .ok (.iload_n 1, 1) := by decide +kernel
theorem dX4_cancel_7 : decode cX4_cancel 7 = .ok (.invokevirtual 290, 3) := by decide +kernel
theorem dX4_cancel_10 : decode cX4_cancel 10 = .ok (.ifCond .ne 9, 3) := by decide +kernel
theorem dX4_cancel_13 : decode cX4_cancel 13 = .ok (.aload_n 0, 1) := by decide +kernel
theorem dX4_cancel_14 : decode cX4_cancel 14 = .ok (.iconst 1, 1) := by decide +kernel
theorem dX4_cancel_15 : decode cX4_cancel 15 = .ok (.invokevirtual 78, 3) := by decide +kernel
theorem dX4_cancel_18 : decode cX4_cancel 18 = .ok (.ireturn, 1) := by decide +kernel
theorem dX4_cancel_19 : decode cX4_cancel 19 = .ok (.aload_n 0, 1) := by decide +kernel
theorem dX4_cancel_20 : decode cX4_cancel 20 = .ok (.iload_n 1, 1) := by decide +kernel
theorem dX4_cancel_21 : decode cX4_cancel 21 = .ok (.bipush 7, 2) := by decide +kernel
theorem dX4_cancel_23 : decode cX4_cancel 23 = .ok (.invokevirtual 71, 3) := by decide +kernel
theorem dX4_cancel_26 : decode cX4_cancel 26 = .ok (.istore_n 2, 1) := by decide +kernel
theorem dX4_cancel_27 : decode cX4_cancel 27 = .ok (.iload_n 2, 1) := by decide +kernel
theorem dX4_cancel_28 : decode cX4_cancel 28 = .ok (.ifCond .eq 10, 3) := by decide +kernel
theorem dX4_cancel_31 : decode cX4_cancel 31 = .ok (.iload_n 2, 1) := by decide +kernel
theorem dX4_cancel_32 : decode cX4_cancel 32 = .ok (.iconst 1, 1) := by decide +kernel
theorem dX4_cancel_33 : decode cX4_cancel 33 = .ok (.if_icmp .eq 5, 3) := by decide +kernel
theorem dX4_cancel_36 : decode cX4_cancel 36 = .ok (.iconst 1, 1) := by decide +kernel
theorem dX4_cancel_37 : decode cX4_cancel 37 = .ok (.ireturn, 1) := by decide +kernel
theorem dX4_cancel_38 : decode cX4_cancel 38 = .ok (.iload_n 2, 1) := by decide +kernel
theorem dX4_cancel_39 : decode cX4_cancel 39 = .ok (.iconst 1, 1) := by decide +kernel
theorem dX4_cancel_40 : decode cX4_cancel 40 = .ok (.if_icmp .ne 39, 3) := by decide +kernel
theorem dX4_cancel_43 : decode cX4_cancel 43 = .ok (.aload_n 0, 1) := by decide +kernel
theorem dX4_cancel_44 : decode cX4_cancel 44 = .ok (.iload_n 1, 1) := by decide +kernel
theorem dX4_cancel_45 : decode cX4_cancel 45 = .ok (.bipush 8, 2) := by decide +kernel
theorem dX4_cancel_47 : decode cX4_cancel 47 = .ok (.invokevirtual 71, 3) := by decide +kernel
theorem dX4_cancel_50 : decode cX4_cancel 50 = .ok (.aload_n 0, 1) := by decide +kernel
theorem dX4_cancel_51 : decode cX4_cancel 51 = .ok (.getfield 7, 3) := by decide +kernel
theorem dX4_cancel_54 : decode cX4_cancel 54 = .ok (.bipush 7, 2) := by decide +kernel
theorem dX4_cancel_56 : decode cX4_cancel 56 = .ok (.iaload, 1) := by decide +kernel
theorem dX4_cancel_57 : decode cX4_cancel 57 = .ok (.aload_n 0, 1) := by decide +kernel
theorem dX4_cancel_58 : decode cX4_cancel 58 = .ok (.getfield 7, 3) := by decide +kernel
theorem dX4_cancel_61 : decode cX4_cancel 61 = .ok (.iconst 1, 1) := by decide +kernel
theorem dX4_cancel_62 : decode cX4_cancel 62 = .ok (.iaload, 1) := by decide +kernel
theorem dX4_cancel_63 : decode cX4_cancel 63 = .ok (.iadd, 1) := by decide +kernel
theorem dX4_cancel_64 : decode cX4_cancel 64 = .ok (.if_icmp .ge 15, 3) := by decide +kernel
theorem dX4_cancel_67 : decode cX4_cancel 67 = .ok (.aload_n 0, 1) := by decide +kernel
theorem dX4_cancel_68 : decode cX4_cancel 68 = .ok (.aload_n 0, 1) := by decide +kernel
theorem dX4_cancel_69 : decode cX4_cancel 69 = .ok (.iload_n 1, 1) := by decide +kernel
theorem dX4_cancel_70 : decode cX4_cancel 70 = .ok (.iconst 0, 1) := by decide +kernel
theorem dX4_cancel_71 : decode cX4_cancel 71 = .ok (.invokevirtual 71, 3) := by decide +kernel
theorem dX4_cancel_74 : decode cX4_cancel 74 = .ok (.iconst 3, 1) := by decide +kernel
theorem dX4_cancel_75 : decode cX4_cancel 75 = .ok (.iconst 1, 1) := by decide +kernel
theorem dX4_cancel_76 : decode cX4_cancel 76 = .ok (.invokevirtual 254, 3) := by decide +kernel
theorem dX4_cancel_79 : decode cX4_cancel 79 = .ok (.aload_n 0, 1) := by decide +kernel
theorem dX4_cancel_80 : decode cX4_cancel 80 = .ok (.iload_n 1, 1) := by decide +kernel
theorem dX4_cancel_81 : decode cX4_cancel 81 = .ok (.bipush 7, 2) := by decide +kernel
theorem dX4_cancel_83 : decode cX4_cancel 83 = .ok (.iconst 4, 1) := by decide +kernel
theorem dX4_cancel_84 : decode cX4_cancel 84 = .ok (.invokevirtual 271, 3) := by decide +kernel
theorem dX4_cancel_87 : decode cX4_cancel 87 = .ok (.aload_n 0, 1) := by decide +kernel
theorem dX4_cancel_88 : decode cX4_cancel 88 = .ok (.invokevirtual 308, 3) := by decide +kernel
theorem dX4_cancel_91 : decode cX4_cancel 91 = .ok (.ireturn, 1) := by decide +kernel
def w_X4_cancel_79  (Q : Int32 → V3 → Prop) (x1 : Int32) (v : V3) : Prop := w_X4_put x1 7 4 v (fun v9 => w_X4_done v9 (fun r11 v10 => Q r11 v10))
def w_X4_cancel_38  (Q : Int32 → V3 → Prop) (x1 : Int32) (x2 : Int32) (v : V3) : Prop := ((¬ x2 = 1 → w_X4_cancel_79 Q x1 v) ∧ (x2 = 1 → w_X4_of x1 8 v (fun r13 v12 => ((((v12 8 7) + (v12 8 1)) ≤ r13 → w_X4_cancel_79 Q x1 v12) ∧ (¬ ((v12 8 7) + (v12 8 1)) ≤ r13 → w_X4_of x1 0 v12 (fun r16 v15 => w_X4_grow r16 3 1 v15 (fun v17 => w_X4_cancel_79 Q x1 v17)))))))
def w_X4_cancel (a1 : Int32) (v : V3) (Q : Int32 → V3 → Prop) : Prop := ∀ v1 : V3, v1 = up2 v 7 11 0 → w_X4_isBooking a1 v1 (fun r3 v2 => ((¬ r3 = 0 → w_X4_of a1 7 v2 (fun r6 v5 => ((r6 = 0 → w_X4_cancel_38 Q a1 r6 v5) ∧ (¬ r6 = 0 → ((r6 = 1 → w_X4_cancel_38 Q a1 r6 v5) ∧ (¬ r6 = 1 → Q 1 v5)))))) ∧ (r3 = 0 → w_X4_fail 1 v2 (fun r20 v19 => Q r20 v19))))
set_option maxRecDepth 100000 in
set_option maxHeartbeats 4000000 in
theorem b_X4_cancel_79 {p : Program} (l : Launch) {e : Env} {s : State} {m : MethodId} {args : Array Value} {below : List Frame} {meth : Method} {c : Code} {G : zG}   (C0 : Cx G RX4 cX4_cancel 3 (some .int) p s m args meth c) {Q : Int32 → V3 → Prop} : ∀ (x1 : Int32) (v : V3) (H : Heap) (locs : List Loc) (ls : Array Slot), w_X4_cancel_79 Q x1 v → Zs G s v H locs → lv_has ls 3 [(0, .ref (gad G 7)), (1, .int x1)] → W p l e { frames := 8, cells := 0, slots := 0, locals := 180 } s m args below meth c H locs 0 0 (MQ below (QiZ G Q) args s 0 0 (zA G)) (F0 m 79 ls []) := by
  have hx := C0.1
  have hb := C0.2.1
  intro x1 v H locs ls hw Z hl
  rw [w_X4_cancel_79] at hw
  refine lv_aload_n hx hb dX4_cancel_79 rfl (lv_at hl 0 rfl) ?_
  refine lv_iload_n hx hb dX4_cancel_80 rfl (lv_at hl 1 rfl) ?_
  refine lv_bipush (v := 7) hx hb dX4_cancel_81 (by decide) ?_
  refine lv_iconst (v := 4) hx hb dX4_cancel_83 (by decide) ?_
  refine z_callVv C0 Z hl.1 (As := [.int x1, .int 7, .int 4]) (rest := []) (k_X4_put l (cx_g C0) hw) (gv_X4_put tm_5_178) rfl ds_X4_put ⟨Nat.le_of_ble_eq_true rfl, Nat.le_of_ble_eq_true rfl⟩ (ci := 4) rfl (cx_lt C0 (by decide)) rfl rfl rfl (Nat.le_of_ble_eq_true rfl) ⟨Nat.le_of_ble_eq_true rfl, Nat.le_of_ble_eq_true rfl⟩ dX4_cancel_84 (fun v9 H locs hw Z => ?_)
  refine lv_aload_n hx hb dX4_cancel_87 rfl (lv_at hl 0 rfl) ?_
  refine z_callVi C0 Z hl.1 (As := []) (rest := []) (k_X4_done l (cx_g C0) hw) (gv_X4_done tm_6_103) rfl ds_X4_done ⟨Nat.le_of_ble_eq_true rfl, Nat.le_of_ble_eq_true rfl⟩ (ci := 4) rfl (cx_lt C0 (by decide)) rfl rfl rfl (Nat.le_of_ble_eq_true rfl) ⟨Nat.le_of_ble_eq_true rfl, Nat.le_of_ble_eq_true rfl⟩ dX4_cancel_88 (fun r11 v10 H locs hw Z => ?_)
  exact z_iret C0 Z hw dX4_cancel_91
set_option maxRecDepth 100000 in
set_option maxHeartbeats 4000000 in
theorem b_X4_cancel_38 {p : Program} (l : Launch) {e : Env} {s : State} {m : MethodId} {args : Array Value} {below : List Frame} {meth : Method} {c : Code} {G : zG}   (C0 : Cx G RX4 cX4_cancel 3 (some .int) p s m args meth c) {Q : Int32 → V3 → Prop} : ∀ (x1 : Int32) (x2 : Int32) (v : V3) (H : Heap) (locs : List Loc) (ls : Array Slot), w_X4_cancel_38 Q x1 x2 v → Zs G s v H locs → lv_has ls 3 [(0, .ref (gad G 7)), (1, .int x1), (2, .int x2)] → W p l e { frames := 8, cells := 0, slots := 0, locals := 180 } s m args below meth c H locs 0 0 (MQ below (QiZ G Q) args s 0 0 (zA G)) (F0 m 38 ls []) := by
  have hx := C0.1
  have hb := C0.2.1
  intro x1 x2 v H locs ls hw Z hl
  rw [w_X4_cancel_38] at hw
  refine lv_iload_n hx hb dX4_cancel_38 rfl (lv_at hl 2 rfl) ?_
  refine lv_iconst (v := 1) hx hb dX4_cancel_39 (by decide) ?_
  refine lv_icmp_ne (tgt := 79) hx hb dX4_cancel_40 (by decide) (fun c8 => ?_) (fun c8 => ?_)
  · replace hw := hw.1 c8
    exact b_X4_cancel_79 l C0 _ _ _ _ _ hw Z (lv_sub hl [0, 1] rfl)
  · replace hw := hw.2 c8
    refine lv_aload_n hx hb dX4_cancel_43 rfl (lv_at hl 0 rfl) ?_
    refine lv_iload_n hx hb dX4_cancel_44 rfl (lv_at hl 1 rfl) ?_
    refine lv_bipush (v := 8) hx hb dX4_cancel_45 (by decide) ?_
    refine z_callVi C0 Z hl.1 (As := [.int x1, .int 8]) (rest := []) (k_X4_of l (cx_g C0) hw) (gv_X4_of tm_5_163) rfl ds_X4_of ⟨Nat.le_of_ble_eq_true rfl, Nat.le_of_ble_eq_true rfl⟩ (ci := 4) rfl (cx_lt C0 (by decide)) rfl rfl rfl (Nat.le_of_ble_eq_true rfl) ⟨Nat.le_of_ble_eq_true rfl, Nat.le_of_ble_eq_true rfl⟩ dX4_cancel_47 (fun r13 v12 H locs hw Z => ?_)
    refine lv_aload_n hx hb dX4_cancel_50 rfl (lv_at hl 0 rfl) ?_
    refine z_get C0 Z in_X4 rfl 0 (by decide) rfl tm_4_203 (cx_lt C0 (by decide)) rfl rfl dX4_cancel_51 ?_
    refine lv_bipush (v := 7) hx hb dX4_cancel_54 (by decide) ?_
    refine z_ialdk C0 Z (cx_lt C0 (by decide)) rfl in_7_474 nc_7 dX4_cancel_56 ?_
    refine lv_aload_n hx hb dX4_cancel_57 rfl (lv_at hl 0 rfl) ?_
    refine z_get C0 Z in_X4 rfl 0 (by decide) rfl tm_4_203 (cx_lt C0 (by decide)) rfl rfl dX4_cancel_58 ?_
    refine lv_iconst (v := 1) hx hb dX4_cancel_61 (by decide) ?_
    refine z_ialdk C0 Z (cx_lt C0 (by decide)) rfl in_1_474 nc_1 dX4_cancel_62 ?_
    refine lv_iadd hx hb dX4_cancel_63 ?_
    refine lv_icmp_ge (tgt := 79) hx hb dX4_cancel_64 (by decide) (fun c14 => ?_) (fun c14 => ?_)
    · replace hw := hw.1 c14
      exact b_X4_cancel_79 l C0 _ _ _ _ _ hw Z (lv_sub hl [0, 1] rfl)
    · replace hw := hw.2 c14
      refine lv_aload_n hx hb dX4_cancel_67 rfl (lv_at hl 0 rfl) ?_
      refine lv_aload_n hx hb dX4_cancel_68 rfl (lv_at hl 0 rfl) ?_
      refine lv_iload_n hx hb dX4_cancel_69 rfl (lv_at hl 1 rfl) ?_
      refine lv_iconst (v := 0) hx hb dX4_cancel_70 (by decide) ?_
      refine z_callVi C0 Z hl.1 (As := [.int x1, .int 0]) (rest := [.ref (gad G 7)]) (k_X4_of l (cx_g C0) hw) (gv_X4_of tm_5_163) rfl ds_X4_of ⟨Nat.le_of_ble_eq_true rfl, Nat.le_of_ble_eq_true rfl⟩ (ci := 4) rfl (cx_lt C0 (by decide)) rfl rfl rfl (Nat.le_of_ble_eq_true rfl) ⟨Nat.le_of_ble_eq_true rfl, Nat.le_of_ble_eq_true rfl⟩ dX4_cancel_71 (fun r16 v15 H locs hw Z => ?_)
      refine lv_iconst (v := 3) hx hb dX4_cancel_74 (by decide) ?_
      refine lv_iconst (v := 1) hx hb dX4_cancel_75 (by decide) ?_
      refine z_callVv C0 Z hl.1 (As := [.int r16, .int 3, .int 1]) (rest := []) (k_X4_grow l (cx_g C0) hw) (gv_X4_grow tm_6_52) rfl ds_X4_grow ⟨Nat.le_of_ble_eq_true rfl, Nat.le_of_ble_eq_true rfl⟩ (ci := 4) rfl (cx_lt C0 (by decide)) rfl rfl rfl (Nat.le_of_ble_eq_true rfl) ⟨Nat.le_of_ble_eq_true rfl, Nat.le_of_ble_eq_true rfl⟩ dX4_cancel_76 (fun v17 H locs hw Z => ?_)
      exact b_X4_cancel_79 l C0 _ _ _ _ _ hw Z (lv_sub hl [0, 1] rfl)
set_option maxRecDepth 100000 in
set_option maxHeartbeats 4000000 in
theorem k_X4_cancel (l : Launch) {G : zG} (hg : 129 ≤ gn G) {a1 : Int32}  {v : V3} {Q : Int32 → V3 → Prop} (hw : w_X4_cancel a1 v Q) : Mz l yX4_cancel cX4_cancel 3 (some .int) 8 180 G [.ref (gad G 7), .int a1] v (QiZ G Q) := by
  rw [w_X4_cancel] at hw
  refine z_ofW hg (by decide) (Nat.le_of_ble_eq_true rfl) ?_
  intro p e s m args below meth c ls C0 Z hl
  have hx := C0.1
  have hb := C0.2.1
  replace hl : lv_has ls 3 [(0, .ref (gad G 7)), (1, .int a1)] := hl
  generalize s.heap = H at Z ⊢
  generalize ([] : List Loc) = locs at Z ⊢
  refine lv_aload_n hx hb dX4_cancel_0 rfl (lv_at hl 0 rfl) ?_
  refine lv_iconst (v := 0) hx hb dX4_cancel_1 (by decide) ?_
  refine z_put C0 Z in_X4 tyX4_ok nmX4 rfl 11 (by decide) rfl rfl tm_4_214 (cx_lt C0 (by decide)) rfl p_X4_11 (fun c' h => up2_off _ _ _ h) rfl rfl (Nat.le_of_ble_eq_true rfl) dX4_cancel_2 (fun H locs Z => ?_)
  obtain ⟨v1, ev1⟩ : ∃ z : V3, z = up2 v 7 11 0 := ⟨_, rfl⟩
  rw [← ev1] at Z
  replace hw := hw v1 ev1
  refine lv_aload_n hx hb dX4_cancel_5 rfl (lv_at hl 0 rfl) ?_
  refine lv_iload_n hx hb dX4_cancel_6 rfl (lv_at hl 1 rfl) ?_
  refine z_callVi C0 Z hl.1 (As := [.int a1]) (rest := []) (k_X4_isBooking l (cx_g C0) hw) (gv_X4_isBooking tm_6_75) rfl ds_X4_isBooking ⟨Nat.le_of_ble_eq_true rfl, Nat.le_of_ble_eq_true rfl⟩ (ci := 4) rfl (cx_lt C0 (by decide)) rfl rfl rfl (Nat.le_of_ble_eq_true rfl) ⟨Nat.le_of_ble_eq_true rfl, Nat.le_of_ble_eq_true rfl⟩ dX4_cancel_7 (fun r3 v2 H locs hw Z => ?_)
  refine lv_if_ne (tgt := 19) hx hb dX4_cancel_10 (by decide) (fun c4 => ?_) (fun c4 => ?_)
  · replace hw := hw.1 c4
    refine lv_aload_n hx hb dX4_cancel_19 rfl (lv_at hl 0 rfl) ?_
    refine lv_iload_n hx hb dX4_cancel_20 rfl (lv_at hl 1 rfl) ?_
    refine lv_bipush (v := 7) hx hb dX4_cancel_21 (by decide) ?_
    refine z_callVi C0 Z hl.1 (As := [.int a1, .int 7]) (rest := []) (k_X4_of l (cx_g C0) hw) (gv_X4_of tm_5_163) rfl ds_X4_of ⟨Nat.le_of_ble_eq_true rfl, Nat.le_of_ble_eq_true rfl⟩ (ci := 4) rfl (cx_lt C0 (by decide)) rfl rfl rfl (Nat.le_of_ble_eq_true rfl) ⟨Nat.le_of_ble_eq_true rfl, Nat.le_of_ble_eq_true rfl⟩ dX4_cancel_23 (fun r6 v5 H locs hw Z => ?_)
    refine lv_istore_n (lv' := [(2, .int r6), (0, .ref (gad G 7)), (1, .int a1)]) hx hb dX4_cancel_26 rfl hl (by decide) rfl (fun ls hl => ?_)
    refine lv_iload_n hx hb dX4_cancel_27 rfl (lv_at hl 0 rfl) ?_
    refine lv_if_eq (tgt := 38) hx hb dX4_cancel_28 (by decide) (fun c7 => ?_) (fun c7 => ?_)
    · replace hw := hw.1 c7
      exact b_X4_cancel_38 l C0 _ _ _ _ _ _ hw Z (lv_sub hl [1, 2, 0] rfl)
    · replace hw := hw.2 c7
      refine lv_iload_n hx hb dX4_cancel_31 rfl (lv_at hl 0 rfl) ?_
      refine lv_iconst (v := 1) hx hb dX4_cancel_32 (by decide) ?_
      refine lv_icmp_eq (tgt := 38) hx hb dX4_cancel_33 (by decide) (fun c18 => ?_) (fun c18 => ?_)
      · replace hw := hw.1 c18
        exact b_X4_cancel_38 l C0 _ _ _ _ _ _ hw Z (lv_sub hl [1, 2, 0] rfl)
      · replace hw := hw.2 c18
        refine lv_iconst (v := 1) hx hb dX4_cancel_36 (by decide) ?_
        exact z_iret C0 Z hw dX4_cancel_37
  · replace hw := hw.2 c4
    refine lv_aload_n hx hb dX4_cancel_13 rfl (lv_at hl 0 rfl) ?_
    refine lv_iconst (v := 1) hx hb dX4_cancel_14 (by decide) ?_
    refine z_callVi C0 Z hl.1 (As := [.int 1]) (rest := []) (k_X4_fail l (cx_g C0) hw) (gv_X4_fail tm_5_75) rfl ds_X4_fail ⟨Nat.le_of_ble_eq_true rfl, Nat.le_of_ble_eq_true rfl⟩ (ci := 4) rfl (cx_lt C0 (by decide)) rfl rfl rfl (Nat.le_of_ble_eq_true rfl) ⟨Nat.le_of_ble_eq_true rfl, Nat.le_of_ble_eq_true rfl⟩ dX4_cancel_15 (fun r20 v19 H locs hw Z => ?_)
    exact z_iret C0 Z hw dX4_cancel_18
-- X4_evict: room (8, 180)
theorem dX4_evict_0 : decode cX4_evict 0 = .ok (.aload_n 0, 1) := by decide +kernel
theorem dX4_evict_1 : decode cX4_evict 1 = .ok (.iconst 0, 1) := by decide +kernel
theorem dX4_evict_2 : decode cX4_evict 2 = .ok (.putfield 55, 3) := by decide +kernel
theorem dX4_evict_5 : decode cX4_evict 5 = .ok (.aload_n 0, 1) := by decide +kernel
theorem dX4_evict_6 : decode cX4_evict 6 = .ok (.iload_n 1, 1) := by decide +kernel
theorem dX4_evict_7 : decode cX4_evict 7 = .ok (.invokevirtual 290, 3) := by decide +kernel
theorem dX4_evict_10 : decode cX4_evict 10 = .ok (.ifCond .ne 9, 3) := by decide +kernel
theorem dX4_evict_13 : decode cX4_evict 13 = .ok (.aload_n 0, 1) := by decide +kernel
theorem dX4_evict_14 : decode cX4_evict 14 = .ok (.iconst 1, 1) := by decide +kernel
theorem dX4_evict_15 : decode cX4_evict 15 = .ok (.invokevirtual 78, 3) := by decide +kernel
theorem dX4_evict_18 : decode cX4_evict 18 = .ok (.ireturn, 1) := by decide +kernel
theorem dX4_evict_19 : decode cX4_evict 19 = .ok (.aload_n 0, 1) := by decide +kernel
theorem dX4_evict_20 : decode cX4_evict 20 = .ok (.iload_n 1, 1) := by decide +kernel
theorem dX4_evict_21 : decode cX4_evict 21 = .ok (.bipush 7, 2) := by decide +kernel
theorem dX4_evict_23 : decode cX4_evict 23 = .ok (.invokevirtual 71, 3) := by decide +kernel
theorem dX4_evict_26 : decode cX4_evict 26 = .ok (.iconst 1, 1) := by decide +kernel
theorem dX4_evict_27 : decode cX4_evict 27 = .ok (.if_icmp .eq 5, 3) := by decide +kernel
theorem dX4_evict_30 : decode cX4_evict 30 = .ok (.iconst 1, 1) := by decide +kernel
theorem dX4_evict_31 : decode cX4_evict 31 = .ok (.ireturn, 1) := by decide +kernel
theorem dX4_evict_32 : decode cX4_evict 32 = .ok (.aload_n 0, 1) := by decide +kernel
theorem dX4_evict_33 : decode cX4_evict 33 = .ok (.iload_n 1, 1) := by decide +kernel
theorem dX4_evict_34 : decode cX4_evict 34 = .ok (.invokevirtual 280, 3) := by decide +kernel
theorem dX4_evict_37 : decode cX4_evict 37 = .ok (.aload_n 0, 1) := by decide +kernel
theorem dX4_evict_38 : decode cX4_evict 38 = .ok (.aload_n 0, 1) := by decide +kernel
theorem dX4_evict_39 : decode cX4_evict 39 = .ok (.iload_n 1, 1) := by decide +kernel
theorem dX4_evict_40 : decode cX4_evict 40 = .ok (.iconst 0, 1) := by decide +kernel
theorem dX4_evict_41 : decode cX4_evict 41 = .ok (.invokevirtual 71, 3) := by decide +kernel
theorem dX4_evict_44 : decode cX4_evict 44 = .ok (.iconst 4, 1) := by decide +kernel
theorem dX4_evict_45 : decode cX4_evict 45 = .ok (.iconst 1, 1) := by decide +kernel
theorem dX4_evict_46 : decode cX4_evict 46 = .ok (.invokevirtual 254, 3) := by decide +kernel
theorem dX4_evict_49 : decode cX4_evict 49 = .ok (.aload_n 0, 1) := by decide +kernel
theorem dX4_evict_50 : decode cX4_evict 50 = .ok (.invokevirtual 308, 3) := by decide +kernel
theorem dX4_evict_53 : decode cX4_evict 53 = .ok (.ireturn, 1) := by decide +kernel
def w_X4_evict (a1 : Int32) (v : V3) (Q : Int32 → V3 → Prop) : Prop := ∀ v1 : V3, v1 = up2 v 7 11 0 → w_X4_isBooking a1 v1 (fun r3 v2 => ((¬ r3 = 0 → w_X4_of a1 7 v2 (fun r6 v5 => ((r6 = 1 → w_X4_await a1 v5 (fun v8 => w_X4_of a1 0 v8 (fun r10 v9 => w_X4_grow r10 4 1 v9 (fun v11 => w_X4_done v11 (fun r13 v12 => Q r13 v12))))) ∧ (¬ r6 = 1 → Q 1 v5)))) ∧ (r3 = 0 → w_X4_fail 1 v2 (fun r15 v14 => Q r15 v14))))
set_option maxRecDepth 100000 in
set_option maxHeartbeats 4000000 in
theorem k_X4_evict (l : Launch) {G : zG} (hg : 129 ≤ gn G) {a1 : Int32}  {v : V3} {Q : Int32 → V3 → Prop} (hw : w_X4_evict a1 v Q) : Mz l yX4_evict cX4_evict 2 (some .int) 8 180 G [.ref (gad G 7), .int a1] v (QiZ G Q) := by
  rw [w_X4_evict] at hw
  refine z_ofW hg (by decide) (Nat.le_of_ble_eq_true rfl) ?_
  intro p e s m args below meth c ls C0 Z hl
  have hx := C0.1
  have hb := C0.2.1
  replace hl : lv_has ls 2 [(0, .ref (gad G 7)), (1, .int a1)] := hl
  generalize s.heap = H at Z ⊢
  generalize ([] : List Loc) = locs at Z ⊢
  refine lv_aload_n hx hb dX4_evict_0 rfl (lv_at hl 0 rfl) ?_
  refine lv_iconst (v := 0) hx hb dX4_evict_1 (by decide) ?_
  refine z_put C0 Z in_X4 tyX4_ok nmX4 rfl 11 (by decide) rfl rfl tm_4_214 (cx_lt C0 (by decide)) rfl p_X4_11 (fun c' h => up2_off _ _ _ h) rfl rfl (Nat.le_of_ble_eq_true rfl) dX4_evict_2 (fun H locs Z => ?_)
  obtain ⟨v1, ev1⟩ : ∃ z : V3, z = up2 v 7 11 0 := ⟨_, rfl⟩
  rw [← ev1] at Z
  replace hw := hw v1 ev1
  refine lv_aload_n hx hb dX4_evict_5 rfl (lv_at hl 0 rfl) ?_
  refine lv_iload_n hx hb dX4_evict_6 rfl (lv_at hl 1 rfl) ?_
  refine z_callVi C0 Z hl.1 (As := [.int a1]) (rest := []) (k_X4_isBooking l (cx_g C0) hw) (gv_X4_isBooking tm_6_75) rfl ds_X4_isBooking ⟨Nat.le_of_ble_eq_true rfl, Nat.le_of_ble_eq_true rfl⟩ (ci := 4) rfl (cx_lt C0 (by decide)) rfl rfl rfl (Nat.le_of_ble_eq_true rfl) ⟨Nat.le_of_ble_eq_true rfl, Nat.le_of_ble_eq_true rfl⟩ dX4_evict_7 (fun r3 v2 H locs hw Z => ?_)
  refine lv_if_ne (tgt := 19) hx hb dX4_evict_10 (by decide) (fun c4 => ?_) (fun c4 => ?_)
  · replace hw := hw.1 c4
    refine lv_aload_n hx hb dX4_evict_19 rfl (lv_at hl 0 rfl) ?_
    refine lv_iload_n hx hb dX4_evict_20 rfl (lv_at hl 1 rfl) ?_
    refine lv_bipush (v := 7) hx hb dX4_evict_21 (by decide) ?_
    refine z_callVi C0 Z hl.1 (As := [.int a1, .int 7]) (rest := []) (k_X4_of l (cx_g C0) hw) (gv_X4_of tm_5_163) rfl ds_X4_of ⟨Nat.le_of_ble_eq_true rfl, Nat.le_of_ble_eq_true rfl⟩ (ci := 4) rfl (cx_lt C0 (by decide)) rfl rfl rfl (Nat.le_of_ble_eq_true rfl) ⟨Nat.le_of_ble_eq_true rfl, Nat.le_of_ble_eq_true rfl⟩ dX4_evict_23 (fun r6 v5 H locs hw Z => ?_)
    refine lv_iconst (v := 1) hx hb dX4_evict_26 (by decide) ?_
    refine lv_icmp_eq (tgt := 32) hx hb dX4_evict_27 (by decide) (fun c7 => ?_) (fun c7 => ?_)
    · replace hw := hw.1 c7
      refine lv_aload_n hx hb dX4_evict_32 rfl (lv_at hl 0 rfl) ?_
      refine lv_iload_n hx hb dX4_evict_33 rfl (lv_at hl 1 rfl) ?_
      refine z_callVv C0 Z hl.1 (As := [.int a1]) (rest := []) (k_X4_await l (cx_g C0) hw) (gv_X4_await tm_5_182) rfl ds_X4_await ⟨Nat.le_of_ble_eq_true rfl, Nat.le_of_ble_eq_true rfl⟩ (ci := 4) rfl (cx_lt C0 (by decide)) rfl rfl rfl (Nat.le_of_ble_eq_true rfl) ⟨Nat.le_of_ble_eq_true rfl, Nat.le_of_ble_eq_true rfl⟩ dX4_evict_34 (fun v8 H locs hw Z => ?_)
      refine lv_aload_n hx hb dX4_evict_37 rfl (lv_at hl 0 rfl) ?_
      refine lv_aload_n hx hb dX4_evict_38 rfl (lv_at hl 0 rfl) ?_
      refine lv_iload_n hx hb dX4_evict_39 rfl (lv_at hl 1 rfl) ?_
      refine lv_iconst (v := 0) hx hb dX4_evict_40 (by decide) ?_
      refine z_callVi C0 Z hl.1 (As := [.int a1, .int 0]) (rest := [.ref (gad G 7)]) (k_X4_of l (cx_g C0) hw) (gv_X4_of tm_5_163) rfl ds_X4_of ⟨Nat.le_of_ble_eq_true rfl, Nat.le_of_ble_eq_true rfl⟩ (ci := 4) rfl (cx_lt C0 (by decide)) rfl rfl rfl (Nat.le_of_ble_eq_true rfl) ⟨Nat.le_of_ble_eq_true rfl, Nat.le_of_ble_eq_true rfl⟩ dX4_evict_41 (fun r10 v9 H locs hw Z => ?_)
      refine lv_iconst (v := 4) hx hb dX4_evict_44 (by decide) ?_
      refine lv_iconst (v := 1) hx hb dX4_evict_45 (by decide) ?_
      refine z_callVv C0 Z hl.1 (As := [.int r10, .int 4, .int 1]) (rest := []) (k_X4_grow l (cx_g C0) hw) (gv_X4_grow tm_6_52) rfl ds_X4_grow ⟨Nat.le_of_ble_eq_true rfl, Nat.le_of_ble_eq_true rfl⟩ (ci := 4) rfl (cx_lt C0 (by decide)) rfl rfl rfl (Nat.le_of_ble_eq_true rfl) ⟨Nat.le_of_ble_eq_true rfl, Nat.le_of_ble_eq_true rfl⟩ dX4_evict_46 (fun v11 H locs hw Z => ?_)
      refine lv_aload_n hx hb dX4_evict_49 rfl (lv_at hl 0 rfl) ?_
      refine z_callVi C0 Z hl.1 (As := []) (rest := []) (k_X4_done l (cx_g C0) hw) (gv_X4_done tm_6_103) rfl ds_X4_done ⟨Nat.le_of_ble_eq_true rfl, Nat.le_of_ble_eq_true rfl⟩ (ci := 4) rfl (cx_lt C0 (by decide)) rfl rfl rfl (Nat.le_of_ble_eq_true rfl) ⟨Nat.le_of_ble_eq_true rfl, Nat.le_of_ble_eq_true rfl⟩ dX4_evict_50 (fun r13 v12 H locs hw Z => ?_)
      exact z_iret C0 Z hw dX4_evict_53
    · replace hw := hw.2 c7
      refine lv_iconst (v := 1) hx hb dX4_evict_30 (by decide) ?_
      exact z_iret C0 Z hw dX4_evict_31
  · replace hw := hw.2 c4
    refine lv_aload_n hx hb dX4_evict_13 rfl (lv_at hl 0 rfl) ?_
    refine lv_iconst (v := 1) hx hb dX4_evict_14 (by decide) ?_
    refine z_callVi C0 Z hl.1 (As := [.int 1]) (rest := []) (k_X4_fail l (cx_g C0) hw) (gv_X4_fail tm_5_75) rfl ds_X4_fail ⟨Nat.le_of_ble_eq_true rfl, Nat.le_of_ble_eq_true rfl⟩ (ci := 4) rfl (cx_lt C0 (by decide)) rfl rfl rfl (Nat.le_of_ble_eq_true rfl) ⟨Nat.le_of_ble_eq_true rfl, Nat.le_of_ble_eq_true rfl⟩ dX4_evict_15 (fun r15 v14 H locs hw Z => ?_)
    exact z_iret C0 Z hw dX4_evict_18
