-- X4_isByte: room (1, 25)
theorem dX4_isByte_0 : decode cX4_isByte 0 = .ok (.iload_n 1, 1) := by decide +kernel
theorem dX4_isByte_1 : decode cX4_isByte 1 = .ok (.i2l, 1) := by decide +kernel
theorem dX4_isByte_2 : decode cX4_isByte 2 = .ok (.lconst 0, 1) := by decide +kernel
theorem dX4_isByte_3 : decode cX4_isByte 3 = .ok (.aload_n 0, 1) := by decide +kernel
theorem dX4_isByte_4 : decode cX4_isByte 4 = .ok (.getfield 7, 3) := by decide +kernel
theorem dX4_isByte_7 : decode cX4_isByte 7 = .ok (.iconst 4, 1) := by decide +kernel
theorem dX4_isByte_8 : decode cX4_isByte 8 = .ok (.iaload, 1) := by decide +kernel
theorem dX4_isByte_9 : decode cX4_isByte 9 = .ok (.iconst 1, 1) := by decide +kernel
theorem dX4_isByte_10 : decode cX4_isByte 10 = .ok (.isub, 1) := by decide +kernel
theorem dX4_isByte_11 : decode cX4_isByte 11 = .ok (.i2l, 1) := by decide +kernel
theorem dX4_isByte_12 : decode cX4_isByte 12 = .ok (.invokestatic 67, 3) := by decide +kernel
theorem dX4_isByte_15 : decode cX4_isByte 15 = .ok (.ireturn, 1) := by decide +kernel
def w_X4_isByte (a1 : Int32) (v : V3) (Q : Int32 → V3 → Prop) : Prop := w_X4_isBetween ((a1).toInt64) 0 (((v 8 4) - 1).toInt64) v (fun r2 v1 => (r2 = 0 ∨ r2 = 1) ∧ Q r2 v1)
set_option maxRecDepth 100000 in
set_option maxHeartbeats 4000000 in
theorem k_X4_isByte (l : Launch) {G : zG} (hg : 129 ≤ gn G) {a1 : Int32}  {v : V3} {Q : Int32 → V3 → Prop} (hw : w_X4_isByte a1 v Q) : Mz l yX4_isByte cX4_isByte 2 (some .boolean) 1 25 G [.ref (gad G 7), .int a1] v (QiZ G Q) := by
  rw [w_X4_isByte] at hw
  refine z_ofW hg (by decide) (Nat.le_of_ble_eq_true rfl) ?_
  intro p e s m args below meth c ls C0 Z hl
  have hx := C0.1
  have hb := C0.2.1
  replace hl : lv_has ls 2 [(0, .ref (gad G 7)), (1, .int a1)] := hl
  generalize s.heap = H at Z ⊢
  generalize ([] : List Loc) = locs at Z ⊢
  refine lv_iload_n hx hb dX4_isByte_0 rfl (lv_at hl 1 rfl) ?_
  refine lv_i2l (v := (a1).toInt64) hx hb dX4_isByte_1 rfl ?_
  refine lv_lconst (v := 0) hx hb dX4_isByte_2 (by decide) ?_
  refine lv_aload_n hx hb dX4_isByte_3 rfl (lv_at hl 0 rfl) ?_
  refine z_get C0 Z in_X4 rfl 0 (by decide) rfl tm_4_203 (cx_lt C0 (by decide)) rfl rfl dX4_isByte_4 ?_
  refine lv_iconst (v := 4) hx hb dX4_isByte_7 (by decide) ?_
  refine z_ialdk C0 Z (cx_lt C0 (by decide)) rfl in_4_474 nc_4 dX4_isByte_8 ?_
  refine lv_iconst (v := 1) hx hb dX4_isByte_9 (by decide) ?_
  refine lv_isub hx hb dX4_isByte_10 ?_
  refine lv_i2l (v := ((v 8 4) - 1).toInt64) hx hb dX4_isByte_11 rfl ?_
  refine z_callSi C0 Z hl.1 (As := [.long ((a1).toInt64), .long 0, .long (((v 8 4) - 1).toInt64)]) (rest := []) (k_X4_isBetween l (cx_g C0) hw) (gv_X4_isBetween tm_5_83) ds_X4_isBetween ⟨Nat.le_of_ble_eq_true rfl, Nat.le_of_ble_eq_true rfl⟩ rfl rfl (Nat.le_of_ble_eq_true rfl) ⟨Nat.le_of_ble_eq_true rfl, Nat.le_of_ble_eq_true rfl⟩ dX4_isByte_12 (fun r2 v1 H locs hw Z => ?_)
  obtain ⟨h3, hw⟩ := hw
  exact z_zret C0 Z h3 hw dX4_isByte_15
-- X4_holder: room (3, 70)
theorem dX4_holder_0 : decode cX4_holder 0 = .ok (.aload_n 0, 1) := by decide +kernel
theorem dX4_holder_1 : decode cX4_holder 1 = .ok (.iconst 0, 1) := by decide +kernel
theorem dX4_holder_2 : decode cX4_holder 2 = .ok (.putfield 55, 3) := by decide +kernel
theorem dX4_holder_5 : decode cX4_holder 5 = .ok (.aload_n 0, 1) := by decide +kernel
theorem dX4_holder_6 : decode cX4_holder 6 = .ok (.iload_n 1, 1) := by decide +kernel
theorem dX4_holder_7 : decode cX4_holder 7 = .ok (.invokevirtual 383, 3) := by decide +kernel
theorem dX4_holder_10 : decode cX4_holder 10 = .ok (.ifCond .ne 9, 3) := by decide +kernel
theorem dX4_holder_13 : decode cX4_holder 13 = .ok (.aload_n 0, 1) := by decide +kernel
theorem dX4_holder_14 : decode cX4_holder 14 = .ok (.iconst 1, 1) := by decide +kernel
theorem dX4_holder_15 : decode cX4_holder 15 = .ok (.invokevirtual 78, 3) := by decide +kernel
theorem dX4_holder_18 : decode cX4_holder 18 = .ok (.ireturn, 1) := by decide +kernel
theorem dX4_holder_19 : decode cX4_holder 19 = .ok (.iload_n 2, 1) := by decide +kernel
theorem dX4_holder_20 : decode cX4_holder 20 = .ok (.i2l, 1) := by decide +kernel
theorem dX4_holder_21 : decode cX4_holder 21 = .ok (.lconst 0, 1) := by decide +kernel
theorem dX4_holder_22 : decode cX4_holder 22 = .ok (.ldc2_w 386, 3) := by decide +kernel
theorem dX4_holder_25 : decode cX4_holder 25 = .ok (.invokestatic 67, 3) := by decide +kernel
theorem dX4_holder_28 : decode cX4_holder 28 = .ok (.ifCond .eq 12, 3) := by decide +kernel
theorem dX4_holder_31 : decode cX4_holder 31 = .ok (.aload_n 0, 1) := by decide +kernel
theorem dX4_holder_32 : decode cX4_holder 32 = .ok (.iload_n 1, 1) := by decide +kernel
theorem dX4_holder_33 : decode cX4_holder 33 = .ok (.iload_n 2, 1) := by decide +kernel
theorem dX4_holder_34 : decode cX4_holder 34 = .ok (.invokevirtual 217, 3) := by decide +kernel
theorem dX4_holder_37 : decode cX4_holder 37 = .ok (.goto 8, 3) := by decide +kernel
theorem dX4_holder_40 : decode cX4_holder 40 = .ok (.aload_n 0, 1) := by decide +kernel
theorem dX4_holder_41 : decode cX4_holder 41 = .ok (.iconst 2, 1) := by decide +kernel
theorem dX4_holder_42 : decode cX4_holder 42 = .ok (.invokevirtual 78, 3) := by decide +kernel
theorem dX4_holder_45 : decode cX4_holder 45 = .ok (.ireturn, 1) := by decide +kernel
def w_X4_holder_45  (Q : Int32 → V3 → Prop) (s0 : Int32) (v : V3) : Prop := Q s0 v
def w_X4_holder (a1 : Int32) (a2 : Int32) (v : V3) (Q : Int32 → V3 → Prop) : Prop := ∀ v1 : V3, v1 = up2 v 7 11 0 → w_X4_isByte a1 v1 (fun r3 v2 => ((¬ r3 = 0 → w_X4_isBetween ((a2).toInt64) 0 20100 v2 (fun r6 v5 => ((r6 = 0 → w_X4_fail 2 v5 (fun r9 v8 => w_X4_holder_45 Q r9 v8)) ∧ (¬ r6 = 0 → w_X4_holderOf a1 a2 v5 (fun r11 v10 => w_X4_holder_45 Q r11 v10))))) ∧ (r3 = 0 → w_X4_fail 1 v2 (fun r13 v12 => Q r13 v12))))
set_option maxRecDepth 100000 in
set_option maxHeartbeats 4000000 in
theorem b_X4_holder_45 {p : Program} (l : Launch) {e : Env} {s : State} {m : MethodId} {args : Array Value} {below : List Frame} {meth : Method} {c : Code} {G : zG}   (C0 : Cx G RX4 cX4_holder 3 (some .int) p s m args meth c) {Q : Int32 → V3 → Prop} : ∀ (s0 : Int32) (v : V3) (H : Heap) (locs : List Loc) (ls : Array Slot), w_X4_holder_45 Q s0 v → Zs G s v H locs → lv_has ls 3 [] → W p l e { frames := 3, cells := 0, slots := 0, locals := 70 } s m args below meth c H locs 0 0 (MQ below (QiZ G Q) args s 0 0 (zA G)) (F0 m 45 ls [.int s0]) := by
  have hx := C0.1
  have hb := C0.2.1
  intro s0 v H locs ls hw Z hl
  rw [w_X4_holder_45] at hw
  exact z_iret C0 Z hw dX4_holder_45
set_option maxRecDepth 100000 in
set_option maxHeartbeats 4000000 in
theorem k_X4_holder (l : Launch) {G : zG} (hg : 129 ≤ gn G) {a1 : Int32} {a2 : Int32}  {v : V3} {Q : Int32 → V3 → Prop} (hw : w_X4_holder a1 a2 v Q) : Mz l yX4_holder cX4_holder 3 (some .int) 3 70 G [.ref (gad G 7), .int a1, .int a2] v (QiZ G Q) := by
  rw [w_X4_holder] at hw
  refine z_ofW hg (by decide) (Nat.le_of_ble_eq_true rfl) ?_
  intro p e s m args below meth c ls C0 Z hl
  have hx := C0.1
  have hb := C0.2.1
  replace hl : lv_has ls 3 [(0, .ref (gad G 7)), (1, .int a1), (2, .int a2)] := hl
  generalize s.heap = H at Z ⊢
  generalize ([] : List Loc) = locs at Z ⊢
  refine lv_aload_n hx hb dX4_holder_0 rfl (lv_at hl 0 rfl) ?_
  refine lv_iconst (v := 0) hx hb dX4_holder_1 (by decide) ?_
  refine z_put C0 Z in_X4 tyX4_ok nmX4 rfl 11 (by decide) rfl rfl tm_4_214 (cx_lt C0 (by decide)) rfl p_X4_11 (fun c' h => up2_off _ _ _ h) rfl rfl (Nat.le_of_ble_eq_true rfl) dX4_holder_2 (fun H locs Z => ?_)
  obtain ⟨v1, ev1⟩ : ∃ z : V3, z = up2 v 7 11 0 := ⟨_, rfl⟩
  rw [← ev1] at Z
  replace hw := hw v1 ev1
  refine lv_aload_n hx hb dX4_holder_5 rfl (lv_at hl 0 rfl) ?_
  refine lv_iload_n hx hb dX4_holder_6 rfl (lv_at hl 1 rfl) ?_
  refine z_callVi C0 Z hl.1 (As := [.int a1]) (rest := []) (k_X4_isByte l (cx_g C0) hw) (gv_X4_isByte tm_6_213) rfl ds_X4_isByte ⟨Nat.le_of_ble_eq_true rfl, Nat.le_of_ble_eq_true rfl⟩ (ci := 4) rfl (cx_lt C0 (by decide)) rfl rfl rfl (Nat.le_of_ble_eq_true rfl) ⟨Nat.le_of_ble_eq_true rfl, Nat.le_of_ble_eq_true rfl⟩ dX4_holder_7 (fun r3 v2 H locs hw Z => ?_)
  refine lv_if_ne (tgt := 19) hx hb dX4_holder_10 (by decide) (fun c4 => ?_) (fun c4 => ?_)
  · replace hw := hw.1 c4
    refine lv_iload_n hx hb dX4_holder_19 rfl (lv_at hl 2 rfl) ?_
    refine lv_i2l (v := (a2).toInt64) hx hb dX4_holder_20 rfl ?_
    refine lv_lconst (v := 0) hx hb dX4_holder_21 (by decide) ?_
    refine lv_ldc2 hx hb (cx_own C0) (cx_w C0 tm_6_217) dX4_holder_22 ?_
    refine z_callSi C0 Z hl.1 (As := [.long ((a2).toInt64), .long 0, .long 20100]) (rest := []) (k_X4_isBetween l (cx_g C0) hw) (gv_X4_isBetween tm_5_83) ds_X4_isBetween ⟨Nat.le_of_ble_eq_true rfl, Nat.le_of_ble_eq_true rfl⟩ rfl rfl (Nat.le_of_ble_eq_true rfl) ⟨Nat.le_of_ble_eq_true rfl, Nat.le_of_ble_eq_true rfl⟩ dX4_holder_25 (fun r6 v5 H locs hw Z => ?_)
    refine lv_if_eq (tgt := 40) hx hb dX4_holder_28 (by decide) (fun c7 => ?_) (fun c7 => ?_)
    · replace hw := hw.1 c7
      refine lv_aload_n hx hb dX4_holder_40 rfl (lv_at hl 0 rfl) ?_
      refine lv_iconst (v := 2) hx hb dX4_holder_41 (by decide) ?_
      refine z_callVi C0 Z hl.1 (As := [.int 2]) (rest := []) (k_X4_fail l (cx_g C0) hw) (gv_X4_fail tm_5_75) rfl ds_X4_fail ⟨Nat.le_of_ble_eq_true rfl, Nat.le_of_ble_eq_true rfl⟩ (ci := 4) rfl (cx_lt C0 (by decide)) rfl rfl rfl (Nat.le_of_ble_eq_true rfl) ⟨Nat.le_of_ble_eq_true rfl, Nat.le_of_ble_eq_true rfl⟩ dX4_holder_42 (fun r9 v8 H locs hw Z => ?_)
      exact b_X4_holder_45 l C0 _ _ _ _ _ hw Z (lv_sub hl [] rfl)
    · replace hw := hw.2 c7
      refine lv_aload_n hx hb dX4_holder_31 rfl (lv_at hl 0 rfl) ?_
      refine lv_iload_n hx hb dX4_holder_32 rfl (lv_at hl 1 rfl) ?_
      refine lv_iload_n hx hb dX4_holder_33 rfl (lv_at hl 2 rfl) ?_
      refine z_callVi C0 Z hl.1 (As := [.int a1, .int a2]) (rest := []) (k_X4_holderOf l (cx_g C0) hw) (gv_X4_holderOf tm_6_5) rfl ds_X4_holderOf ⟨Nat.le_of_ble_eq_true rfl, Nat.le_of_ble_eq_true rfl⟩ (ci := 4) rfl (cx_lt C0 (by decide)) rfl rfl rfl (Nat.le_of_ble_eq_true rfl) ⟨Nat.le_of_ble_eq_true rfl, Nat.le_of_ble_eq_true rfl⟩ dX4_holder_34 (fun r11 v10 H locs hw Z => ?_)
      refine lv_goto (tgt := 45) hx hb dX4_holder_37 (by decide) ?_
      exact b_X4_holder_45 l C0 _ _ _ _ _ hw Z (lv_sub hl [] rfl)
  · replace hw := hw.2 c4
    refine lv_aload_n hx hb dX4_holder_13 rfl (lv_at hl 0 rfl) ?_
    refine lv_iconst (v := 1) hx hb dX4_holder_14 (by decide) ?_
    refine z_callVi C0 Z hl.1 (As := [.int 1]) (rest := []) (k_X4_fail l (cx_g C0) hw) (gv_X4_fail tm_5_75) rfl ds_X4_fail ⟨Nat.le_of_ble_eq_true rfl, Nat.le_of_ble_eq_true rfl⟩ (ci := 4) rfl (cx_lt C0 (by decide)) rfl rfl rfl (Nat.le_of_ble_eq_true rfl) ⟨Nat.le_of_ble_eq_true rfl, Nat.le_of_ble_eq_true rfl⟩ dX4_holder_15 (fun r13 v12 H locs hw Z => ?_)
    exact z_iret C0 Z hw dX4_holder_18
-- X4_nextFree: room (3, 71)
theorem dX4_nextFree_0 : decode cX4_nextFree 0 = .ok (.aload_n 0, 1) := by decide +kernel
theorem dX4_nextFree_1 : decode cX4_nextFree 1 = .ok (.iconst 0, 1) := by decide +kernel
theorem dX4_nextFree_2 : decode cX4_nextFree 2 = .ok (.putfield 55, 3) := by decide +kernel
theorem dX4_nextFree_5 : decode cX4_nextFree 5 = .ok (.iload_n 1, 1) := by decide +kernel
theorem dX4_nextFree_6 : decode cX4_nextFree 6 = .ok (.i2l, 1) := by decide +kernel
theorem dX4_nextFree_7 : decode cX4_nextFree 7 = .ok (.aload_n 0, 1) := by decide +kernel
theorem dX4_nextFree_8 : decode cX4_nextFree 8 = .ok (.getfield 7, 3) := by decide +kernel
theorem dX4_nextFree_11 : decode cX4_nextFree 11 = .ok (.bipush 7, 2) := by decide +kernel
theorem dX4_nextFree_13 : decode cX4_nextFree 13 = .ok (.iaload, 1) := by decide +kernel
theorem dX4_nextFree_14 : decode cX4_nextFree 14 = .ok (.i2l, 1) := by decide +kernel
theorem dX4_nextFree_15 : decode cX4_nextFree 15 = .ok (.ldc2_w 388, 3) := by decide +kernel
theorem dX4_nextFree_18 : decode cX4_nextFree 18 = .ok (.invokestatic 67, 3) := by decide +kernel
theorem dX4_nextFree_21 : decode cX4_nextFree 21 = .ok (.ifCond .ne 9, 3) := by decide +kernel
theorem dX4_nextFree_24 : decode cX4_nextFree 24 = .ok (.aload_n 0, 1) := by decide +kernel
theorem dX4_nextFree_25 : decode cX4_nextFree 25 = .ok (.iconst 1, 1) := by decide +kernel
theorem dX4_nextFree_26 : decode cX4_nextFree 26 = .ok (.invokevirtual 78, 3) := by decide +kernel
theorem dX4_nextFree_29 : decode cX4_nextFree 29 = .ok (.ireturn, 1) := by decide +kernel
theorem dX4_nextFree_30 : decode cX4_nextFree 30 = .ok (.iload_n 1, 1) := by decide +kernel
theorem dX4_nextFree_31 : decode cX4_nextFree 31 = .ok (.istore_n 2, 1) := by decide +kernel
theorem dX4_nextFree_32 : decode cX4_nextFree 32 = .ok (.iload_n 2, 1) := by decide +kernel
theorem dX4_nextFree_33 : decode cX4_nextFree 33 = .ok (.iload_n 1, 1) := by decide +kernel
theorem dX4_nextFree_34 : decode cX4_nextFree 34 = .ok (.sipush 300, 3) := by decide +kernel
theorem dX4_nextFree_37 : decode cX4_nextFree 37 = .ok (.iadd, 1) := by decide +kernel
theorem dX4_nextFree_38 : decode cX4_nextFree 38 = .ok (.if_icmp .gt 35, 3) := by decide +kernel
theorem dX4_nextFree_41 : decode cX4_nextFree 41 = .ok (.aload_n 0, 1) := by decide +kernel
theorem dX4_nextFree_42 : decode cX4_nextFree 42 = .ok (.aload_n 0, 1) := by decide +kernel
theorem dX4_nextFree_43 : decode cX4_nextFree 43 = .ok (.getfield 58, 3) := by decide +kernel
theorem dX4_nextFree_46 : decode cX4_nextFree 46 = .ok (.aload_n 0, 1) := by decide +kernel
theorem dX4_nextFree_47 : decode cX4_nextFree 47 = .ok (.getfield 61, 3) := by decide +kernel
theorem dX4_nextFree_50 : decode cX4_nextFree 50 = .ok (.iload_n 2, 1) := by decide +kernel
theorem dX4_nextFree_51 : decode cX4_nextFree 51 = .ok (.iload_n 2, 1) := by decide +kernel
theorem dX4_nextFree_52 : decode cX4_nextFree 52 = .ok (.aload_n 0, 1) := by decide +kernel
theorem dX4_nextFree_53 : decode cX4_nextFree 53 = .ok (.getfield 64, 3) := by decide +kernel
theorem dX4_nextFree_56 : decode cX4_nextFree 56 = .ok (.iadd, 1) := by decide +kernel
theorem dX4_nextFree_57 : decode cX4_nextFree 57 = .ok (.iconst (-1), 1) := by decide +kernel
theorem dX4_nextFree_58 : decode cX4_nextFree 58 = .ok (.iconst (-1), 1) := by decide +kernel
theorem dX4_nextFree_59 : decode cX4_nextFree 59 = .ok (.invokevirtual 263, 3) := by decide +kernel
theorem dX4_nextFree_62 : decode cX4_nextFree 62 = .ok (.ifCond .ne 5, 3) := by decide +kernel
theorem dX4_nextFree_65 : decode cX4_nextFree 65 = .ok (.iload_n 2, 1) := by decide +kernel
theorem dX4_nextFree_66 : decode cX4_nextFree 66 = .ok (.ireturn, 1) := by decide +kernel
theorem dX4_nextFree_67 : decode cX4_nextFree 67 = .ok (.iinc 2 1, 3) := by decide +kernel
theorem dX4_nextFree_70 : decode cX4_nextFree 70 = .ok (.goto (-38), 3) := by decide +kernel
theorem dX4_nextFree_73 : decode cX4_nextFree 73 = .ok (.iconst (-1), 1) := by decide +kernel
theorem dX4_nextFree_74 : decode cX4_nextFree 74 = .ok (.ireturn, 1) := by decide +kernel
def w_X4_nextFree_32  (Q : Int32 → V3 → Prop) : Nat → Int32 → Int32 → V3 → Prop
  | 0, _, _, _ => False
  | n32 + 1, x1, x2, v => (((x1 + 300) < x2 → Q (-1) v) ∧ (¬ (x1 + 300) < x2 → w_X4_isTaken (v 7 8) (v 7 9) x2 (x2 + (v 7 10)) (-1) (-1) v (fun r7 v6 => ((¬ r7 = 0 → (w_X4_nextFree_32 Q n32) x1 (x2 + 1) v6) ∧ (r7 = 0 → Q x2 v6)))))
def w_X4_nextFree (a1 : Int32) (v : V3) (Q : Int32 → V3 → Prop) : Prop := ∀ v1 : V3, v1 = up2 v 7 11 0 → w_X4_isBetween ((a1).toInt64) ((v1 8 7).toInt64) 20000 v1 (fun r3 v2 => ((¬ r3 = 0 → ∃ m32 : Nat, w_X4_nextFree_32 Q m32 a1 a1 v2) ∧ (r3 = 0 → w_X4_fail 1 v2 (fun r10 v9 => Q r10 v9))))
set_option maxRecDepth 100000 in
set_option maxHeartbeats 4000000 in
theorem b_X4_nextFree_32 {p : Program} (l : Launch) {e : Env} {s : State} {m : MethodId} {args : Array Value} {below : List Frame} {meth : Method} {c : Code} {G : zG}   (C0 : Cx G RX4 cX4_nextFree 3 (some .int) p s m args meth c) {Q : Int32 → V3 → Prop} : ∀ (n : Nat) (x1 : Int32) (x2 : Int32) (v : V3) (H : Heap) (locs : List Loc) (ls : Array Slot), w_X4_nextFree_32 Q n x1 x2 v → Zs G s v H locs → lv_has ls 3 [(0, .ref (gad G 7)), (1, .int x1), (2, .int x2)] → W p l e { frames := 3, cells := 0, slots := 0, locals := 71 } s m args below meth c H locs 0 0 (MQ below (QiZ G Q) args s 0 0 (zA G)) (F0 m 32 ls []) := by
  have hx := C0.1
  have hb := C0.2.1
  intro n
  induction n with
  | zero =>
    intro x1 x2 v H locs ls hw Z hl
    exact hw.elim
  | succ n hK32 =>
    intro x1 x2 v H locs ls hw Z hl
    rw [w_X4_nextFree_32] at hw
    refine lv_iload_n hx hb dX4_nextFree_32 rfl (lv_at hl 2 rfl) ?_
    refine lv_iload_n hx hb dX4_nextFree_33 rfl (lv_at hl 1 rfl) ?_
    refine lv_sipush (v := 300) hx hb dX4_nextFree_34 (by decide) ?_
    refine lv_iadd hx hb dX4_nextFree_37 ?_
    refine lv_icmp_gt (tgt := 73) hx hb dX4_nextFree_38 (by decide) (fun c5 => ?_) (fun c5 => ?_)
    · replace hw := hw.1 c5
      refine lv_iconst (v := (-1)) hx hb dX4_nextFree_73 (by decide) ?_
      exact z_iret C0 Z hw dX4_nextFree_74
    · replace hw := hw.2 c5
      refine lv_aload_n hx hb dX4_nextFree_41 rfl (lv_at hl 0 rfl) ?_
      refine lv_aload_n hx hb dX4_nextFree_42 rfl (lv_at hl 0 rfl) ?_
      refine z_get C0 Z in_X4 rfl 8 (by decide) rfl tm_4_211 (cx_lt C0 (by decide)) rfl rfl dX4_nextFree_43 ?_
      refine lv_aload_n hx hb dX4_nextFree_46 rfl (lv_at hl 0 rfl) ?_
      refine z_get C0 Z in_X4 rfl 9 (by decide) rfl tm_4_212 (cx_lt C0 (by decide)) rfl rfl dX4_nextFree_47 ?_
      refine lv_iload_n hx hb dX4_nextFree_50 rfl (lv_at hl 2 rfl) ?_
      refine lv_iload_n hx hb dX4_nextFree_51 rfl (lv_at hl 2 rfl) ?_
      refine lv_aload_n hx hb dX4_nextFree_52 rfl (lv_at hl 0 rfl) ?_
      refine z_get C0 Z in_X4 rfl 10 (by decide) rfl tm_4_213 (cx_lt C0 (by decide)) rfl rfl dX4_nextFree_53 ?_
      refine lv_iadd hx hb dX4_nextFree_56 ?_
      refine lv_iconst (v := (-1)) hx hb dX4_nextFree_57 (by decide) ?_
      refine lv_iconst (v := (-1)) hx hb dX4_nextFree_58 (by decide) ?_
      refine z_callVi C0 Z hl.1 (As := [.int (v 7 8), .int (v 7 9), .int x2, .int (x2 + (v 7 10)), .int (-1), .int (-1)]) (rest := []) (k_X4_isTaken l (cx_g C0) hw) (gv_X4_isTaken tm_5_198) rfl ds_X4_isTaken ⟨Nat.le_of_ble_eq_true rfl, Nat.le_of_ble_eq_true rfl⟩ (ci := 4) rfl (cx_lt C0 (by decide)) rfl rfl rfl (Nat.le_of_ble_eq_true rfl) ⟨Nat.le_of_ble_eq_true rfl, Nat.le_of_ble_eq_true rfl⟩ dX4_nextFree_59 (fun r7 v6 H locs hw Z => ?_)
      refine lv_if_ne (tgt := 67) hx hb dX4_nextFree_62 (by decide) (fun c8 => ?_) (fun c8 => ?_)
      · replace hw := hw.1 c8
        refine lv_iinc (v := x2 + 1) (lv' := [(2, .int (x2 + 1)), (0, .ref (gad G 7)), (1, .int x1)]) hx hb dX4_nextFree_67 hl (k := 2) rfl rfl (by decide) rfl (fun ls hl => ?_)
        refine lv_goto (tgt := 32) hx hb dX4_nextFree_70 (by decide) ?_
        exact hK32 _ _ _ _ _ _ hw Z (lv_sub hl [1, 2, 0] rfl)
      · replace hw := hw.2 c8
        refine lv_iload_n hx hb dX4_nextFree_65 rfl (lv_at hl 2 rfl) ?_
        exact z_iret C0 Z hw dX4_nextFree_66
set_option maxRecDepth 100000 in
set_option maxHeartbeats 4000000 in
theorem k_X4_nextFree (l : Launch) {G : zG} (hg : 129 ≤ gn G) {a1 : Int32}  {v : V3} {Q : Int32 → V3 → Prop} (hw : w_X4_nextFree a1 v Q) : Mz l yX4_nextFree cX4_nextFree 3 (some .int) 3 71 G [.ref (gad G 7), .int a1] v (QiZ G Q) := by
  rw [w_X4_nextFree] at hw
  refine z_ofW hg (by decide) (Nat.le_of_ble_eq_true rfl) ?_
  intro p e s m args below meth c ls C0 Z hl
  have hx := C0.1
  have hb := C0.2.1
  replace hl : lv_has ls 3 [(0, .ref (gad G 7)), (1, .int a1)] := hl
  generalize s.heap = H at Z ⊢
  generalize ([] : List Loc) = locs at Z ⊢
  refine lv_aload_n hx hb dX4_nextFree_0 rfl (lv_at hl 0 rfl) ?_
  refine lv_iconst (v := 0) hx hb dX4_nextFree_1 (by decide) ?_
  refine z_put C0 Z in_X4 tyX4_ok nmX4 rfl 11 (by decide) rfl rfl tm_4_214 (cx_lt C0 (by decide)) rfl p_X4_11 (fun c' h => up2_off _ _ _ h) rfl rfl (Nat.le_of_ble_eq_true rfl) dX4_nextFree_2 (fun H locs Z => ?_)
  obtain ⟨v1, ev1⟩ : ∃ z : V3, z = up2 v 7 11 0 := ⟨_, rfl⟩
  rw [← ev1] at Z
  replace hw := hw v1 ev1
  refine lv_iload_n hx hb dX4_nextFree_5 rfl (lv_at hl 1 rfl) ?_
  refine lv_i2l (v := (a1).toInt64) hx hb dX4_nextFree_6 rfl ?_
  refine lv_aload_n hx hb dX4_nextFree_7 rfl (lv_at hl 0 rfl) ?_
  refine z_get C0 Z in_X4 rfl 0 (by decide) rfl tm_4_203 (cx_lt C0 (by decide)) rfl rfl dX4_nextFree_8 ?_
  refine lv_bipush (v := 7) hx hb dX4_nextFree_11 (by decide) ?_
  refine z_ialdk C0 Z (cx_lt C0 (by decide)) rfl in_7_474 nc_7 dX4_nextFree_13 ?_
  refine lv_i2l (v := (v1 8 7).toInt64) hx hb dX4_nextFree_14 rfl ?_
  refine lv_ldc2 hx hb (cx_own C0) (cx_w C0 tm_6_222) dX4_nextFree_15 ?_
  refine z_callSi C0 Z hl.1 (As := [.long ((a1).toInt64), .long ((v1 8 7).toInt64), .long 20000]) (rest := []) (k_X4_isBetween l (cx_g C0) hw) (gv_X4_isBetween tm_5_83) ds_X4_isBetween ⟨Nat.le_of_ble_eq_true rfl, Nat.le_of_ble_eq_true rfl⟩ rfl rfl (Nat.le_of_ble_eq_true rfl) ⟨Nat.le_of_ble_eq_true rfl, Nat.le_of_ble_eq_true rfl⟩ dX4_nextFree_18 (fun r3 v2 H locs hw Z => ?_)
  refine lv_if_ne (tgt := 30) hx hb dX4_nextFree_21 (by decide) (fun c4 => ?_) (fun c4 => ?_)
  · replace hw := hw.1 c4
    refine lv_iload_n hx hb dX4_nextFree_30 rfl (lv_at hl 1 rfl) ?_
    refine lv_istore_n (lv' := [(2, .int a1), (0, .ref (gad G 7)), (1, .int a1)]) hx hb dX4_nextFree_31 rfl hl (by decide) rfl (fun ls hl => ?_)
    obtain ⟨m32, hw⟩ := hw
    exact b_X4_nextFree_32 l C0 m32 _ _ _ _ _ _ hw Z (lv_sub hl [1, 2, 0] rfl)
  · replace hw := hw.2 c4
    refine lv_aload_n hx hb dX4_nextFree_24 rfl (lv_at hl 0 rfl) ?_
    refine lv_iconst (v := 1) hx hb dX4_nextFree_25 (by decide) ?_
    refine z_callVi C0 Z hl.1 (As := [.int 1]) (rest := []) (k_X4_fail l (cx_g C0) hw) (gv_X4_fail tm_5_75) rfl ds_X4_fail ⟨Nat.le_of_ble_eq_true rfl, Nat.le_of_ble_eq_true rfl⟩ (ci := 4) rfl (cx_lt C0 (by decide)) rfl rfl rfl (Nat.le_of_ble_eq_true rfl) ⟨Nat.le_of_ble_eq_true rfl, Nat.le_of_ble_eq_true rfl⟩ dX4_nextFree_26 (fun r10 v9 H locs hw Z => ?_)
    exact z_iret C0 Z hw dX4_nextFree_29
-- X4_mayWrite: room (3, 70)
theorem dX4_mayWrite_0 : decode cX4_mayWrite 0 = .ok (.aload_n 0, 1) := by decide +kernel
theorem dX4_mayWrite_1 : decode cX4_mayWrite 1 = .ok (.aload_n 0, 1) := by decide +kernel
theorem dX4_mayWrite_2 : decode cX4_mayWrite 2 = .ok (.iload_n 1, 1) := by decide +kernel
theorem dX4_mayWrite_3 : decode cX4_mayWrite 3 = .ok (.invokevirtual 245, 3) := by decide +kernel
theorem dX4_mayWrite_6 : decode cX4_mayWrite 6 = .ok (.ifCond .eq 12, 3) := by decide +kernel
theorem dX4_mayWrite_9 : decode cX4_mayWrite 9 = .ok (.aload_n 0, 1) := by decide +kernel
theorem dX4_mayWrite_10 : decode cX4_mayWrite 10 = .ok (.iload_n 2, 1) := by decide +kernel
theorem dX4_mayWrite_11 : decode cX4_mayWrite 11 = .ok (.iload_n 3, 1) := by decide +kernel
theorem dX4_mayWrite_12 : decode cX4_mayWrite 12 = .ok (.invokevirtual 258, 3) := by decide +kernel
theorem dX4_mayWrite_15 : decode cX4_mayWrite 15 = .ok (.ifCond .ne 7, 3) := by decide +kernel
theorem dX4_mayWrite_18 : decode cX4_mayWrite 18 = .ok (.iconst 1, 1) := by decide +kernel
theorem dX4_mayWrite_19 : decode cX4_mayWrite 19 = .ok (.goto 13, 3) := by decide +kernel
theorem dX4_mayWrite_22 : decode cX4_mayWrite 22 = .ok (.iload_n 3, 1) := by decide +kernel
theorem dX4_mayWrite_23 : decode cX4_mayWrite 23 = .ok (.iconst 1, 1) := by decide +kernel
theorem dX4_mayWrite_24 : decode cX4_mayWrite 24 = .ok (.if_icmp .ge 7, 3) := by decide +kernel
theorem dX4_mayWrite_27 : decode cX4_mayWrite 27 = .ok (.iconst 2, 1) := by decide +kernel
theorem dX4_mayWrite_28 : decode cX4_mayWrite 28 = .ok (.goto 4, 3) := by decide +kernel
theorem dX4_mayWrite_31 : decode cX4_mayWrite 31 = .ok (.iconst 0, 1) := by decide +kernel
theorem dX4_mayWrite_32 : decode cX4_mayWrite 32 = .ok (.putfield 55, 3) := by decide +kernel
theorem dX4_mayWrite_35 : decode cX4_mayWrite 35 = .ok (.aload_n 0, 1) := by decide +kernel
theorem dX4_mayWrite_36 : decode cX4_mayWrite 36 = .ok (.getfield 55, 3) := by decide +kernel
theorem dX4_mayWrite_39 : decode cX4_mayWrite 39 = .ok (.ifCond .ne 7, 3) := by decide +kernel
theorem dX4_mayWrite_42 : decode cX4_mayWrite 42 = .ok (.iconst 1, 1) := by decide +kernel
theorem dX4_mayWrite_43 : decode cX4_mayWrite 43 = .ok (.goto 4, 3) := by decide +kernel
theorem dX4_mayWrite_46 : decode cX4_mayWrite 46 = .ok (.iconst 0, 1) := by decide +kernel
theorem dX4_mayWrite_47 : decode cX4_mayWrite 47 = .ok (.istore 4, 2) := by decide +kernel
theorem dX4_mayWrite_49 : decode cX4_mayWrite 49 = .ok (.iload_n 2, 1) := by decide +kernel
theorem dX4_mayWrite_50 : decode cX4_mayWrite 50 = .ok (.istore 5, 2) := by decide +kernel
theorem dX4_mayWrite_52 : decode cX4_mayWrite 52 = .ok (.iload 4, 2) := by decide +kernel
theorem dX4_mayWrite_54 : decode cX4_mayWrite 54 = .ok (.ifCond .eq 68, 3) := by decide +kernel
theorem dX4_mayWrite_57 : decode cX4_mayWrite 57 = .ok (.iload 5, 2) := by decide +kernel
theorem dX4_mayWrite_59 : decode cX4_mayWrite 59 = .ok (.iload_n 2, 1) := by decide +kernel
theorem dX4_mayWrite_60 : decode cX4_mayWrite 60 = .ok (.iload_n 3, 1) := by decide +kernel
theorem dX4_mayWrite_61 : decode cX4_mayWrite 61 = .ok (.iadd, 1) := by decide +kernel
theorem dX4_mayWrite_62 : decode cX4_mayWrite 62 = .ok (.if_icmp .ge 60, 3) := by decide +kernel
theorem dX4_mayWrite_65 : decode cX4_mayWrite 65 = .ok (.aload_n 0, 1) := by decide +kernel
theorem dX4_mayWrite_66 : decode cX4_mayWrite 66 = .ok (.iload 5, 2) := by decide +kernel
theorem dX4_mayWrite_68 : decode cX4_mayWrite 68 = .ok (.aload_n 0, 1) := by decide +kernel
theorem dX4_mayWrite_69 : decode cX4_mayWrite 69 = .ok (.getfield 7, 3) := by decide +kernel
theorem dX4_mayWrite_72 : decode cX4_mayWrite 72 = .ok (.bipush 7, 2) := by decide +kernel
theorem dX4_mayWrite_74 : decode cX4_mayWrite 74 = .ok (.iaload, 1) := by decide +kernel
theorem dX4_mayWrite_75 : decode cX4_mayWrite 75 = .ok (.invokevirtual 217, 3) := by decide +kernel
theorem dX4_mayWrite_78 : decode cX4_mayWrite 78 = .ok (.istore 6, 2) := by decide +kernel
theorem dX4_mayWrite_80 : decode cX4_mayWrite 80 = .ok (.iload 6, 2) := by decide +kernel
theorem dX4_mayWrite_82 : decode cX4_mayWrite 82 = .ok (.iconst (-1), 1) := by decide +kernel
theorem dX4_mayWrite_83 : decode cX4_mayWrite 83 = .ok (.if_icmp .eq 30, 3) := by decide +kernel
theorem dX4_mayWrite_86 : decode cX4_mayWrite 86 = .ok (.aload_n 0, 1) := by decide +kernel
theorem dX4_mayWrite_87 : decode cX4_mayWrite 87 = .ok (.iload 6, 2) := by decide +kernel
theorem dX4_mayWrite_89 : decode cX4_mayWrite 89 = .ok (.bipush 7, 2) := by decide +kernel
theorem dX4_mayWrite_91 : decode cX4_mayWrite 91 = .ok (.invokevirtual 71, 3) := by decide +kernel
theorem dX4_mayWrite_94 : decode cX4_mayWrite 94 = .ok (.iconst 2, 1) := by decide +kernel
theorem dX4_mayWrite_95 : decode cX4_mayWrite 95 = .ok (.if_icmp .ne 18, 3) := by decide +kernel
theorem dX4_mayWrite_98 : decode cX4_mayWrite 98 = .ok (.aload_n 0, 1) := by decide +kernel
theorem dX4_mayWrite_99 : decode cX4_mayWrite 99 = .ok (.iload 6, 2) := by decide +kernel
theorem dX4_mayWrite_101 : decode cX4_mayWrite 101 = .ok (.iconst 0, 1) := by decide +kernel
theorem dX4_mayWrite_102 : decode cX4_mayWrite 102 = .ok (.invokevirtual 71, 3) := by decide +kernel
theorem dX4_mayWrite_105 : decode cX4_mayWrite 105 = .ok (.iload_n 1, 1) := by decide +kernel
theorem dX4_mayWrite_106 : decode cX4_mayWrite 106 = .ok (.if_icmp .ne 7, 3) := by decide +kernel
theorem dX4_mayWrite_109 : decode cX4_mayWrite 109 = .ok (.iconst 1, 1) := by decide +kernel
theorem dX4_mayWrite_110 : decode cX4_mayWrite 110 = .ok (.goto 4, 3) := by decide +kernel
theorem dX4_mayWrite_113 : decode cX4_mayWrite 113 = .ok (.iconst 0, 1) := by decide +kernel
theorem dX4_mayWrite_114 : decode cX4_mayWrite 114 = .ok (.istore 4, 2) := by decide +kernel
theorem dX4_mayWrite_116 : decode cX4_mayWrite 116 = .ok (.iinc 5 1, 3) := by decide +kernel
theorem dX4_mayWrite_119 : decode cX4_mayWrite 119 = .ok (.goto (-67), 3) := by decide +kernel
theorem dX4_mayWrite_122 : decode cX4_mayWrite 122 = .ok (.iload 4, 2) := by decide +kernel
theorem dX4_mayWrite_124 : decode cX4_mayWrite 124 = .ok (.ireturn, 1) := by decide +kernel
def w_X4_mayWrite_122  (Q : Int32 → V3 → Prop) (x4 : Int32) (v : V3) : Prop := (x4 = 0 ∨ x4 = 1) ∧ Q x4 v
def w_X4_mayWrite_114  (Q : Int32 → V3 → Prop) (K52 : Int32 → Int32 → Int32 → Int32 → Int32 → V3 → Prop) (x1 : Int32) (x2 : Int32) (x3 : Int32) (x5 : Int32) (s0 : Int32) (v : V3) : Prop := K52 x1 x2 x3 s0 (x5 + 1) v
def w_X4_mayWrite_113  (Q : Int32 → V3 → Prop) (K52 : Int32 → Int32 → Int32 → Int32 → Int32 → V3 → Prop) (x1 : Int32) (x2 : Int32) (x3 : Int32) (x5 : Int32) (v : V3) : Prop := w_X4_mayWrite_114 Q K52 x1 x2 x3 x5 0 v
def w_X4_mayWrite_52  (Q : Int32 → V3 → Prop) : Nat → Int32 → Int32 → Int32 → Int32 → Int32 → V3 → Prop
  | 0, _, _, _, _, _, _ => False
  | n52 + 1, x1, x2, x3, x4, x5, v => ((x4 = 0 → w_X4_mayWrite_122 Q x4 v) ∧ (¬ x4 = 0 → (((x2 + x3) ≤ x5 → w_X4_mayWrite_122 Q x4 v) ∧ (¬ (x2 + x3) ≤ x5 → w_X4_holderOf x5 (v 8 7) v (fun r10 v9 => ((r10 = (-1) → w_X4_mayWrite_113 Q (w_X4_mayWrite_52 Q n52) x1 x2 x3 x5 v9) ∧ (¬ r10 = (-1) → w_X4_of r10 7 v9 (fun r13 v12 => ((¬ r13 = 2 → w_X4_mayWrite_113 Q (w_X4_mayWrite_52 Q n52) x1 x2 x3 x5 v12) ∧ (r13 = 2 → w_X4_of r10 0 v12 (fun r16 v15 => ((¬ r16 = x1 → w_X4_mayWrite_113 Q (w_X4_mayWrite_52 Q n52) x1 x2 x3 x5 v15) ∧ (r16 = x1 → w_X4_mayWrite_114 Q (w_X4_mayWrite_52 Q n52) x1 x2 x3 x5 1 v15)))))))))))))
def w_X4_mayWrite_47  (Q : Int32 → V3 → Prop) (x1 : Int32) (x2 : Int32) (x3 : Int32) (s0 : Int32) (v : V3) : Prop := ∃ m52 : Nat, w_X4_mayWrite_52 Q m52 x1 x2 x3 s0 x2 v
def w_X4_mayWrite_32  (Q : Int32 → V3 → Prop) (x1 : Int32) (x2 : Int32) (x3 : Int32) (s1 : Int32) (v : V3) : Prop := ∀ v4 : V3, v4 = up2 v 7 11 s1 → ((¬ (v4 7 11) = 0 → w_X4_mayWrite_47 Q x1 x2 x3 0 v4) ∧ ((v4 7 11) = 0 → w_X4_mayWrite_47 Q x1 x2 x3 1 v4))
def w_X4_mayWrite_18  (Q : Int32 → V3 → Prop) (x1 : Int32) (x2 : Int32) (x3 : Int32) (v : V3) : Prop := w_X4_mayWrite_32 Q x1 x2 x3 1 v
def w_X4_mayWrite (a1 : Int32) (a2 : Int32) (a3 : Int32) (v : V3) (Q : Int32 → V3 → Prop) : Prop := w_X4_isOwner a1 v (fun r2 v1 => ((r2 = 0 → w_X4_mayWrite_18 Q a1 a2 a3 v1) ∧ (¬ r2 = 0 → w_X4_isSpan a2 a3 v1 (fun r19 v18 => ((¬ r19 = 0 → ((1 ≤ a3 → w_X4_mayWrite_32 Q a1 a2 a3 0 v18) ∧ (¬ 1 ≤ a3 → w_X4_mayWrite_32 Q a1 a2 a3 2 v18))) ∧ (r19 = 0 → w_X4_mayWrite_18 Q a1 a2 a3 v18))))))
set_option maxRecDepth 100000 in
set_option maxHeartbeats 4000000 in
theorem b_X4_mayWrite_122 {p : Program} (l : Launch) {e : Env} {s : State} {m : MethodId} {args : Array Value} {below : List Frame} {meth : Method} {c : Code} {G : zG}   (C0 : Cx G RX4 cX4_mayWrite 7 (some .boolean) p s m args meth c) {Q : Int32 → V3 → Prop} : ∀ (x4 : Int32) (v : V3) (H : Heap) (locs : List Loc) (ls : Array Slot), w_X4_mayWrite_122 Q x4 v → Zs G s v H locs → lv_has ls 7 [(4, .int x4)] → W p l e { frames := 3, cells := 0, slots := 0, locals := 70 } s m args below meth c H locs 0 0 (MQ below (QiZ G Q) args s 0 0 (zA G)) (F0 m 122 ls []) := by
  have hx := C0.1
  have hb := C0.2.1
  intro x4 v H locs ls hw Z hl
  rw [w_X4_mayWrite_122] at hw
  refine lv_iload hx hb dX4_mayWrite_122 (lv_at hl 0 rfl) ?_
  obtain ⟨h7, hw⟩ := hw
  exact z_zret C0 Z h7 hw dX4_mayWrite_124
set_option maxRecDepth 100000 in
set_option maxHeartbeats 4000000 in
theorem b_X4_mayWrite_114 {p : Program} (l : Launch) {e : Env} {s : State} {m : MethodId} {args : Array Value} {below : List Frame} {meth : Method} {c : Code} {G : zG}   (C0 : Cx G RX4 cX4_mayWrite 7 (some .boolean) p s m args meth c) {Q : Int32 → V3 → Prop} {K52 : Int32 → Int32 → Int32 → Int32 → Int32 → V3 → Prop} (hK52 : ∀ (x1 : Int32) (x2 : Int32) (x3 : Int32) (x4 : Int32) (x5 : Int32) (v : V3) (H : Heap) (locs : List Loc) (ls : Array Slot), K52 x1 x2 x3 x4 x5 v → Zs G s v H locs → lv_has ls 7 [(0, .ref (gad G 7)), (1, .int x1), (2, .int x2), (3, .int x3), (4, .int x4), (5, .int x5)] → W p l e { frames := 3, cells := 0, slots := 0, locals := 70 } s m args below meth c H locs 0 0 (MQ below (QiZ G Q) args s 0 0 (zA G)) (F0 m 52 ls [])) : ∀ (x1 : Int32) (x2 : Int32) (x3 : Int32) (x5 : Int32) (s0 : Int32) (v : V3) (H : Heap) (locs : List Loc) (ls : Array Slot), w_X4_mayWrite_114 Q K52 x1 x2 x3 x5 s0 v → Zs G s v H locs → lv_has ls 7 [(0, .ref (gad G 7)), (1, .int x1), (2, .int x2), (3, .int x3), (5, .int x5)] → W p l e { frames := 3, cells := 0, slots := 0, locals := 70 } s m args below meth c H locs 0 0 (MQ below (QiZ G Q) args s 0 0 (zA G)) (F0 m 114 ls [.int s0]) := by
  have hx := C0.1
  have hb := C0.2.1
  intro x1 x2 x3 x5 s0 v H locs ls hw Z hl
  rw [w_X4_mayWrite_114] at hw
  refine lv_istore (lv' := [(4, .int s0), (0, .ref (gad G 7)), (1, .int x1), (2, .int x2), (3, .int x3), (5, .int x5)]) hx hb dX4_mayWrite_114 hl (by decide) rfl (fun ls hl => ?_)
  refine lv_iinc (v := x5 + 1) (lv' := [(5, .int (x5 + 1)), (4, .int s0), (0, .ref (gad G 7)), (1, .int x1), (2, .int x2), (3, .int x3)]) hx hb dX4_mayWrite_116 hl (k := 5) rfl rfl (by decide) rfl (fun ls hl => ?_)
  refine lv_goto (tgt := 52) hx hb dX4_mayWrite_119 (by decide) ?_
  exact hK52 _ _ _ _ _ _ _ _ _ hw Z (lv_sub hl [2, 3, 4, 5, 1, 0] rfl)
set_option maxRecDepth 100000 in
set_option maxHeartbeats 4000000 in
theorem b_X4_mayWrite_113 {p : Program} (l : Launch) {e : Env} {s : State} {m : MethodId} {args : Array Value} {below : List Frame} {meth : Method} {c : Code} {G : zG}   (C0 : Cx G RX4 cX4_mayWrite 7 (some .boolean) p s m args meth c) {Q : Int32 → V3 → Prop} {K52 : Int32 → Int32 → Int32 → Int32 → Int32 → V3 → Prop} (hK52 : ∀ (x1 : Int32) (x2 : Int32) (x3 : Int32) (x4 : Int32) (x5 : Int32) (v : V3) (H : Heap) (locs : List Loc) (ls : Array Slot), K52 x1 x2 x3 x4 x5 v → Zs G s v H locs → lv_has ls 7 [(0, .ref (gad G 7)), (1, .int x1), (2, .int x2), (3, .int x3), (4, .int x4), (5, .int x5)] → W p l e { frames := 3, cells := 0, slots := 0, locals := 70 } s m args below meth c H locs 0 0 (MQ below (QiZ G Q) args s 0 0 (zA G)) (F0 m 52 ls [])) : ∀ (x1 : Int32) (x2 : Int32) (x3 : Int32) (x5 : Int32) (v : V3) (H : Heap) (locs : List Loc) (ls : Array Slot), w_X4_mayWrite_113 Q K52 x1 x2 x3 x5 v → Zs G s v H locs → lv_has ls 7 [(0, .ref (gad G 7)), (1, .int x1), (2, .int x2), (3, .int x3), (5, .int x5)] → W p l e { frames := 3, cells := 0, slots := 0, locals := 70 } s m args below meth c H locs 0 0 (MQ below (QiZ G Q) args s 0 0 (zA G)) (F0 m 113 ls []) := by
  have hx := C0.1
  have hb := C0.2.1
  intro x1 x2 x3 x5 v H locs ls hw Z hl
  rw [w_X4_mayWrite_113] at hw
  refine lv_iconst (v := 0) hx hb dX4_mayWrite_113 (by decide) ?_
  exact b_X4_mayWrite_114 l C0 hK52 _ _ _ _ _ _ _ _ _ hw Z (lv_sub hl [0, 1, 2, 3, 4] rfl)
set_option maxRecDepth 100000 in
set_option maxHeartbeats 4000000 in
theorem b_X4_mayWrite_52 {p : Program} (l : Launch) {e : Env} {s : State} {m : MethodId} {args : Array Value} {below : List Frame} {meth : Method} {c : Code} {G : zG}   (C0 : Cx G RX4 cX4_mayWrite 7 (some .boolean) p s m args meth c) {Q : Int32 → V3 → Prop} : ∀ (n : Nat) (x1 : Int32) (x2 : Int32) (x3 : Int32) (x4 : Int32) (x5 : Int32) (v : V3) (H : Heap) (locs : List Loc) (ls : Array Slot), w_X4_mayWrite_52 Q n x1 x2 x3 x4 x5 v → Zs G s v H locs → lv_has ls 7 [(0, .ref (gad G 7)), (1, .int x1), (2, .int x2), (3, .int x3), (4, .int x4), (5, .int x5)] → W p l e { frames := 3, cells := 0, slots := 0, locals := 70 } s m args below meth c H locs 0 0 (MQ below (QiZ G Q) args s 0 0 (zA G)) (F0 m 52 ls []) := by
  have hx := C0.1
  have hb := C0.2.1
  intro n
  induction n with
  | zero =>
    intro x1 x2 x3 x4 x5 v H locs ls hw Z hl
    exact hw.elim
  | succ n hK52 =>
    intro x1 x2 x3 x4 x5 v H locs ls hw Z hl
    rw [w_X4_mayWrite_52] at hw
    refine lv_iload hx hb dX4_mayWrite_52 (lv_at hl 4 rfl) ?_
    refine lv_if_eq (tgt := 122) hx hb dX4_mayWrite_54 (by decide) (fun c6 => ?_) (fun c6 => ?_)
    · replace hw := hw.1 c6
      exact b_X4_mayWrite_122 l C0 _ _ _ _ _ hw Z (lv_sub hl [4] rfl)
    · replace hw := hw.2 c6
      refine lv_iload hx hb dX4_mayWrite_57 (lv_at hl 5 rfl) ?_
      refine lv_iload_n hx hb dX4_mayWrite_59 rfl (lv_at hl 2 rfl) ?_
      refine lv_iload_n hx hb dX4_mayWrite_60 rfl (lv_at hl 3 rfl) ?_
      refine lv_iadd hx hb dX4_mayWrite_61 ?_
      refine lv_icmp_ge (tgt := 122) hx hb dX4_mayWrite_62 (by decide) (fun c8 => ?_) (fun c8 => ?_)
      · replace hw := hw.1 c8
        exact b_X4_mayWrite_122 l C0 _ _ _ _ _ hw Z (lv_sub hl [4] rfl)
      · replace hw := hw.2 c8
        refine lv_aload_n hx hb dX4_mayWrite_65 rfl (lv_at hl 0 rfl) ?_
        refine lv_iload hx hb dX4_mayWrite_66 (lv_at hl 5 rfl) ?_
        refine lv_aload_n hx hb dX4_mayWrite_68 rfl (lv_at hl 0 rfl) ?_
        refine z_get C0 Z in_X4 rfl 0 (by decide) rfl tm_4_203 (cx_lt C0 (by decide)) rfl rfl dX4_mayWrite_69 ?_
        refine lv_bipush (v := 7) hx hb dX4_mayWrite_72 (by decide) ?_
        refine z_ialdk C0 Z (cx_lt C0 (by decide)) rfl in_7_474 nc_7 dX4_mayWrite_74 ?_
        refine z_callVi C0 Z hl.1 (As := [.int x5, .int (v 8 7)]) (rest := []) (k_X4_holderOf l (cx_g C0) hw) (gv_X4_holderOf tm_6_5) rfl ds_X4_holderOf ⟨Nat.le_of_ble_eq_true rfl, Nat.le_of_ble_eq_true rfl⟩ (ci := 4) rfl (cx_lt C0 (by decide)) rfl rfl rfl (Nat.le_of_ble_eq_true rfl) ⟨Nat.le_of_ble_eq_true rfl, Nat.le_of_ble_eq_true rfl⟩ dX4_mayWrite_75 (fun r10 v9 H locs hw Z => ?_)
        refine lv_istore (lv' := [(6, .int r10), (0, .ref (gad G 7)), (1, .int x1), (2, .int x2), (3, .int x3), (4, .int x4), (5, .int x5)]) hx hb dX4_mayWrite_78 hl (by decide) rfl (fun ls hl => ?_)
        refine lv_iload hx hb dX4_mayWrite_80 (lv_at hl 0 rfl) ?_
        refine lv_iconst (v := (-1)) hx hb dX4_mayWrite_82 (by decide) ?_
        refine lv_icmp_eq (tgt := 113) hx hb dX4_mayWrite_83 (by decide) (fun c11 => ?_) (fun c11 => ?_)
        · replace hw := hw.1 c11
          exact b_X4_mayWrite_113 l C0 hK52 _ _ _ _ _ _ _ _ hw Z (lv_sub hl [1, 2, 3, 4, 6] rfl)
        · replace hw := hw.2 c11
          refine lv_aload_n hx hb dX4_mayWrite_86 rfl (lv_at hl 1 rfl) ?_
          refine lv_iload hx hb dX4_mayWrite_87 (lv_at hl 0 rfl) ?_
          refine lv_bipush (v := 7) hx hb dX4_mayWrite_89 (by decide) ?_
          refine z_callVi C0 Z hl.1 (As := [.int r10, .int 7]) (rest := []) (k_X4_of l (cx_g C0) hw) (gv_X4_of tm_5_163) rfl ds_X4_of ⟨Nat.le_of_ble_eq_true rfl, Nat.le_of_ble_eq_true rfl⟩ (ci := 4) rfl (cx_lt C0 (by decide)) rfl rfl rfl (Nat.le_of_ble_eq_true rfl) ⟨Nat.le_of_ble_eq_true rfl, Nat.le_of_ble_eq_true rfl⟩ dX4_mayWrite_91 (fun r13 v12 H locs hw Z => ?_)
          refine lv_iconst (v := 2) hx hb dX4_mayWrite_94 (by decide) ?_
          refine lv_icmp_ne (tgt := 113) hx hb dX4_mayWrite_95 (by decide) (fun c14 => ?_) (fun c14 => ?_)
          · replace hw := hw.1 c14
            exact b_X4_mayWrite_113 l C0 hK52 _ _ _ _ _ _ _ _ hw Z (lv_sub hl [1, 2, 3, 4, 6] rfl)
          · replace hw := hw.2 c14
            refine lv_aload_n hx hb dX4_mayWrite_98 rfl (lv_at hl 1 rfl) ?_
            refine lv_iload hx hb dX4_mayWrite_99 (lv_at hl 0 rfl) ?_
            refine lv_iconst (v := 0) hx hb dX4_mayWrite_101 (by decide) ?_
            refine z_callVi C0 Z hl.1 (As := [.int r10, .int 0]) (rest := []) (k_X4_of l (cx_g C0) hw) (gv_X4_of tm_5_163) rfl ds_X4_of ⟨Nat.le_of_ble_eq_true rfl, Nat.le_of_ble_eq_true rfl⟩ (ci := 4) rfl (cx_lt C0 (by decide)) rfl rfl rfl (Nat.le_of_ble_eq_true rfl) ⟨Nat.le_of_ble_eq_true rfl, Nat.le_of_ble_eq_true rfl⟩ dX4_mayWrite_102 (fun r16 v15 H locs hw Z => ?_)
            refine lv_iload_n hx hb dX4_mayWrite_105 rfl (lv_at hl 2 rfl) ?_
            refine lv_icmp_ne (tgt := 113) hx hb dX4_mayWrite_106 (by decide) (fun c17 => ?_) (fun c17 => ?_)
            · replace hw := hw.1 c17
              exact b_X4_mayWrite_113 l C0 hK52 _ _ _ _ _ _ _ _ hw Z (lv_sub hl [1, 2, 3, 4, 6] rfl)
            · replace hw := hw.2 c17
              refine lv_iconst (v := 1) hx hb dX4_mayWrite_109 (by decide) ?_
              refine lv_goto (tgt := 114) hx hb dX4_mayWrite_110 (by decide) ?_
              exact b_X4_mayWrite_114 l C0 hK52 _ _ _ _ _ _ _ _ _ hw Z (lv_sub hl [1, 2, 3, 4, 6] rfl)
set_option maxRecDepth 100000 in
set_option maxHeartbeats 4000000 in
theorem b_X4_mayWrite_47 {p : Program} (l : Launch) {e : Env} {s : State} {m : MethodId} {args : Array Value} {below : List Frame} {meth : Method} {c : Code} {G : zG}   (C0 : Cx G RX4 cX4_mayWrite 7 (some .boolean) p s m args meth c) {Q : Int32 → V3 → Prop} : ∀ (x1 : Int32) (x2 : Int32) (x3 : Int32) (s0 : Int32) (v : V3) (H : Heap) (locs : List Loc) (ls : Array Slot), w_X4_mayWrite_47 Q x1 x2 x3 s0 v → Zs G s v H locs → lv_has ls 7 [(0, .ref (gad G 7)), (1, .int x1), (2, .int x2), (3, .int x3)] → W p l e { frames := 3, cells := 0, slots := 0, locals := 70 } s m args below meth c H locs 0 0 (MQ below (QiZ G Q) args s 0 0 (zA G)) (F0 m 47 ls [.int s0]) := by
  have hx := C0.1
  have hb := C0.2.1
  intro x1 x2 x3 s0 v H locs ls hw Z hl
  rw [w_X4_mayWrite_47] at hw
  refine lv_istore (lv' := [(4, .int s0), (0, .ref (gad G 7)), (1, .int x1), (2, .int x2), (3, .int x3)]) hx hb dX4_mayWrite_47 hl (by decide) rfl (fun ls hl => ?_)
  refine lv_iload_n hx hb dX4_mayWrite_49 rfl (lv_at hl 3 rfl) ?_
  refine lv_istore (lv' := [(5, .int x2), (4, .int s0), (0, .ref (gad G 7)), (1, .int x1), (2, .int x2), (3, .int x3)]) hx hb dX4_mayWrite_50 hl (by decide) rfl (fun ls hl => ?_)
  obtain ⟨m52, hw⟩ := hw
  exact b_X4_mayWrite_52 l C0 m52 _ _ _ _ _ _ _ _ _ hw Z (lv_sub hl [2, 3, 4, 5, 1, 0] rfl)
set_option maxRecDepth 100000 in
set_option maxHeartbeats 4000000 in
theorem b_X4_mayWrite_32 {p : Program} (l : Launch) {e : Env} {s : State} {m : MethodId} {args : Array Value} {below : List Frame} {meth : Method} {c : Code} {G : zG}   (C0 : Cx G RX4 cX4_mayWrite 7 (some .boolean) p s m args meth c) {Q : Int32 → V3 → Prop} : ∀ (x1 : Int32) (x2 : Int32) (x3 : Int32) (s1 : Int32) (v : V3) (H : Heap) (locs : List Loc) (ls : Array Slot), w_X4_mayWrite_32 Q x1 x2 x3 s1 v → Zs G s v H locs → lv_has ls 7 [(0, .ref (gad G 7)), (1, .int x1), (2, .int x2), (3, .int x3)] → W p l e { frames := 3, cells := 0, slots := 0, locals := 70 } s m args below meth c H locs 0 0 (MQ below (QiZ G Q) args s 0 0 (zA G)) (F0 m 32 ls [.int s1, .ref (gad G 7)]) := by
  have hx := C0.1
  have hb := C0.2.1
  intro x1 x2 x3 s1 v H locs ls hw Z hl
  rw [w_X4_mayWrite_32] at hw
  refine z_put C0 Z in_X4 tyX4_ok nmX4 rfl 11 (by decide) rfl rfl tm_4_214 (cx_lt C0 (by decide)) rfl p_X4_11 (fun c' h => up2_off _ _ _ h) rfl rfl (Nat.le_of_ble_eq_true rfl) dX4_mayWrite_32 (fun H locs Z => ?_)
  obtain ⟨v4, ev4⟩ : ∃ z : V3, z = up2 v 7 11 s1 := ⟨_, rfl⟩
  rw [← ev4] at Z
  replace hw := hw v4 ev4
  refine lv_aload_n hx hb dX4_mayWrite_35 rfl (lv_at hl 0 rfl) ?_
  refine z_get C0 Z in_X4 rfl 11 (by decide) rfl tm_4_214 (cx_lt C0 (by decide)) rfl rfl dX4_mayWrite_36 ?_
  refine lv_if_ne (tgt := 46) hx hb dX4_mayWrite_39 (by decide) (fun c5 => ?_) (fun c5 => ?_)
  · replace hw := hw.1 c5
    refine lv_iconst (v := 0) hx hb dX4_mayWrite_46 (by decide) ?_
    exact b_X4_mayWrite_47 l C0 _ _ _ _ _ _ _ _ hw Z (lv_sub hl [0, 1, 2, 3] rfl)
  · replace hw := hw.2 c5
    refine lv_iconst (v := 1) hx hb dX4_mayWrite_42 (by decide) ?_
    refine lv_goto (tgt := 47) hx hb dX4_mayWrite_43 (by decide) ?_
    exact b_X4_mayWrite_47 l C0 _ _ _ _ _ _ _ _ hw Z (lv_sub hl [0, 1, 2, 3] rfl)
set_option maxRecDepth 100000 in
set_option maxHeartbeats 4000000 in
theorem b_X4_mayWrite_18 {p : Program} (l : Launch) {e : Env} {s : State} {m : MethodId} {args : Array Value} {below : List Frame} {meth : Method} {c : Code} {G : zG}   (C0 : Cx G RX4 cX4_mayWrite 7 (some .boolean) p s m args meth c) {Q : Int32 → V3 → Prop} : ∀ (x1 : Int32) (x2 : Int32) (x3 : Int32) (v : V3) (H : Heap) (locs : List Loc) (ls : Array Slot), w_X4_mayWrite_18 Q x1 x2 x3 v → Zs G s v H locs → lv_has ls 7 [(0, .ref (gad G 7)), (1, .int x1), (2, .int x2), (3, .int x3)] → W p l e { frames := 3, cells := 0, slots := 0, locals := 70 } s m args below meth c H locs 0 0 (MQ below (QiZ G Q) args s 0 0 (zA G)) (F0 m 18 ls [.ref (gad G 7)]) := by
  have hx := C0.1
  have hb := C0.2.1
  intro x1 x2 x3 v H locs ls hw Z hl
  rw [w_X4_mayWrite_18] at hw
  refine lv_iconst (v := 1) hx hb dX4_mayWrite_18 (by decide) ?_
  refine lv_goto (tgt := 32) hx hb dX4_mayWrite_19 (by decide) ?_
  exact b_X4_mayWrite_32 l C0 _ _ _ _ _ _ _ _ hw Z (lv_sub hl [0, 1, 2, 3] rfl)
set_option maxRecDepth 100000 in
set_option maxHeartbeats 4000000 in
theorem k_X4_mayWrite (l : Launch) {G : zG} (hg : 129 ≤ gn G) {a1 : Int32} {a2 : Int32} {a3 : Int32}  {v : V3} {Q : Int32 → V3 → Prop} (hw : w_X4_mayWrite a1 a2 a3 v Q) : Mz l yX4_mayWrite cX4_mayWrite 7 (some .boolean) 3 70 G [.ref (gad G 7), .int a1, .int a2, .int a3] v (QiZ G Q) := by
  rw [w_X4_mayWrite] at hw
  refine z_ofW hg (by decide) (Nat.le_of_ble_eq_true rfl) ?_
  intro p e s m args below meth c ls C0 Z hl
  have hx := C0.1
  have hb := C0.2.1
  replace hl : lv_has ls 7 [(0, .ref (gad G 7)), (1, .int a1), (2, .int a2), (3, .int a3)] := hl
  generalize s.heap = H at Z ⊢
  generalize ([] : List Loc) = locs at Z ⊢
  refine lv_aload_n hx hb dX4_mayWrite_0 rfl (lv_at hl 0 rfl) ?_
  refine lv_aload_n hx hb dX4_mayWrite_1 rfl (lv_at hl 0 rfl) ?_
  refine lv_iload_n hx hb dX4_mayWrite_2 rfl (lv_at hl 1 rfl) ?_
  refine z_callVi C0 Z hl.1 (As := [.int a1]) (rest := [.ref (gad G 7)]) (k_X4_isOwner l (cx_g C0) hw) (gv_X4_isOwner tm_6_18) rfl ds_X4_isOwner ⟨Nat.le_of_ble_eq_true rfl, Nat.le_of_ble_eq_true rfl⟩ (ci := 4) rfl (cx_lt C0 (by decide)) rfl rfl rfl (Nat.le_of_ble_eq_true rfl) ⟨Nat.le_of_ble_eq_true rfl, Nat.le_of_ble_eq_true rfl⟩ dX4_mayWrite_3 (fun r2 v1 H locs hw Z => ?_)
  refine lv_if_eq (tgt := 18) hx hb dX4_mayWrite_6 (by decide) (fun c3 => ?_) (fun c3 => ?_)
  · replace hw := hw.1 c3
    exact b_X4_mayWrite_18 l C0 _ _ _ _ _ _ _ hw Z (lv_sub hl [0, 1, 2, 3] rfl)
  · replace hw := hw.2 c3
    refine lv_aload_n hx hb dX4_mayWrite_9 rfl (lv_at hl 0 rfl) ?_
    refine lv_iload_n hx hb dX4_mayWrite_10 rfl (lv_at hl 2 rfl) ?_
    refine lv_iload_n hx hb dX4_mayWrite_11 rfl (lv_at hl 3 rfl) ?_
    refine z_callVi C0 Z hl.1 (As := [.int a2, .int a3]) (rest := [.ref (gad G 7)]) (k_X4_isSpan l (cx_g C0) hw) (gv_X4_isSpan tm_6_60) rfl ds_X4_isSpan ⟨Nat.le_of_ble_eq_true rfl, Nat.le_of_ble_eq_true rfl⟩ (ci := 4) rfl (cx_lt C0 (by decide)) rfl rfl rfl (Nat.le_of_ble_eq_true rfl) ⟨Nat.le_of_ble_eq_true rfl, Nat.le_of_ble_eq_true rfl⟩ dX4_mayWrite_12 (fun r19 v18 H locs hw Z => ?_)
    refine lv_if_ne (tgt := 22) hx hb dX4_mayWrite_15 (by decide) (fun c20 => ?_) (fun c20 => ?_)
    · replace hw := hw.1 c20
      refine lv_iload_n hx hb dX4_mayWrite_22 rfl (lv_at hl 3 rfl) ?_
      refine lv_iconst (v := 1) hx hb dX4_mayWrite_23 (by decide) ?_
      refine lv_icmp_ge (tgt := 31) hx hb dX4_mayWrite_24 (by decide) (fun c21 => ?_) (fun c21 => ?_)
      · replace hw := hw.1 c21
        refine lv_iconst (v := 0) hx hb dX4_mayWrite_31 (by decide) ?_
        exact b_X4_mayWrite_32 l C0 _ _ _ _ _ _ _ _ hw Z (lv_sub hl [0, 1, 2, 3] rfl)
      · replace hw := hw.2 c21
        refine lv_iconst (v := 2) hx hb dX4_mayWrite_27 (by decide) ?_
        refine lv_goto (tgt := 32) hx hb dX4_mayWrite_28 (by decide) ?_
        exact b_X4_mayWrite_32 l C0 _ _ _ _ _ _ _ _ hw Z (lv_sub hl [0, 1, 2, 3] rfl)
    · replace hw := hw.2 c20
      exact b_X4_mayWrite_18 l C0 _ _ _ _ _ _ _ hw Z (lv_sub hl [0, 1, 2, 3] rfl)
-- X4_waitsFor: room (8, 180)
theorem dX4_waitsFor_0 : decode cX4_waitsFor 0 = .ok (.aload_n 0, 1) := by decide +kernel
theorem dX4_waitsFor_1 : decode cX4_waitsFor 1 = .ok (.iconst 0, 1) := by decide +kernel
theorem dX4_waitsFor_2 : decode cX4_waitsFor 2 = .ok (.putfield 55, 3) := by decide +kernel
theorem dX4_waitsFor_5 : decode cX4_waitsFor 5 = .ok (.aload_n 0, 1) := by decide +kernel
theorem dX4_waitsFor_6 : decode cX4_waitsFor 6 = .ok (.iload_n 1, 1) := by decide +kernel
theorem dX4_waitsFor_7 : decode cX4_waitsFor 7 = .ok (.invokevirtual 290, 3) := by decide +kernel
theorem dX4_waitsFor_10 : decode cX4_waitsFor 10 = .ok (.ifCond .ne 9, 3) := by decide +kernel
theorem dX4_waitsFor_13 : decode cX4_waitsFor 13 = .ok (.aload_n 0, 1) := by decide +kernel
theorem dX4_waitsFor_14 : decode cX4_waitsFor 14 = .ok (.iconst 1, 1) := by decide +kernel
theorem dX4_waitsFor_15 : decode cX4_waitsFor 15 = .ok (.invokevirtual 78, 3) := by decide +kernel
theorem dX4_waitsFor_18 : decode cX4_waitsFor 18 = .ok (.ireturn, 1) := by decide +kernel
theorem dX4_waitsFor_19 : decode cX4_waitsFor 19 = .ok (.iload_n 2, 1) := by decide +kernel
theorem dX4_waitsFor_20 : decode cX4_waitsFor 20 = .ok (.i2l, 1) := by decide +kernel
theorem dX4_waitsFor_21 : decode cX4_waitsFor 21 = .ok (.lconst 1, 1) := by decide +kernel
theorem dX4_waitsFor_22 : decode cX4_waitsFor 22 = .ok (.ldc2_w 376, 3) := by decide +kernel
theorem dX4_waitsFor_25 : decode cX4_waitsFor 25 = .ok (.invokestatic 67, 3) := by decide +kernel
theorem dX4_waitsFor_28 : decode cX4_waitsFor 28 = .ok (.ifCond .ne 9, 3) := by decide +kernel
theorem dX4_waitsFor_31 : decode cX4_waitsFor 31 = .ok (.aload_n 0, 1) := by decide +kernel
theorem dX4_waitsFor_32 : decode cX4_waitsFor 32 = .ok (.iconst 2, 1) := by decide +kernel
theorem dX4_waitsFor_33 : decode cX4_waitsFor 33 = .ok (.invokevirtual 78, 3) := by decide +kernel
theorem dX4_waitsFor_36 : decode cX4_waitsFor 36 = .ok (.ireturn, 1) := by decide +kernel
theorem dX4_waitsFor_37 : decode cX4_waitsFor 37 = .ok (.aload_n 0, 1) := by decide +kernel
theorem dX4_waitsFor_38 : decode cX4_waitsFor 38 = .ok (.getfield 7, 3) := by decide +kernel
theorem dX4_waitsFor_41 : decode cX4_waitsFor 41 = .ok (.iconst 0, 1) := by decide +kernel
theorem dX4_waitsFor_42 : decode cX4_waitsFor 42 = .ok (.aload_n 0, 1) := by decide +kernel
theorem dX4_waitsFor_43 : decode cX4_waitsFor 43 = .ok (.getfield 16, 3) := by decide +kernel
theorem dX4_waitsFor_46 : decode cX4_waitsFor 46 = .ok (.iconst 0, 1) := by decide +kernel
theorem dX4_waitsFor_47 : decode cX4_waitsFor 47 = .ok (.invokestatic 184, 3) := by decide +kernel
theorem dX4_waitsFor_50 : decode cX4_waitsFor 50 = .ok (.iconst 0, 1) := by decide +kernel
theorem dX4_waitsFor_51 : decode cX4_waitsFor 51 = .ok (.istore_n 3, 1) := by decide +kernel
theorem dX4_waitsFor_52 : decode cX4_waitsFor 52 = .ok (.iload_n 3, 1) := by decide +kernel
theorem dX4_waitsFor_53 : decode cX4_waitsFor 53 = .ok (.iload_n 2, 1) := by decide +kernel
theorem dX4_waitsFor_54 : decode cX4_waitsFor 54 = .ok (.if_icmp .ge 23, 3) := by decide +kernel
theorem dX4_waitsFor_57 : decode cX4_waitsFor 57 = .ok (.aload_n 0, 1) := by decide +kernel
theorem dX4_waitsFor_58 : decode cX4_waitsFor 58 = .ok (.iload_n 1, 1) := by decide +kernel
theorem dX4_waitsFor_59 : decode cX4_waitsFor 59 = .ok (.bipush 7, 2) := by decide +kernel
theorem dX4_waitsFor_61 : decode cX4_waitsFor 61 = .ok (.invokevirtual 71, 3) := by decide +kernel
theorem dX4_waitsFor_64 : decode cX4_waitsFor 64 = .ok (.ifCond .ne 13, 3) := by decide +kernel
theorem dX4_waitsFor_67 : decode cX4_waitsFor 67 = .ok (.aload_n 0, 1) := by decide +kernel
theorem dX4_waitsFor_68 : decode cX4_waitsFor 68 = .ok (.invokevirtual 373, 3) := by decide +kernel
theorem dX4_waitsFor_71 : decode cX4_waitsFor 71 = .ok (.iinc 3 1, 3) := by decide +kernel
theorem dX4_waitsFor_74 : decode cX4_waitsFor 74 = .ok (.goto (-22), 3) := by decide +kernel
theorem dX4_waitsFor_77 : decode cX4_waitsFor 77 = .ok (.aload_n 0, 1) := by decide +kernel
theorem dX4_waitsFor_78 : decode cX4_waitsFor 78 = .ok (.iload_n 1, 1) := by decide +kernel
theorem dX4_waitsFor_79 : decode cX4_waitsFor 79 = .ok (.bipush 7, 2) := by decide +kernel
theorem dX4_waitsFor_81 : decode cX4_waitsFor 81 = .ok (.invokevirtual 71, 3) := by decide +kernel
theorem dX4_waitsFor_84 : decode cX4_waitsFor 84 = .ok (.ifCond .eq 7, 3) := by decide +kernel
theorem dX4_waitsFor_87 : decode cX4_waitsFor 87 = .ok (.iconst 1, 1) := by decide +kernel
theorem dX4_waitsFor_88 : decode cX4_waitsFor 88 = .ok (.goto 4, 3) := by decide +kernel
theorem dX4_waitsFor_91 : decode cX4_waitsFor 91 = .ok (.iconst 0, 1) := by decide +kernel
theorem dX4_waitsFor_92 : decode cX4_waitsFor 92 = .ok (.istore 4, 2) := by decide +kernel
theorem dX4_waitsFor_94 : decode cX4_waitsFor 94 = .ok (.aload_n 0, 1) := by decide +kernel
theorem dX4_waitsFor_95 : decode cX4_waitsFor 95 = .ok (.getfield 16, 3) := by decide +kernel
theorem dX4_waitsFor_98 : decode cX4_waitsFor 98 = .ok (.iconst 0, 1) := by decide +kernel
theorem dX4_waitsFor_99 : decode cX4_waitsFor 99 = .ok (.aload_n 0, 1) := by decide +kernel
theorem dX4_waitsFor_100 : decode cX4_waitsFor 100 = .ok (.getfield 7, 3) := by decide +kernel
theorem dX4_waitsFor_103 : decode cX4_waitsFor 103 = .ok (.iconst 0, 1) := by decide +kernel
theorem dX4_waitsFor_104 : decode cX4_waitsFor 104 = .ok (.invokestatic 184, 3) := by decide +kernel
theorem dX4_waitsFor_107 : decode cX4_waitsFor 107 = .ok (.iload 4, 2) := by decide +kernel
theorem dX4_waitsFor_109 : decode cX4_waitsFor 109 = .ok (.ifCond .eq 7, 3) := by decide +kernel
theorem dX4_waitsFor_112 : decode cX4_waitsFor 112 = .ok (.iload_n 3, 1) := by decide +kernel
theorem dX4_waitsFor_113 : decode cX4_waitsFor 113 = .ok (.goto 4, 3) := by decide +kernel
theorem dX4_waitsFor_116 : decode cX4_waitsFor 116 = .ok (.iconst (-1), 1) := by decide +kernel
theorem dX4_waitsFor_117 : decode cX4_waitsFor 117 = .ok (.ireturn, 1) := by decide +kernel
def w_X4_waitsFor_117  (Q : Int32 → V3 → Prop) (s0 : Int32) (v : V3) : Prop := Q s0 v
def w_X4_waitsFor_92  (Q : Int32 → V3 → Prop) (x3 : Int32) (s0 : Int32) (v : V3) : Prop := w_X4_copy 10 474 0 8 474 0 v (fun v13 => ((s0 = 0 → w_X4_waitsFor_117 Q (-1) v13) ∧ (¬ s0 = 0 → w_X4_waitsFor_117 Q x3 v13)))
def w_X4_waitsFor_77  (Q : Int32 → V3 → Prop) (x1 : Int32) (x3 : Int32) (v : V3) : Prop := w_X4_of x1 7 v (fun r11 v10 => ((r11 = 0 → w_X4_waitsFor_92 Q x3 0 v10) ∧ (¬ r11 = 0 → w_X4_waitsFor_92 Q x3 1 v10)))
def w_X4_waitsFor_52  (Q : Int32 → V3 → Prop) : Nat → Int32 → Int32 → Int32 → V3 → Prop
  | 0, _, _, _, _ => False
  | n52 + 1, x1, x2, x3, v => ((x2 ≤ x3 → w_X4_waitsFor_77 Q x1 x3 v) ∧ (¬ x2 ≤ x3 → w_X4_of x1 7 v (fun r16 v15 => ((¬ r16 = 0 → w_X4_waitsFor_77 Q x1 x3 v15) ∧ (r16 = 0 → w_X4_passTick v15 (fun v18 => (w_X4_waitsFor_52 Q n52) x1 x2 (x3 + 1) v18))))))
def w_X4_waitsFor (a1 : Int32) (a2 : Int32) (v : V3) (Q : Int32 → V3 → Prop) : Prop := ∀ v1 : V3, v1 = up2 v 7 11 0 → w_X4_isBooking a1 v1 (fun r3 v2 => ((¬ r3 = 0 → w_X4_isBetween ((a2).toInt64) 1 200 v2 (fun r6 v5 => ((¬ r6 = 0 → w_X4_copy 8 474 0 10 474 0 v5 (fun v8 => ∃ m52 : Nat, w_X4_waitsFor_52 Q m52 a1 a2 0 v8)) ∧ (r6 = 0 → w_X4_fail 2 v5 (fun r20 v19 => Q r20 v19))))) ∧ (r3 = 0 → w_X4_fail 1 v2 (fun r22 v21 => Q r22 v21))))
set_option maxRecDepth 100000 in
set_option maxHeartbeats 4000000 in
theorem b_X4_waitsFor_117 {p : Program} (l : Launch) {e : Env} {s : State} {m : MethodId} {args : Array Value} {below : List Frame} {meth : Method} {c : Code} {G : zG}   (C0 : Cx G RX4 cX4_waitsFor 5 (some .int) p s m args meth c) {Q : Int32 → V3 → Prop} : ∀ (s0 : Int32) (v : V3) (H : Heap) (locs : List Loc) (ls : Array Slot), w_X4_waitsFor_117 Q s0 v → Zs G s v H locs → lv_has ls 5 [] → W p l e { frames := 8, cells := 0, slots := 0, locals := 180 } s m args below meth c H locs 0 0 (MQ below (QiZ G Q) args s 0 0 (zA G)) (F0 m 117 ls [.int s0]) := by
  have hx := C0.1
  have hb := C0.2.1
  intro s0 v H locs ls hw Z hl
  rw [w_X4_waitsFor_117] at hw
  exact z_iret C0 Z hw dX4_waitsFor_117
set_option maxRecDepth 100000 in
set_option maxHeartbeats 4000000 in
theorem b_X4_waitsFor_92 {p : Program} (l : Launch) {e : Env} {s : State} {m : MethodId} {args : Array Value} {below : List Frame} {meth : Method} {c : Code} {G : zG}   (C0 : Cx G RX4 cX4_waitsFor 5 (some .int) p s m args meth c) {Q : Int32 → V3 → Prop} : ∀ (x3 : Int32) (s0 : Int32) (v : V3) (H : Heap) (locs : List Loc) (ls : Array Slot), w_X4_waitsFor_92 Q x3 s0 v → Zs G s v H locs → lv_has ls 5 [(0, .ref (gad G 7)), (3, .int x3)] → W p l e { frames := 8, cells := 0, slots := 0, locals := 180 } s m args below meth c H locs 0 0 (MQ below (QiZ G Q) args s 0 0 (zA G)) (F0 m 92 ls [.int s0]) := by
  have hx := C0.1
  have hb := C0.2.1
  intro x3 s0 v H locs ls hw Z hl
  rw [w_X4_waitsFor_92] at hw
  refine lv_istore (lv' := [(4, .int s0), (0, .ref (gad G 7)), (3, .int x3)]) hx hb dX4_waitsFor_92 hl (by decide) rfl (fun ls hl => ?_)
  refine lv_aload_n hx hb dX4_waitsFor_94 rfl (lv_at hl 1 rfl) ?_
  refine z_get C0 Z in_X4 rfl 2 (by decide) rfl tm_4_205 (cx_lt C0 (by decide)) rfl rfl dX4_waitsFor_95 ?_
  refine lv_iconst (v := 0) hx hb dX4_waitsFor_98 (by decide) ?_
  refine lv_aload_n hx hb dX4_waitsFor_99 rfl (lv_at hl 1 rfl) ?_
  refine z_get C0 Z in_X4 rfl 0 (by decide) rfl tm_4_203 (cx_lt C0 (by decide)) rfl rfl dX4_waitsFor_100 ?_
  refine lv_iconst (v := 0) hx hb dX4_waitsFor_103 (by decide) ?_
  refine z_callSv C0 Z hl.1 (As := [.ref (gad G 10), .int 0, .ref (gad G 8), .int 0]) (rest := []) (k_X4_copy l (cx_g C0) ⟨(cx_lt C0 (by decide)), (fun _ => rfl)⟩ ⟨(cx_lt C0 (by decide)), (fun _ => rfl)⟩ hw) (gv_X4_copy tm_5_90) ds_X4_copy ⟨Nat.le_of_ble_eq_true rfl, Nat.le_of_ble_eq_true rfl⟩ rfl rfl (Nat.le_of_ble_eq_true rfl) ⟨Nat.le_of_ble_eq_true rfl, Nat.le_of_ble_eq_true rfl⟩ dX4_waitsFor_104 (fun v13 H locs hw Z => ?_)
  refine lv_iload hx hb dX4_waitsFor_107 (lv_at hl 0 rfl) ?_
  refine lv_if_eq (tgt := 116) hx hb dX4_waitsFor_109 (by decide) (fun c14 => ?_) (fun c14 => ?_)
  · replace hw := hw.1 c14
    refine lv_iconst (v := (-1)) hx hb dX4_waitsFor_116 (by decide) ?_
    exact b_X4_waitsFor_117 l C0 _ _ _ _ _ hw Z (lv_sub hl [] rfl)
  · replace hw := hw.2 c14
    refine lv_iload_n hx hb dX4_waitsFor_112 rfl (lv_at hl 2 rfl) ?_
    refine lv_goto (tgt := 117) hx hb dX4_waitsFor_113 (by decide) ?_
    exact b_X4_waitsFor_117 l C0 _ _ _ _ _ hw Z (lv_sub hl [] rfl)
set_option maxRecDepth 100000 in
set_option maxHeartbeats 4000000 in
theorem b_X4_waitsFor_77 {p : Program} (l : Launch) {e : Env} {s : State} {m : MethodId} {args : Array Value} {below : List Frame} {meth : Method} {c : Code} {G : zG}   (C0 : Cx G RX4 cX4_waitsFor 5 (some .int) p s m args meth c) {Q : Int32 → V3 → Prop} : ∀ (x1 : Int32) (x3 : Int32) (v : V3) (H : Heap) (locs : List Loc) (ls : Array Slot), w_X4_waitsFor_77 Q x1 x3 v → Zs G s v H locs → lv_has ls 5 [(0, .ref (gad G 7)), (1, .int x1), (3, .int x3)] → W p l e { frames := 8, cells := 0, slots := 0, locals := 180 } s m args below meth c H locs 0 0 (MQ below (QiZ G Q) args s 0 0 (zA G)) (F0 m 77 ls []) := by
  have hx := C0.1
  have hb := C0.2.1
  intro x1 x3 v H locs ls hw Z hl
  rw [w_X4_waitsFor_77] at hw
  refine lv_aload_n hx hb dX4_waitsFor_77 rfl (lv_at hl 0 rfl) ?_
  refine lv_iload_n hx hb dX4_waitsFor_78 rfl (lv_at hl 1 rfl) ?_
  refine lv_bipush (v := 7) hx hb dX4_waitsFor_79 (by decide) ?_
  refine z_callVi C0 Z hl.1 (As := [.int x1, .int 7]) (rest := []) (k_X4_of l (cx_g C0) hw) (gv_X4_of tm_5_163) rfl ds_X4_of ⟨Nat.le_of_ble_eq_true rfl, Nat.le_of_ble_eq_true rfl⟩ (ci := 4) rfl (cx_lt C0 (by decide)) rfl rfl rfl (Nat.le_of_ble_eq_true rfl) ⟨Nat.le_of_ble_eq_true rfl, Nat.le_of_ble_eq_true rfl⟩ dX4_waitsFor_81 (fun r11 v10 H locs hw Z => ?_)
  refine lv_if_eq (tgt := 91) hx hb dX4_waitsFor_84 (by decide) (fun c12 => ?_) (fun c12 => ?_)
  · replace hw := hw.1 c12
    refine lv_iconst (v := 0) hx hb dX4_waitsFor_91 (by decide) ?_
    exact b_X4_waitsFor_92 l C0 _ _ _ _ _ _ hw Z (lv_sub hl [0, 2] rfl)
  · replace hw := hw.2 c12
    refine lv_iconst (v := 1) hx hb dX4_waitsFor_87 (by decide) ?_
    refine lv_goto (tgt := 92) hx hb dX4_waitsFor_88 (by decide) ?_
    exact b_X4_waitsFor_92 l C0 _ _ _ _ _ _ hw Z (lv_sub hl [0, 2] rfl)
set_option maxRecDepth 100000 in
set_option maxHeartbeats 4000000 in
theorem b_X4_waitsFor_52 {p : Program} (l : Launch) {e : Env} {s : State} {m : MethodId} {args : Array Value} {below : List Frame} {meth : Method} {c : Code} {G : zG}   (C0 : Cx G RX4 cX4_waitsFor 5 (some .int) p s m args meth c) {Q : Int32 → V3 → Prop} : ∀ (n : Nat) (x1 : Int32) (x2 : Int32) (x3 : Int32) (v : V3) (H : Heap) (locs : List Loc) (ls : Array Slot), w_X4_waitsFor_52 Q n x1 x2 x3 v → Zs G s v H locs → lv_has ls 5 [(0, .ref (gad G 7)), (1, .int x1), (2, .int x2), (3, .int x3)] → W p l e { frames := 8, cells := 0, slots := 0, locals := 180 } s m args below meth c H locs 0 0 (MQ below (QiZ G Q) args s 0 0 (zA G)) (F0 m 52 ls []) := by
  have hx := C0.1
  have hb := C0.2.1
  intro n
  induction n with
  | zero =>
    intro x1 x2 x3 v H locs ls hw Z hl
    exact hw.elim
  | succ n hK52 =>
    intro x1 x2 x3 v H locs ls hw Z hl
    rw [w_X4_waitsFor_52] at hw
    refine lv_iload_n hx hb dX4_waitsFor_52 rfl (lv_at hl 3 rfl) ?_
    refine lv_iload_n hx hb dX4_waitsFor_53 rfl (lv_at hl 2 rfl) ?_
    refine lv_icmp_ge (tgt := 77) hx hb dX4_waitsFor_54 (by decide) (fun c9 => ?_) (fun c9 => ?_)
    · replace hw := hw.1 c9
      exact b_X4_waitsFor_77 l C0 _ _ _ _ _ _ hw Z (lv_sub hl [0, 1, 3] rfl)
    · replace hw := hw.2 c9
      refine lv_aload_n hx hb dX4_waitsFor_57 rfl (lv_at hl 0 rfl) ?_
      refine lv_iload_n hx hb dX4_waitsFor_58 rfl (lv_at hl 1 rfl) ?_
      refine lv_bipush (v := 7) hx hb dX4_waitsFor_59 (by decide) ?_
      refine z_callVi C0 Z hl.1 (As := [.int x1, .int 7]) (rest := []) (k_X4_of l (cx_g C0) hw) (gv_X4_of tm_5_163) rfl ds_X4_of ⟨Nat.le_of_ble_eq_true rfl, Nat.le_of_ble_eq_true rfl⟩ (ci := 4) rfl (cx_lt C0 (by decide)) rfl rfl rfl (Nat.le_of_ble_eq_true rfl) ⟨Nat.le_of_ble_eq_true rfl, Nat.le_of_ble_eq_true rfl⟩ dX4_waitsFor_61 (fun r16 v15 H locs hw Z => ?_)
      refine lv_if_ne (tgt := 77) hx hb dX4_waitsFor_64 (by decide) (fun c17 => ?_) (fun c17 => ?_)
      · replace hw := hw.1 c17
        exact b_X4_waitsFor_77 l C0 _ _ _ _ _ _ hw Z (lv_sub hl [0, 1, 3] rfl)
      · replace hw := hw.2 c17
        refine lv_aload_n hx hb dX4_waitsFor_67 rfl (lv_at hl 0 rfl) ?_
        refine z_callVv C0 Z hl.1 (As := []) (rest := []) (k_X4_passTick l (cx_g C0) hw) (gv_X4_passTick tm_6_184) rfl ds_X4_passTick ⟨Nat.le_of_ble_eq_true rfl, Nat.le_of_ble_eq_true rfl⟩ (ci := 4) rfl (cx_lt C0 (by decide)) rfl rfl rfl (Nat.le_of_ble_eq_true rfl) ⟨Nat.le_of_ble_eq_true rfl, Nat.le_of_ble_eq_true rfl⟩ dX4_waitsFor_68 (fun v18 H locs hw Z => ?_)
        refine lv_iinc (v := x3 + 1) (lv' := [(3, .int (x3 + 1)), (0, .ref (gad G 7)), (1, .int x1), (2, .int x2)]) hx hb dX4_waitsFor_71 hl (k := 3) rfl rfl (by decide) rfl (fun ls hl => ?_)
        refine lv_goto (tgt := 52) hx hb dX4_waitsFor_74 (by decide) ?_
        exact hK52 _ _ _ _ _ _ _ hw Z (lv_sub hl [1, 2, 3, 0] rfl)
set_option maxRecDepth 100000 in
set_option maxHeartbeats 4000000 in
theorem k_X4_waitsFor (l : Launch) {G : zG} (hg : 129 ≤ gn G) {a1 : Int32} {a2 : Int32}  {v : V3} {Q : Int32 → V3 → Prop} (hw : w_X4_waitsFor a1 a2 v Q) : Mz l yX4_waitsFor cX4_waitsFor 5 (some .int) 8 180 G [.ref (gad G 7), .int a1, .int a2] v (QiZ G Q) := by
  rw [w_X4_waitsFor] at hw
  refine z_ofW hg (by decide) (Nat.le_of_ble_eq_true rfl) ?_
  intro p e s m args below meth c ls C0 Z hl
  have hx := C0.1
  have hb := C0.2.1
  replace hl : lv_has ls 5 [(0, .ref (gad G 7)), (1, .int a1), (2, .int a2)] := hl
  generalize s.heap = H at Z ⊢
  generalize ([] : List Loc) = locs at Z ⊢
  refine lv_aload_n hx hb dX4_waitsFor_0 rfl (lv_at hl 0 rfl) ?_
  refine lv_iconst (v := 0) hx hb dX4_waitsFor_1 (by decide) ?_
  refine z_put C0 Z in_X4 tyX4_ok nmX4 rfl 11 (by decide) rfl rfl tm_4_214 (cx_lt C0 (by decide)) rfl p_X4_11 (fun c' h => up2_off _ _ _ h) rfl rfl (Nat.le_of_ble_eq_true rfl) dX4_waitsFor_2 (fun H locs Z => ?_)
  obtain ⟨v1, ev1⟩ : ∃ z : V3, z = up2 v 7 11 0 := ⟨_, rfl⟩
  rw [← ev1] at Z
  replace hw := hw v1 ev1
  refine lv_aload_n hx hb dX4_waitsFor_5 rfl (lv_at hl 0 rfl) ?_
  refine lv_iload_n hx hb dX4_waitsFor_6 rfl (lv_at hl 1 rfl) ?_
  refine z_callVi C0 Z hl.1 (As := [.int a1]) (rest := []) (k_X4_isBooking l (cx_g C0) hw) (gv_X4_isBooking tm_6_75) rfl ds_X4_isBooking ⟨Nat.le_of_ble_eq_true rfl, Nat.le_of_ble_eq_true rfl⟩ (ci := 4) rfl (cx_lt C0 (by decide)) rfl rfl rfl (Nat.le_of_ble_eq_true rfl) ⟨Nat.le_of_ble_eq_true rfl, Nat.le_of_ble_eq_true rfl⟩ dX4_waitsFor_7 (fun r3 v2 H locs hw Z => ?_)
  refine lv_if_ne (tgt := 19) hx hb dX4_waitsFor_10 (by decide) (fun c4 => ?_) (fun c4 => ?_)
  · replace hw := hw.1 c4
    refine lv_iload_n hx hb dX4_waitsFor_19 rfl (lv_at hl 2 rfl) ?_
    refine lv_i2l (v := (a2).toInt64) hx hb dX4_waitsFor_20 rfl ?_
    refine lv_lconst (v := 1) hx hb dX4_waitsFor_21 (by decide) ?_
    refine lv_ldc2 hx hb (cx_own C0) (cx_w C0 tm_6_179) dX4_waitsFor_22 ?_
    refine z_callSi C0 Z hl.1 (As := [.long ((a2).toInt64), .long 1, .long 200]) (rest := []) (k_X4_isBetween l (cx_g C0) hw) (gv_X4_isBetween tm_5_83) ds_X4_isBetween ⟨Nat.le_of_ble_eq_true rfl, Nat.le_of_ble_eq_true rfl⟩ rfl rfl (Nat.le_of_ble_eq_true rfl) ⟨Nat.le_of_ble_eq_true rfl, Nat.le_of_ble_eq_true rfl⟩ dX4_waitsFor_25 (fun r6 v5 H locs hw Z => ?_)
    refine lv_if_ne (tgt := 37) hx hb dX4_waitsFor_28 (by decide) (fun c7 => ?_) (fun c7 => ?_)
    · replace hw := hw.1 c7
      refine lv_aload_n hx hb dX4_waitsFor_37 rfl (lv_at hl 0 rfl) ?_
      refine z_get C0 Z in_X4 rfl 0 (by decide) rfl tm_4_203 (cx_lt C0 (by decide)) rfl rfl dX4_waitsFor_38 ?_
      refine lv_iconst (v := 0) hx hb dX4_waitsFor_41 (by decide) ?_
      refine lv_aload_n hx hb dX4_waitsFor_42 rfl (lv_at hl 0 rfl) ?_
      refine z_get C0 Z in_X4 rfl 2 (by decide) rfl tm_4_205 (cx_lt C0 (by decide)) rfl rfl dX4_waitsFor_43 ?_
      refine lv_iconst (v := 0) hx hb dX4_waitsFor_46 (by decide) ?_
      refine z_callSv C0 Z hl.1 (As := [.ref (gad G 8), .int 0, .ref (gad G 10), .int 0]) (rest := []) (k_X4_copy l (cx_g C0) ⟨(cx_lt C0 (by decide)), (fun _ => rfl)⟩ ⟨(cx_lt C0 (by decide)), (fun _ => rfl)⟩ hw) (gv_X4_copy tm_5_90) ds_X4_copy ⟨Nat.le_of_ble_eq_true rfl, Nat.le_of_ble_eq_true rfl⟩ rfl rfl (Nat.le_of_ble_eq_true rfl) ⟨Nat.le_of_ble_eq_true rfl, Nat.le_of_ble_eq_true rfl⟩ dX4_waitsFor_47 (fun v8 H locs hw Z => ?_)
      refine lv_iconst (v := 0) hx hb dX4_waitsFor_50 (by decide) ?_
      refine lv_istore_n (lv' := [(3, .int 0), (0, .ref (gad G 7)), (1, .int a1), (2, .int a2)]) hx hb dX4_waitsFor_51 rfl hl (by decide) rfl (fun ls hl => ?_)
      obtain ⟨m52, hw⟩ := hw
      exact b_X4_waitsFor_52 l C0 m52 _ _ _ _ _ _ _ hw Z (lv_sub hl [1, 2, 3, 0] rfl)
    · replace hw := hw.2 c7
      refine lv_aload_n hx hb dX4_waitsFor_31 rfl (lv_at hl 0 rfl) ?_
      refine lv_iconst (v := 2) hx hb dX4_waitsFor_32 (by decide) ?_
      refine z_callVi C0 Z hl.1 (As := [.int 2]) (rest := []) (k_X4_fail l (cx_g C0) hw) (gv_X4_fail tm_5_75) rfl ds_X4_fail ⟨Nat.le_of_ble_eq_true rfl, Nat.le_of_ble_eq_true rfl⟩ (ci := 4) rfl (cx_lt C0 (by decide)) rfl rfl rfl (Nat.le_of_ble_eq_true rfl) ⟨Nat.le_of_ble_eq_true rfl, Nat.le_of_ble_eq_true rfl⟩ dX4_waitsFor_33 (fun r20 v19 H locs hw Z => ?_)
      exact z_iret C0 Z hw dX4_waitsFor_36
  · replace hw := hw.2 c4
    refine lv_aload_n hx hb dX4_waitsFor_13 rfl (lv_at hl 0 rfl) ?_
    refine lv_iconst (v := 1) hx hb dX4_waitsFor_14 (by decide) ?_
    refine z_callVi C0 Z hl.1 (As := [.int 1]) (rest := []) (k_X4_fail l (cx_g C0) hw) (gv_X4_fail tm_5_75) rfl ds_X4_fail ⟨Nat.le_of_ble_eq_true rfl, Nat.le_of_ble_eq_true rfl⟩ (ci := 4) rfl (cx_lt C0 (by decide)) rfl rfl rfl (Nat.le_of_ble_eq_true rfl) ⟨Nat.le_of_ble_eq_true rfl, Nat.le_of_ble_eq_true rfl⟩ dX4_waitsFor_15 (fun r22 v21 H locs hw Z => ?_)
    exact z_iret C0 Z hw dX4_waitsFor_18
-- X4_ahead: room (9, 202)
theorem dX4_ahead_0 : decode cX4_ahead 0 = .ok (.aload_n 0, 1) := by decide +kernel
theorem dX4_ahead_1 : decode cX4_ahead 1 = .ok (.iconst 0, 1) := by decide +kernel
theorem dX4_ahead_2 : decode cX4_ahead 2 = .ok (.putfield 55, 3) := by decide +kernel
theorem dX4_ahead_5 : decode cX4_ahead 5 = .ok (.iload_n 1, 1) := by decide +kernel
theorem dX4_ahead_6 : decode cX4_ahead 6 = .ok (.i2l, 1) := by decide +kernel
theorem dX4_ahead_7 : decode cX4_ahead 7 = .ok (.lconst 1, 1) := by decide +kernel
theorem dX4_ahead_8 : decode cX4_ahead 8 = .ok (.ldc2_w 376, 3) := by decide +kernel
theorem dX4_ahead_11 : decode cX4_ahead 11 = .ok (.invokestatic 67, 3) := by decide +kernel
theorem dX4_ahead_14 : decode cX4_ahead 14 = .ok (.ifCond .eq 15, 3) := by decide +kernel
theorem dX4_ahead_17 : decode cX4_ahead 17 = .ok (.iload_n 2, 1) := by decide +kernel
theorem dX4_ahead_18 : decode cX4_ahead 18 = .ok (.i2l, 1) := by decide +kernel
theorem dX4_ahead_19 : decode cX4_ahead 19 = .ok (.lconst 0, 1) := by decide +kernel
theorem dX4_ahead_20 : decode cX4_ahead 20 = .ok (.ldc2_w 208, 3) := by decide +kernel
theorem dX4_ahead_23 : decode cX4_ahead 23 = .ok (.invokestatic 67, 3) := by decide +kernel
theorem dX4_ahead_26 : decode cX4_ahead 26 = .ok (.ifCond .ne 9, 3) := by decide +kernel
theorem dX4_ahead_29 : decode cX4_ahead 29 = .ok (.aload_n 0, 1) := by decide +kernel
theorem dX4_ahead_30 : decode cX4_ahead 30 = .ok (.iconst 1, 1) := by decide +kernel
theorem dX4_ahead_31 : decode cX4_ahead 31 = .ok (.invokevirtual 78, 3) := by decide +kernel
theorem dX4_ahead_34 : decode cX4_ahead 34 = .ok (.ireturn, 1) := by decide +kernel
theorem dX4_ahead_35 : decode cX4_ahead 35 = .ok (.aload_n 0, 1) := by decide +kernel
theorem dX4_ahead_36 : decode cX4_ahead 36 = .ok (.getfield 7, 3) := by decide +kernel
theorem dX4_ahead_39 : decode cX4_ahead 39 = .ok (.iconst 0, 1) := by decide +kernel
theorem dX4_ahead_40 : decode cX4_ahead 40 = .ok (.aload_n 0, 1) := by decide +kernel
theorem dX4_ahead_41 : decode cX4_ahead 41 = .ok (.getfield 16, 3) := by decide +kernel
theorem dX4_ahead_44 : decode cX4_ahead 44 = .ok (.iconst 0, 1) := by decide +kernel
theorem dX4_ahead_45 : decode cX4_ahead 45 = .ok (.invokestatic 184, 3) := by decide +kernel
theorem dX4_ahead_48 : decode cX4_ahead 48 = .ok (.aload_n 0, 1) := by decide +kernel
theorem dX4_ahead_49 : decode cX4_ahead 49 = .ok (.iload_n 1, 1) := by decide +kernel
theorem dX4_ahead_50 : decode cX4_ahead 50 = .ok (.invokevirtual 378, 3) := by decide +kernel
theorem dX4_ahead_53 : decode cX4_ahead 53 = .ok (.aload_n 0, 1) := by decide +kernel
theorem dX4_ahead_54 : decode cX4_ahead 54 = .ok (.getfield 16, 3) := by decide +kernel
theorem dX4_ahead_57 : decode cX4_ahead 57 = .ok (.iconst 0, 1) := by decide +kernel
theorem dX4_ahead_58 : decode cX4_ahead 58 = .ok (.aload_n 0, 1) := by decide +kernel
theorem dX4_ahead_59 : decode cX4_ahead 59 = .ok (.getfield 7, 3) := by decide +kernel
theorem dX4_ahead_62 : decode cX4_ahead 62 = .ok (.iconst 0, 1) := by decide +kernel
theorem dX4_ahead_63 : decode cX4_ahead 63 = .ok (.invokestatic 184, 3) := by decide +kernel
theorem dX4_ahead_66 : decode cX4_ahead 66 = .ok (.iload_n 2, 1) := by decide +kernel
theorem dX4_ahead_67 : decode cX4_ahead 67 = .ok (.ifCond .ne 10, 3) := by decide +kernel
theorem dX4_ahead_70 : decode cX4_ahead 70 = .ok (.aload_n 0, 1) := by decide +kernel
theorem dX4_ahead_71 : decode cX4_ahead 71 = .ok (.getfield 358, 3) := by decide +kernel
theorem dX4_ahead_74 : decode cX4_ahead 74 = .ok (.goto 31, 3) := by decide +kernel
theorem dX4_ahead_77 : decode cX4_ahead 77 = .ok (.iload_n 2, 1) := by decide +kernel
theorem dX4_ahead_78 : decode cX4_ahead 78 = .ok (.iconst 1, 1) := by decide +kernel
theorem dX4_ahead_79 : decode cX4_ahead 79 = .ok (.if_icmp .ne 10, 3) := by decide +kernel
theorem dX4_ahead_82 : decode cX4_ahead 82 = .ok (.aload_n 0, 1) := by decide +kernel
theorem dX4_ahead_83 : decode cX4_ahead 83 = .ok (.getfield 361, 3) := by decide +kernel
theorem dX4_ahead_86 : decode cX4_ahead 86 = .ok (.goto 19, 3) := by decide +kernel
theorem dX4_ahead_89 : decode cX4_ahead 89 = .ok (.iload_n 2, 1) := by decide +kernel
theorem dX4_ahead_90 : decode cX4_ahead 90 = .ok (.iconst 2, 1) := by decide +kernel
theorem dX4_ahead_91 : decode cX4_ahead 91 = .ok (.if_icmp .ne 10, 3) := by decide +kernel
theorem dX4_ahead_94 : decode cX4_ahead 94 = .ok (.aload_n 0, 1) := by decide +kernel
theorem dX4_ahead_95 : decode cX4_ahead 95 = .ok (.getfield 302, 3) := by decide +kernel
theorem dX4_ahead_98 : decode cX4_ahead 98 = .ok (.goto 7, 3) := by decide +kernel
theorem dX4_ahead_101 : decode cX4_ahead 101 = .ok (.aload_n 0, 1) := by decide +kernel
theorem dX4_ahead_102 : decode cX4_ahead 102 = .ok (.getfield 355, 3) := by decide +kernel
theorem dX4_ahead_105 : decode cX4_ahead 105 = .ok (.ireturn, 1) := by decide +kernel
def w_X4_ahead_29  (Q : Int32 → V3 → Prop) (v : V3) : Prop := w_X4_fail 1 v (fun r6 v5 => Q r6 v5)
def w_X4_ahead_105  (Q : Int32 → V3 → Prop) (s0 : Int32) (v : V3) : Prop := Q s0 v
def w_X4_ahead (a1 : Int32) (a2 : Int32) (v : V3) (Q : Int32 → V3 → Prop) : Prop := ∀ v1 : V3, v1 = up2 v 7 11 0 → w_X4_isBetween ((a1).toInt64) 1 200 v1 (fun r3 v2 => ((r3 = 0 → w_X4_ahead_29 Q v2) ∧ (¬ r3 = 0 → w_X4_isBetween ((a2).toInt64) 0 3 v2 (fun r8 v7 => ((¬ r8 = 0 → w_X4_copy 8 474 0 10 474 0 v7 (fun v10 => w_X4_passTicks a1 v10 (fun v11 => w_X4_copy 10 474 0 8 474 0 v11 (fun v12 => ((¬ a2 = 0 → ((¬ a2 = 1 → ((¬ a2 = 2 → w_X4_ahead_105 Q (v12 7 27) v12) ∧ (a2 = 2 → w_X4_ahead_105 Q (v12 7 24) v12))) ∧ (a2 = 1 → w_X4_ahead_105 Q (v12 7 26) v12))) ∧ (a2 = 0 → w_X4_ahead_105 Q (v12 7 25) v12)))))) ∧ (r8 = 0 → w_X4_ahead_29 Q v7))))))
set_option maxRecDepth 100000 in
set_option maxHeartbeats 4000000 in
theorem b_X4_ahead_29 {p : Program} (l : Launch) {e : Env} {s : State} {m : MethodId} {args : Array Value} {below : List Frame} {meth : Method} {c : Code} {G : zG}   (C0 : Cx G RX4 cX4_ahead 3 (some .int) p s m args meth c) {Q : Int32 → V3 → Prop} : ∀ (v : V3) (H : Heap) (locs : List Loc) (ls : Array Slot), w_X4_ahead_29 Q v → Zs G s v H locs → lv_has ls 3 [(0, .ref (gad G 7))] → W p l e { frames := 9, cells := 0, slots := 0, locals := 202 } s m args below meth c H locs 0 0 (MQ below (QiZ G Q) args s 0 0 (zA G)) (F0 m 29 ls []) := by
  have hx := C0.1
  have hb := C0.2.1
  intro v H locs ls hw Z hl
  rw [w_X4_ahead_29] at hw
  refine lv_aload_n hx hb dX4_ahead_29 rfl (lv_at hl 0 rfl) ?_
  refine lv_iconst (v := 1) hx hb dX4_ahead_30 (by decide) ?_
  refine z_callVi C0 Z hl.1 (As := [.int 1]) (rest := []) (k_X4_fail l (cx_g C0) hw) (gv_X4_fail tm_5_75) rfl ds_X4_fail ⟨Nat.le_of_ble_eq_true rfl, Nat.le_of_ble_eq_true rfl⟩ (ci := 4) rfl (cx_lt C0 (by decide)) rfl rfl rfl (Nat.le_of_ble_eq_true rfl) ⟨Nat.le_of_ble_eq_true rfl, Nat.le_of_ble_eq_true rfl⟩ dX4_ahead_31 (fun r6 v5 H locs hw Z => ?_)
  exact z_iret C0 Z hw dX4_ahead_34
set_option maxRecDepth 100000 in
set_option maxHeartbeats 4000000 in
theorem b_X4_ahead_105 {p : Program} (l : Launch) {e : Env} {s : State} {m : MethodId} {args : Array Value} {below : List Frame} {meth : Method} {c : Code} {G : zG}   (C0 : Cx G RX4 cX4_ahead 3 (some .int) p s m args meth c) {Q : Int32 → V3 → Prop} : ∀ (s0 : Int32) (v : V3) (H : Heap) (locs : List Loc) (ls : Array Slot), w_X4_ahead_105 Q s0 v → Zs G s v H locs → lv_has ls 3 [] → W p l e { frames := 9, cells := 0, slots := 0, locals := 202 } s m args below meth c H locs 0 0 (MQ below (QiZ G Q) args s 0 0 (zA G)) (F0 m 105 ls [.int s0]) := by
  have hx := C0.1
  have hb := C0.2.1
  intro s0 v H locs ls hw Z hl
  rw [w_X4_ahead_105] at hw
  exact z_iret C0 Z hw dX4_ahead_105
set_option maxRecDepth 100000 in
set_option maxHeartbeats 4000000 in
theorem k_X4_ahead (l : Launch) {G : zG} (hg : 129 ≤ gn G) {a1 : Int32} {a2 : Int32}  {v : V3} {Q : Int32 → V3 → Prop} (hw : w_X4_ahead a1 a2 v Q) : Mz l yX4_ahead cX4_ahead 3 (some .int) 9 202 G [.ref (gad G 7), .int a1, .int a2] v (QiZ G Q) := by
  rw [w_X4_ahead] at hw
  refine z_ofW hg (by decide) (Nat.le_of_ble_eq_true rfl) ?_
  intro p e s m args below meth c ls C0 Z hl
  have hx := C0.1
  have hb := C0.2.1
  replace hl : lv_has ls 3 [(0, .ref (gad G 7)), (1, .int a1), (2, .int a2)] := hl
  generalize s.heap = H at Z ⊢
  generalize ([] : List Loc) = locs at Z ⊢
  refine lv_aload_n hx hb dX4_ahead_0 rfl (lv_at hl 0 rfl) ?_
  refine lv_iconst (v := 0) hx hb dX4_ahead_1 (by decide) ?_
  refine z_put C0 Z in_X4 tyX4_ok nmX4 rfl 11 (by decide) rfl rfl tm_4_214 (cx_lt C0 (by decide)) rfl p_X4_11 (fun c' h => up2_off _ _ _ h) rfl rfl (Nat.le_of_ble_eq_true rfl) dX4_ahead_2 (fun H locs Z => ?_)
  obtain ⟨v1, ev1⟩ : ∃ z : V3, z = up2 v 7 11 0 := ⟨_, rfl⟩
  rw [← ev1] at Z
  replace hw := hw v1 ev1
  refine lv_iload_n hx hb dX4_ahead_5 rfl (lv_at hl 1 rfl) ?_
  refine lv_i2l (v := (a1).toInt64) hx hb dX4_ahead_6 rfl ?_
  refine lv_lconst (v := 1) hx hb dX4_ahead_7 (by decide) ?_
  refine lv_ldc2 hx hb (cx_own C0) (cx_w C0 tm_6_179) dX4_ahead_8 ?_
  refine z_callSi C0 Z hl.1 (As := [.long ((a1).toInt64), .long 1, .long 200]) (rest := []) (k_X4_isBetween l (cx_g C0) hw) (gv_X4_isBetween tm_5_83) ds_X4_isBetween ⟨Nat.le_of_ble_eq_true rfl, Nat.le_of_ble_eq_true rfl⟩ rfl rfl (Nat.le_of_ble_eq_true rfl) ⟨Nat.le_of_ble_eq_true rfl, Nat.le_of_ble_eq_true rfl⟩ dX4_ahead_11 (fun r3 v2 H locs hw Z => ?_)
  refine lv_if_eq (tgt := 29) hx hb dX4_ahead_14 (by decide) (fun c4 => ?_) (fun c4 => ?_)
  · replace hw := hw.1 c4
    exact b_X4_ahead_29 l C0 _ _ _ _ hw Z (lv_sub hl [0] rfl)
  · replace hw := hw.2 c4
    refine lv_iload_n hx hb dX4_ahead_17 rfl (lv_at hl 2 rfl) ?_
    refine lv_i2l (v := (a2).toInt64) hx hb dX4_ahead_18 rfl ?_
    refine lv_lconst (v := 0) hx hb dX4_ahead_19 (by decide) ?_
    refine lv_ldc2 hx hb (cx_own C0) (cx_w C0 tm_5_232) dX4_ahead_20 ?_
    refine z_callSi C0 Z hl.1 (As := [.long ((a2).toInt64), .long 0, .long 3]) (rest := []) (k_X4_isBetween l (cx_g C0) hw) (gv_X4_isBetween tm_5_83) ds_X4_isBetween ⟨Nat.le_of_ble_eq_true rfl, Nat.le_of_ble_eq_true rfl⟩ rfl rfl (Nat.le_of_ble_eq_true rfl) ⟨Nat.le_of_ble_eq_true rfl, Nat.le_of_ble_eq_true rfl⟩ dX4_ahead_23 (fun r8 v7 H locs hw Z => ?_)
    refine lv_if_ne (tgt := 35) hx hb dX4_ahead_26 (by decide) (fun c9 => ?_) (fun c9 => ?_)
    · replace hw := hw.1 c9
      refine lv_aload_n hx hb dX4_ahead_35 rfl (lv_at hl 0 rfl) ?_
      refine z_get C0 Z in_X4 rfl 0 (by decide) rfl tm_4_203 (cx_lt C0 (by decide)) rfl rfl dX4_ahead_36 ?_
      refine lv_iconst (v := 0) hx hb dX4_ahead_39 (by decide) ?_
      refine lv_aload_n hx hb dX4_ahead_40 rfl (lv_at hl 0 rfl) ?_
      refine z_get C0 Z in_X4 rfl 2 (by decide) rfl tm_4_205 (cx_lt C0 (by decide)) rfl rfl dX4_ahead_41 ?_
      refine lv_iconst (v := 0) hx hb dX4_ahead_44 (by decide) ?_
      refine z_callSv C0 Z hl.1 (As := [.ref (gad G 8), .int 0, .ref (gad G 10), .int 0]) (rest := []) (k_X4_copy l (cx_g C0) ⟨(cx_lt C0 (by decide)), (fun _ => rfl)⟩ ⟨(cx_lt C0 (by decide)), (fun _ => rfl)⟩ hw) (gv_X4_copy tm_5_90) ds_X4_copy ⟨Nat.le_of_ble_eq_true rfl, Nat.le_of_ble_eq_true rfl⟩ rfl rfl (Nat.le_of_ble_eq_true rfl) ⟨Nat.le_of_ble_eq_true rfl, Nat.le_of_ble_eq_true rfl⟩ dX4_ahead_45 (fun v10 H locs hw Z => ?_)
      refine lv_aload_n hx hb dX4_ahead_48 rfl (lv_at hl 0 rfl) ?_
      refine lv_iload_n hx hb dX4_ahead_49 rfl (lv_at hl 1 rfl) ?_
      refine z_callVv C0 Z hl.1 (As := [.int a1]) (rest := []) (k_X4_passTicks l (cx_g C0) hw) (gv_X4_passTicks tm_6_180) rfl ds_X4_passTicks ⟨Nat.le_of_ble_eq_true rfl, Nat.le_of_ble_eq_true rfl⟩ (ci := 4) rfl (cx_lt C0 (by decide)) rfl rfl rfl (Nat.le_of_ble_eq_true rfl) ⟨Nat.le_of_ble_eq_true rfl, Nat.le_of_ble_eq_true rfl⟩ dX4_ahead_50 (fun v11 H locs hw Z => ?_)
      refine lv_aload_n hx hb dX4_ahead_53 rfl (lv_at hl 0 rfl) ?_
      refine z_get C0 Z in_X4 rfl 2 (by decide) rfl tm_4_205 (cx_lt C0 (by decide)) rfl rfl dX4_ahead_54 ?_
      refine lv_iconst (v := 0) hx hb dX4_ahead_57 (by decide) ?_
      refine lv_aload_n hx hb dX4_ahead_58 rfl (lv_at hl 0 rfl) ?_
      refine z_get C0 Z in_X4 rfl 0 (by decide) rfl tm_4_203 (cx_lt C0 (by decide)) rfl rfl dX4_ahead_59 ?_
      refine lv_iconst (v := 0) hx hb dX4_ahead_62 (by decide) ?_
      refine z_callSv C0 Z hl.1 (As := [.ref (gad G 10), .int 0, .ref (gad G 8), .int 0]) (rest := []) (k_X4_copy l (cx_g C0) ⟨(cx_lt C0 (by decide)), (fun _ => rfl)⟩ ⟨(cx_lt C0 (by decide)), (fun _ => rfl)⟩ hw) (gv_X4_copy tm_5_90) ds_X4_copy ⟨Nat.le_of_ble_eq_true rfl, Nat.le_of_ble_eq_true rfl⟩ rfl rfl (Nat.le_of_ble_eq_true rfl) ⟨Nat.le_of_ble_eq_true rfl, Nat.le_of_ble_eq_true rfl⟩ dX4_ahead_63 (fun v12 H locs hw Z => ?_)
      refine lv_iload_n hx hb dX4_ahead_66 rfl (lv_at hl 2 rfl) ?_
      refine lv_if_ne (tgt := 77) hx hb dX4_ahead_67 (by decide) (fun c13 => ?_) (fun c13 => ?_)
      · replace hw := hw.1 c13
        refine lv_iload_n hx hb dX4_ahead_77 rfl (lv_at hl 2 rfl) ?_
        refine lv_iconst (v := 1) hx hb dX4_ahead_78 (by decide) ?_
        refine lv_icmp_ne (tgt := 89) hx hb dX4_ahead_79 (by decide) (fun c14 => ?_) (fun c14 => ?_)
        · replace hw := hw.1 c14
          refine lv_iload_n hx hb dX4_ahead_89 rfl (lv_at hl 2 rfl) ?_
          refine lv_iconst (v := 2) hx hb dX4_ahead_90 (by decide) ?_
          refine lv_icmp_ne (tgt := 101) hx hb dX4_ahead_91 (by decide) (fun c15 => ?_) (fun c15 => ?_)
          · replace hw := hw.1 c15
            refine lv_aload_n hx hb dX4_ahead_101 rfl (lv_at hl 0 rfl) ?_
            refine z_get C0 Z in_X4 rfl 27 (by decide) rfl tm_4_230 (cx_lt C0 (by decide)) rfl rfl dX4_ahead_102 ?_
            exact b_X4_ahead_105 l C0 _ _ _ _ _ hw Z (lv_sub hl [] rfl)
          · replace hw := hw.2 c15
            refine lv_aload_n hx hb dX4_ahead_94 rfl (lv_at hl 0 rfl) ?_
            refine z_get C0 Z in_X4 rfl 24 (by decide) rfl tm_4_227 (cx_lt C0 (by decide)) rfl rfl dX4_ahead_95 ?_
            refine lv_goto (tgt := 105) hx hb dX4_ahead_98 (by decide) ?_
            exact b_X4_ahead_105 l C0 _ _ _ _ _ hw Z (lv_sub hl [] rfl)
        · replace hw := hw.2 c14
          refine lv_aload_n hx hb dX4_ahead_82 rfl (lv_at hl 0 rfl) ?_
          refine z_get C0 Z in_X4 rfl 26 (by decide) rfl tm_4_229 (cx_lt C0 (by decide)) rfl rfl dX4_ahead_83 ?_
          refine lv_goto (tgt := 105) hx hb dX4_ahead_86 (by decide) ?_
          exact b_X4_ahead_105 l C0 _ _ _ _ _ hw Z (lv_sub hl [] rfl)
      · replace hw := hw.2 c13
        refine lv_aload_n hx hb dX4_ahead_70 rfl (lv_at hl 0 rfl) ?_
        refine z_get C0 Z in_X4 rfl 25 (by decide) rfl tm_4_228 (cx_lt C0 (by decide)) rfl rfl dX4_ahead_71 ?_
        refine lv_goto (tgt := 105) hx hb dX4_ahead_74 (by decide) ?_
        exact b_X4_ahead_105 l C0 _ _ _ _ _ hw Z (lv_sub hl [] rfl)
    · replace hw := hw.2 c9
      exact b_X4_ahead_29 l C0 _ _ _ _ hw Z (lv_sub hl [0] rfl)
-- X4_show: room (3, 70)
theorem dX4_show_0 : decode cX4_show 0 = .ok (.aload_n 0, 1) := by decide +kernel
theorem dX4_show_1 : decode cX4_show 1 = .ok (.iconst 0, 1) := by decide +kernel
theorem dX4_show_2 : decode cX4_show 2 = .ok (.putfield 55, 3) := by decide +kernel
theorem dX4_show_5 : decode cX4_show 5 = .ok (.iload_n 1, 1) := by decide +kernel
theorem dX4_show_6 : decode cX4_show 6 = .ok (.i2l, 1) := by decide +kernel
theorem dX4_show_7 : decode cX4_show 7 = .ok (.lconst 0, 1) := by decide +kernel
theorem dX4_show_8 : decode cX4_show 8 = .ok (.ldc2_w 386, 3) := by decide +kernel
theorem dX4_show_11 : decode cX4_show 11 = .ok (.invokestatic 67, 3) := by decide +kernel
theorem dX4_show_14 : decode cX4_show 14 = .ok (.ifCond .ne 9, 3) := by decide +kernel
theorem dX4_show_17 : decode cX4_show 17 = .ok (.aload_n 0, 1) := by decide +kernel
theorem dX4_show_18 : decode cX4_show 18 = .ok (.iconst 1, 1) := by decide +kernel
theorem dX4_show_19 : decode cX4_show 19 = .ok (.invokevirtual 78, 3) := by decide +kernel
theorem dX4_show_22 : decode cX4_show 22 = .ok (.ireturn, 1) := by decide +kernel
theorem dX4_show_23 : decode cX4_show 23 = .ok (.iconst 0, 1) := by decide +kernel
theorem dX4_show_24 : decode cX4_show 24 = .ok (.istore_n 2, 1) := by decide +kernel
theorem dX4_show_25 : decode cX4_show 25 = .ok (.iload_n 2, 1) := by decide +kernel
theorem dX4_show_26 : decode cX4_show 26 = .ok (.aload_n 0, 1) := by decide +kernel
theorem dX4_show_27 : decode cX4_show 27 = .ok (.getfield 7, 3) := by decide +kernel
theorem dX4_show_30 : decode cX4_show 30 = .ok (.iconst 4, 1) := by decide +kernel
theorem dX4_show_31 : decode cX4_show 31 = .ok (.iaload, 1) := by decide +kernel
theorem dX4_show_32 : decode cX4_show 32 = .ok (.if_icmp .ge 41, 3) := by decide +kernel
theorem dX4_show_35 : decode cX4_show 35 = .ok (.aload_n 0, 1) := by decide +kernel
theorem dX4_show_36 : decode cX4_show 36 = .ok (.iload_n 2, 1) := by decide +kernel
theorem dX4_show_37 : decode cX4_show 37 = .ok (.iload_n 1, 1) := by decide +kernel
theorem dX4_show_38 : decode cX4_show 38 = .ok (.invokevirtual 217, 3) := by decide +kernel
theorem dX4_show_41 : decode cX4_show 41 = .ok (.istore_n 3, 1) := by decide +kernel
theorem dX4_show_42 : decode cX4_show 42 = .ok (.aload_n 0, 1) := by decide +kernel
theorem dX4_show_43 : decode cX4_show 43 = .ok (.getfield 45, 3) := by decide +kernel
theorem dX4_show_46 : decode cX4_show 46 = .ok (.iload_n 2, 1) := by decide +kernel
theorem dX4_show_47 : decode cX4_show 47 = .ok (.iload_n 3, 1) := by decide +kernel
theorem dX4_show_48 : decode cX4_show 48 = .ok (.iconst (-1), 1) := by decide +kernel
theorem dX4_show_49 : decode cX4_show 49 = .ok (.if_icmp .ne 8, 3) := by decide +kernel
theorem dX4_show_52 : decode cX4_show 52 = .ok (.bipush 46, 2) := by decide +kernel
theorem dX4_show_54 : decode cX4_show 54 = .ok (.goto 12, 3) := by decide +kernel
theorem dX4_show_57 : decode cX4_show 57 = .ok (.bipush 48, 2) := by decide +kernel
theorem dX4_show_59 : decode cX4_show 59 = .ok (.aload_n 0, 1) := by decide +kernel
theorem dX4_show_60 : decode cX4_show 60 = .ok (.iload_n 3, 1) := by decide +kernel
theorem dX4_show_61 : decode cX4_show 61 = .ok (.iconst 0, 1) := by decide +kernel
theorem dX4_show_62 : decode cX4_show 62 = .ok (.invokevirtual 71, 3) := by decide +kernel
theorem dX4_show_65 : decode cX4_show 65 = .ok (.iadd, 1) := by decide +kernel
theorem dX4_show_66 : decode cX4_show 66 = .ok (.iastore, 1) := by decide +kernel
theorem dX4_show_67 : decode cX4_show 67 = .ok (.iinc 2 1, 3) := by decide +kernel
theorem dX4_show_70 : decode cX4_show 70 = .ok (.goto (-45), 3) := by decide +kernel
theorem dX4_show_73 : decode cX4_show 73 = .ok (.aload_n 0, 1) := by decide +kernel
theorem dX4_show_74 : decode cX4_show 74 = .ok (.aload_n 0, 1) := by decide +kernel
theorem dX4_show_75 : decode cX4_show 75 = .ok (.getfield 7, 3) := by decide +kernel
theorem dX4_show_78 : decode cX4_show 78 = .ok (.iconst 4, 1) := by decide +kernel
theorem dX4_show_79 : decode cX4_show 79 = .ok (.iaload, 1) := by decide +kernel
theorem dX4_show_80 : decode cX4_show 80 = .ok (.putfield 390, 3) := by decide +kernel
theorem dX4_show_83 : decode cX4_show 83 = .ok (.aload_n 0, 1) := by decide +kernel
theorem dX4_show_84 : decode cX4_show 84 = .ok (.getfield 390, 3) := by decide +kernel
theorem dX4_show_87 : decode cX4_show 87 = .ok (.ireturn, 1) := by decide +kernel
def w_X4_show_66  (Q : Int32 → V3 → Prop) (K25 : Int32 → Int32 → V3 → Prop) (x1 : Int32) (x2 : Int32) (s1 : Int32) (s2 : Int32) (v : V3) : Prop := vp_in s1 64 ∧ ∀ v13 : V3, v13 = up2 v 18 (ix s1) s2 → K25 x1 (x2 + 1) v13
def w_X4_show_25  (Q : Int32 → V3 → Prop) : Nat → Int32 → Int32 → V3 → Prop
  | 0, _, _, _ => False
  | n25 + 1, x1, x2, v => (((v 8 4) ≤ x2 → ∀ v6 : V3, v6 = up2 v 7 33 (v 8 4) → Q (v6 7 33) v6) ∧ (¬ (v 8 4) ≤ x2 → w_X4_holderOf x2 x1 v (fun r8 v7 => ((¬ r8 = (-1) → w_X4_of r8 0 v7 (fun r11 v10 => w_X4_show_66 Q (w_X4_show_25 Q n25) x1 x2 x2 (48 + r11) v10)) ∧ (r8 = (-1) → w_X4_show_66 Q (w_X4_show_25 Q n25) x1 x2 x2 46 v7)))))
def w_X4_show (a1 : Int32) (v : V3) (Q : Int32 → V3 → Prop) : Prop := ∀ v1 : V3, v1 = up2 v 7 11 0 → w_X4_isBetween ((a1).toInt64) 0 20100 v1 (fun r3 v2 => ((¬ r3 = 0 → ∃ m25 : Nat, w_X4_show_25 Q m25 a1 0 v2) ∧ (r3 = 0 → w_X4_fail 1 v2 (fun r15 v14 => Q r15 v14))))
set_option maxRecDepth 100000 in
set_option maxHeartbeats 4000000 in
theorem b_X4_show_66 {p : Program} (l : Launch) {e : Env} {s : State} {m : MethodId} {args : Array Value} {below : List Frame} {meth : Method} {c : Code} {G : zG}   (C0 : Cx G RX4 cX4_show 4 (some .int) p s m args meth c) {Q : Int32 → V3 → Prop} {K25 : Int32 → Int32 → V3 → Prop} (hK25 : ∀ (x1 : Int32) (x2 : Int32) (v : V3) (H : Heap) (locs : List Loc) (ls : Array Slot), K25 x1 x2 v → Zs G s v H locs → lv_has ls 4 [(0, .ref (gad G 7)), (1, .int x1), (2, .int x2)] → W p l e { frames := 3, cells := 0, slots := 0, locals := 70 } s m args below meth c H locs 0 0 (MQ below (QiZ G Q) args s 0 0 (zA G)) (F0 m 25 ls [])) : ∀ (x1 : Int32) (x2 : Int32) (s1 : Int32) (s2 : Int32) (v : V3) (H : Heap) (locs : List Loc) (ls : Array Slot), w_X4_show_66 Q K25 x1 x2 s1 s2 v → Zs G s v H locs → lv_has ls 4 [(0, .ref (gad G 7)), (1, .int x1), (2, .int x2)] → W p l e { frames := 3, cells := 0, slots := 0, locals := 70 } s m args below meth c H locs 0 0 (MQ below (QiZ G Q) args s 0 0 (zA G)) (F0 m 66 ls [.int s2, .int s1, .ref (gad G 18)]) := by
  have hx := C0.1
  have hb := C0.2.1
  intro x1 x2 s1 s2 v H locs ls hw Z hl
  rw [w_X4_show_66] at hw
  obtain ⟨h12, hw⟩ := hw
  refine z_iast C0 Z (cx_lt C0 (by decide)) (fun _ => rfl) h12 dX4_show_66 (fun H locs Z => ?_)
  obtain ⟨v13, ev13⟩ : ∃ z : V3, z = up2 v 18 (ix s1) s2 := ⟨_, rfl⟩
  rw [← ev13] at Z
  replace hw := hw v13 ev13
  refine lv_iinc (v := x2 + 1) (lv' := [(2, .int (x2 + 1)), (0, .ref (gad G 7)), (1, .int x1)]) hx hb dX4_show_67 hl (k := 2) rfl rfl (by decide) rfl (fun ls hl => ?_)
  refine lv_goto (tgt := 25) hx hb dX4_show_70 (by decide) ?_
  exact hK25 _ _ _ _ _ _ hw Z (lv_sub hl [1, 2, 0] rfl)
set_option maxRecDepth 100000 in
set_option maxHeartbeats 4000000 in
theorem b_X4_show_25 {p : Program} (l : Launch) {e : Env} {s : State} {m : MethodId} {args : Array Value} {below : List Frame} {meth : Method} {c : Code} {G : zG}   (C0 : Cx G RX4 cX4_show 4 (some .int) p s m args meth c) {Q : Int32 → V3 → Prop} : ∀ (n : Nat) (x1 : Int32) (x2 : Int32) (v : V3) (H : Heap) (locs : List Loc) (ls : Array Slot), w_X4_show_25 Q n x1 x2 v → Zs G s v H locs → lv_has ls 4 [(0, .ref (gad G 7)), (1, .int x1), (2, .int x2)] → W p l e { frames := 3, cells := 0, slots := 0, locals := 70 } s m args below meth c H locs 0 0 (MQ below (QiZ G Q) args s 0 0 (zA G)) (F0 m 25 ls []) := by
  have hx := C0.1
  have hb := C0.2.1
  intro n
  induction n with
  | zero =>
    intro x1 x2 v H locs ls hw Z hl
    exact hw.elim
  | succ n hK25 =>
    intro x1 x2 v H locs ls hw Z hl
    rw [w_X4_show_25] at hw
    refine lv_iload_n hx hb dX4_show_25 rfl (lv_at hl 2 rfl) ?_
    refine lv_aload_n hx hb dX4_show_26 rfl (lv_at hl 0 rfl) ?_
    refine z_get C0 Z in_X4 rfl 0 (by decide) rfl tm_4_203 (cx_lt C0 (by decide)) rfl rfl dX4_show_27 ?_
    refine lv_iconst (v := 4) hx hb dX4_show_30 (by decide) ?_
    refine z_ialdk C0 Z (cx_lt C0 (by decide)) rfl in_4_474 nc_4 dX4_show_31 ?_
    refine lv_icmp_ge (tgt := 73) hx hb dX4_show_32 (by decide) (fun c5 => ?_) (fun c5 => ?_)
    · replace hw := hw.1 c5
      refine lv_aload_n hx hb dX4_show_73 rfl (lv_at hl 0 rfl) ?_
      refine lv_aload_n hx hb dX4_show_74 rfl (lv_at hl 0 rfl) ?_
      refine z_get C0 Z in_X4 rfl 0 (by decide) rfl tm_4_203 (cx_lt C0 (by decide)) rfl rfl dX4_show_75 ?_
      refine lv_iconst (v := 4) hx hb dX4_show_78 (by decide) ?_
      refine z_ialdk C0 Z (cx_lt C0 (by decide)) rfl in_4_474 nc_4 dX4_show_79 ?_
      refine z_put C0 Z in_X4 tyX4_ok nmX4 rfl 33 (by decide) rfl rfl tm_4_236 (cx_lt C0 (by decide)) rfl p_X4_33 (fun c' h => up2_off _ _ _ h) rfl rfl (Nat.le_of_ble_eq_true rfl) dX4_show_80 (fun H locs Z => ?_)
      obtain ⟨v6, ev6⟩ : ∃ z : V3, z = up2 v 7 33 (v 8 4) := ⟨_, rfl⟩
      rw [← ev6] at Z
      replace hw := hw v6 ev6
      refine lv_aload_n hx hb dX4_show_83 rfl (lv_at hl 0 rfl) ?_
      refine z_get C0 Z in_X4 rfl 33 (by decide) rfl tm_4_236 (cx_lt C0 (by decide)) rfl rfl dX4_show_84 ?_
      exact z_iret C0 Z hw dX4_show_87
    · replace hw := hw.2 c5
      refine lv_aload_n hx hb dX4_show_35 rfl (lv_at hl 0 rfl) ?_
      refine lv_iload_n hx hb dX4_show_36 rfl (lv_at hl 2 rfl) ?_
      refine lv_iload_n hx hb dX4_show_37 rfl (lv_at hl 1 rfl) ?_
      refine z_callVi C0 Z hl.1 (As := [.int x2, .int x1]) (rest := []) (k_X4_holderOf l (cx_g C0) hw) (gv_X4_holderOf tm_6_5) rfl ds_X4_holderOf ⟨Nat.le_of_ble_eq_true rfl, Nat.le_of_ble_eq_true rfl⟩ (ci := 4) rfl (cx_lt C0 (by decide)) rfl rfl rfl (Nat.le_of_ble_eq_true rfl) ⟨Nat.le_of_ble_eq_true rfl, Nat.le_of_ble_eq_true rfl⟩ dX4_show_38 (fun r8 v7 H locs hw Z => ?_)
      refine lv_istore_n (lv' := [(3, .int r8), (0, .ref (gad G 7)), (1, .int x1), (2, .int x2)]) hx hb dX4_show_41 rfl hl (by decide) rfl (fun ls hl => ?_)
      refine lv_aload_n hx hb dX4_show_42 rfl (lv_at hl 1 rfl) ?_
      refine z_get C0 Z in_X4 rfl 32 (by decide) rfl tm_4_235 (cx_lt C0 (by decide)) rfl rfl dX4_show_43 ?_
      refine lv_iload_n hx hb dX4_show_46 rfl (lv_at hl 3 rfl) ?_
      refine lv_iload_n hx hb dX4_show_47 rfl (lv_at hl 0 rfl) ?_
      refine lv_iconst (v := (-1)) hx hb dX4_show_48 (by decide) ?_
      refine lv_icmp_ne (tgt := 57) hx hb dX4_show_49 (by decide) (fun c9 => ?_) (fun c9 => ?_)
      · replace hw := hw.1 c9
        refine lv_bipush (v := 48) hx hb dX4_show_57 (by decide) ?_
        refine lv_aload_n hx hb dX4_show_59 rfl (lv_at hl 1 rfl) ?_
        refine lv_iload_n hx hb dX4_show_60 rfl (lv_at hl 0 rfl) ?_
        refine lv_iconst (v := 0) hx hb dX4_show_61 (by decide) ?_
        refine z_callVi C0 Z hl.1 (As := [.int r8, .int 0]) (rest := [.int 48, .int x2, .ref (gad G 18)]) (k_X4_of l (cx_g C0) hw) (gv_X4_of tm_5_163) rfl ds_X4_of ⟨Nat.le_of_ble_eq_true rfl, Nat.le_of_ble_eq_true rfl⟩ (ci := 4) rfl (cx_lt C0 (by decide)) rfl rfl rfl (Nat.le_of_ble_eq_true rfl) ⟨Nat.le_of_ble_eq_true rfl, Nat.le_of_ble_eq_true rfl⟩ dX4_show_62 (fun r11 v10 H locs hw Z => ?_)
        refine lv_iadd hx hb dX4_show_65 ?_
        exact b_X4_show_66 l C0 hK25 _ _ _ _ _ _ _ _ hw Z (lv_sub hl [1, 2, 3] rfl)
      · replace hw := hw.2 c9
        refine lv_bipush (v := 46) hx hb dX4_show_52 (by decide) ?_
        refine lv_goto (tgt := 66) hx hb dX4_show_54 (by decide) ?_
        exact b_X4_show_66 l C0 hK25 _ _ _ _ _ _ _ _ hw Z (lv_sub hl [1, 2, 3] rfl)
set_option maxRecDepth 100000 in
set_option maxHeartbeats 4000000 in
theorem k_X4_show (l : Launch) {G : zG} (hg : 129 ≤ gn G) {a1 : Int32}  {v : V3} {Q : Int32 → V3 → Prop} (hw : w_X4_show a1 v Q) : Mz l yX4_show cX4_show 4 (some .int) 3 70 G [.ref (gad G 7), .int a1] v (QiZ G Q) := by
  rw [w_X4_show] at hw
  refine z_ofW hg (by decide) (Nat.le_of_ble_eq_true rfl) ?_
  intro p e s m args below meth c ls C0 Z hl
  have hx := C0.1
  have hb := C0.2.1
  replace hl : lv_has ls 4 [(0, .ref (gad G 7)), (1, .int a1)] := hl
  generalize s.heap = H at Z ⊢
  generalize ([] : List Loc) = locs at Z ⊢
  refine lv_aload_n hx hb dX4_show_0 rfl (lv_at hl 0 rfl) ?_
  refine lv_iconst (v := 0) hx hb dX4_show_1 (by decide) ?_
  refine z_put C0 Z in_X4 tyX4_ok nmX4 rfl 11 (by decide) rfl rfl tm_4_214 (cx_lt C0 (by decide)) rfl p_X4_11 (fun c' h => up2_off _ _ _ h) rfl rfl (Nat.le_of_ble_eq_true rfl) dX4_show_2 (fun H locs Z => ?_)
  obtain ⟨v1, ev1⟩ : ∃ z : V3, z = up2 v 7 11 0 := ⟨_, rfl⟩
  rw [← ev1] at Z
  replace hw := hw v1 ev1
  refine lv_iload_n hx hb dX4_show_5 rfl (lv_at hl 1 rfl) ?_
  refine lv_i2l (v := (a1).toInt64) hx hb dX4_show_6 rfl ?_
  refine lv_lconst (v := 0) hx hb dX4_show_7 (by decide) ?_
  refine lv_ldc2 hx hb (cx_own C0) (cx_w C0 tm_6_217) dX4_show_8 ?_
  refine z_callSi C0 Z hl.1 (As := [.long ((a1).toInt64), .long 0, .long 20100]) (rest := []) (k_X4_isBetween l (cx_g C0) hw) (gv_X4_isBetween tm_5_83) ds_X4_isBetween ⟨Nat.le_of_ble_eq_true rfl, Nat.le_of_ble_eq_true rfl⟩ rfl rfl (Nat.le_of_ble_eq_true rfl) ⟨Nat.le_of_ble_eq_true rfl, Nat.le_of_ble_eq_true rfl⟩ dX4_show_11 (fun r3 v2 H locs hw Z => ?_)
  refine lv_if_ne (tgt := 23) hx hb dX4_show_14 (by decide) (fun c4 => ?_) (fun c4 => ?_)
  · replace hw := hw.1 c4
    refine lv_iconst (v := 0) hx hb dX4_show_23 (by decide) ?_
    refine lv_istore_n (lv' := [(2, .int 0), (0, .ref (gad G 7)), (1, .int a1)]) hx hb dX4_show_24 rfl hl (by decide) rfl (fun ls hl => ?_)
    obtain ⟨m25, hw⟩ := hw
    exact b_X4_show_25 l C0 m25 _ _ _ _ _ _ hw Z (lv_sub hl [1, 2, 0] rfl)
  · replace hw := hw.2 c4
    refine lv_aload_n hx hb dX4_show_17 rfl (lv_at hl 0 rfl) ?_
    refine lv_iconst (v := 1) hx hb dX4_show_18 (by decide) ?_
    refine z_callVi C0 Z hl.1 (As := [.int 1]) (rest := []) (k_X4_fail l (cx_g C0) hw) (gv_X4_fail tm_5_75) rfl ds_X4_fail ⟨Nat.le_of_ble_eq_true rfl, Nat.le_of_ble_eq_true rfl⟩ (ci := 4) rfl (cx_lt C0 (by decide)) rfl rfl rfl (Nat.le_of_ble_eq_true rfl) ⟨Nat.le_of_ble_eq_true rfl, Nat.le_of_ble_eq_true rfl⟩ dX4_show_19 (fun r15 v14 H locs hw Z => ?_)
    exact z_iret C0 Z hw dX4_show_22
-- X4_shown: room (1, 25)
theorem dX4_shown_0 : decode cX4_shown 0 = .ok (.aload_n 0, 1) := by decide +kernel
theorem dX4_shown_1 : decode cX4_shown 1 = .ok (.iconst 0, 1) := by decide +kernel
theorem dX4_shown_2 : decode cX4_shown 2 = .ok (.putfield 55, 3) := by decide +kernel
theorem dX4_shown_5 : decode cX4_shown 5 = .ok (.iload_n 1, 1) := by decide +kernel
theorem dX4_shown_6 : decode cX4_shown 6 = .ok (.i2l, 1) := by decide +kernel
theorem dX4_shown_7 : decode cX4_shown 7 = .ok (.lconst 0, 1) := by decide +kernel
theorem dX4_shown_8 : decode cX4_shown 8 = .ok (.aload_n 0, 1) := by decide +kernel
theorem dX4_shown_9 : decode cX4_shown 9 = .ok (.getfield 390, 3) := by decide +kernel
theorem dX4_shown_12 : decode cX4_shown 12 = .ok (.iconst 1, 1) := by decide +kernel
theorem dX4_shown_13 : decode cX4_shown 13 = .ok (.isub, 1) := by decide +kernel
theorem dX4_shown_14 : decode cX4_shown 14 = .ok (.i2l, 1) := by decide +kernel
theorem dX4_shown_15 : decode cX4_shown 15 = .ok (.invokestatic 67, 3) := by decide +kernel
theorem dX4_shown_18 : decode cX4_shown 18 = .ok (.ifCond .eq 12, 3) := by decide +kernel
theorem dX4_shown_21 : decode cX4_shown 21 = .ok (.aload_n 0, 1) := by decide +kernel
theorem dX4_shown_22 : decode cX4_shown 22 = .ok (.getfield 45, 3) := by decide +kernel
theorem dX4_shown_25 : decode cX4_shown 25 = .ok (.iload_n 1, 1) := by decide +kernel
theorem dX4_shown_26 : decode cX4_shown 26 = .ok (.iaload, 1) := by decide +kernel
theorem dX4_shown_27 : decode cX4_shown 27 = .ok (.goto 4, 3) := by decide +kernel
theorem dX4_shown_30 : decode cX4_shown 30 = .ok (.iconst (-1), 1) := by decide +kernel
theorem dX4_shown_31 : decode cX4_shown 31 = .ok (.ireturn, 1) := by decide +kernel
def w_X4_shown_31  (Q : Int32 → V3 → Prop) (s0 : Int32) (v : V3) : Prop := Q s0 v
def w_X4_shown (a1 : Int32) (v : V3) (Q : Int32 → V3 → Prop) : Prop := ∀ v1 : V3, v1 = up2 v 7 11 0 → w_X4_isBetween ((a1).toInt64) 0 (((v1 7 33) - 1).toInt64) v1 (fun r3 v2 => ((r3 = 0 → w_X4_shown_31 Q (-1) v2) ∧ (¬ r3 = 0 → vp_in a1 64 ∧ w_X4_shown_31 Q (v2 18 (ix a1)) v2)))
set_option maxRecDepth 100000 in
set_option maxHeartbeats 4000000 in
theorem b_X4_shown_31 {p : Program} (l : Launch) {e : Env} {s : State} {m : MethodId} {args : Array Value} {below : List Frame} {meth : Method} {c : Code} {G : zG}   (C0 : Cx G RX4 cX4_shown 2 (some .int) p s m args meth c) {Q : Int32 → V3 → Prop} : ∀ (s0 : Int32) (v : V3) (H : Heap) (locs : List Loc) (ls : Array Slot), w_X4_shown_31 Q s0 v → Zs G s v H locs → lv_has ls 2 [] → W p l e { frames := 1, cells := 0, slots := 0, locals := 25 } s m args below meth c H locs 0 0 (MQ below (QiZ G Q) args s 0 0 (zA G)) (F0 m 31 ls [.int s0]) := by
  have hx := C0.1
  have hb := C0.2.1
  intro s0 v H locs ls hw Z hl
  rw [w_X4_shown_31] at hw
  exact z_iret C0 Z hw dX4_shown_31
set_option maxRecDepth 100000 in
set_option maxHeartbeats 4000000 in
theorem k_X4_shown (l : Launch) {G : zG} (hg : 129 ≤ gn G) {a1 : Int32}  {v : V3} {Q : Int32 → V3 → Prop} (hw : w_X4_shown a1 v Q) : Mz l yX4_shown cX4_shown 2 (some .int) 1 25 G [.ref (gad G 7), .int a1] v (QiZ G Q) := by
  rw [w_X4_shown] at hw
  refine z_ofW hg (by decide) (Nat.le_of_ble_eq_true rfl) ?_
  intro p e s m args below meth c ls C0 Z hl
  have hx := C0.1
  have hb := C0.2.1
  replace hl : lv_has ls 2 [(0, .ref (gad G 7)), (1, .int a1)] := hl
  generalize s.heap = H at Z ⊢
  generalize ([] : List Loc) = locs at Z ⊢
  refine lv_aload_n hx hb dX4_shown_0 rfl (lv_at hl 0 rfl) ?_
  refine lv_iconst (v := 0) hx hb dX4_shown_1 (by decide) ?_
  refine z_put C0 Z in_X4 tyX4_ok nmX4 rfl 11 (by decide) rfl rfl tm_4_214 (cx_lt C0 (by decide)) rfl p_X4_11 (fun c' h => up2_off _ _ _ h) rfl rfl (Nat.le_of_ble_eq_true rfl) dX4_shown_2 (fun H locs Z => ?_)
  obtain ⟨v1, ev1⟩ : ∃ z : V3, z = up2 v 7 11 0 := ⟨_, rfl⟩
  rw [← ev1] at Z
  replace hw := hw v1 ev1
  refine lv_iload_n hx hb dX4_shown_5 rfl (lv_at hl 1 rfl) ?_
  refine lv_i2l (v := (a1).toInt64) hx hb dX4_shown_6 rfl ?_
  refine lv_lconst (v := 0) hx hb dX4_shown_7 (by decide) ?_
  refine lv_aload_n hx hb dX4_shown_8 rfl (lv_at hl 0 rfl) ?_
  refine z_get C0 Z in_X4 rfl 33 (by decide) rfl tm_4_236 (cx_lt C0 (by decide)) rfl rfl dX4_shown_9 ?_
  refine lv_iconst (v := 1) hx hb dX4_shown_12 (by decide) ?_
  refine lv_isub hx hb dX4_shown_13 ?_
  refine lv_i2l (v := ((v1 7 33) - 1).toInt64) hx hb dX4_shown_14 rfl ?_
  refine z_callSi C0 Z hl.1 (As := [.long ((a1).toInt64), .long 0, .long (((v1 7 33) - 1).toInt64)]) (rest := []) (k_X4_isBetween l (cx_g C0) hw) (gv_X4_isBetween tm_5_83) ds_X4_isBetween ⟨Nat.le_of_ble_eq_true rfl, Nat.le_of_ble_eq_true rfl⟩ rfl rfl (Nat.le_of_ble_eq_true rfl) ⟨Nat.le_of_ble_eq_true rfl, Nat.le_of_ble_eq_true rfl⟩ dX4_shown_15 (fun r3 v2 H locs hw Z => ?_)
  refine lv_if_eq (tgt := 30) hx hb dX4_shown_18 (by decide) (fun c4 => ?_) (fun c4 => ?_)
  · replace hw := hw.1 c4
    refine lv_iconst (v := (-1)) hx hb dX4_shown_30 (by decide) ?_
    exact b_X4_shown_31 l C0 _ _ _ _ _ hw Z (lv_sub hl [] rfl)
  · replace hw := hw.2 c4
    refine lv_aload_n hx hb dX4_shown_21 rfl (lv_at hl 0 rfl) ?_
    refine z_get C0 Z in_X4 rfl 32 (by decide) rfl tm_4_235 (cx_lt C0 (by decide)) rfl rfl dX4_shown_22 ?_
    refine lv_iload_n hx hb dX4_shown_25 rfl (lv_at hl 1 rfl) ?_
    obtain ⟨h5, hw⟩ := hw
    refine z_iald C0 Z (cx_lt C0 (by decide)) rfl h5 dX4_shown_26 ?_
    refine lv_goto (tgt := 31) hx hb dX4_shown_27 (by decide) ?_
    exact b_X4_shown_31 l C0 _ _ _ _ _ hw Z (lv_sub hl [] rfl)
-- X4_save: room (1, 25)
theorem dX4_save_0 : decode cX4_save 0 = .ok (.aload_n 0, 1) := by decide +kernel
theorem dX4_save_1 : decode cX4_save 1 = .ok (.iload_n 1, 1) := by decide +kernel
theorem dX4_save_2 : decode cX4_save 2 = .ok (.i2l, 1) := by decide +kernel
theorem dX4_save_3 : decode cX4_save 3 = .ok (.lconst 0, 1) := by decide +kernel
theorem dX4_save_4 : decode cX4_save 4 = .ok (.lconst 1, 1) := by decide +kernel
theorem dX4_save_5 : decode cX4_save 5 = .ok (.invokestatic 67, 3) := by decide +kernel
theorem dX4_save_8 : decode cX4_save 8 = .ok (.ifCond .eq 7, 3) := by decide +kernel
theorem dX4_save_11 : decode cX4_save 11 = .ok (.iconst 0, 1) := by decide +kernel
theorem dX4_save_12 : decode cX4_save 12 = .ok (.goto 4, 3) := by decide +kernel
theorem dX4_save_15 : decode cX4_save 15 = .ok (.iconst 1, 1) := by decide +kernel
theorem dX4_save_16 : decode cX4_save 16 = .ok (.putfield 55, 3) := by decide +kernel
theorem dX4_save_19 : decode cX4_save 19 = .ok (.aload_n 0, 1) := by decide +kernel
theorem dX4_save_20 : decode cX4_save 20 = .ok (.getfield 55, 3) := by decide +kernel
theorem dX4_save_23 : decode cX4_save 23 = .ok (.ifCond .ne 27, 3) := by decide +kernel
theorem dX4_save_26 : decode cX4_save 26 = .ok (.aload_n 0, 1) := by decide +kernel
theorem dX4_save_27 : decode cX4_save 27 = .ok (.getfield 7, 3) := by decide +kernel
theorem dX4_save_30 : decode cX4_save 30 = .ok (.iconst 0, 1) := by decide +kernel
theorem dX4_save_31 : decode cX4_save 31 = .ok (.aload_n 0, 1) := by decide +kernel
theorem dX4_save_32 : decode cX4_save 32 = .ok (.getfield 19, 3) := by decide +kernel
theorem dX4_save_35 : decode cX4_save 35 = .ok (.sipush 474, 3) := by decide +kernel
theorem dX4_save_38 : decode cX4_save 38 = .ok (.iload_n 1, 1) := by decide +kernel
theorem dX4_save_39 : decode cX4_save 39 = .ok (.imul, 1) := by decide +kernel
theorem dX4_save_40 : decode cX4_save 40 = .ok (.invokestatic 184, 3) := by decide +kernel
theorem dX4_save_43 : decode cX4_save 43 = .ok (.aload_n 0, 1) := by decide +kernel
theorem dX4_save_44 : decode cX4_save 44 = .ok (.getfield 22, 3) := by decide +kernel
theorem dX4_save_47 : decode cX4_save 47 = .ok (.iload_n 1, 1) := by decide +kernel
theorem dX4_save_48 : decode cX4_save 48 = .ok (.iconst 1, 1) := by decide +kernel
theorem dX4_save_49 : decode cX4_save 49 = .ok (.bastore, 1) := by decide +kernel
theorem dX4_save_50 : decode cX4_save 50 = .ok (.return_, 1) := by decide +kernel
def w_X4_save_50  (Q : V3 → Prop) (v : V3) : Prop := Q v
def w_X4_save_16  (Q : V3 → Prop) (x1 : Int32) (s1 : Int32) (v : V3) : Prop := ∀ v4 : V3, v4 = up2 v 7 11 s1 → ((¬ (v4 7 11) = 0 → w_X4_save_50 Q v4) ∧ ((v4 7 11) = 0 → w_X4_copy 8 474 0 11 948 (474 * x1) v4 (fun v6 => vp_in x1 2 ∧ ∀ v8 : V3, v8 = up2 v6 12 (ix x1) (vp_nar .boolean 1) → w_X4_save_50 Q v8)))
def w_X4_save (a1 : Int32) (v : V3) (Q : V3 → Prop) : Prop := w_X4_isBetween ((a1).toInt64) 0 1 v (fun r2 v1 => ((r2 = 0 → w_X4_save_16 Q a1 1 v1) ∧ (¬ r2 = 0 → w_X4_save_16 Q a1 0 v1)))
set_option maxRecDepth 100000 in
set_option maxHeartbeats 4000000 in
theorem b_X4_save_50 {p : Program} (l : Launch) {e : Env} {s : State} {m : MethodId} {args : Array Value} {below : List Frame} {meth : Method} {c : Code} {G : zG}   (C0 : Cx G RX4 cX4_save 2 none p s m args meth c) {Q : V3 → Prop} : ∀ (v : V3) (H : Heap) (locs : List Loc) (ls : Array Slot), w_X4_save_50 Q v → Zs G s v H locs → lv_has ls 2 [] → W p l e { frames := 1, cells := 0, slots := 0, locals := 25 } s m args below meth c H locs 0 0 (MQ below (QvZ G Q) args s 0 0 (zA G)) (F0 m 50 ls []) := by
  have hx := C0.1
  have hb := C0.2.1
  intro v H locs ls hw Z hl
  rw [w_X4_save_50] at hw
  exact z_vret C0 Z hw dX4_save_50
set_option maxRecDepth 100000 in
set_option maxHeartbeats 4000000 in
theorem b_X4_save_16 {p : Program} (l : Launch) {e : Env} {s : State} {m : MethodId} {args : Array Value} {below : List Frame} {meth : Method} {c : Code} {G : zG}   (C0 : Cx G RX4 cX4_save 2 none p s m args meth c) {Q : V3 → Prop} : ∀ (x1 : Int32) (s1 : Int32) (v : V3) (H : Heap) (locs : List Loc) (ls : Array Slot), w_X4_save_16 Q x1 s1 v → Zs G s v H locs → lv_has ls 2 [(0, .ref (gad G 7)), (1, .int x1)] → W p l e { frames := 1, cells := 0, slots := 0, locals := 25 } s m args below meth c H locs 0 0 (MQ below (QvZ G Q) args s 0 0 (zA G)) (F0 m 16 ls [.int s1, .ref (gad G 7)]) := by
  have hx := C0.1
  have hb := C0.2.1
  intro x1 s1 v H locs ls hw Z hl
  rw [w_X4_save_16] at hw
  refine z_put C0 Z in_X4 tyX4_ok nmX4 rfl 11 (by decide) rfl rfl tm_4_214 (cx_lt C0 (by decide)) rfl p_X4_11 (fun c' h => up2_off _ _ _ h) rfl rfl (Nat.le_of_ble_eq_true rfl) dX4_save_16 (fun H locs Z => ?_)
  obtain ⟨v4, ev4⟩ : ∃ z : V3, z = up2 v 7 11 s1 := ⟨_, rfl⟩
  rw [← ev4] at Z
  replace hw := hw v4 ev4
  refine lv_aload_n hx hb dX4_save_19 rfl (lv_at hl 0 rfl) ?_
  refine z_get C0 Z in_X4 rfl 11 (by decide) rfl tm_4_214 (cx_lt C0 (by decide)) rfl rfl dX4_save_20 ?_
  refine lv_if_ne (tgt := 50) hx hb dX4_save_23 (by decide) (fun c5 => ?_) (fun c5 => ?_)
  · replace hw := hw.1 c5
    exact b_X4_save_50 l C0 _ _ _ _ hw Z (lv_sub hl [] rfl)
  · replace hw := hw.2 c5
    refine lv_aload_n hx hb dX4_save_26 rfl (lv_at hl 0 rfl) ?_
    refine z_get C0 Z in_X4 rfl 0 (by decide) rfl tm_4_203 (cx_lt C0 (by decide)) rfl rfl dX4_save_27 ?_
    refine lv_iconst (v := 0) hx hb dX4_save_30 (by decide) ?_
    refine lv_aload_n hx hb dX4_save_31 rfl (lv_at hl 0 rfl) ?_
    refine z_get C0 Z in_X4 rfl 3 (by decide) rfl tm_4_206 (cx_lt C0 (by decide)) rfl rfl dX4_save_32 ?_
    refine lv_sipush (v := 474) hx hb dX4_save_35 (by decide) ?_
    refine lv_iload_n hx hb dX4_save_38 rfl (lv_at hl 1 rfl) ?_
    refine lv_imul hx hb dX4_save_39 ?_
    refine z_callSv C0 Z hl.1 (As := [.ref (gad G 8), .int 0, .ref (gad G 11), .int (474 * x1)]) (rest := []) (k_X4_copy l (cx_g C0) ⟨(cx_lt C0 (by decide)), (fun _ => rfl)⟩ ⟨(cx_lt C0 (by decide)), (fun _ => rfl)⟩ hw) (gv_X4_copy tm_5_90) ds_X4_copy ⟨Nat.le_of_ble_eq_true rfl, Nat.le_of_ble_eq_true rfl⟩ rfl rfl (Nat.le_of_ble_eq_true rfl) ⟨Nat.le_of_ble_eq_true rfl, Nat.le_of_ble_eq_true rfl⟩ dX4_save_40 (fun v6 H locs hw Z => ?_)
    refine lv_aload_n hx hb dX4_save_43 rfl (lv_at hl 0 rfl) ?_
    refine z_get C0 Z in_X4 rfl 4 (by decide) rfl tm_4_207 (cx_lt C0 (by decide)) rfl rfl dX4_save_44 ?_
    refine lv_iload_n hx hb dX4_save_47 rfl (lv_at hl 1 rfl) ?_
    refine lv_iconst (v := 1) hx hb dX4_save_48 (by decide) ?_
    obtain ⟨h7, hw⟩ := hw
    refine z_zast C0 Z (cx_lt C0 (by decide)) (fun _ => rfl) h7 dX4_save_49 (fun H locs Z => ?_)
    obtain ⟨v8, ev8⟩ : ∃ z : V3, z = up2 v6 12 (ix x1) (vp_nar .boolean 1) := ⟨_, rfl⟩
    rw [← ev8] at Z
    replace hw := hw v8 ev8
    exact b_X4_save_50 l C0 _ _ _ _ hw Z (lv_sub hl [] rfl)
set_option maxRecDepth 100000 in
set_option maxHeartbeats 4000000 in
theorem k_X4_save (l : Launch) {G : zG} (hg : 129 ≤ gn G) {a1 : Int32}  {v : V3} {Q : V3 → Prop} (hw : w_X4_save a1 v Q) : Mz l yX4_save cX4_save 2 none 1 25 G [.ref (gad G 7), .int a1] v (QvZ G Q) := by
  rw [w_X4_save] at hw
  refine z_ofW hg (by decide) (Nat.le_of_ble_eq_true rfl) ?_
  intro p e s m args below meth c ls C0 Z hl
  have hx := C0.1
  have hb := C0.2.1
  replace hl : lv_has ls 2 [(0, .ref (gad G 7)), (1, .int a1)] := hl
  generalize s.heap = H at Z ⊢
  generalize ([] : List Loc) = locs at Z ⊢
  refine lv_aload_n hx hb dX4_save_0 rfl (lv_at hl 0 rfl) ?_
  refine lv_iload_n hx hb dX4_save_1 rfl (lv_at hl 1 rfl) ?_
  refine lv_i2l (v := (a1).toInt64) hx hb dX4_save_2 rfl ?_
  refine lv_lconst (v := 0) hx hb dX4_save_3 (by decide) ?_
  refine lv_lconst (v := 1) hx hb dX4_save_4 (by decide) ?_
  refine z_callSi C0 Z hl.1 (As := [.long ((a1).toInt64), .long 0, .long 1]) (rest := [.ref (gad G 7)]) (k_X4_isBetween l (cx_g C0) hw) (gv_X4_isBetween tm_5_83) ds_X4_isBetween ⟨Nat.le_of_ble_eq_true rfl, Nat.le_of_ble_eq_true rfl⟩ rfl rfl (Nat.le_of_ble_eq_true rfl) ⟨Nat.le_of_ble_eq_true rfl, Nat.le_of_ble_eq_true rfl⟩ dX4_save_5 (fun r2 v1 H locs hw Z => ?_)
  refine lv_if_eq (tgt := 15) hx hb dX4_save_8 (by decide) (fun c3 => ?_) (fun c3 => ?_)
  · replace hw := hw.1 c3
    refine lv_iconst (v := 1) hx hb dX4_save_15 (by decide) ?_
    exact b_X4_save_16 l C0 _ _ _ _ _ _ hw Z (lv_sub hl [0, 1] rfl)
  · replace hw := hw.2 c3
    refine lv_iconst (v := 0) hx hb dX4_save_11 (by decide) ?_
    refine lv_goto (tgt := 16) hx hb dX4_save_12 (by decide) ?_
    exact b_X4_save_16 l C0 _ _ _ _ _ _ hw Z (lv_sub hl [0, 1] rfl)
-- X4_restore: room (1, 25)
theorem dX4_restore_0 : decode cX4_restore 0 = .ok (.aload_n 0, 1) := by decide +kernel
theorem dX4_restore_1 : decode cX4_restore 1 = .ok (.iload_n 1, 1) := by decide +kernel
theorem dX4_restore_2 : decode cX4_restore 2 = .ok (.i2l, 1) := by decide +kernel
theorem dX4_restore_3 : decode cX4_restore 3 = .ok (.lconst 0, 1) := by decide +kernel
theorem dX4_restore_4 : decode cX4_restore 4 = .ok (.lconst 1, 1) := by decide +kernel
theorem dX4_restore_5 : decode cX4_restore 5 = .ok (.invokestatic 67, 3) := by decide +kernel
theorem dX4_restore_8 : decode cX4_restore 8 = .ok (.ifCond .ne 7, 3) := by decide +kernel
theorem dX4_restore_11 : decode cX4_restore 11 = .ok (.iconst 1, 1) := by decide +kernel
theorem dX4_restore_12 : decode cX4_restore 12 = .ok (.goto 17, 3) := by decide +kernel
theorem dX4_restore_15 : decode cX4_restore 15 = .ok (.aload_n 0, 1) := by decide +kernel
theorem dX4_restore_16 : decode cX4_restore 16 = .ok (.getfield 22, 3) := by decide +kernel
theorem dX4_restore_19 : decode cX4_restore 19 = .ok (.iload_n 1, 1) := by decide +kernel
theorem dX4_restore_20 : decode cX4_restore 20 = .ok (.baload, 1) := by decide +kernel
theorem dX4_restore_21 : decode cX4_restore 21 = .ok (.ifCond .ne 7, 3) := by decide +kernel
theorem dX4_restore_24 : decode cX4_restore 24 = .ok (.iconst 2, 1) := by decide +kernel
theorem dX4_restore_25 : decode cX4_restore 25 = .ok (.goto 4, 3) := by decide +kernel
theorem dX4_restore_28 : decode cX4_restore 28 = .ok (.iconst 0, 1) := by decide +kernel
theorem dX4_restore_29 : decode cX4_restore 29 = .ok (.putfield 55, 3) := by decide +kernel
theorem dX4_restore_32 : decode cX4_restore 32 = .ok (.aload_n 0, 1) := by decide +kernel
theorem dX4_restore_33 : decode cX4_restore 33 = .ok (.getfield 55, 3) := by decide +kernel
theorem dX4_restore_36 : decode cX4_restore 36 = .ok (.ifCond .ne 24, 3) := by decide +kernel
theorem dX4_restore_39 : decode cX4_restore 39 = .ok (.aload_n 0, 1) := by decide +kernel
theorem dX4_restore_40 : decode cX4_restore 40 = .ok (.getfield 19, 3) := by decide +kernel
theorem dX4_restore_43 : decode cX4_restore 43 = .ok (.sipush 474, 3) := by decide +kernel
theorem dX4_restore_46 : decode cX4_restore 46 = .ok (.iload_n 1, 1) := by decide +kernel
theorem dX4_restore_47 : decode cX4_restore 47 = .ok (.imul, 1) := by decide +kernel
theorem dX4_restore_48 : decode cX4_restore 48 = .ok (.aload_n 0, 1) := by decide +kernel
theorem dX4_restore_49 : decode cX4_restore 49 = .ok (.getfield 7, 3) := by decide +kernel
theorem dX4_restore_52 : decode cX4_restore 52 = .ok (.iconst 0, 1) := by decide +kernel
theorem dX4_restore_53 : decode cX4_restore 53 = .ok (.invokestatic 184, 3) := by decide +kernel
theorem dX4_restore_56 : decode cX4_restore 56 = .ok (.aload_n 0, 1) := by decide +kernel
theorem dX4_restore_57 : decode cX4_restore 57 = .ok (.invokevirtual 52, 3) := by decide +kernel
theorem dX4_restore_60 : decode cX4_restore 60 = .ok (.return_, 1) := by decide +kernel
def w_X4_restore_60  (Q : V3 → Prop) (v : V3) : Prop := Q v
def w_X4_restore_29  (Q : V3 → Prop) (x1 : Int32) (s1 : Int32) (v : V3) : Prop := ∀ v6 : V3, v6 = up2 v 7 11 s1 → ((¬ (v6 7 11) = 0 → w_X4_restore_60 Q v6) ∧ ((v6 7 11) = 0 → w_X4_copy 11 948 (474 * x1) 8 474 0 v6 (fun v8 => w_X4_clearDraft v8 (fun v9 => w_X4_restore_60 Q v9))))
def w_X4_restore (a1 : Int32) (v : V3) (Q : V3 → Prop) : Prop := w_X4_isBetween ((a1).toInt64) 0 1 v (fun r2 v1 => ((¬ r2 = 0 → vp_in a1 2 ∧ ((¬ (v1 12 (ix a1)) = 0 → w_X4_restore_29 Q a1 0 v1) ∧ ((v1 12 (ix a1)) = 0 → w_X4_restore_29 Q a1 2 v1))) ∧ (r2 = 0 → w_X4_restore_29 Q a1 1 v1)))
set_option maxRecDepth 100000 in
set_option maxHeartbeats 4000000 in
theorem b_X4_restore_60 {p : Program} (l : Launch) {e : Env} {s : State} {m : MethodId} {args : Array Value} {below : List Frame} {meth : Method} {c : Code} {G : zG}   (C0 : Cx G RX4 cX4_restore 2 none p s m args meth c) {Q : V3 → Prop} : ∀ (v : V3) (H : Heap) (locs : List Loc) (ls : Array Slot), w_X4_restore_60 Q v → Zs G s v H locs → lv_has ls 2 [] → W p l e { frames := 1, cells := 0, slots := 0, locals := 25 } s m args below meth c H locs 0 0 (MQ below (QvZ G Q) args s 0 0 (zA G)) (F0 m 60 ls []) := by
  have hx := C0.1
  have hb := C0.2.1
  intro v H locs ls hw Z hl
  rw [w_X4_restore_60] at hw
  exact z_vret C0 Z hw dX4_restore_60
set_option maxRecDepth 100000 in
set_option maxHeartbeats 4000000 in
theorem b_X4_restore_29 {p : Program} (l : Launch) {e : Env} {s : State} {m : MethodId} {args : Array Value} {below : List Frame} {meth : Method} {c : Code} {G : zG}   (C0 : Cx G RX4 cX4_restore 2 none p s m args meth c) {Q : V3 → Prop} : ∀ (x1 : Int32) (s1 : Int32) (v : V3) (H : Heap) (locs : List Loc) (ls : Array Slot), w_X4_restore_29 Q x1 s1 v → Zs G s v H locs → lv_has ls 2 [(0, .ref (gad G 7)), (1, .int x1)] → W p l e { frames := 1, cells := 0, slots := 0, locals := 25 } s m args below meth c H locs 0 0 (MQ below (QvZ G Q) args s 0 0 (zA G)) (F0 m 29 ls [.int s1, .ref (gad G 7)]) := by
  have hx := C0.1
  have hb := C0.2.1
  intro x1 s1 v H locs ls hw Z hl
  rw [w_X4_restore_29] at hw
  refine z_put C0 Z in_X4 tyX4_ok nmX4 rfl 11 (by decide) rfl rfl tm_4_214 (cx_lt C0 (by decide)) rfl p_X4_11 (fun c' h => up2_off _ _ _ h) rfl rfl (Nat.le_of_ble_eq_true rfl) dX4_restore_29 (fun H locs Z => ?_)
  obtain ⟨v6, ev6⟩ : ∃ z : V3, z = up2 v 7 11 s1 := ⟨_, rfl⟩
  rw [← ev6] at Z
  replace hw := hw v6 ev6
  refine lv_aload_n hx hb dX4_restore_32 rfl (lv_at hl 0 rfl) ?_
  refine z_get C0 Z in_X4 rfl 11 (by decide) rfl tm_4_214 (cx_lt C0 (by decide)) rfl rfl dX4_restore_33 ?_
  refine lv_if_ne (tgt := 60) hx hb dX4_restore_36 (by decide) (fun c7 => ?_) (fun c7 => ?_)
  · replace hw := hw.1 c7
    exact b_X4_restore_60 l C0 _ _ _ _ hw Z (lv_sub hl [] rfl)
  · replace hw := hw.2 c7
    refine lv_aload_n hx hb dX4_restore_39 rfl (lv_at hl 0 rfl) ?_
    refine z_get C0 Z in_X4 rfl 3 (by decide) rfl tm_4_206 (cx_lt C0 (by decide)) rfl rfl dX4_restore_40 ?_
    refine lv_sipush (v := 474) hx hb dX4_restore_43 (by decide) ?_
    refine lv_iload_n hx hb dX4_restore_46 rfl (lv_at hl 1 rfl) ?_
    refine lv_imul hx hb dX4_restore_47 ?_
    refine lv_aload_n hx hb dX4_restore_48 rfl (lv_at hl 0 rfl) ?_
    refine z_get C0 Z in_X4 rfl 0 (by decide) rfl tm_4_203 (cx_lt C0 (by decide)) rfl rfl dX4_restore_49 ?_
    refine lv_iconst (v := 0) hx hb dX4_restore_52 (by decide) ?_
    refine z_callSv C0 Z hl.1 (As := [.ref (gad G 11), .int (474 * x1), .ref (gad G 8), .int 0]) (rest := []) (k_X4_copy l (cx_g C0) ⟨(cx_lt C0 (by decide)), (fun _ => rfl)⟩ ⟨(cx_lt C0 (by decide)), (fun _ => rfl)⟩ hw) (gv_X4_copy tm_5_90) ds_X4_copy ⟨Nat.le_of_ble_eq_true rfl, Nat.le_of_ble_eq_true rfl⟩ rfl rfl (Nat.le_of_ble_eq_true rfl) ⟨Nat.le_of_ble_eq_true rfl, Nat.le_of_ble_eq_true rfl⟩ dX4_restore_53 (fun v8 H locs hw Z => ?_)
    refine lv_aload_n hx hb dX4_restore_56 rfl (lv_at hl 0 rfl) ?_
    refine z_callVv C0 Z hl.1 (As := []) (rest := []) (k_X4_clearDraft l (cx_g C0) hw) (gv_X4_clearDraft tm_4_199) rfl ds_X4_clearDraft ⟨Nat.le_of_ble_eq_true rfl, Nat.le_of_ble_eq_true rfl⟩ (ci := 4) rfl (cx_lt C0 (by decide)) rfl rfl rfl (Nat.le_of_ble_eq_true rfl) ⟨Nat.le_of_ble_eq_true rfl, Nat.le_of_ble_eq_true rfl⟩ dX4_restore_57 (fun v9 H locs hw Z => ?_)
    exact b_X4_restore_60 l C0 _ _ _ _ hw Z (lv_sub hl [] rfl)
set_option maxRecDepth 100000 in
set_option maxHeartbeats 4000000 in
theorem k_X4_restore (l : Launch) {G : zG} (hg : 129 ≤ gn G) {a1 : Int32}  {v : V3} {Q : V3 → Prop} (hw : w_X4_restore a1 v Q) : Mz l yX4_restore cX4_restore 2 none 1 25 G [.ref (gad G 7), .int a1] v (QvZ G Q) := by
  rw [w_X4_restore] at hw
  refine z_ofW hg (by decide) (Nat.le_of_ble_eq_true rfl) ?_
  intro p e s m args below meth c ls C0 Z hl
  have hx := C0.1
  have hb := C0.2.1
  replace hl : lv_has ls 2 [(0, .ref (gad G 7)), (1, .int a1)] := hl
  generalize s.heap = H at Z ⊢
  generalize ([] : List Loc) = locs at Z ⊢
  refine lv_aload_n hx hb dX4_restore_0 rfl (lv_at hl 0 rfl) ?_
  refine lv_iload_n hx hb dX4_restore_1 rfl (lv_at hl 1 rfl) ?_
  refine lv_i2l (v := (a1).toInt64) hx hb dX4_restore_2 rfl ?_
  refine lv_lconst (v := 0) hx hb dX4_restore_3 (by decide) ?_
  refine lv_lconst (v := 1) hx hb dX4_restore_4 (by decide) ?_
  refine z_callSi C0 Z hl.1 (As := [.long ((a1).toInt64), .long 0, .long 1]) (rest := [.ref (gad G 7)]) (k_X4_isBetween l (cx_g C0) hw) (gv_X4_isBetween tm_5_83) ds_X4_isBetween ⟨Nat.le_of_ble_eq_true rfl, Nat.le_of_ble_eq_true rfl⟩ rfl rfl (Nat.le_of_ble_eq_true rfl) ⟨Nat.le_of_ble_eq_true rfl, Nat.le_of_ble_eq_true rfl⟩ dX4_restore_5 (fun r2 v1 H locs hw Z => ?_)
  refine lv_if_ne (tgt := 15) hx hb dX4_restore_8 (by decide) (fun c3 => ?_) (fun c3 => ?_)
  · replace hw := hw.1 c3
    refine lv_aload_n hx hb dX4_restore_15 rfl (lv_at hl 0 rfl) ?_
    refine z_get C0 Z in_X4 rfl 4 (by decide) rfl tm_4_207 (cx_lt C0 (by decide)) rfl rfl dX4_restore_16 ?_
    refine lv_iload_n hx hb dX4_restore_19 rfl (lv_at hl 1 rfl) ?_
    obtain ⟨h4, hw⟩ := hw
    refine z_zald C0 Z (cx_lt C0 (by decide)) rfl h4 dX4_restore_20 ?_
    refine lv_if_ne (tgt := 28) hx hb dX4_restore_21 (by decide) (fun c5 => ?_) (fun c5 => ?_)
    · replace hw := hw.1 c5
      refine lv_iconst (v := 0) hx hb dX4_restore_28 (by decide) ?_
      exact b_X4_restore_29 l C0 _ _ _ _ _ _ hw Z (lv_sub hl [0, 1] rfl)
    · replace hw := hw.2 c5
      refine lv_iconst (v := 2) hx hb dX4_restore_24 (by decide) ?_
      refine lv_goto (tgt := 29) hx hb dX4_restore_25 (by decide) ?_
      exact b_X4_restore_29 l C0 _ _ _ _ _ _ hw Z (lv_sub hl [0, 1] rfl)
  · replace hw := hw.2 c3
    refine lv_iconst (v := 1) hx hb dX4_restore_11 (by decide) ?_
    refine lv_goto (tgt := 29) hx hb dX4_restore_12 (by decide) ?_
    exact b_X4_restore_29 l C0 _ _ _ _ _ _ hw Z (lv_sub hl [0, 1] rfl)
