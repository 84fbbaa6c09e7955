-- X1_usedWithin: room (1, 24)
theorem dX1_usedWithin_0 : decode cX1_usedWithin 0 = .ok (.iconst 0, 1) := by decide +kernel
theorem dX1_usedWithin_1 : decode cX1_usedWithin 1 = .ok (.istore_n 2, 1) := by decide +kernel
theorem dX1_usedWithin_2 : decode cX1_usedWithin 2 = .ok (.iconst 0, 1) := by decide +kernel
theorem dX1_usedWithin_3 : decode cX1_usedWithin 3 = .ok (.istore_n 3, 1) := by decide +kernel
theorem dX1_usedWithin_4 : decode cX1_usedWithin 4 = .ok (.iload_n 3, 1) := by decide +kernel
theorem dX1_usedWithin_5 : decode cX1_usedWithin 5 = .ok (.aload_n 0, 1) := by decide +kernel
theorem dX1_usedWithin_6 : decode cX1_usedWithin 6 = .ok (.getfield 43, 3) := by decide +kernel
theorem dX1_usedWithin_9 : decode cX1_usedWithin 9 = .ok (.if_icmp .ge 83, 3) := by decide +kernel
theorem dX1_usedWithin_12 : decode cX1_usedWithin 12 = .ok (.aload_n 0, 1) := by decide +kernel
theorem dX1_usedWithin_13 : decode cX1_usedWithin 13 = .ok (.getfield 20, 3) := by decide +kernel
theorem dX1_usedWithin_16 : decode cX1_usedWithin 16 = .ok (.iload_n 3, 1) := by decide +kernel
theorem dX1_usedWithin_17 : decode cX1_usedWithin 17 = .ok (.aaload, 1) := by decide +kernel
theorem dX1_usedWithin_18 : decode cX1_usedWithin 18 = .ok (.astore 4, 2) := by decide +kernel
theorem dX1_usedWithin_20 : decode cX1_usedWithin 20 = .ok (.aload 4, 2) := by decide +kernel
theorem dX1_usedWithin_22 : decode cX1_usedWithin 22 = .ok (.bipush 7, 2) := by decide +kernel
theorem dX1_usedWithin_24 : decode cX1_usedWithin 24 = .ok (.iaload, 1) := by decide +kernel
theorem dX1_usedWithin_25 : decode cX1_usedWithin 25 = .ok (.iconst 1, 1) := by decide +kernel
theorem dX1_usedWithin_26 : decode cX1_usedWithin 26 = .ok (.if_icmp .eq 12, 3) := by decide +kernel
theorem dX1_usedWithin_29 : decode cX1_usedWithin 29 = .ok (.aload 4, 2) := by decide +kernel
theorem dX1_usedWithin_31 : decode cX1_usedWithin 31 = .ok (.bipush 7, 2) := by decide +kernel
theorem dX1_usedWithin_33 : decode cX1_usedWithin 33 = .ok (.iaload, 1) := by decide +kernel
theorem dX1_usedWithin_34 : decode cX1_usedWithin 34 = .ok (.iconst 2, 1) := by decide +kernel
theorem dX1_usedWithin_35 : decode cX1_usedWithin 35 = .ok (.if_icmp .ne 51, 3) := by decide +kernel
theorem dX1_usedWithin_38 : decode cX1_usedWithin 38 = .ok (.aload 4, 2) := by decide +kernel
theorem dX1_usedWithin_40 : decode cX1_usedWithin 40 = .ok (.bipush 9, 2) := by decide +kernel
theorem dX1_usedWithin_42 : decode cX1_usedWithin 42 = .ok (.iaload, 1) := by decide +kernel
theorem dX1_usedWithin_43 : decode cX1_usedWithin 43 = .ok (.aload_n 0, 1) := by decide +kernel
theorem dX1_usedWithin_44 : decode cX1_usedWithin 44 = .ok (.getfield 37, 3) := by decide +kernel
theorem dX1_usedWithin_47 : decode cX1_usedWithin 47 = .ok (.iload_n 1, 1) := by decide +kernel
theorem dX1_usedWithin_48 : decode cX1_usedWithin 48 = .ok (.iadd, 1) := by decide +kernel
theorem dX1_usedWithin_49 : decode cX1_usedWithin 49 = .ok (.invokestatic 101, 3) := by decide +kernel
theorem dX1_usedWithin_52 : decode cX1_usedWithin 52 = .ok (.aload 4, 2) := by decide +kernel
theorem dX1_usedWithin_54 : decode cX1_usedWithin 54 = .ok (.bipush 8, 2) := by decide +kernel
theorem dX1_usedWithin_56 : decode cX1_usedWithin 56 = .ok (.iaload, 1) := by decide +kernel
theorem dX1_usedWithin_57 : decode cX1_usedWithin 57 = .ok (.aload_n 0, 1) := by decide +kernel
theorem dX1_usedWithin_58 : decode cX1_usedWithin 58 = .ok (.getfield 37, 3) := by decide +kernel
theorem dX1_usedWithin_61 : decode cX1_usedWithin 61 = .ok (.invokestatic 104, 3) := by decide +kernel
theorem dX1_usedWithin_64 : decode cX1_usedWithin 64 = .ok (.isub, 1) := by decide +kernel
theorem dX1_usedWithin_65 : decode cX1_usedWithin 65 = .ok (.istore 5, 2) := by decide +kernel
theorem dX1_usedWithin_67 : decode cX1_usedWithin 67 = .ok (.iload_n 2, 1) := by decide +kernel
theorem dX1_usedWithin_68 : decode cX1_usedWithin 68 = .ok (.iload 5, 2) := by decide +kernel
theorem dX1_usedWithin_70 : decode cX1_usedWithin 70 = .ok (.ifCond .le 13, 3) := by decide +kernel
theorem dX1_usedWithin_73 : decode cX1_usedWithin 73 = .ok (.iload 5, 2) := by decide +kernel
theorem dX1_usedWithin_75 : decode cX1_usedWithin 75 = .ok (.aload 4, 2) := by decide +kernel
theorem dX1_usedWithin_77 : decode cX1_usedWithin 77 = .ok (.iconst 2, 1) := by decide +kernel
theorem dX1_usedWithin_78 : decode cX1_usedWithin 78 = .ok (.iaload, 1) := by decide +kernel
theorem dX1_usedWithin_79 : decode cX1_usedWithin 79 = .ok (.imul, 1) := by decide +kernel
theorem dX1_usedWithin_80 : decode cX1_usedWithin 80 = .ok (.goto 4, 3) := by decide +kernel
theorem dX1_usedWithin_83 : decode cX1_usedWithin 83 = .ok (.iconst 0, 1) := by decide +kernel
theorem dX1_usedWithin_84 : decode cX1_usedWithin 84 = .ok (.iadd, 1) := by decide +kernel
theorem dX1_usedWithin_85 : decode cX1_usedWithin 85 = .ok (.istore_n 2, 1) := by decide +kernel
theorem dX1_usedWithin_86 : decode cX1_usedWithin 86 = .ok (.iinc 3 1, 3) := by decide +kernel
theorem dX1_usedWithin_89 : decode cX1_usedWithin 89 = .ok (.goto (-85), 3) := by decide +kernel
theorem dX1_usedWithin_92 : decode cX1_usedWithin 92 = .ok (.iload_n 2, 1) := by decide +kernel
theorem dX1_usedWithin_93 : decode cX1_usedWithin 93 = .ok (.ireturn, 1) := by decide +kernel
def w_X1_usedWithin_86 (this : Nat) (Q : Int32 → V3 → Prop) (K4 : Int32 → Int32 → Int32 → V3 → Prop) (x1 : Int32) (x2 : Int32) (x3 : Int32) (v : V3) : Prop := K4 x1 x2 (x3 + 1) v
def w_X1_usedWithin_84 (this : Nat) (Q : Int32 → V3 → Prop) (K4 : Int32 → Int32 → Int32 → V3 → Prop) (x1 : Int32) (x3 : Int32) (s0 : Int32) (s1 : Int32) (v : V3) : Prop := w_X1_usedWithin_86 this Q K4 x1 (s0 + s1) x3 v
def w_X1_usedWithin_38 (this : Nat) (Q : Int32 → V3 → Prop) (K4 : Int32 → Int32 → Int32 → V3 → Prop) (x1 : Int32) (x2 : Int32) (x3 : Int32) (x4 : Nat) (v : V3) : Prop := ((((zmin (v (this + 14 + x4) 9) ((v this 6) + x1)) - (zmax (v (this + 14 + x4) 8) (v this 6))) ≤ 0 → w_X1_usedWithin_84 this Q K4 x1 x3 x2 0 v) ∧ (¬ ((zmin (v (this + 14 + x4) 9) ((v this 6) + x1)) - (zmax (v (this + 14 + x4) 8) (v this 6))) ≤ 0 → w_X1_usedWithin_84 this Q K4 x1 x3 x2 (((zmin (v (this + 14 + x4) 9) ((v this 6) + x1)) - (zmax (v (this + 14 + x4) 8) (v this 6))) * (v (this + 14 + x4) 2)) v))
def w_X1_usedWithin_4 (this : Nat) (Q : Int32 → V3 → Prop) : Nat → Int32 → Int32 → Int32 → V3 → Prop
  | 0, _, _, _, _ => False
  | n4 + 1, x1, x2, x3, v => (((v this 8) ≤ x3 → Q x2 v) ∧ (¬ (v this 8) ≤ x3 → vp_in x3 40 ∧ (((v (this + 14 + (ix x3)) 7) = 1 → w_X1_usedWithin_38 this Q (w_X1_usedWithin_4 this Q n4) x1 x2 x3 (ix x3) v) ∧ (¬ (v (this + 14 + (ix x3)) 7) = 1 → ((¬ (v (this + 14 + (ix x3)) 7) = 2 → w_X1_usedWithin_86 this Q (w_X1_usedWithin_4 this Q n4) x1 x2 x3 v) ∧ ((v (this + 14 + (ix x3)) 7) = 2 → w_X1_usedWithin_38 this Q (w_X1_usedWithin_4 this Q n4) x1 x2 x3 (ix x3) v))))))
def w_X1_usedWithin (this : Nat) (a1 : Int32) (v : V3) (Q : Int32 → V3 → Prop) : Prop := ∃ m4 : Nat, w_X1_usedWithin_4 this Q m4 a1 0 0 v
set_option maxRecDepth 100000 in
set_option maxHeartbeats 4000000 in
theorem b_X1_usedWithin_86 {p : Program} (l : Launch) {e : Env} {s : State} {m : MethodId} {args : Array Value} {below : List Frame} {meth : Method} {c : Code} {G : zG} {this : Nat} (hL : isL G this) (C0 : Cx G RX1 cX1_usedWithin 6 (some .int) p s m args meth c) {Q : Int32 → V3 → Prop} {K4 : Int32 → Int32 → Int32 → V3 → Prop} (hK4 : ∀ (x1 : Int32) (x2 : Int32) (x3 : Int32) (v : V3) (H : Heap) (locs : List Loc) (ls : Array Slot), K4 x1 x2 x3 v → Zs G s v H locs → lv_has ls 6 [(0, .ref (gad G this)), (1, .int x1), (2, .int x2), (3, .int x3)] → W p l e { frames := 1, cells := 0, slots := 0, locals := 24 } s m args below meth c H locs 0 0 (MQ below (QiZ G Q) args s 0 0 (zA G)) (F0 m 4 ls [])) : ∀ (x1 : Int32) (x2 : Int32) (x3 : Int32) (v : V3) (H : Heap) (locs : List Loc) (ls : Array Slot), w_X1_usedWithin_86 this Q K4 x1 x2 x3 v → Zs G s v H locs → lv_has ls 6 [(0, .ref (gad G this)), (1, .int x1), (2, .int x2), (3, .int x3)] → W p l e { frames := 1, cells := 0, slots := 0, locals := 24 } s m args below meth c H locs 0 0 (MQ below (QiZ G Q) args s 0 0 (zA G)) (F0 m 86 ls []) := by
  have hx := C0.1
  have hb := C0.2.1
  intro x1 x2 x3 v H locs ls hw Z hl
  rw [w_X1_usedWithin_86] at hw
  refine lv_iinc (v := x3 + 1) (lv' := [(3, .int (x3 + 1)), (0, .ref (gad G this)), (1, .int x1), (2, .int x2)]) hx hb dX1_usedWithin_86 hl (k := 3) rfl rfl (by decide) rfl (fun ls hl => ?_)
  refine lv_goto (tgt := 4) hx hb dX1_usedWithin_89 (by decide) ?_
  exact hK4 _ _ _ _ _ _ _ hw Z (lv_sub hl [1, 2, 3, 0] rfl)
set_option maxRecDepth 100000 in
set_option maxHeartbeats 4000000 in
theorem b_X1_usedWithin_84 {p : Program} (l : Launch) {e : Env} {s : State} {m : MethodId} {args : Array Value} {below : List Frame} {meth : Method} {c : Code} {G : zG} {this : Nat} (hL : isL G this) (C0 : Cx G RX1 cX1_usedWithin 6 (some .int) p s m args meth c) {Q : Int32 → V3 → Prop} {K4 : Int32 → Int32 → Int32 → V3 → Prop} (hK4 : ∀ (x1 : Int32) (x2 : Int32) (x3 : Int32) (v : V3) (H : Heap) (locs : List Loc) (ls : Array Slot), K4 x1 x2 x3 v → Zs G s v H locs → lv_has ls 6 [(0, .ref (gad G this)), (1, .int x1), (2, .int x2), (3, .int x3)] → W p l e { frames := 1, cells := 0, slots := 0, locals := 24 } s m args below meth c H locs 0 0 (MQ below (QiZ G Q) args s 0 0 (zA G)) (F0 m 4 ls [])) : ∀ (x1 : Int32) (x3 : Int32) (s0 : Int32) (s1 : Int32) (v : V3) (H : Heap) (locs : List Loc) (ls : Array Slot), w_X1_usedWithin_84 this Q K4 x1 x3 s0 s1 v → Zs G s v H locs → lv_has ls 6 [(0, .ref (gad G this)), (1, .int x1), (3, .int x3)] → W p l e { frames := 1, cells := 0, slots := 0, locals := 24 } s m args below meth c H locs 0 0 (MQ below (QiZ G Q) args s 0 0 (zA G)) (F0 m 84 ls [.int s1, .int s0]) := by
  have hx := C0.1
  have hb := C0.2.1
  intro x1 x3 s0 s1 v H locs ls hw Z hl
  rw [w_X1_usedWithin_84] at hw
  refine lv_iadd hx hb dX1_usedWithin_84 ?_
  refine lv_istore_n (lv' := [(2, .int (s0 + s1)), (0, .ref (gad G this)), (1, .int x1), (3, .int x3)]) hx hb dX1_usedWithin_85 rfl hl (by decide) rfl (fun ls hl => ?_)
  exact b_X1_usedWithin_86 l hL C0 hK4 _ _ _ _ _ _ _ hw Z (lv_sub hl [1, 2, 0, 3] rfl)
set_option maxRecDepth 100000 in
set_option maxHeartbeats 4000000 in
theorem b_X1_usedWithin_38 {p : Program} (l : Launch) {e : Env} {s : State} {m : MethodId} {args : Array Value} {below : List Frame} {meth : Method} {c : Code} {G : zG} {this : Nat} (hL : isL G this) (C0 : Cx G RX1 cX1_usedWithin 6 (some .int) p s m args meth c) {Q : Int32 → V3 → Prop} {K4 : Int32 → Int32 → Int32 → V3 → Prop} (hK4 : ∀ (x1 : Int32) (x2 : Int32) (x3 : Int32) (v : V3) (H : Heap) (locs : List Loc) (ls : Array Slot), K4 x1 x2 x3 v → Zs G s v H locs → lv_has ls 6 [(0, .ref (gad G this)), (1, .int x1), (2, .int x2), (3, .int x3)] → W p l e { frames := 1, cells := 0, slots := 0, locals := 24 } s m args below meth c H locs 0 0 (MQ below (QiZ G Q) args s 0 0 (zA G)) (F0 m 4 ls [])) : ∀ (x1 : Int32) (x2 : Int32) (x3 : Int32) (x4 : Nat) (v : V3) (H : Heap) (locs : List Loc) (ls : Array Slot), x4 < 40 → w_X1_usedWithin_38 this Q K4 x1 x2 x3 x4 v → Zs G s v H locs → lv_has ls 6 [(0, .ref (gad G this)), (1, .int x1), (2, .int x2), (3, .int x3), (4, .ref (gad G (this + 14 + x4)))] → W p l e { frames := 1, cells := 0, slots := 0, locals := 24 } s m args below meth c H locs 0 0 (MQ below (QiZ G Q) args s 0 0 (zA G)) (F0 m 38 ls []) := by
  have hx := C0.1
  have hb := C0.2.1
  intro x1 x2 x3 x4 v H locs ls hx4 hw Z hl
  rw [w_X1_usedWithin_38] at hw
  refine lv_aload hx hb dX1_usedWithin_38 (lv_at hl 4 rfl) ?_
  refine lv_bipush (v := 9) hx hb dX1_usedWithin_40 (by decide) ?_
  refine z_ialdk C0 Z (isL_B hL hx4) (ent_B hL hx4) in_9_10 nc_9 dX1_usedWithin_42 ?_
  refine lv_aload_n hx hb dX1_usedWithin_43 rfl (lv_at hl 0 rfl) ?_
  refine z_get C0 Z in_X1 rfl 6 (by decide) rfl tm_1_57 (isL_lt0 hL) (ent_L hL) rfl dX1_usedWithin_44 ?_
  refine lv_iload_n hx hb dX1_usedWithin_47 rfl (lv_at hl 1 rfl) ?_
  refine lv_iadd hx hb dX1_usedWithin_48 ?_
  refine z_min C0 hl.1 tm_2_108 (Nat.le_of_ble_eq_true rfl) (Nat.le_of_ble_eq_true rfl) (Nat.le_of_ble_eq_true rfl) (Nat.le_of_ble_eq_true rfl) dX1_usedWithin_49 ?_
  refine lv_aload hx hb dX1_usedWithin_52 (lv_at hl 4 rfl) ?_
  refine lv_bipush (v := 8) hx hb dX1_usedWithin_54 (by decide) ?_
  refine z_ialdk C0 Z (isL_B hL hx4) (ent_B hL hx4) in_8_10 nc_8 dX1_usedWithin_56 ?_
  refine lv_aload_n hx hb dX1_usedWithin_57 rfl (lv_at hl 0 rfl) ?_
  refine z_get C0 Z in_X1 rfl 6 (by decide) rfl tm_1_57 (isL_lt0 hL) (ent_L hL) rfl dX1_usedWithin_58 ?_
  refine z_max C0 hl.1 tm_2_111 (Nat.le_of_ble_eq_true rfl) (Nat.le_of_ble_eq_true rfl) (Nat.le_of_ble_eq_true rfl) (Nat.le_of_ble_eq_true rfl) dX1_usedWithin_61 ?_
  refine lv_isub hx hb dX1_usedWithin_64 ?_
  refine lv_istore (lv' := [(5, .int ((zmin (v (this + 14 + x4) 9) ((v this 6) + x1)) - (zmax (v (this + 14 + x4) 8) (v this 6)))), (0, .ref (gad G this)), (1, .int x1), (2, .int x2), (3, .int x3), (4, .ref (gad G (this + 14 + x4)))]) hx hb dX1_usedWithin_65 hl (by decide) rfl (fun ls hl => ?_)
  refine lv_iload_n hx hb dX1_usedWithin_67 rfl (lv_at hl 3 rfl) ?_
  refine lv_iload hx hb dX1_usedWithin_68 (lv_at hl 0 rfl) ?_
  refine lv_if_le (tgt := 83) hx hb dX1_usedWithin_70 (by decide) (fun c5 => ?_) (fun c5 => ?_)
  · replace hw := hw.1 c5
    refine lv_iconst (v := 0) hx hb dX1_usedWithin_83 (by decide) ?_
    exact b_X1_usedWithin_84 l hL C0 hK4 _ _ _ _ _ _ _ _ hw Z (lv_sub hl [1, 2, 4] rfl)
  · replace hw := hw.2 c5
    refine lv_iload hx hb dX1_usedWithin_73 (lv_at hl 0 rfl) ?_
    refine lv_aload hx hb dX1_usedWithin_75 (lv_at hl 5 rfl) ?_
    refine lv_iconst (v := 2) hx hb dX1_usedWithin_77 (by decide) ?_
    refine z_ialdk C0 Z (isL_B hL hx4) (ent_B hL hx4) in_2_10 nc_2 dX1_usedWithin_78 ?_
    refine lv_imul hx hb dX1_usedWithin_79 ?_
    refine lv_goto (tgt := 84) hx hb dX1_usedWithin_80 (by decide) ?_
    exact b_X1_usedWithin_84 l hL C0 hK4 _ _ _ _ _ _ _ _ hw Z (lv_sub hl [1, 2, 4] rfl)
set_option maxRecDepth 100000 in
set_option maxHeartbeats 4000000 in
theorem b_X1_usedWithin_4 {p : Program} (l : Launch) {e : Env} {s : State} {m : MethodId} {args : Array Value} {below : List Frame} {meth : Method} {c : Code} {G : zG} {this : Nat} (hL : isL G this) (C0 : Cx G RX1 cX1_usedWithin 6 (some .int) p s m args meth c) {Q : Int32 → V3 → Prop} : ∀ (n : Nat) (x1 : Int32) (x2 : Int32) (x3 : Int32) (v : V3) (H : Heap) (locs : List Loc) (ls : Array Slot), w_X1_usedWithin_4 this Q n x1 x2 x3 v → Zs G s v H locs → lv_has ls 6 [(0, .ref (gad G this)), (1, .int x1), (2, .int x2), (3, .int x3)] → W p l e { frames := 1, cells := 0, slots := 0, locals := 24 } s m args below meth c H locs 0 0 (MQ below (QiZ G Q) args s 0 0 (zA G)) (F0 m 4 ls []) := by
  have hx := C0.1
  have hb := C0.2.1
  intro n
  induction n with
  | zero =>
    intro x1 x2 x3 v H locs ls hw Z hl
    exact hw.elim
  | succ n hK4 =>
    intro x1 x2 x3 v H locs ls hw Z hl
    rw [w_X1_usedWithin_4] at hw
    refine lv_iload_n hx hb dX1_usedWithin_4 rfl (lv_at hl 3 rfl) ?_
    refine lv_aload_n hx hb dX1_usedWithin_5 rfl (lv_at hl 0 rfl) ?_
    refine z_get C0 Z in_X1 rfl 8 (by decide) rfl tm_1_62 (isL_lt0 hL) (ent_L hL) rfl dX1_usedWithin_6 ?_
    refine lv_icmp_ge (tgt := 92) hx hb dX1_usedWithin_9 (by decide) (fun c1 => ?_) (fun c1 => ?_)
    · replace hw := hw.1 c1
      refine lv_iload_n hx hb dX1_usedWithin_92 rfl (lv_at hl 2 rfl) ?_
      exact z_iret C0 Z hw dX1_usedWithin_93
    · replace hw := hw.2 c1
      refine lv_aload_n hx hb dX1_usedWithin_12 rfl (lv_at hl 0 rfl) ?_
      refine z_get C0 Z in_X1 rfl 2 (by decide) rfl tm_1_49 (isL_lt0 hL) (ent_L hL) rfl dX1_usedWithin_13 ?_
      refine lv_iload_n hx hb dX1_usedWithin_16 rfl (lv_at hl 3 rfl) ?_
      obtain ⟨h2, hw⟩ := hw
      have h3 := vp_lt h2
      refine z_aald C0 Z (isL_lt hL 3 (by decide)) (ent_L3 hL) h2 dX1_usedWithin_17 ?_
      refine lv_astore (lv' := [(4, .ref (gad G (this + 14 + (ix x3)))), (0, .ref (gad G this)), (1, .int x1), (2, .int x2), (3, .int x3)]) hx hb dX1_usedWithin_18 hl (by decide) rfl (fun ls hl => ?_)
      refine lv_aload hx hb dX1_usedWithin_20 (lv_at hl 0 rfl) ?_
      refine lv_bipush (v := 7) hx hb dX1_usedWithin_22 (by decide) ?_
      refine z_ialdk C0 Z (isL_B hL h3) (ent_B hL h3) in_7_10 nc_7 dX1_usedWithin_24 ?_
      refine lv_iconst (v := 1) hx hb dX1_usedWithin_25 (by decide) ?_
      refine lv_icmp_eq (tgt := 38) hx hb dX1_usedWithin_26 (by decide) (fun c4 => ?_) (fun c4 => ?_)
      · replace hw := hw.1 c4
        exact b_X1_usedWithin_38 l hL C0 hK4 _ _ _ _ _ _ _ _ h3 hw Z (lv_sub hl [1, 2, 3, 4, 0] rfl)
      · replace hw := hw.2 c4
        refine lv_aload hx hb dX1_usedWithin_29 (lv_at hl 0 rfl) ?_
        refine lv_bipush (v := 7) hx hb dX1_usedWithin_31 (by decide) ?_
        refine z_ialdk C0 Z (isL_B hL h3) (ent_B hL h3) in_7_10 nc_7 dX1_usedWithin_33 ?_
        refine lv_iconst (v := 2) hx hb dX1_usedWithin_34 (by decide) ?_
        refine lv_icmp_ne (tgt := 86) hx hb dX1_usedWithin_35 (by decide) (fun c6 => ?_) (fun c6 => ?_)
        · replace hw := hw.1 c6
          exact b_X1_usedWithin_86 l hL C0 hK4 _ _ _ _ _ _ _ hw Z (lv_sub hl [1, 2, 3, 4] rfl)
        · replace hw := hw.2 c6
          exact b_X1_usedWithin_38 l hL C0 hK4 _ _ _ _ _ _ _ _ h3 hw Z (lv_sub hl [1, 2, 3, 4, 0] rfl)
set_option maxRecDepth 100000 in
set_option maxHeartbeats 4000000 in
theorem k_X1_usedWithin (l : Launch) {G : zG} (hg : 116 ≤ gn G) {this : Nat} {a1 : Int32} (hL : isL G this) {v : V3} {Q : Int32 → V3 → Prop} (hw : w_X1_usedWithin this a1 v Q) : Mz l yX1_usedWithin cX1_usedWithin 6 (some .int) 1 24 G [.ref (gad G this), .int a1] v (QiZ G Q) := by
  rw [w_X1_usedWithin] at hw
  refine z_ofW hg (by decide) (Nat.le_of_ble_eq_true rfl) ?_
  intro p e s m args below meth c ls C0 Z hl
  have hx := C0.1
  have hb := C0.2.1
  replace hl : lv_has ls 6 [(0, .ref (gad G this)), (1, .int a1)] := hl
  generalize s.heap = H at Z ⊢
  generalize ([] : List Loc) = locs at Z ⊢
  refine lv_iconst (v := 0) hx hb dX1_usedWithin_0 (by decide) ?_
  refine lv_istore_n (lv' := [(2, .int 0), (0, .ref (gad G this)), (1, .int a1)]) hx hb dX1_usedWithin_1 rfl hl (by decide) rfl (fun ls hl => ?_)
  refine lv_iconst (v := 0) hx hb dX1_usedWithin_2 (by decide) ?_
  refine lv_istore_n (lv' := [(3, .int 0), (2, .int 0), (0, .ref (gad G this)), (1, .int a1)]) hx hb dX1_usedWithin_3 rfl hl (by decide) rfl (fun ls hl => ?_)
  obtain ⟨m4, hw⟩ := hw
  exact b_X1_usedWithin_4 l hL C0 m4 _ _ _ _ _ _ _ hw Z (lv_sub hl [2, 3, 1, 0] rfl)
-- X1_earliestFit: room (1, 28)
theorem dX1_earliestFit_0 : decode cX1_earliestFit 0 = .ok (.iload 4, 2) := by decide +kernel
theorem dX1_earliestFit_2 : decode cX1_earliestFit 2 = .ok (.aload_n 0, 1) := by decide +kernel
theorem dX1_earliestFit_3 : decode cX1_earliestFit 3 = .ok (.getfield 37, 3) := by decide +kernel
theorem dX1_earliestFit_6 : decode cX1_earliestFit 6 = .ok (.invokestatic 104, 3) := by decide +kernel
theorem dX1_earliestFit_9 : decode cX1_earliestFit 9 = .ok (.istore 6, 2) := by decide +kernel
theorem dX1_earliestFit_11 : decode cX1_earliestFit 11 = .ok (.iconst 0, 1) := by decide +kernel
theorem dX1_earliestFit_12 : decode cX1_earliestFit 12 = .ok (.istore 7, 2) := by decide +kernel
theorem dX1_earliestFit_14 : decode cX1_earliestFit 14 = .ok (.iload 7, 2) := by decide +kernel
theorem dX1_earliestFit_16 : decode cX1_earliestFit 16 = .ok (.aload_n 0, 1) := by decide +kernel
theorem dX1_earliestFit_17 : decode cX1_earliestFit 17 = .ok (.getfield 43, 3) := by decide +kernel
theorem dX1_earliestFit_20 : decode cX1_earliestFit 20 = .ok (.if_icmp .gt 53, 3) := by decide +kernel
theorem dX1_earliestFit_23 : decode cX1_earliestFit 23 = .ok (.iload 6, 2) := by decide +kernel
theorem dX1_earliestFit_25 : decode cX1_earliestFit 25 = .ok (.iload 5, 2) := by decide +kernel
theorem dX1_earliestFit_27 : decode cX1_earliestFit 27 = .ok (.if_icmp .gt 46, 3) := by decide +kernel
theorem dX1_earliestFit_30 : decode cX1_earliestFit 30 = .ok (.aload_n 0, 1) := by decide +kernel
theorem dX1_earliestFit_31 : decode cX1_earliestFit 31 = .ok (.iload_n 1, 1) := by decide +kernel
theorem dX1_earliestFit_32 : decode cX1_earliestFit 32 = .ok (.iload_n 2, 1) := by decide +kernel
theorem dX1_earliestFit_33 : decode cX1_earliestFit 33 = .ok (.iload 6, 2) := by decide +kernel
theorem dX1_earliestFit_35 : decode cX1_earliestFit 35 = .ok (.iload 6, 2) := by decide +kernel
theorem dX1_earliestFit_37 : decode cX1_earliestFit 37 = .ok (.iload_n 3, 1) := by decide +kernel
theorem dX1_earliestFit_38 : decode cX1_earliestFit 38 = .ok (.iadd, 1) := by decide +kernel
theorem dX1_earliestFit_39 : decode cX1_earliestFit 39 = .ok (.iconst (-1), 1) := by decide +kernel
theorem dX1_earliestFit_40 : decode cX1_earliestFit 40 = .ok (.iconst (-1), 1) := by decide +kernel
theorem dX1_earliestFit_41 : decode cX1_earliestFit 41 = .ok (.invokevirtual 94, 3) := by decide +kernel
theorem dX1_earliestFit_44 : decode cX1_earliestFit 44 = .ok (.istore 8, 2) := by decide +kernel
theorem dX1_earliestFit_46 : decode cX1_earliestFit 46 = .ok (.iload 8, 2) := by decide +kernel
theorem dX1_earliestFit_48 : decode cX1_earliestFit 48 = .ok (.iconst (-1), 1) := by decide +kernel
theorem dX1_earliestFit_49 : decode cX1_earliestFit 49 = .ok (.if_icmp .ne 6, 3) := by decide +kernel
theorem dX1_earliestFit_52 : decode cX1_earliestFit 52 = .ok (.iload 6, 2) := by decide +kernel
theorem dX1_earliestFit_54 : decode cX1_earliestFit 54 = .ok (.ireturn, 1) := by decide +kernel
theorem dX1_earliestFit_55 : decode cX1_earliestFit 55 = .ok (.aload_n 0, 1) := by decide +kernel
theorem dX1_earliestFit_56 : decode cX1_earliestFit 56 = .ok (.getfield 20, 3) := by decide +kernel
theorem dX1_earliestFit_59 : decode cX1_earliestFit 59 = .ok (.iload 8, 2) := by decide +kernel
theorem dX1_earliestFit_61 : decode cX1_earliestFit 61 = .ok (.aaload, 1) := by decide +kernel
theorem dX1_earliestFit_62 : decode cX1_earliestFit 62 = .ok (.bipush 9, 2) := by decide +kernel
theorem dX1_earliestFit_64 : decode cX1_earliestFit 64 = .ok (.iaload, 1) := by decide +kernel
theorem dX1_earliestFit_65 : decode cX1_earliestFit 65 = .ok (.istore 6, 2) := by decide +kernel
theorem dX1_earliestFit_67 : decode cX1_earliestFit 67 = .ok (.iinc 7 1, 3) := by decide +kernel
theorem dX1_earliestFit_70 : decode cX1_earliestFit 70 = .ok (.goto (-56), 3) := by decide +kernel
theorem dX1_earliestFit_73 : decode cX1_earliestFit 73 = .ok (.iconst (-1), 1) := by decide +kernel
theorem dX1_earliestFit_74 : decode cX1_earliestFit 74 = .ok (.ireturn, 1) := by decide +kernel
def w_X1_earliestFit_73 (this : Nat) (Q : Int32 → V3 → Prop) (v : V3) : Prop := Q (-1) v
def w_X1_earliestFit_14 (this : Nat) (Q : Int32 → V3 → Prop) : Nat → Int32 → Int32 → Int32 → Int32 → Int32 → Int32 → V3 → Prop
  | 0, _, _, _, _, _, _, _ => False
  | n14 + 1, x1, x2, x3, x5, x6, x7, v => (((v this 8) < x7 → w_X1_earliestFit_73 this Q v) ∧ (¬ (v this 8) < x7 → ((x5 < x6 → w_X1_earliestFit_73 this Q v) ∧ (¬ x5 < x6 → w_X1_clashing this x1 x2 x6 (x6 + x3) (-1) (-1) v (fun r4 v3 => ((¬ r4 = (-1) → vp_in r4 40 ∧ (w_X1_earliestFit_14 this Q n14) x1 x2 x3 x5 (v3 (this + 14 + (ix r4)) 9) (x7 + 1) v3) ∧ (r4 = (-1) → Q x6 v3)))))))
def w_X1_earliestFit (this : Nat) (a1 : Int32) (a2 : Int32) (a3 : Int32) (a4 : Int32) (a5 : Int32) (v : V3) (Q : Int32 → V3 → Prop) : Prop := ∃ m14 : Nat, w_X1_earliestFit_14 this Q m14 a1 a2 a3 a5 (zmax a4 (v this 6)) 0 v
set_option maxRecDepth 100000 in
set_option maxHeartbeats 4000000 in
theorem b_X1_earliestFit_73 {p : Program} (l : Launch) {e : Env} {s : State} {m : MethodId} {args : Array Value} {below : List Frame} {meth : Method} {c : Code} {G : zG} {this : Nat} (hL : isL G this) (C0 : Cx G RX1 cX1_earliestFit 9 (some .int) p s m args meth c) {Q : Int32 → V3 → Prop} : ∀ (v : V3) (H : Heap) (locs : List Loc) (ls : Array Slot), w_X1_earliestFit_73 this Q v → Zs G s v H locs → lv_has ls 9 [] → W p l e { frames := 1, cells := 0, slots := 0, locals := 28 } s m args below meth c H locs 0 0 (MQ below (QiZ G Q) args s 0 0 (zA G)) (F0 m 73 ls []) := by
  have hx := C0.1
  have hb := C0.2.1
  intro v H locs ls hw Z hl
  rw [w_X1_earliestFit_73] at hw
  refine lv_iconst (v := (-1)) hx hb dX1_earliestFit_73 (by decide) ?_
  exact z_iret C0 Z hw dX1_earliestFit_74
set_option maxRecDepth 100000 in
set_option maxHeartbeats 4000000 in
theorem b_X1_earliestFit_14 {p : Program} (l : Launch) {e : Env} {s : State} {m : MethodId} {args : Array Value} {below : List Frame} {meth : Method} {c : Code} {G : zG} {this : Nat} (hL : isL G this) (C0 : Cx G RX1 cX1_earliestFit 9 (some .int) p s m args meth c) {Q : Int32 → V3 → Prop} : ∀ (n : Nat) (x1 : Int32) (x2 : Int32) (x3 : Int32) (x5 : Int32) (x6 : Int32) (x7 : Int32) (v : V3) (H : Heap) (locs : List Loc) (ls : Array Slot), w_X1_earliestFit_14 this Q n x1 x2 x3 x5 x6 x7 v → Zs G s v H locs → lv_has ls 9 [(0, .ref (gad G this)), (1, .int x1), (2, .int x2), (3, .int x3), (5, .int x5), (6, .int x6), (7, .int x7)] → W p l e { frames := 1, cells := 0, slots := 0, locals := 28 } s m args below meth c H locs 0 0 (MQ below (QiZ G Q) args s 0 0 (zA G)) (F0 m 14 ls []) := by
  have hx := C0.1
  have hb := C0.2.1
  intro n
  induction n with
  | zero =>
    intro x1 x2 x3 x5 x6 x7 v H locs ls hw Z hl
    exact hw.elim
  | succ n hK14 =>
    intro x1 x2 x3 x5 x6 x7 v H locs ls hw Z hl
    rw [w_X1_earliestFit_14] at hw
    refine lv_iload hx hb dX1_earliestFit_14 (lv_at hl 6 rfl) ?_
    refine lv_aload_n hx hb dX1_earliestFit_16 rfl (lv_at hl 0 rfl) ?_
    refine z_get C0 Z in_X1 rfl 8 (by decide) rfl tm_1_62 (isL_lt0 hL) (ent_L hL) rfl dX1_earliestFit_17 ?_
    refine lv_icmp_gt (tgt := 73) hx hb dX1_earliestFit_20 (by decide) (fun c1 => ?_) (fun c1 => ?_)
    · replace hw := hw.1 c1
      exact b_X1_earliestFit_73 l hL C0 _ _ _ _ hw Z (lv_sub hl [] rfl)
    · replace hw := hw.2 c1
      refine lv_iload hx hb dX1_earliestFit_23 (lv_at hl 5 rfl) ?_
      refine lv_iload hx hb dX1_earliestFit_25 (lv_at hl 4 rfl) ?_
      refine lv_icmp_gt (tgt := 73) hx hb dX1_earliestFit_27 (by decide) (fun c2 => ?_) (fun c2 => ?_)
      · replace hw := hw.1 c2
        exact b_X1_earliestFit_73 l hL C0 _ _ _ _ hw Z (lv_sub hl [] rfl)
      · replace hw := hw.2 c2
        refine lv_aload_n hx hb dX1_earliestFit_30 rfl (lv_at hl 0 rfl) ?_
        refine lv_iload_n hx hb dX1_earliestFit_31 rfl (lv_at hl 1 rfl) ?_
        refine lv_iload_n hx hb dX1_earliestFit_32 rfl (lv_at hl 2 rfl) ?_
        refine lv_iload hx hb dX1_earliestFit_33 (lv_at hl 5 rfl) ?_
        refine lv_iload hx hb dX1_earliestFit_35 (lv_at hl 5 rfl) ?_
        refine lv_iload_n hx hb dX1_earliestFit_37 rfl (lv_at hl 3 rfl) ?_
        refine lv_iadd hx hb dX1_earliestFit_38 ?_
        refine lv_iconst (v := (-1)) hx hb dX1_earliestFit_39 (by decide) ?_
        refine lv_iconst (v := (-1)) hx hb dX1_earliestFit_40 (by decide) ?_
        refine z_callVi C0 Z hl.1 (As := [.int x1, .int x2, .int x6, .int (x6 + x3), .int (-1), .int (-1)]) (rest := []) (k_X1_clashing l (cx_g C0) hL hw) (gv_X1_clashing tm_2_198) rfl ds_X1_clashing ⟨Nat.le_of_ble_eq_true rfl, Nat.le_of_ble_eq_true rfl⟩ (ci := 1) rfl (isL_lt0 hL) (ent_L hL) rfl rfl (Nat.le_of_ble_eq_true rfl) ⟨Nat.le_of_ble_eq_true rfl, Nat.le_of_ble_eq_true rfl⟩ dX1_earliestFit_41 (fun r4 v3 H locs hw Z => ?_)
        refine lv_istore (lv' := [(8, .int r4), (0, .ref (gad G this)), (1, .int x1), (2, .int x2), (3, .int x3), (5, .int x5), (6, .int x6), (7, .int x7)]) hx hb dX1_earliestFit_44 hl (by decide) rfl (fun ls hl => ?_)
        refine lv_iload hx hb dX1_earliestFit_46 (lv_at hl 0 rfl) ?_
        refine lv_iconst (v := (-1)) hx hb dX1_earliestFit_48 (by decide) ?_
        refine lv_icmp_ne (tgt := 55) hx hb dX1_earliestFit_49 (by decide) (fun c5 => ?_) (fun c5 => ?_)
        · replace hw := hw.1 c5
          refine lv_aload_n hx hb dX1_earliestFit_55 rfl (lv_at hl 1 rfl) ?_
          refine z_get C0 Z in_X1 rfl 2 (by decide) rfl tm_1_49 (isL_lt0 hL) (ent_L hL) rfl dX1_earliestFit_56 ?_
          refine lv_iload hx hb dX1_earliestFit_59 (lv_at hl 0 rfl) ?_
          obtain ⟨h6, hw⟩ := hw
          have h7 := vp_lt h6
          refine z_aald C0 Z (isL_lt hL 3 (by decide)) (ent_L3 hL) h6 dX1_earliestFit_61 ?_
          refine lv_bipush (v := 9) hx hb dX1_earliestFit_62 (by decide) ?_
          refine z_ialdk C0 Z (isL_B hL h7) (ent_B hL h7) in_9_10 nc_9 dX1_earliestFit_64 ?_
          refine lv_istore (lv' := [(6, .int (v3 (this + 14 + (ix r4)) 9)), (8, .int r4), (0, .ref (gad G this)), (1, .int x1), (2, .int x2), (3, .int x3), (5, .int x5), (7, .int x7)]) hx hb dX1_earliestFit_65 hl (by decide) rfl (fun ls hl => ?_)
          refine lv_iinc (v := x7 + 1) (lv' := [(7, .int (x7 + 1)), (6, .int (v3 (this + 14 + (ix r4)) 9)), (8, .int r4), (0, .ref (gad G this)), (1, .int x1), (2, .int x2), (3, .int x3), (5, .int x5)]) hx hb dX1_earliestFit_67 hl (k := 7) rfl rfl (by decide) rfl (fun ls hl => ?_)
          refine lv_goto (tgt := 14) hx hb dX1_earliestFit_70 (by decide) ?_
          exact hK14 _ _ _ _ _ _ _ _ _ _ hw Z (lv_sub hl [3, 4, 5, 6, 7, 1, 0] rfl)
        · replace hw := hw.2 c5
          refine lv_iload hx hb dX1_earliestFit_52 (lv_at hl 6 rfl) ?_
          exact z_iret C0 Z hw dX1_earliestFit_54
set_option maxRecDepth 100000 in
set_option maxHeartbeats 4000000 in
theorem k_X1_earliestFit (l : Launch) {G : zG} (hg : 116 ≤ gn G) {this : Nat} {a1 : Int32} {a2 : Int32} {a3 : Int32} {a4 : Int32} {a5 : Int32} (hL : isL G this) {v : V3} {Q : Int32 → V3 → Prop} (hw : w_X1_earliestFit this a1 a2 a3 a4 a5 v Q) : Mz l yX1_earliestFit cX1_earliestFit 9 (some .int) 1 28 G [.ref (gad G this), .int a1, .int a2, .int a3, .int a4, .int a5] v (QiZ G Q) := by
  rw [w_X1_earliestFit] at hw
  refine z_ofW hg (by decide) (Nat.le_of_ble_eq_true rfl) ?_
  intro p e s m args below meth c ls C0 Z hl
  have hx := C0.1
  have hb := C0.2.1
  replace hl : lv_has ls 9 [(0, .ref (gad G this)), (1, .int a1), (2, .int a2), (3, .int a3), (4, .int a4), (5, .int a5)] := hl
  generalize s.heap = H at Z ⊢
  generalize ([] : List Loc) = locs at Z ⊢
  refine lv_iload hx hb dX1_earliestFit_0 (lv_at hl 4 rfl) ?_
  refine lv_aload_n hx hb dX1_earliestFit_2 rfl (lv_at hl 0 rfl) ?_
  refine z_get C0 Z in_X1 rfl 6 (by decide) rfl tm_1_57 (isL_lt0 hL) (ent_L hL) rfl dX1_earliestFit_3 ?_
  refine z_max C0 hl.1 tm_2_111 (Nat.le_of_ble_eq_true rfl) (Nat.le_of_ble_eq_true rfl) (Nat.le_of_ble_eq_true rfl) (Nat.le_of_ble_eq_true rfl) dX1_earliestFit_6 ?_
  refine lv_istore (lv' := [(6, .int (zmax a4 (v this 6))), (0, .ref (gad G this)), (1, .int a1), (2, .int a2), (3, .int a3), (4, .int a4), (5, .int a5)]) hx hb dX1_earliestFit_9 hl (by decide) rfl (fun ls hl => ?_)
  refine lv_iconst (v := 0) hx hb dX1_earliestFit_11 (by decide) ?_
  refine lv_istore (lv' := [(7, .int 0), (6, .int (zmax a4 (v this 6))), (0, .ref (gad G this)), (1, .int a1), (2, .int a2), (3, .int a3), (4, .int a4), (5, .int a5)]) hx hb dX1_earliestFit_12 hl (by decide) rfl (fun ls hl => ?_)
  obtain ⟨m14, hw⟩ := hw
  exact b_X1_earliestFit_14 l hL C0 m14 _ _ _ _ _ _ _ _ _ _ hw Z (lv_sub hl [2, 3, 4, 5, 7, 1, 0] rfl)
-- X1_latestFit: room (1, 28)
theorem dX1_latestFit_0 : decode cX1_latestFit 0 = .ok (.iload 4, 2) := by decide +kernel
theorem dX1_latestFit_2 : decode cX1_latestFit 2 = .ok (.aload_n 0, 1) := by decide +kernel
theorem dX1_latestFit_3 : decode cX1_latestFit 3 = .ok (.getfield 37, 3) := by decide +kernel
theorem dX1_latestFit_6 : decode cX1_latestFit 6 = .ok (.invokestatic 104, 3) := by decide +kernel
theorem dX1_latestFit_9 : decode cX1_latestFit 9 = .ok (.istore 6, 2) := by decide +kernel
theorem dX1_latestFit_11 : decode cX1_latestFit 11 = .ok (.iload 5, 2) := by decide +kernel
theorem dX1_latestFit_13 : decode cX1_latestFit 13 = .ok (.istore 7, 2) := by decide +kernel
theorem dX1_latestFit_15 : decode cX1_latestFit 15 = .ok (.iconst 0, 1) := by decide +kernel
theorem dX1_latestFit_16 : decode cX1_latestFit 16 = .ok (.istore 8, 2) := by decide +kernel
theorem dX1_latestFit_18 : decode cX1_latestFit 18 = .ok (.iload 8, 2) := by decide +kernel
theorem dX1_latestFit_20 : decode cX1_latestFit 20 = .ok (.aload_n 0, 1) := by decide +kernel
theorem dX1_latestFit_21 : decode cX1_latestFit 21 = .ok (.getfield 43, 3) := by decide +kernel
theorem dX1_latestFit_24 : decode cX1_latestFit 24 = .ok (.if_icmp .gt 55, 3) := by decide +kernel
theorem dX1_latestFit_27 : decode cX1_latestFit 27 = .ok (.iload 7, 2) := by decide +kernel
theorem dX1_latestFit_29 : decode cX1_latestFit 29 = .ok (.iload 6, 2) := by decide +kernel
theorem dX1_latestFit_31 : decode cX1_latestFit 31 = .ok (.if_icmp .lt 48, 3) := by decide +kernel
theorem dX1_latestFit_34 : decode cX1_latestFit 34 = .ok (.aload_n 0, 1) := by decide +kernel
theorem dX1_latestFit_35 : decode cX1_latestFit 35 = .ok (.iload_n 1, 1) := by decide +kernel
theorem dX1_latestFit_36 : decode cX1_latestFit 36 = .ok (.iload_n 2, 1) := by decide +kernel
theorem dX1_latestFit_37 : decode cX1_latestFit 37 = .ok (.iload 7, 2) := by decide +kernel
theorem dX1_latestFit_39 : decode cX1_latestFit 39 = .ok (.iload 7, 2) := by decide +kernel
theorem dX1_latestFit_41 : decode cX1_latestFit 41 = .ok (.iload_n 3, 1) := by decide +kernel
theorem dX1_latestFit_42 : decode cX1_latestFit 42 = .ok (.iadd, 1) := by decide +kernel
theorem dX1_latestFit_43 : decode cX1_latestFit 43 = .ok (.iconst (-1), 1) := by decide +kernel
theorem dX1_latestFit_44 : decode cX1_latestFit 44 = .ok (.iconst (-1), 1) := by decide +kernel
theorem dX1_latestFit_45 : decode cX1_latestFit 45 = .ok (.invokevirtual 94, 3) := by decide +kernel
theorem dX1_latestFit_48 : decode cX1_latestFit 48 = .ok (.istore 9, 2) := by decide +kernel
theorem dX1_latestFit_50 : decode cX1_latestFit 50 = .ok (.iload 9, 2) := by decide +kernel
theorem dX1_latestFit_52 : decode cX1_latestFit 52 = .ok (.iconst (-1), 1) := by decide +kernel
theorem dX1_latestFit_53 : decode cX1_latestFit 53 = .ok (.if_icmp .ne 6, 3) := by decide +kernel
theorem dX1_latestFit_56 : decode cX1_latestFit 56 = .ok (.iload 7, 2) := by decide +kernel
theorem dX1_latestFit_58 : decode cX1_latestFit 58 = .ok (.ireturn, 1) := by decide +kernel
theorem dX1_latestFit_59 : decode cX1_latestFit 59 = .ok (.aload_n 0, 1) := by decide +kernel
theorem dX1_latestFit_60 : decode cX1_latestFit 60 = .ok (.getfield 20, 3) := by decide +kernel
theorem dX1_latestFit_63 : decode cX1_latestFit 63 = .ok (.iload 9, 2) := by decide +kernel
theorem dX1_latestFit_65 : decode cX1_latestFit 65 = .ok (.aaload, 1) := by decide +kernel
theorem dX1_latestFit_66 : decode cX1_latestFit 66 = .ok (.bipush 8, 2) := by decide +kernel
theorem dX1_latestFit_68 : decode cX1_latestFit 68 = .ok (.iaload, 1) := by decide +kernel
theorem dX1_latestFit_69 : decode cX1_latestFit 69 = .ok (.iload_n 3, 1) := by decide +kernel
theorem dX1_latestFit_70 : decode cX1_latestFit 70 = .ok (.isub, 1) := by decide +kernel
theorem dX1_latestFit_71 : decode cX1_latestFit 71 = .ok (.istore 7, 2) := by decide +kernel
theorem dX1_latestFit_73 : decode cX1_latestFit 73 = .ok (.iinc 8 1, 3) := by decide +kernel
theorem dX1_latestFit_76 : decode cX1_latestFit 76 = .ok (.goto (-58), 3) := by decide +kernel
theorem dX1_latestFit_79 : decode cX1_latestFit 79 = .ok (.iconst (-1), 1) := by decide +kernel
theorem dX1_latestFit_80 : decode cX1_latestFit 80 = .ok (.ireturn, 1) := by decide +kernel
def w_X1_latestFit_79 (this : Nat) (Q : Int32 → V3 → Prop) (v : V3) : Prop := Q (-1) v
def w_X1_latestFit_18 (this : Nat) (Q : Int32 → V3 → Prop) : Nat → Int32 → Int32 → Int32 → Int32 → Int32 → Int32 → V3 → Prop
  | 0, _, _, _, _, _, _, _ => False
  | n18 + 1, x1, x2, x3, x6, x7, x8, v => (((v this 8) < x8 → w_X1_latestFit_79 this Q v) ∧ (¬ (v this 8) < x8 → ((x7 < x6 → w_X1_latestFit_79 this Q v) ∧ (¬ x7 < x6 → w_X1_clashing this x1 x2 x7 (x7 + x3) (-1) (-1) v (fun r4 v3 => ((¬ r4 = (-1) → vp_in r4 40 ∧ (w_X1_latestFit_18 this Q n18) x1 x2 x3 x6 ((v3 (this + 14 + (ix r4)) 8) - x3) (x8 + 1) v3) ∧ (r4 = (-1) → Q x7 v3)))))))
def w_X1_latestFit (this : Nat) (a1 : Int32) (a2 : Int32) (a3 : Int32) (a4 : Int32) (a5 : Int32) (v : V3) (Q : Int32 → V3 → Prop) : Prop := ∃ m18 : Nat, w_X1_latestFit_18 this Q m18 a1 a2 a3 (zmax a4 (v this 6)) a5 0 v
set_option maxRecDepth 100000 in
set_option maxHeartbeats 4000000 in
theorem b_X1_latestFit_79 {p : Program} (l : Launch) {e : Env} {s : State} {m : MethodId} {args : Array Value} {below : List Frame} {meth : Method} {c : Code} {G : zG} {this : Nat} (hL : isL G this) (C0 : Cx G RX1 cX1_latestFit 10 (some .int) p s m args meth c) {Q : Int32 → V3 → Prop} : ∀ (v : V3) (H : Heap) (locs : List Loc) (ls : Array Slot), w_X1_latestFit_79 this Q v → Zs G s v H locs → lv_has ls 10 [] → W p l e { frames := 1, cells := 0, slots := 0, locals := 28 } s m args below meth c H locs 0 0 (MQ below (QiZ G Q) args s 0 0 (zA G)) (F0 m 79 ls []) := by
  have hx := C0.1
  have hb := C0.2.1
  intro v H locs ls hw Z hl
  rw [w_X1_latestFit_79] at hw
  refine lv_iconst (v := (-1)) hx hb dX1_latestFit_79 (by decide) ?_
  exact z_iret C0 Z hw dX1_latestFit_80
set_option maxRecDepth 100000 in
set_option maxHeartbeats 4000000 in
theorem b_X1_latestFit_18 {p : Program} (l : Launch) {e : Env} {s : State} {m : MethodId} {args : Array Value} {below : List Frame} {meth : Method} {c : Code} {G : zG} {this : Nat} (hL : isL G this) (C0 : Cx G RX1 cX1_latestFit 10 (some .int) p s m args meth c) {Q : Int32 → V3 → Prop} : ∀ (n : Nat) (x1 : Int32) (x2 : Int32) (x3 : Int32) (x6 : Int32) (x7 : Int32) (x8 : Int32) (v : V3) (H : Heap) (locs : List Loc) (ls : Array Slot), w_X1_latestFit_18 this Q n x1 x2 x3 x6 x7 x8 v → Zs G s v H locs → lv_has ls 10 [(0, .ref (gad G this)), (1, .int x1), (2, .int x2), (3, .int x3), (6, .int x6), (7, .int x7), (8, .int x8)] → W p l e { frames := 1, cells := 0, slots := 0, locals := 28 } s m args below meth c H locs 0 0 (MQ below (QiZ G Q) args s 0 0 (zA G)) (F0 m 18 ls []) := by
  have hx := C0.1
  have hb := C0.2.1
  intro n
  induction n with
  | zero =>
    intro x1 x2 x3 x6 x7 x8 v H locs ls hw Z hl
    exact hw.elim
  | succ n hK18 =>
    intro x1 x2 x3 x6 x7 x8 v H locs ls hw Z hl
    rw [w_X1_latestFit_18] at hw
    refine lv_iload hx hb dX1_latestFit_18 (lv_at hl 6 rfl) ?_
    refine lv_aload_n hx hb dX1_latestFit_20 rfl (lv_at hl 0 rfl) ?_
    refine z_get C0 Z in_X1 rfl 8 (by decide) rfl tm_1_62 (isL_lt0 hL) (ent_L hL) rfl dX1_latestFit_21 ?_
    refine lv_icmp_gt (tgt := 79) hx hb dX1_latestFit_24 (by decide) (fun c1 => ?_) (fun c1 => ?_)
    · replace hw := hw.1 c1
      exact b_X1_latestFit_79 l hL C0 _ _ _ _ hw Z (lv_sub hl [] rfl)
    · replace hw := hw.2 c1
      refine lv_iload hx hb dX1_latestFit_27 (lv_at hl 5 rfl) ?_
      refine lv_iload hx hb dX1_latestFit_29 (lv_at hl 4 rfl) ?_
      refine lv_icmp_lt (tgt := 79) hx hb dX1_latestFit_31 (by decide) (fun c2 => ?_) (fun c2 => ?_)
      · replace hw := hw.1 c2
        exact b_X1_latestFit_79 l hL C0 _ _ _ _ hw Z (lv_sub hl [] rfl)
      · replace hw := hw.2 c2
        refine lv_aload_n hx hb dX1_latestFit_34 rfl (lv_at hl 0 rfl) ?_
        refine lv_iload_n hx hb dX1_latestFit_35 rfl (lv_at hl 1 rfl) ?_
        refine lv_iload_n hx hb dX1_latestFit_36 rfl (lv_at hl 2 rfl) ?_
        refine lv_iload hx hb dX1_latestFit_37 (lv_at hl 5 rfl) ?_
        refine lv_iload hx hb dX1_latestFit_39 (lv_at hl 5 rfl) ?_
        refine lv_iload_n hx hb dX1_latestFit_41 rfl (lv_at hl 3 rfl) ?_
        refine lv_iadd hx hb dX1_latestFit_42 ?_
        refine lv_iconst (v := (-1)) hx hb dX1_latestFit_43 (by decide) ?_
        refine lv_iconst (v := (-1)) hx hb dX1_latestFit_44 (by decide) ?_
        refine z_callVi C0 Z hl.1 (As := [.int x1, .int x2, .int x7, .int (x7 + x3), .int (-1), .int (-1)]) (rest := []) (k_X1_clashing l (cx_g C0) hL hw) (gv_X1_clashing tm_2_198) rfl ds_X1_clashing ⟨Nat.le_of_ble_eq_true rfl, Nat.le_of_ble_eq_true rfl⟩ (ci := 1) rfl (isL_lt0 hL) (ent_L hL) rfl rfl (Nat.le_of_ble_eq_true rfl) ⟨Nat.le_of_ble_eq_true rfl, Nat.le_of_ble_eq_true rfl⟩ dX1_latestFit_45 (fun r4 v3 H locs hw Z => ?_)
        refine lv_istore (lv' := [(9, .int r4), (0, .ref (gad G this)), (1, .int x1), (2, .int x2), (3, .int x3), (6, .int x6), (7, .int x7), (8, .int x8)]) hx hb dX1_latestFit_48 hl (by decide) rfl (fun ls hl => ?_)
        refine lv_iload hx hb dX1_latestFit_50 (lv_at hl 0 rfl) ?_
        refine lv_iconst (v := (-1)) hx hb dX1_latestFit_52 (by decide) ?_
        refine lv_icmp_ne (tgt := 59) hx hb dX1_latestFit_53 (by decide) (fun c5 => ?_) (fun c5 => ?_)
        · replace hw := hw.1 c5
          refine lv_aload_n hx hb dX1_latestFit_59 rfl (lv_at hl 1 rfl) ?_
          refine z_get C0 Z in_X1 rfl 2 (by decide) rfl tm_1_49 (isL_lt0 hL) (ent_L hL) rfl dX1_latestFit_60 ?_
          refine lv_iload hx hb dX1_latestFit_63 (lv_at hl 0 rfl) ?_
          obtain ⟨h6, hw⟩ := hw
          have h7 := vp_lt h6
          refine z_aald C0 Z (isL_lt hL 3 (by decide)) (ent_L3 hL) h6 dX1_latestFit_65 ?_
          refine lv_bipush (v := 8) hx hb dX1_latestFit_66 (by decide) ?_
          refine z_ialdk C0 Z (isL_B hL h7) (ent_B hL h7) in_8_10 nc_8 dX1_latestFit_68 ?_
          refine lv_iload_n hx hb dX1_latestFit_69 rfl (lv_at hl 4 rfl) ?_
          refine lv_isub hx hb dX1_latestFit_70 ?_
          refine lv_istore (lv' := [(7, .int ((v3 (this + 14 + (ix r4)) 8) - x3)), (9, .int r4), (0, .ref (gad G this)), (1, .int x1), (2, .int x2), (3, .int x3), (6, .int x6), (8, .int x8)]) hx hb dX1_latestFit_71 hl (by decide) rfl (fun ls hl => ?_)
          refine lv_iinc (v := x8 + 1) (lv' := [(8, .int (x8 + 1)), (7, .int ((v3 (this + 14 + (ix r4)) 8) - x3)), (9, .int r4), (0, .ref (gad G this)), (1, .int x1), (2, .int x2), (3, .int x3), (6, .int x6)]) hx hb dX1_latestFit_73 hl (k := 7) rfl rfl (by decide) rfl (fun ls hl => ?_)
          refine lv_goto (tgt := 18) hx hb dX1_latestFit_76 (by decide) ?_
          exact hK18 _ _ _ _ _ _ _ _ _ _ hw Z (lv_sub hl [3, 4, 5, 6, 7, 1, 0] rfl)
        · replace hw := hw.2 c5
          refine lv_iload hx hb dX1_latestFit_56 (lv_at hl 6 rfl) ?_
          exact z_iret C0 Z hw dX1_latestFit_58
set_option maxRecDepth 100000 in
set_option maxHeartbeats 4000000 in
theorem k_X1_latestFit (l : Launch) {G : zG} (hg : 116 ≤ gn G) {this : Nat} {a1 : Int32} {a2 : Int32} {a3 : Int32} {a4 : Int32} {a5 : Int32} (hL : isL G this) {v : V3} {Q : Int32 → V3 → Prop} (hw : w_X1_latestFit this a1 a2 a3 a4 a5 v Q) : Mz l yX1_latestFit cX1_latestFit 10 (some .int) 1 28 G [.ref (gad G this), .int a1, .int a2, .int a3, .int a4, .int a5] v (QiZ G Q) := by
  rw [w_X1_latestFit] at hw
  refine z_ofW hg (by decide) (Nat.le_of_ble_eq_true rfl) ?_
  intro p e s m args below meth c ls C0 Z hl
  have hx := C0.1
  have hb := C0.2.1
  replace hl : lv_has ls 10 [(0, .ref (gad G this)), (1, .int a1), (2, .int a2), (3, .int a3), (4, .int a4), (5, .int a5)] := hl
  generalize s.heap = H at Z ⊢
  generalize ([] : List Loc) = locs at Z ⊢
  refine lv_iload hx hb dX1_latestFit_0 (lv_at hl 4 rfl) ?_
  refine lv_aload_n hx hb dX1_latestFit_2 rfl (lv_at hl 0 rfl) ?_
  refine z_get C0 Z in_X1 rfl 6 (by decide) rfl tm_1_57 (isL_lt0 hL) (ent_L hL) rfl dX1_latestFit_3 ?_
  refine z_max C0 hl.1 tm_2_111 (Nat.le_of_ble_eq_true rfl) (Nat.le_of_ble_eq_true rfl) (Nat.le_of_ble_eq_true rfl) (Nat.le_of_ble_eq_true rfl) dX1_latestFit_6 ?_
  refine lv_istore (lv' := [(6, .int (zmax a4 (v this 6))), (0, .ref (gad G this)), (1, .int a1), (2, .int a2), (3, .int a3), (4, .int a4), (5, .int a5)]) hx hb dX1_latestFit_9 hl (by decide) rfl (fun ls hl => ?_)
  refine lv_iload hx hb dX1_latestFit_11 (lv_at hl 6 rfl) ?_
  refine lv_istore (lv' := [(7, .int a5), (6, .int (zmax a4 (v this 6))), (0, .ref (gad G this)), (1, .int a1), (2, .int a2), (3, .int a3), (4, .int a4), (5, .int a5)]) hx hb dX1_latestFit_13 hl (by decide) rfl (fun ls hl => ?_)
  refine lv_iconst (v := 0) hx hb dX1_latestFit_15 (by decide) ?_
  refine lv_istore (lv' := [(8, .int 0), (7, .int a5), (6, .int (zmax a4 (v this 6))), (0, .ref (gad G this)), (1, .int a1), (2, .int a2), (3, .int a3), (4, .int a4), (5, .int a5)]) hx hb dX1_latestFit_16 hl (by decide) rfl (fun ls hl => ?_)
  obtain ⟨m18, hw⟩ := hw
  exact b_X1_latestFit_18 l hL C0 m18 _ _ _ _ _ _ _ _ _ _ hw Z (lv_sub hl [3, 4, 5, 6, 2, 1, 0] rfl)
-- X1_bestTime: room (2, 57)
theorem dX1_bestTime_0 : decode cX1_bestTime 0 = .ok (.aload_n 0, 1) := by decide +kernel
theorem dX1_bestTime_1 : decode cX1_bestTime 1 = .ok (.getfield 20, 3) := by decide +kernel
theorem dX1_bestTime_4 : decode cX1_bestTime 4 = .ok (.iload_n 1, 1) := by decide +kernel
theorem dX1_bestTime_5 : decode cX1_bestTime 5 = .ok (.aaload, 1) := by decide +kernel
theorem dX1_bestTime_6 : decode cX1_bestTime 6 = .ok (.astore_n 2, 1) := by decide +kernel
theorem dX1_bestTime_7 : decode cX1_bestTime 7 = .ok (.aload_n 2, 1) := by decide +kernel
theorem dX1_bestTime_8 : decode cX1_bestTime 8 = .ok (.iconst 4, 1) := by decide +kernel
theorem dX1_bestTime_9 : decode cX1_bestTime 9 = .ok (.iaload, 1) := by decide +kernel
theorem dX1_bestTime_10 : decode cX1_bestTime 10 = .ok (.istore_n 3, 1) := by decide +kernel
theorem dX1_bestTime_11 : decode cX1_bestTime 11 = .ok (.aload_n 0, 1) := by decide +kernel
theorem dX1_bestTime_12 : decode cX1_bestTime 12 = .ok (.aload_n 2, 1) := by decide +kernel
theorem dX1_bestTime_13 : decode cX1_bestTime 13 = .ok (.iconst 1, 1) := by decide +kernel
theorem dX1_bestTime_14 : decode cX1_bestTime 14 = .ok (.iaload, 1) := by decide +kernel
theorem dX1_bestTime_15 : decode cX1_bestTime 15 = .ok (.aload_n 2, 1) := by decide +kernel
theorem dX1_bestTime_16 : decode cX1_bestTime 16 = .ok (.iconst 2, 1) := by decide +kernel
theorem dX1_bestTime_17 : decode cX1_bestTime 17 = .ok (.iaload, 1) := by decide +kernel
theorem dX1_bestTime_18 : decode cX1_bestTime 18 = .ok (.aload_n 2, 1) := by decide +kernel
theorem dX1_bestTime_19 : decode cX1_bestTime 19 = .ok (.iconst 3, 1) := by decide +kernel
theorem dX1_bestTime_20 : decode cX1_bestTime 20 = .ok (.iaload, 1) := by decide +kernel
theorem dX1_bestTime_21 : decode cX1_bestTime 21 = .ok (.iload_n 3, 1) := by decide +kernel
theorem dX1_bestTime_22 : decode cX1_bestTime 22 = .ok (.iload_n 3, 1) := by decide +kernel
theorem dX1_bestTime_23 : decode cX1_bestTime 23 = .ok (.aload_n 2, 1) := by decide +kernel
theorem dX1_bestTime_24 : decode cX1_bestTime 24 = .ok (.iconst 5, 1) := by decide +kernel
theorem dX1_bestTime_25 : decode cX1_bestTime 25 = .ok (.iaload, 1) := by decide +kernel
theorem dX1_bestTime_26 : decode cX1_bestTime 26 = .ok (.iadd, 1) := by decide +kernel
theorem dX1_bestTime_27 : decode cX1_bestTime 27 = .ok (.invokevirtual 107, 3) := by decide +kernel
theorem dX1_bestTime_30 : decode cX1_bestTime 30 = .ok (.istore 4, 2) := by decide +kernel
theorem dX1_bestTime_32 : decode cX1_bestTime 32 = .ok (.aload_n 0, 1) := by decide +kernel
theorem dX1_bestTime_33 : decode cX1_bestTime 33 = .ok (.aload_n 2, 1) := by decide +kernel
theorem dX1_bestTime_34 : decode cX1_bestTime 34 = .ok (.iconst 1, 1) := by decide +kernel
theorem dX1_bestTime_35 : decode cX1_bestTime 35 = .ok (.iaload, 1) := by decide +kernel
theorem dX1_bestTime_36 : decode cX1_bestTime 36 = .ok (.aload_n 2, 1) := by decide +kernel
theorem dX1_bestTime_37 : decode cX1_bestTime 37 = .ok (.iconst 2, 1) := by decide +kernel
theorem dX1_bestTime_38 : decode cX1_bestTime 38 = .ok (.iaload, 1) := by decide +kernel
theorem dX1_bestTime_39 : decode cX1_bestTime 39 = .ok (.aload_n 2, 1) := by decide +kernel
theorem dX1_bestTime_40 : decode cX1_bestTime 40 = .ok (.iconst 3, 1) := by decide +kernel
theorem dX1_bestTime_41 : decode cX1_bestTime 41 = .ok (.iaload, 1) := by decide +kernel
theorem dX1_bestTime_42 : decode cX1_bestTime 42 = .ok (.iload_n 3, 1) := by decide +kernel
theorem dX1_bestTime_43 : decode cX1_bestTime 43 = .ok (.aload_n 2, 1) := by decide +kernel
theorem dX1_bestTime_44 : decode cX1_bestTime 44 = .ok (.iconst 5, 1) := by decide +kernel
theorem dX1_bestTime_45 : decode cX1_bestTime 45 = .ok (.iaload, 1) := by decide +kernel
theorem dX1_bestTime_46 : decode cX1_bestTime 46 = .ok (.isub, 1) := by decide +kernel
theorem dX1_bestTime_47 : decode cX1_bestTime 47 = .ok (.iload_n 3, 1) := by decide +kernel
theorem dX1_bestTime_48 : decode cX1_bestTime 48 = .ok (.invokevirtual 111, 3) := by decide +kernel
theorem dX1_bestTime_51 : decode cX1_bestTime 51 = .ok (.istore 5, 2) := by decide +kernel
theorem dX1_bestTime_53 : decode cX1_bestTime 53 = .ok (.iload 5, 2) := by decide +kernel
theorem dX1_bestTime_55 : decode cX1_bestTime 55 = .ok (.iconst (-1), 1) := by decide +kernel
theorem dX1_bestTime_56 : decode cX1_bestTime 56 = .ok (.if_icmp .ne 6, 3) := by decide +kernel
theorem dX1_bestTime_59 : decode cX1_bestTime 59 = .ok (.iload 4, 2) := by decide +kernel
theorem dX1_bestTime_61 : decode cX1_bestTime 61 = .ok (.ireturn, 1) := by decide +kernel
theorem dX1_bestTime_62 : decode cX1_bestTime 62 = .ok (.iload 4, 2) := by decide +kernel
theorem dX1_bestTime_64 : decode cX1_bestTime 64 = .ok (.iconst (-1), 1) := by decide +kernel
theorem dX1_bestTime_65 : decode cX1_bestTime 65 = .ok (.if_icmp .eq 19, 3) := by decide +kernel
theorem dX1_bestTime_68 : decode cX1_bestTime 68 = .ok (.iload 4, 2) := by decide +kernel
theorem dX1_bestTime_70 : decode cX1_bestTime 70 = .ok (.iload_n 3, 1) := by decide +kernel
theorem dX1_bestTime_71 : decode cX1_bestTime 71 = .ok (.isub, 1) := by decide +kernel
theorem dX1_bestTime_72 : decode cX1_bestTime 72 = .ok (.iload_n 3, 1) := by decide +kernel
theorem dX1_bestTime_73 : decode cX1_bestTime 73 = .ok (.iload 5, 2) := by decide +kernel
theorem dX1_bestTime_75 : decode cX1_bestTime 75 = .ok (.isub, 1) := by decide +kernel
theorem dX1_bestTime_76 : decode cX1_bestTime 76 = .ok (.if_icmp .ge 8, 3) := by decide +kernel
theorem dX1_bestTime_79 : decode cX1_bestTime 79 = .ok (.iload 4, 2) := by decide +kernel
theorem dX1_bestTime_81 : decode cX1_bestTime 81 = .ok (.goto 5, 3) := by decide +kernel
theorem dX1_bestTime_84 : decode cX1_bestTime 84 = .ok (.iload 5, 2) := by decide +kernel
theorem dX1_bestTime_86 : decode cX1_bestTime 86 = .ok (.ireturn, 1) := by decide +kernel
def w_X1_bestTime_86 (this : Nat) (Q : Int32 → V3 → Prop) (s0 : Int32) (v : V3) : Prop := Q s0 v
def w_X1_bestTime_84 (this : Nat) (Q : Int32 → V3 → Prop) (x5 : Int32) (v : V3) : Prop := w_X1_bestTime_86 this Q x5 v
def w_X1_bestTime (this : Nat) (a1 : Int32) (v : V3) (Q : Int32 → V3 → Prop) : Prop := vp_in a1 40 ∧ w_X1_earliestFit this (v (this + 14 + (ix a1)) 1) (v (this + 14 + (ix a1)) 2) (v (this + 14 + (ix a1)) 3) (v (this + 14 + (ix a1)) 4) ((v (this + 14 + (ix a1)) 4) + (v (this + 14 + (ix a1)) 5)) v (fun r4 v3 => w_X1_latestFit this (v3 (this + 14 + (ix a1)) 1) (v3 (this + 14 + (ix a1)) 2) (v3 (this + 14 + (ix a1)) 3) ((v (this + 14 + (ix a1)) 4) - (v3 (this + 14 + (ix a1)) 5)) (v (this + 14 + (ix a1)) 4) v3 (fun r6 v5 => ((¬ r6 = (-1) → ((r4 = (-1) → w_X1_bestTime_84 this Q r6 v5) ∧ (¬ r4 = (-1) → ((((v (this + 14 + (ix a1)) 4) - r6) ≤ (r4 - (v (this + 14 + (ix a1)) 4)) → w_X1_bestTime_84 this Q r6 v5) ∧ (¬ ((v (this + 14 + (ix a1)) 4) - r6) ≤ (r4 - (v (this + 14 + (ix a1)) 4)) → w_X1_bestTime_86 this Q r4 v5))))) ∧ (r6 = (-1) → Q r4 v5))))
set_option maxRecDepth 100000 in
set_option maxHeartbeats 4000000 in
theorem b_X1_bestTime_86 {p : Program} (l : Launch) {e : Env} {s : State} {m : MethodId} {args : Array Value} {below : List Frame} {meth : Method} {c : Code} {G : zG} {this : Nat} (hL : isL G this) (C0 : Cx G RX1 cX1_bestTime 6 (some .int) p s m args meth c) {Q : Int32 → V3 → Prop} : ∀ (s0 : Int32) (v : V3) (H : Heap) (locs : List Loc) (ls : Array Slot), w_X1_bestTime_86 this Q s0 v → Zs G s v H locs → lv_has ls 6 [] → W p l e { frames := 2, cells := 0, slots := 0, locals := 57 } s m args below meth c H locs 0 0 (MQ below (QiZ G Q) args s 0 0 (zA G)) (F0 m 86 ls [.int s0]) := by
  have hx := C0.1
  have hb := C0.2.1
  intro s0 v H locs ls hw Z hl
  rw [w_X1_bestTime_86] at hw
  exact z_iret C0 Z hw dX1_bestTime_86
set_option maxRecDepth 100000 in
set_option maxHeartbeats 4000000 in
theorem b_X1_bestTime_84 {p : Program} (l : Launch) {e : Env} {s : State} {m : MethodId} {args : Array Value} {below : List Frame} {meth : Method} {c : Code} {G : zG} {this : Nat} (hL : isL G this) (C0 : Cx G RX1 cX1_bestTime 6 (some .int) p s m args meth c) {Q : Int32 → V3 → Prop} : ∀ (x5 : Int32) (v : V3) (H : Heap) (locs : List Loc) (ls : Array Slot), w_X1_bestTime_84 this Q x5 v → Zs G s v H locs → lv_has ls 6 [(5, .int x5)] → W p l e { frames := 2, cells := 0, slots := 0, locals := 57 } s m args below meth c H locs 0 0 (MQ below (QiZ G Q) args s 0 0 (zA G)) (F0 m 84 ls []) := by
  have hx := C0.1
  have hb := C0.2.1
  intro x5 v H locs ls hw Z hl
  rw [w_X1_bestTime_84] at hw
  refine lv_iload hx hb dX1_bestTime_84 (lv_at hl 0 rfl) ?_
  exact b_X1_bestTime_86 l hL C0 _ _ _ _ _ hw Z (lv_sub hl [] rfl)
set_option maxRecDepth 100000 in
set_option maxHeartbeats 4000000 in
theorem k_X1_bestTime (l : Launch) {G : zG} (hg : 116 ≤ gn G) {this : Nat} {a1 : Int32} (hL : isL G this) {v : V3} {Q : Int32 → V3 → Prop} (hw : w_X1_bestTime this a1 v Q) : Mz l yX1_bestTime cX1_bestTime 6 (some .int) 2 57 G [.ref (gad G this), .int a1] v (QiZ G Q) := by
  rw [w_X1_bestTime] at hw
  refine z_ofW hg (by decide) (Nat.le_of_ble_eq_true rfl) ?_
  intro p e s m args below meth c ls C0 Z hl
  have hx := C0.1
  have hb := C0.2.1
  replace hl : lv_has ls 6 [(0, .ref (gad G this)), (1, .int a1)] := hl
  generalize s.heap = H at Z ⊢
  generalize ([] : List Loc) = locs at Z ⊢
  refine lv_aload_n hx hb dX1_bestTime_0 rfl (lv_at hl 0 rfl) ?_
  refine z_get C0 Z in_X1 rfl 2 (by decide) rfl tm_1_49 (isL_lt0 hL) (ent_L hL) rfl dX1_bestTime_1 ?_
  refine lv_iload_n hx hb dX1_bestTime_4 rfl (lv_at hl 1 rfl) ?_
  obtain ⟨h1, hw⟩ := hw
  have h2 := vp_lt h1
  refine z_aald C0 Z (isL_lt hL 3 (by decide)) (ent_L3 hL) h1 dX1_bestTime_5 ?_
  refine lv_astore_n (lv' := [(2, .ref (gad G (this + 14 + (ix a1)))), (0, .ref (gad G this)), (1, .int a1)]) hx hb dX1_bestTime_6 rfl hl (by decide) rfl (fun ls hl => ?_)
  refine lv_aload_n hx hb dX1_bestTime_7 rfl (lv_at hl 0 rfl) ?_
  refine lv_iconst (v := 4) hx hb dX1_bestTime_8 (by decide) ?_
  refine z_ialdk C0 Z (isL_B hL h2) (ent_B hL h2) in_4_10 nc_4 dX1_bestTime_9 ?_
  refine lv_istore_n (lv' := [(3, .int (v (this + 14 + (ix a1)) 4)), (2, .ref (gad G (this + 14 + (ix a1)))), (0, .ref (gad G this)), (1, .int a1)]) hx hb dX1_bestTime_10 rfl hl (by decide) rfl (fun ls hl => ?_)
  refine lv_aload_n hx hb dX1_bestTime_11 rfl (lv_at hl 2 rfl) ?_
  refine lv_aload_n hx hb dX1_bestTime_12 rfl (lv_at hl 1 rfl) ?_
  refine lv_iconst (v := 1) hx hb dX1_bestTime_13 (by decide) ?_
  refine z_ialdk C0 Z (isL_B hL h2) (ent_B hL h2) in_1_10 nc_1 dX1_bestTime_14 ?_
  refine lv_aload_n hx hb dX1_bestTime_15 rfl (lv_at hl 1 rfl) ?_
  refine lv_iconst (v := 2) hx hb dX1_bestTime_16 (by decide) ?_
  refine z_ialdk C0 Z (isL_B hL h2) (ent_B hL h2) in_2_10 nc_2 dX1_bestTime_17 ?_
  refine lv_aload_n hx hb dX1_bestTime_18 rfl (lv_at hl 1 rfl) ?_
  refine lv_iconst (v := 3) hx hb dX1_bestTime_19 (by decide) ?_
  refine z_ialdk C0 Z (isL_B hL h2) (ent_B hL h2) in_3_10 nc_3 dX1_bestTime_20 ?_
  refine lv_iload_n hx hb dX1_bestTime_21 rfl (lv_at hl 0 rfl) ?_
  refine lv_iload_n hx hb dX1_bestTime_22 rfl (lv_at hl 0 rfl) ?_
  refine lv_aload_n hx hb dX1_bestTime_23 rfl (lv_at hl 1 rfl) ?_
  refine lv_iconst (v := 5) hx hb dX1_bestTime_24 (by decide) ?_
  refine z_ialdk C0 Z (isL_B hL h2) (ent_B hL h2) in_5_10 nc_5 dX1_bestTime_25 ?_
  refine lv_iadd hx hb dX1_bestTime_26 ?_
  refine z_callVi C0 Z hl.1 (As := [.int (v (this + 14 + (ix a1)) 1), .int (v (this + 14 + (ix a1)) 2), .int (v (this + 14 + (ix a1)) 3), .int (v (this + 14 + (ix a1)) 4), .int ((v (this + 14 + (ix a1)) 4) + (v (this + 14 + (ix a1)) 5))]) (rest := []) (k_X1_earliestFit l (cx_g C0) hL hw) (gv_X1_earliestFit tm_2_229) rfl ds_X1_earliestFit ⟨Nat.le_of_ble_eq_true rfl, Nat.le_of_ble_eq_true rfl⟩ (ci := 1) rfl (isL_lt0 hL) (ent_L hL) rfl rfl (Nat.le_of_ble_eq_true rfl) ⟨Nat.le_of_ble_eq_true rfl, Nat.le_of_ble_eq_true rfl⟩ dX1_bestTime_27 (fun r4 v3 H locs hw Z => ?_)
  refine lv_istore (lv' := [(4, .int r4), (3, .int (v (this + 14 + (ix a1)) 4)), (2, .ref (gad G (this + 14 + (ix a1)))), (0, .ref (gad G this)), (1, .int a1)]) hx hb dX1_bestTime_30 hl (by decide) rfl (fun ls hl => ?_)
  refine lv_aload_n hx hb dX1_bestTime_32 rfl (lv_at hl 3 rfl) ?_
  refine lv_aload_n hx hb dX1_bestTime_33 rfl (lv_at hl 2 rfl) ?_
  refine lv_iconst (v := 1) hx hb dX1_bestTime_34 (by decide) ?_
  refine z_ialdk C0 Z (isL_B hL h2) (ent_B hL h2) in_1_10 nc_1 dX1_bestTime_35 ?_
  refine lv_aload_n hx hb dX1_bestTime_36 rfl (lv_at hl 2 rfl) ?_
  refine lv_iconst (v := 2) hx hb dX1_bestTime_37 (by decide) ?_
  refine z_ialdk C0 Z (isL_B hL h2) (ent_B hL h2) in_2_10 nc_2 dX1_bestTime_38 ?_
  refine lv_aload_n hx hb dX1_bestTime_39 rfl (lv_at hl 2 rfl) ?_
  refine lv_iconst (v := 3) hx hb dX1_bestTime_40 (by decide) ?_
  refine z_ialdk C0 Z (isL_B hL h2) (ent_B hL h2) in_3_10 nc_3 dX1_bestTime_41 ?_
  refine lv_iload_n hx hb dX1_bestTime_42 rfl (lv_at hl 1 rfl) ?_
  refine lv_aload_n hx hb dX1_bestTime_43 rfl (lv_at hl 2 rfl) ?_
  refine lv_iconst (v := 5) hx hb dX1_bestTime_44 (by decide) ?_
  refine z_ialdk C0 Z (isL_B hL h2) (ent_B hL h2) in_5_10 nc_5 dX1_bestTime_45 ?_
  refine lv_isub hx hb dX1_bestTime_46 ?_
  refine lv_iload_n hx hb dX1_bestTime_47 rfl (lv_at hl 1 rfl) ?_
  refine z_callVi C0 Z hl.1 (As := [.int (v3 (this + 14 + (ix a1)) 1), .int (v3 (this + 14 + (ix a1)) 2), .int (v3 (this + 14 + (ix a1)) 3), .int ((v (this + 14 + (ix a1)) 4) - (v3 (this + 14 + (ix a1)) 5)), .int (v (this + 14 + (ix a1)) 4)]) (rest := []) (k_X1_latestFit l (cx_g C0) hL hw) (gv_X1_latestFit tm_2_230) rfl ds_X1_latestFit ⟨Nat.le_of_ble_eq_true rfl, Nat.le_of_ble_eq_true rfl⟩ (ci := 1) rfl (isL_lt0 hL) (ent_L hL) rfl rfl (Nat.le_of_ble_eq_true rfl) ⟨Nat.le_of_ble_eq_true rfl, Nat.le_of_ble_eq_true rfl⟩ dX1_bestTime_48 (fun r6 v5 H locs hw Z => ?_)
  refine lv_istore (lv' := [(5, .int r6), (4, .int r4), (3, .int (v (this + 14 + (ix a1)) 4)), (2, .ref (gad G (this + 14 + (ix a1)))), (0, .ref (gad G this)), (1, .int a1)]) hx hb dX1_bestTime_51 hl (by decide) rfl (fun ls hl => ?_)
  refine lv_iload hx hb dX1_bestTime_53 (lv_at hl 0 rfl) ?_
  refine lv_iconst (v := (-1)) hx hb dX1_bestTime_55 (by decide) ?_
  refine lv_icmp_ne (tgt := 62) hx hb dX1_bestTime_56 (by decide) (fun c7 => ?_) (fun c7 => ?_)
  · replace hw := hw.1 c7
    refine lv_iload hx hb dX1_bestTime_62 (lv_at hl 1 rfl) ?_
    refine lv_iconst (v := (-1)) hx hb dX1_bestTime_64 (by decide) ?_
    refine lv_icmp_eq (tgt := 84) hx hb dX1_bestTime_65 (by decide) (fun c8 => ?_) (fun c8 => ?_)
    · replace hw := hw.1 c8
      exact b_X1_bestTime_84 l hL C0 _ _ _ _ _ hw Z (lv_sub hl [0] rfl)
    · replace hw := hw.2 c8
      refine lv_iload hx hb dX1_bestTime_68 (lv_at hl 1 rfl) ?_
      refine lv_iload_n hx hb dX1_bestTime_70 rfl (lv_at hl 2 rfl) ?_
      refine lv_isub hx hb dX1_bestTime_71 ?_
      refine lv_iload_n hx hb dX1_bestTime_72 rfl (lv_at hl 2 rfl) ?_
      refine lv_iload hx hb dX1_bestTime_73 (lv_at hl 0 rfl) ?_
      refine lv_isub hx hb dX1_bestTime_75 ?_
      refine lv_icmp_ge (tgt := 84) hx hb dX1_bestTime_76 (by decide) (fun c9 => ?_) (fun c9 => ?_)
      · replace hw := hw.1 c9
        exact b_X1_bestTime_84 l hL C0 _ _ _ _ _ hw Z (lv_sub hl [0] rfl)
      · replace hw := hw.2 c9
        refine lv_iload hx hb dX1_bestTime_79 (lv_at hl 1 rfl) ?_
        refine lv_goto (tgt := 86) hx hb dX1_bestTime_81 (by decide) ?_
        exact b_X1_bestTime_86 l hL C0 _ _ _ _ _ hw Z (lv_sub hl [] rfl)
  · replace hw := hw.2 c7
    refine lv_iload hx hb dX1_bestTime_59 (lv_at hl 1 rfl) ?_
    exact z_iret C0 Z hw dX1_bestTime_61
-- X1_enterBooking: room (3, 82)
theorem dX1_enterBooking_0 : decode cX1_enterBooking 0 = .ok (.aload_n 0, 1) := by decide +kernel
theorem dX1_enterBooking_1 : decode cX1_enterBooking 1 = .ok (.getfield 43, 3) := by decide +kernel
theorem dX1_enterBooking_4 : decode cX1_enterBooking 4 = .ok (.istore 8, 2) := by decide +kernel
theorem dX1_enterBooking_6 : decode cX1_enterBooking 6 = .ok (.aload_n 0, 1) := by decide +kernel
theorem dX1_enterBooking_7 : decode cX1_enterBooking 7 = .ok (.getfield 20, 3) := by decide +kernel
theorem dX1_enterBooking_10 : decode cX1_enterBooking 10 = .ok (.iload 8, 2) := by decide +kernel
theorem dX1_enterBooking_12 : decode cX1_enterBooking 12 = .ok (.aaload, 1) := by decide +kernel
theorem dX1_enterBooking_13 : decode cX1_enterBooking 13 = .ok (.astore 9, 2) := by decide +kernel
theorem dX1_enterBooking_15 : decode cX1_enterBooking 15 = .ok (.aload 9, 2) := by decide +kernel
theorem dX1_enterBooking_17 : decode cX1_enterBooking 17 = .ok (.iconst 0, 1) := by decide +kernel
theorem dX1_enterBooking_18 : decode cX1_enterBooking 18 = .ok (.iload_n 1, 1) := by decide +kernel
theorem dX1_enterBooking_19 : decode cX1_enterBooking 19 = .ok (.iastore, 1) := by decide +kernel
theorem dX1_enterBooking_20 : decode cX1_enterBooking 20 = .ok (.aload 9, 2) := by decide +kernel
theorem dX1_enterBooking_22 : decode cX1_enterBooking 22 = .ok (.iconst 1, 1) := by decide +kernel
theorem dX1_enterBooking_23 : decode cX1_enterBooking 23 = .ok (.iload_n 2, 1) := by decide +kernel
theorem dX1_enterBooking_24 : decode cX1_enterBooking 24 = .ok (.iastore, 1) := by decide +kernel
theorem dX1_enterBooking_25 : decode cX1_enterBooking 25 = .ok (.aload 9, 2) := by decide +kernel
theorem dX1_enterBooking_27 : decode cX1_enterBooking 27 = .ok (.iconst 2, 1) := by decide +kernel
theorem dX1_enterBooking_28 : decode cX1_enterBooking 28 = .ok (.iload_n 3, 1) := by decide +kernel
theorem dX1_enterBooking_29 : decode cX1_enterBooking 29 = .ok (.iastore, 1) := by decide +kernel
theorem dX1_enterBooking_30 : decode cX1_enterBooking 30 = .ok (.aload 9, 2) := by decide +kernel
theorem dX1_enterBooking_32 : decode cX1_enterBooking 32 = .ok (.iconst 3, 1) := by decide +kernel
theorem dX1_enterBooking_33 : decode cX1_enterBooking 33 = .ok (.iload 4, 2) := by decide +kernel
theorem dX1_enterBooking_35 : decode cX1_enterBooking 35 = .ok (.iastore, 1) := by decide +kernel
theorem dX1_enterBooking_36 : decode cX1_enterBooking 36 = .ok (.aload 9, 2) := by decide +kernel
theorem dX1_enterBooking_38 : decode cX1_enterBooking 38 = .ok (.iconst 4, 1) := by decide +kernel
theorem dX1_enterBooking_39 : decode cX1_enterBooking 39 = .ok (.iload 5, 2) := by decide +kernel
theorem dX1_enterBooking_41 : decode cX1_enterBooking 41 = .ok (.iastore, 1) := by decide +kernel
theorem dX1_enterBooking_42 : decode cX1_enterBooking 42 = .ok (.aload 9, 2) := by decide +kernel
theorem dX1_enterBooking_44 : decode cX1_enterBooking 44 = .ok (.iconst 5, 1) := by decide +kernel
theorem dX1_enterBooking_45 : decode cX1_enterBooking 45 = .ok (.iload 6, 2) := by decide +kernel
theorem dX1_enterBooking_47 : decode cX1_enterBooking 47 = .ok (.iastore, 1) := by decide +kernel
theorem dX1_enterBooking_48 : decode cX1_enterBooking 48 = .ok (.aload 9, 2) := by decide +kernel
theorem dX1_enterBooking_50 : decode cX1_enterBooking 50 = .ok (.bipush 6, 2) := by decide +kernel
theorem dX1_enterBooking_52 : decode cX1_enterBooking 52 = .ok (.iload 7, 2) := by decide +kernel
theorem dX1_enterBooking_54 : decode cX1_enterBooking 54 = .ok (.iastore, 1) := by decide +kernel
theorem dX1_enterBooking_55 : decode cX1_enterBooking 55 = .ok (.aload_n 0, 1) := by decide +kernel
theorem dX1_enterBooking_56 : decode cX1_enterBooking 56 = .ok (.iload 8, 2) := by decide +kernel
theorem dX1_enterBooking_58 : decode cX1_enterBooking 58 = .ok (.invokevirtual 75, 3) := by decide +kernel
theorem dX1_enterBooking_61 : decode cX1_enterBooking 61 = .ok (.aload_n 0, 1) := by decide +kernel
theorem dX1_enterBooking_62 : decode cX1_enterBooking 62 = .ok (.dup, 1) := by decide +kernel
theorem dX1_enterBooking_63 : decode cX1_enterBooking 63 = .ok (.getfield 43, 3) := by decide +kernel
theorem dX1_enterBooking_66 : decode cX1_enterBooking 66 = .ok (.iconst 1, 1) := by decide +kernel
theorem dX1_enterBooking_67 : decode cX1_enterBooking 67 = .ok (.iadd, 1) := by decide +kernel
theorem dX1_enterBooking_68 : decode cX1_enterBooking 68 = .ok (.putfield 43, 3) := by decide +kernel
theorem dX1_enterBooking_71 : decode cX1_enterBooking 71 = .ok (.aload_n 0, 1) := by decide +kernel
theorem dX1_enterBooking_72 : decode cX1_enterBooking 72 = .ok (.iload 8, 2) := by decide +kernel
theorem dX1_enterBooking_74 : decode cX1_enterBooking 74 = .ok (.aload_n 0, 1) := by decide +kernel
theorem dX1_enterBooking_75 : decode cX1_enterBooking 75 = .ok (.iload 8, 2) := by decide +kernel
theorem dX1_enterBooking_77 : decode cX1_enterBooking 77 = .ok (.invokevirtual 78, 3) := by decide +kernel
theorem dX1_enterBooking_80 : decode cX1_enterBooking 80 = .ok (.invokevirtual 81, 3) := by decide +kernel
theorem dX1_enterBooking_83 : decode cX1_enterBooking 83 = .ok (.pop, 1) := by decide +kernel
theorem dX1_enterBooking_84 : decode cX1_enterBooking 84 = .ok (.iload 8, 2) := by decide +kernel
theorem dX1_enterBooking_86 : decode cX1_enterBooking 86 = .ok (.ireturn, 1) := by decide +kernel
def w_X1_enterBooking (this : Nat) (a1 : Int32) (a2 : Int32) (a3 : Int32) (a4 : Int32) (a5 : Int32) (a6 : Int32) (a7 : Int32) (v : V3) (Q : Int32 → V3 → Prop) : Prop := vp_in (v this 8) 40 ∧ ∀ v3 : V3, v3 = up2 v (this + 14 + (ix (v this 8))) 0 a1 → ∀ v4 : V3, v4 = up2 v3 (this + 14 + (ix (v this 8))) 1 a2 → ∀ v5 : V3, v5 = up2 v4 (this + 14 + (ix (v this 8))) 2 a3 → ∀ v6 : V3, v6 = up2 v5 (this + 14 + (ix (v this 8))) 3 a4 → ∀ v7 : V3, v7 = up2 v6 (this + 14 + (ix (v this 8))) 4 a5 → ∀ v8 : V3, v8 = up2 v7 (this + 14 + (ix (v this 8))) 5 a6 → ∀ v9 : V3, v9 = up2 v8 (this + 14 + (ix (v this 8))) 6 a7 → w_X1_letWait this (v this 8) v9 (fun v10 => ∀ v11 : V3, v11 = up2 v10 this 8 ((v10 this 8) + 1) → w_X1_bestTime this (v this 8) v11 (fun r13 v12 => w_X1_bookAt this (v this 8) r13 v12 (fun r15 v14 => Q (v this 8) v14)))
set_option maxRecDepth 100000 in
set_option maxHeartbeats 4000000 in
theorem k_X1_enterBooking (l : Launch) {G : zG} (hg : 116 ≤ gn G) {this : Nat} {a1 : Int32} {a2 : Int32} {a3 : Int32} {a4 : Int32} {a5 : Int32} {a6 : Int32} {a7 : Int32} (hL : isL G this) {v : V3} {Q : Int32 → V3 → Prop} (hw : w_X1_enterBooking this a1 a2 a3 a4 a5 a6 a7 v Q) : Mz l yX1_enterBooking cX1_enterBooking 10 (some .int) 3 82 G [.ref (gad G this), .int a1, .int a2, .int a3, .int a4, .int a5, .int a6, .int a7] v (QiZ G Q) := by
  rw [w_X1_enterBooking] at hw
  refine z_ofW hg (by decide) (Nat.le_of_ble_eq_true rfl) ?_
  intro p e s m args below meth c ls C0 Z hl
  have hx := C0.1
  have hb := C0.2.1
  replace hl : lv_has ls 10 [(0, .ref (gad G this)), (1, .int a1), (2, .int a2), (3, .int a3), (4, .int a4), (5, .int a5), (6, .int a6), (7, .int a7)] := hl
  generalize s.heap = H at Z ⊢
  generalize ([] : List Loc) = locs at Z ⊢
  refine lv_aload_n hx hb dX1_enterBooking_0 rfl (lv_at hl 0 rfl) ?_
  refine z_get C0 Z in_X1 rfl 8 (by decide) rfl tm_1_62 (isL_lt0 hL) (ent_L hL) rfl dX1_enterBooking_1 ?_
  refine lv_istore (lv' := [(8, .int (v this 8)), (0, .ref (gad G this)), (1, .int a1), (2, .int a2), (3, .int a3), (4, .int a4), (5, .int a5), (6, .int a6), (7, .int a7)]) hx hb dX1_enterBooking_4 hl (by decide) rfl (fun ls hl => ?_)
  refine lv_aload_n hx hb dX1_enterBooking_6 rfl (lv_at hl 1 rfl) ?_
  refine z_get C0 Z in_X1 rfl 2 (by decide) rfl tm_1_49 (isL_lt0 hL) (ent_L hL) rfl dX1_enterBooking_7 ?_
  refine lv_iload hx hb dX1_enterBooking_10 (lv_at hl 0 rfl) ?_
  obtain ⟨h1, hw⟩ := hw
  have h2 := vp_lt h1
  refine z_aald C0 Z (isL_lt hL 3 (by decide)) (ent_L3 hL) h1 dX1_enterBooking_12 ?_
  refine lv_astore (lv' := [(9, .ref (gad G (this + 14 + (ix (v this 8))))), (8, .int (v this 8)), (0, .ref (gad G this)), (1, .int a1), (2, .int a2), (3, .int a3), (4, .int a4), (5, .int a5), (6, .int a6), (7, .int a7)]) hx hb dX1_enterBooking_13 hl (by decide) rfl (fun ls hl => ?_)
  refine lv_aload hx hb dX1_enterBooking_15 (lv_at hl 0 rfl) ?_
  refine lv_iconst (v := 0) hx hb dX1_enterBooking_17 (by decide) ?_
  refine lv_iload_n hx hb dX1_enterBooking_18 rfl (lv_at hl 3 rfl) ?_
  refine z_iastk C0 Z (isL_B hL h2) (fun _ => ent_B hL h2) in_0_10 nc_0 dX1_enterBooking_19 (fun H locs Z => ?_)
  obtain ⟨v3, ev3⟩ : ∃ z : V3, z = up2 v (this + 14 + (ix (v this 8))) 0 a1 := ⟨_, rfl⟩
  rw [← ev3] at Z
  replace hw := hw v3 ev3
  refine lv_aload hx hb dX1_enterBooking_20 (lv_at hl 0 rfl) ?_
  refine lv_iconst (v := 1) hx hb dX1_enterBooking_22 (by decide) ?_
  refine lv_iload_n hx hb dX1_enterBooking_23 rfl (lv_at hl 4 rfl) ?_
  refine z_iastk C0 Z (isL_B hL h2) (fun _ => ent_B hL h2) in_1_10 nc_1 dX1_enterBooking_24 (fun H locs Z => ?_)
  obtain ⟨v4, ev4⟩ : ∃ z : V3, z = up2 v3 (this + 14 + (ix (v this 8))) 1 a2 := ⟨_, rfl⟩
  rw [← ev4] at Z
  replace hw := hw v4 ev4
  refine lv_aload hx hb dX1_enterBooking_25 (lv_at hl 0 rfl) ?_
  refine lv_iconst (v := 2) hx hb dX1_enterBooking_27 (by decide) ?_
  refine lv_iload_n hx hb dX1_enterBooking_28 rfl (lv_at hl 5 rfl) ?_
  refine z_iastk C0 Z (isL_B hL h2) (fun _ => ent_B hL h2) in_2_10 nc_2 dX1_enterBooking_29 (fun H locs Z => ?_)
  obtain ⟨v5, ev5⟩ : ∃ z : V3, z = up2 v4 (this + 14 + (ix (v this 8))) 2 a3 := ⟨_, rfl⟩
  rw [← ev5] at Z
  replace hw := hw v5 ev5
  refine lv_aload hx hb dX1_enterBooking_30 (lv_at hl 0 rfl) ?_
  refine lv_iconst (v := 3) hx hb dX1_enterBooking_32 (by decide) ?_
  refine lv_iload hx hb dX1_enterBooking_33 (lv_at hl 6 rfl) ?_
  refine z_iastk C0 Z (isL_B hL h2) (fun _ => ent_B hL h2) in_3_10 nc_3 dX1_enterBooking_35 (fun H locs Z => ?_)
  obtain ⟨v6, ev6⟩ : ∃ z : V3, z = up2 v5 (this + 14 + (ix (v this 8))) 3 a4 := ⟨_, rfl⟩
  rw [← ev6] at Z
  replace hw := hw v6 ev6
  refine lv_aload hx hb dX1_enterBooking_36 (lv_at hl 0 rfl) ?_
  refine lv_iconst (v := 4) hx hb dX1_enterBooking_38 (by decide) ?_
  refine lv_iload hx hb dX1_enterBooking_39 (lv_at hl 7 rfl) ?_
  refine z_iastk C0 Z (isL_B hL h2) (fun _ => ent_B hL h2) in_4_10 nc_4 dX1_enterBooking_41 (fun H locs Z => ?_)
  obtain ⟨v7, ev7⟩ : ∃ z : V3, z = up2 v6 (this + 14 + (ix (v this 8))) 4 a5 := ⟨_, rfl⟩
  rw [← ev7] at Z
  replace hw := hw v7 ev7
  refine lv_aload hx hb dX1_enterBooking_42 (lv_at hl 0 rfl) ?_
  refine lv_iconst (v := 5) hx hb dX1_enterBooking_44 (by decide) ?_
  refine lv_iload hx hb dX1_enterBooking_45 (lv_at hl 8 rfl) ?_
  refine z_iastk C0 Z (isL_B hL h2) (fun _ => ent_B hL h2) in_5_10 nc_5 dX1_enterBooking_47 (fun H locs Z => ?_)
  obtain ⟨v8, ev8⟩ : ∃ z : V3, z = up2 v7 (this + 14 + (ix (v this 8))) 5 a6 := ⟨_, rfl⟩
  rw [← ev8] at Z
  replace hw := hw v8 ev8
  refine lv_aload hx hb dX1_enterBooking_48 (lv_at hl 0 rfl) ?_
  refine lv_bipush (v := 6) hx hb dX1_enterBooking_50 (by decide) ?_
  refine lv_iload hx hb dX1_enterBooking_52 (lv_at hl 9 rfl) ?_
  refine z_iastk C0 Z (isL_B hL h2) (fun _ => ent_B hL h2) in_6_10 nc_6 dX1_enterBooking_54 (fun H locs Z => ?_)
  obtain ⟨v9, ev9⟩ : ∃ z : V3, z = up2 v8 (this + 14 + (ix (v this 8))) 6 a7 := ⟨_, rfl⟩
  rw [← ev9] at Z
  replace hw := hw v9 ev9
  refine lv_aload_n hx hb dX1_enterBooking_55 rfl (lv_at hl 2 rfl) ?_
  refine lv_iload hx hb dX1_enterBooking_56 (lv_at hl 1 rfl) ?_
  refine z_callVv C0 Z hl.1 (As := [.int (v this 8)]) (rest := []) (k_X1_letWait l (cx_g C0) hL hw) (gv_X1_letWait tm_2_221) rfl ds_X1_letWait ⟨Nat.le_of_ble_eq_true rfl, Nat.le_of_ble_eq_true rfl⟩ (ci := 1) rfl (isL_lt0 hL) (ent_L hL) rfl rfl (Nat.le_of_ble_eq_true rfl) ⟨Nat.le_of_ble_eq_true rfl, Nat.le_of_ble_eq_true rfl⟩ dX1_enterBooking_58 (fun v10 H locs hw Z => ?_)
  refine lv_aload_n hx hb dX1_enterBooking_61 rfl (lv_at hl 2 rfl) ?_
  refine lv_dup hx hb dX1_enterBooking_62 rfl ?_
  refine z_get C0 Z in_X1 rfl 8 (by decide) rfl tm_1_62 (isL_lt0 hL) (ent_L hL) rfl dX1_enterBooking_63 ?_
  refine lv_iconst (v := 1) hx hb dX1_enterBooking_66 (by decide) ?_
  refine lv_iadd hx hb dX1_enterBooking_67 ?_
  refine z_put C0 Z in_X1 tyX1_ok nmX1 rfl 8 (by decide) rfl rfl tm_1_62 (isL_lt0 hL) (ent_L hL) (p_X1_8 hL) (fun c' h => up2_off _ _ _ h) rfl rfl (Nat.le_of_ble_eq_true rfl) dX1_enterBooking_68 (fun H locs Z => ?_)
  obtain ⟨v11, ev11⟩ : ∃ z : V3, z = up2 v10 this 8 ((v10 this 8) + 1) := ⟨_, rfl⟩
  rw [← ev11] at Z
  replace hw := hw v11 ev11
  refine lv_aload_n hx hb dX1_enterBooking_71 rfl (lv_at hl 2 rfl) ?_
  refine lv_iload hx hb dX1_enterBooking_72 (lv_at hl 1 rfl) ?_
  refine lv_aload_n hx hb dX1_enterBooking_74 rfl (lv_at hl 2 rfl) ?_
  refine lv_iload hx hb dX1_enterBooking_75 (lv_at hl 1 rfl) ?_
  refine z_callVi C0 Z hl.1 (As := [.int (v this 8)]) (rest := [.int (v this 8), .ref (gad G this)]) (k_X1_bestTime l (cx_g C0) hL hw) (gv_X1_bestTime tm_2_225) rfl ds_X1_bestTime ⟨Nat.le_of_ble_eq_true rfl, Nat.le_of_ble_eq_true rfl⟩ (ci := 1) rfl (isL_lt0 hL) (ent_L hL) rfl rfl (Nat.le_of_ble_eq_true rfl) ⟨Nat.le_of_ble_eq_true rfl, Nat.le_of_ble_eq_true rfl⟩ dX1_enterBooking_77 (fun r13 v12 H locs hw Z => ?_)
  refine z_callVi C0 Z hl.1 (As := [.int (v this 8), .int r13]) (rest := []) (k_X1_bookAt l (cx_g C0) hL hw) (gv_X1_bookAt tm_2_234) rfl ds_X1_bookAt ⟨Nat.le_of_ble_eq_true rfl, Nat.le_of_ble_eq_true rfl⟩ (ci := 1) rfl (isL_lt0 hL) (ent_L hL) rfl rfl (Nat.le_of_ble_eq_true rfl) ⟨Nat.le_of_ble_eq_true rfl, Nat.le_of_ble_eq_true rfl⟩ dX1_enterBooking_80 (fun r15 v14 H locs hw Z => ?_)
  refine lv_pop hx hb dX1_enterBooking_83 rfl ?_
  refine lv_iload hx hb dX1_enterBooking_84 (lv_at hl 1 rfl) ?_
  exact z_iret C0 Z hw dX1_enterBooking_86
-- X1_enterOwner: room (0, 0)
theorem dX1_enterOwner_0 : decode cX1_enterOwner 0 = .ok (.aload_n 0, 1) := by decide +kernel
theorem dX1_enterOwner_1 : decode cX1_enterOwner 1 = .ok (.getfield 17, 3) := by decide +kernel
theorem dX1_enterOwner_4 : decode cX1_enterOwner 4 = .ok (.aload_n 0, 1) := by decide +kernel
theorem dX1_enterOwner_5 : decode cX1_enterOwner 5 = .ok (.getfield 40, 3) := by decide +kernel
theorem dX1_enterOwner_8 : decode cX1_enterOwner 8 = .ok (.aaload, 1) := by decide +kernel
theorem dX1_enterOwner_9 : decode cX1_enterOwner 9 = .ok (.astore_n 2, 1) := by decide +kernel
theorem dX1_enterOwner_10 : decode cX1_enterOwner 10 = .ok (.iconst 0, 1) := by decide +kernel
theorem dX1_enterOwner_11 : decode cX1_enterOwner 11 = .ok (.istore_n 3, 1) := by decide +kernel
theorem dX1_enterOwner_12 : decode cX1_enterOwner 12 = .ok (.iload_n 3, 1) := by decide +kernel
theorem dX1_enterOwner_13 : decode cX1_enterOwner 13 = .ok (.bipush 8, 2) := by decide +kernel
theorem dX1_enterOwner_15 : decode cX1_enterOwner 15 = .ok (.if_icmp .ge 13, 3) := by decide +kernel
theorem dX1_enterOwner_18 : decode cX1_enterOwner 18 = .ok (.aload_n 2, 1) := by decide +kernel
theorem dX1_enterOwner_19 : decode cX1_enterOwner 19 = .ok (.iload_n 3, 1) := by decide +kernel
theorem dX1_enterOwner_20 : decode cX1_enterOwner 20 = .ok (.iconst 0, 1) := by decide +kernel
theorem dX1_enterOwner_21 : decode cX1_enterOwner 21 = .ok (.iastore, 1) := by decide +kernel
theorem dX1_enterOwner_22 : decode cX1_enterOwner 22 = .ok (.iinc 3 1, 3) := by decide +kernel
theorem dX1_enterOwner_25 : decode cX1_enterOwner 25 = .ok (.goto (-13), 3) := by decide +kernel
theorem dX1_enterOwner_28 : decode cX1_enterOwner 28 = .ok (.aload_n 2, 1) := by decide +kernel
theorem dX1_enterOwner_29 : decode cX1_enterOwner 29 = .ok (.iconst 0, 1) := by decide +kernel
theorem dX1_enterOwner_30 : decode cX1_enterOwner 30 = .ok (.iload_n 1, 1) := by decide +kernel
theorem dX1_enterOwner_31 : decode cX1_enterOwner 31 = .ok (.iastore, 1) := by decide +kernel
theorem dX1_enterOwner_32 : decode cX1_enterOwner 32 = .ok (.aload_n 0, 1) := by decide +kernel
theorem dX1_enterOwner_33 : decode cX1_enterOwner 33 = .ok (.dup, 1) := by decide +kernel
theorem dX1_enterOwner_34 : decode cX1_enterOwner 34 = .ok (.getfield 40, 3) := by decide +kernel
theorem dX1_enterOwner_37 : decode cX1_enterOwner 37 = .ok (.iconst 1, 1) := by decide +kernel
theorem dX1_enterOwner_38 : decode cX1_enterOwner 38 = .ok (.iadd, 1) := by decide +kernel
theorem dX1_enterOwner_39 : decode cX1_enterOwner 39 = .ok (.putfield 40, 3) := by decide +kernel
theorem dX1_enterOwner_42 : decode cX1_enterOwner 42 = .ok (.aload_n 0, 1) := by decide +kernel
theorem dX1_enterOwner_43 : decode cX1_enterOwner 43 = .ok (.getfield 40, 3) := by decide +kernel
theorem dX1_enterOwner_46 : decode cX1_enterOwner 46 = .ok (.iconst 1, 1) := by decide +kernel
theorem dX1_enterOwner_47 : decode cX1_enterOwner 47 = .ok (.isub, 1) := by decide +kernel
theorem dX1_enterOwner_48 : decode cX1_enterOwner 48 = .ok (.ireturn, 1) := by decide +kernel
def w_X1_enterOwner_12 (this : Nat) (Q : Int32 → V3 → Prop) : Nat → Int32 → Nat → Int32 → V3 → Prop
  | 0, _, _, _, _ => False
  | n12 + 1, x1, x2, x3, v => ((8 ≤ x3 → ∀ v4 : V3, v4 = up2 v (this + 6 + x2) 0 x1 → ∀ v5 : V3, v5 = up2 v4 this 7 ((v4 this 7) + 1) → Q ((v5 this 7) - 1) v5) ∧ (¬ 8 ≤ x3 → vp_in x3 8 ∧ ∀ v7 : V3, v7 = up2 v (this + 6 + x2) (ix x3) 0 → (w_X1_enterOwner_12 this Q n12) x1 x2 (x3 + 1) v7))
def w_X1_enterOwner (this : Nat) (a1 : Int32) (v : V3) (Q : Int32 → V3 → Prop) : Prop := vp_in (v this 7) 8 ∧ ∃ m12 : Nat, w_X1_enterOwner_12 this Q m12 a1 (ix (v this 7)) 0 v
set_option maxRecDepth 100000 in
set_option maxHeartbeats 4000000 in
theorem b_X1_enterOwner_12 {p : Program} (l : Launch) {e : Env} {s : State} {m : MethodId} {args : Array Value} {below : List Frame} {meth : Method} {c : Code} {G : zG} {this : Nat} (hL : isL G this) (C0 : Cx G RX1 cX1_enterOwner 4 (some .int) p s m args meth c) {Q : Int32 → V3 → Prop} : ∀ (n : Nat) (x1 : Int32) (x2 : Nat) (x3 : Int32) (v : V3) (H : Heap) (locs : List Loc) (ls : Array Slot), x2 < 8 → w_X1_enterOwner_12 this Q n x1 x2 x3 v → Zs G s v H locs → lv_has ls 4 [(0, .ref (gad G this)), (1, .int x1), (2, .ref (gad G (this + 6 + x2))), (3, .int x3)] → W p l e { frames := 0, cells := 0, slots := 0, locals := 0 } s m args below meth c H locs 0 0 (MQ below (QiZ G Q) args s 0 0 (zA G)) (F0 m 12 ls []) := by
  have hx := C0.1
  have hb := C0.2.1
  intro n
  induction n with
  | zero =>
    intro x1 x2 x3 v H locs ls hx2 hw Z hl
    exact hw.elim
  | succ n hK12 =>
    intro x1 x2 x3 v H locs ls hx2 hw Z hl
    rw [w_X1_enterOwner_12] at hw
    refine lv_iload_n hx hb dX1_enterOwner_12 rfl (lv_at hl 3 rfl) ?_
    refine lv_bipush (v := 8) hx hb dX1_enterOwner_13 (by decide) ?_
    refine lv_icmp_ge (tgt := 28) hx hb dX1_enterOwner_15 (by decide) (fun c3 => ?_) (fun c3 => ?_)
    · replace hw := hw.1 c3
      refine lv_aload_n hx hb dX1_enterOwner_28 rfl (lv_at hl 2 rfl) ?_
      refine lv_iconst (v := 0) hx hb dX1_enterOwner_29 (by decide) ?_
      refine lv_iload_n hx hb dX1_enterOwner_30 rfl (lv_at hl 1 rfl) ?_
      refine z_iastk C0 Z (isL_O hL hx2) (fun _ => ent_O hL hx2) in_0_8 nc_0 dX1_enterOwner_31 (fun H locs Z => ?_)
      obtain ⟨v4, ev4⟩ : ∃ z : V3, z = up2 v (this + 6 + x2) 0 x1 := ⟨_, rfl⟩
      rw [← ev4] at Z
      replace hw := hw v4 ev4
      refine lv_aload_n hx hb dX1_enterOwner_32 rfl (lv_at hl 0 rfl) ?_
      refine lv_dup hx hb dX1_enterOwner_33 rfl ?_
      refine z_get C0 Z in_X1 rfl 7 (by decide) rfl tm_1_60 (isL_lt0 hL) (ent_L hL) rfl dX1_enterOwner_34 ?_
      refine lv_iconst (v := 1) hx hb dX1_enterOwner_37 (by decide) ?_
      refine lv_iadd hx hb dX1_enterOwner_38 ?_
      refine z_put C0 Z in_X1 tyX1_ok nmX1 rfl 7 (by decide) rfl rfl tm_1_60 (isL_lt0 hL) (ent_L hL) (p_X1_7 hL) (fun c' h => up2_off _ _ _ h) rfl rfl (Nat.le_of_ble_eq_true rfl) dX1_enterOwner_39 (fun H locs Z => ?_)
      obtain ⟨v5, ev5⟩ : ∃ z : V3, z = up2 v4 this 7 ((v4 this 7) + 1) := ⟨_, rfl⟩
      rw [← ev5] at Z
      replace hw := hw v5 ev5
      refine lv_aload_n hx hb dX1_enterOwner_42 rfl (lv_at hl 0 rfl) ?_
      refine z_get C0 Z in_X1 rfl 7 (by decide) rfl tm_1_60 (isL_lt0 hL) (ent_L hL) rfl dX1_enterOwner_43 ?_
      refine lv_iconst (v := 1) hx hb dX1_enterOwner_46 (by decide) ?_
      refine lv_isub hx hb dX1_enterOwner_47 ?_
      exact z_iret C0 Z hw dX1_enterOwner_48
    · replace hw := hw.2 c3
      refine lv_aload_n hx hb dX1_enterOwner_18 rfl (lv_at hl 2 rfl) ?_
      refine lv_iload_n hx hb dX1_enterOwner_19 rfl (lv_at hl 3 rfl) ?_
      refine lv_iconst (v := 0) hx hb dX1_enterOwner_20 (by decide) ?_
      obtain ⟨h6, hw⟩ := hw
      refine z_iast C0 Z (isL_O hL hx2) (fun _ => ent_O hL hx2) h6 dX1_enterOwner_21 (fun H locs Z => ?_)
      obtain ⟨v7, ev7⟩ : ∃ z : V3, z = up2 v (this + 6 + x2) (ix x3) 0 := ⟨_, rfl⟩
      rw [← ev7] at Z
      replace hw := hw v7 ev7
      refine lv_iinc (v := x3 + 1) (lv' := [(3, .int (x3 + 1)), (0, .ref (gad G this)), (1, .int x1), (2, .ref (gad G (this + 6 + x2)))]) hx hb dX1_enterOwner_22 hl (k := 3) rfl rfl (by decide) rfl (fun ls hl => ?_)
      refine lv_goto (tgt := 12) hx hb dX1_enterOwner_25 (by decide) ?_
      exact hK12 _ _ _ _ _ _ _ hx2 hw Z (lv_sub hl [1, 2, 3, 0] rfl)
set_option maxRecDepth 100000 in
set_option maxHeartbeats 4000000 in
theorem k_X1_enterOwner (l : Launch) {G : zG} (hg : 116 ≤ gn G) {this : Nat} {a1 : Int32} (hL : isL G this) {v : V3} {Q : Int32 → V3 → Prop} (hw : w_X1_enterOwner this a1 v Q) : Mz l yX1_enterOwner cX1_enterOwner 4 (some .int) 0 0 G [.ref (gad G this), .int a1] v (QiZ G Q) := by
  rw [w_X1_enterOwner] at hw
  refine z_ofW hg (by decide) (Nat.le_of_ble_eq_true rfl) ?_
  intro p e s m args below meth c ls C0 Z hl
  have hx := C0.1
  have hb := C0.2.1
  replace hl : lv_has ls 4 [(0, .ref (gad G this)), (1, .int a1)] := hl
  generalize s.heap = H at Z ⊢
  generalize ([] : List Loc) = locs at Z ⊢
  refine lv_aload_n hx hb dX1_enterOwner_0 rfl (lv_at hl 0 rfl) ?_
  refine z_get C0 Z in_X1 rfl 1 (by decide) rfl tm_1_46 (isL_lt0 hL) (ent_L hL) rfl dX1_enterOwner_1 ?_
  refine lv_aload_n hx hb dX1_enterOwner_4 rfl (lv_at hl 0 rfl) ?_
  refine z_get C0 Z in_X1 rfl 7 (by decide) rfl tm_1_60 (isL_lt0 hL) (ent_L hL) rfl dX1_enterOwner_5 ?_
  obtain ⟨h1, hw⟩ := hw
  have h2 := vp_lt h1
  refine z_aald C0 Z (isL_lt hL 2 (by decide)) (ent_L2 hL) h1 dX1_enterOwner_8 ?_
  refine lv_astore_n (lv' := [(2, .ref (gad G (this + 6 + (ix (v this 7))))), (0, .ref (gad G this)), (1, .int a1)]) hx hb dX1_enterOwner_9 rfl hl (by decide) rfl (fun ls hl => ?_)
  refine lv_iconst (v := 0) hx hb dX1_enterOwner_10 (by decide) ?_
  refine lv_istore_n (lv' := [(3, .int 0), (2, .ref (gad G (this + 6 + (ix (v this 7))))), (0, .ref (gad G this)), (1, .int a1)]) hx hb dX1_enterOwner_11 rfl hl (by decide) rfl (fun ls hl => ?_)
  obtain ⟨m12, hw⟩ := hw
  exact b_X1_enterOwner_12 l hL C0 m12 _ _ _ _ _ _ _ h2 hw Z (lv_sub hl [2, 3, 1, 0] rfl)
