-- X1_clearTally: room (0, 0)
theorem dX1_clearTally_0 : decode cX1_clearTally 0 = .ok (.iconst 0, 1) := by decide +kernel
theorem dX1_clearTally_1 : decode cX1_clearTally 1 = .ok (.istore_n 1, 1) := by decide +kernel
theorem dX1_clearTally_2 : decode cX1_clearTally 2 = .ok (.iload_n 1, 1) := by decide +kernel
theorem dX1_clearTally_3 : decode cX1_clearTally 3 = .ok (.iconst 4, 1) := by decide +kernel
theorem dX1_clearTally_4 : decode cX1_clearTally 4 = .ok (.if_icmp .ge 16, 3) := by decide +kernel
theorem dX1_clearTally_7 : decode cX1_clearTally 7 = .ok (.aload_n 0, 1) := by decide +kernel
theorem dX1_clearTally_8 : decode cX1_clearTally 8 = .ok (.getfield 23, 3) := by decide +kernel
theorem dX1_clearTally_11 : decode cX1_clearTally 11 = .ok (.iload_n 1, 1) := by decide +kernel
theorem dX1_clearTally_12 : decode cX1_clearTally 12 = .ok (.iconst 0, 1) := by decide +kernel
theorem dX1_clearTally_13 : decode cX1_clearTally 13 = .ok (.iastore, 1) := by decide +kernel
theorem dX1_clearTally_14 : decode cX1_clearTally 14 = .ok (.iinc 1 1, 3) := by decide +kernel
theorem dX1_clearTally_17 : decode cX1_clearTally 17 = .ok (.goto (-15), 3) := by decide +kernel
theorem dX1_clearTally_20 : decode cX1_clearTally 20 = .ok (.return_, 1) := by decide +kernel
def w_X1_clearTally_2 (this : Nat) (Q : V3 → Prop) : Nat → Int32 → V3 → Prop
  | 0, _, _ => False
  | n2 + 1, x1, v => ((4 ≤ x1 → Q v) ∧ (¬ 4 ≤ x1 → vp_in x1 4 ∧ ∀ v3 : V3, v3 = up2 v (this + 4) (ix x1) 0 → (w_X1_clearTally_2 this Q n2) (x1 + 1) v3))
def w_X1_clearTally (this : Nat) (v : V3) (Q : V3 → Prop) : Prop := ∃ m2 : Nat, w_X1_clearTally_2 this Q m2 0 v
set_option maxRecDepth 100000 in
set_option maxHeartbeats 4000000 in
theorem b_X1_clearTally_2 {p : Program} (l : Launch) {e : Env} {s : State} {m : MethodId} {args : Array Value} {below : List Frame} {meth : Method} {c : Code} {G : zG} {this : Nat} (hL : isL G this) (C0 : Cx G RX1 cX1_clearTally 2 none p s m args meth c) {Q : V3 → Prop} : ∀ (n : Nat) (x1 : Int32) (v : V3) (H : Heap) (locs : List Loc) (ls : Array Slot), w_X1_clearTally_2 this Q n x1 v → Zs G s v H locs → lv_has ls 2 [(0, .ref (gad G this)), (1, .int x1)] → W p l e { frames := 0, cells := 0, slots := 0, locals := 0 } s m args below meth c H locs 0 0 (MQ below (QvZ G Q) args s 0 0 (zA G)) (F0 m 2 ls []) := by
  have hx := C0.1
  have hb := C0.2.1
  intro n
  induction n with
  | zero =>
    intro x1 v H locs ls hw Z hl
    exact hw.elim
  | succ n hK2 =>
    intro x1 v H locs ls hw Z hl
    rw [w_X1_clearTally_2] at hw
    refine lv_iload_n hx hb dX1_clearTally_2 rfl (lv_at hl 1 rfl) ?_
    refine lv_iconst (v := 4) hx hb dX1_clearTally_3 (by decide) ?_
    refine lv_icmp_ge (tgt := 20) hx hb dX1_clearTally_4 (by decide) (fun c1 => ?_) (fun c1 => ?_)
    · replace hw := hw.1 c1
      exact z_vret C0 Z hw dX1_clearTally_20
    · replace hw := hw.2 c1
      refine lv_aload_n hx hb dX1_clearTally_7 rfl (lv_at hl 0 rfl) ?_
      refine z_get C0 Z in_X1 rfl 3 (by decide) rfl tm_1_52 (isL_lt0 hL) (ent_L hL) rfl dX1_clearTally_8 ?_
      refine lv_iload_n hx hb dX1_clearTally_11 rfl (lv_at hl 1 rfl) ?_
      refine lv_iconst (v := 0) hx hb dX1_clearTally_12 (by decide) ?_
      obtain ⟨h2, hw⟩ := hw
      refine z_iast C0 Z (isL_lt hL 4 (by decide)) (fun _ => ent_L4 hL) h2 dX1_clearTally_13 (fun H locs Z => ?_)
      obtain ⟨v3, ev3⟩ : ∃ z : V3, z = up2 v (this + 4) (ix x1) 0 := ⟨_, rfl⟩
      rw [← ev3] at Z
      replace hw := hw v3 ev3
      refine lv_iinc (v := x1 + 1) (lv' := [(1, .int (x1 + 1)), (0, .ref (gad G this))]) hx hb dX1_clearTally_14 hl (k := 1) rfl rfl (by decide) rfl (fun ls hl => ?_)
      refine lv_goto (tgt := 2) hx hb dX1_clearTally_17 (by decide) ?_
      exact hK2 _ _ _ _ _ hw Z (lv_sub hl [1, 0] rfl)
set_option maxRecDepth 100000 in
set_option maxHeartbeats 4000000 in
theorem k_X1_clearTally (l : Launch) {G : zG} (hg : 116 ≤ gn G) {this : Nat} (hL : isL G this) {v : V3} {Q : V3 → Prop} (hw : w_X1_clearTally this v Q) : Mz l yX1_clearTally cX1_clearTally 2 none 0 0 G [.ref (gad G this)] v (QvZ G Q) := by
  rw [w_X1_clearTally] at hw
  refine z_ofW hg (by decide) (Nat.le_of_ble_eq_true rfl) ?_
  intro p e s m args below meth c ls C0 Z hl
  have hx := C0.1
  have hb := C0.2.1
  replace hl : lv_has ls 2 [(0, .ref (gad G this))] := hl
  generalize s.heap = H at Z ⊢
  generalize ([] : List Loc) = locs at Z ⊢
  refine lv_iconst (v := 0) hx hb dX1_clearTally_0 (by decide) ?_
  refine lv_istore_n (lv' := [(1, .int 0), (0, .ref (gad G this))]) hx hb dX1_clearTally_1 rfl hl (by decide) rfl (fun ls hl => ?_)
  obtain ⟨m2, hw⟩ := hw
  exact b_X1_clearTally_2 l hL C0 m2 _ _ _ _ _ hw Z (lv_sub hl [1, 0] rfl)
-- X1_queueUp: room (1, 21)
theorem dX1_queueUp_0 : decode cX1_queueUp 0 = .ok (.iconst 0, 1) := by decide +kernel
theorem dX1_queueUp_1 : decode cX1_queueUp 1 = .ok (.istore_n 1, 1) := by decide +kernel
theorem dX1_queueUp_2 : decode cX1_queueUp 2 = .ok (.iconst 0, 1) := by decide +kernel
theorem dX1_queueUp_3 : decode cX1_queueUp 3 = .ok (.istore_n 2, 1) := by decide +kernel
theorem dX1_queueUp_4 : decode cX1_queueUp 4 = .ok (.iload_n 2, 1) := by decide +kernel
theorem dX1_queueUp_5 : decode cX1_queueUp 5 = .ok (.aload_n 0, 1) := by decide +kernel
theorem dX1_queueUp_6 : decode cX1_queueUp 6 = .ok (.getfield 43, 3) := by decide +kernel
theorem dX1_queueUp_9 : decode cX1_queueUp 9 = .ok (.if_icmp .ge 99, 3) := by decide +kernel
theorem dX1_queueUp_12 : decode cX1_queueUp 12 = .ok (.aload_n 0, 1) := by decide +kernel
theorem dX1_queueUp_13 : decode cX1_queueUp 13 = .ok (.getfield 20, 3) := by decide +kernel
theorem dX1_queueUp_16 : decode cX1_queueUp 16 = .ok (.iload_n 2, 1) := by decide +kernel
theorem dX1_queueUp_17 : decode cX1_queueUp 17 = .ok (.aaload, 1) := by decide +kernel
theorem dX1_queueUp_18 : decode cX1_queueUp 18 = .ok (.bipush 7, 2) := by decide +kernel
theorem dX1_queueUp_20 : decode cX1_queueUp 20 = .ok (.iaload, 1) := by decide +kernel
theorem dX1_queueUp_21 : decode cX1_queueUp 21 = .ok (.ifCond .ne 81, 3) := by decide +kernel
theorem dX1_queueUp_24 : decode cX1_queueUp 24 = .ok (.aload_n 0, 1) := by decide +kernel
theorem dX1_queueUp_25 : decode cX1_queueUp 25 = .ok (.aload_n 0, 1) := by decide +kernel
theorem dX1_queueUp_26 : decode cX1_queueUp 26 = .ok (.getfield 20, 3) := by decide +kernel
theorem dX1_queueUp_29 : decode cX1_queueUp 29 = .ok (.iload_n 2, 1) := by decide +kernel
theorem dX1_queueUp_30 : decode cX1_queueUp 30 = .ok (.aaload, 1) := by decide +kernel
theorem dX1_queueUp_31 : decode cX1_queueUp 31 = .ok (.iconst 0, 1) := by decide +kernel
theorem dX1_queueUp_32 : decode cX1_queueUp 32 = .ok (.iaload, 1) := by decide +kernel
theorem dX1_queueUp_33 : decode cX1_queueUp 33 = .ok (.invokevirtual 61, 3) := by decide +kernel
theorem dX1_queueUp_36 : decode cX1_queueUp 36 = .ok (.istore_n 3, 1) := by decide +kernel
theorem dX1_queueUp_37 : decode cX1_queueUp 37 = .ok (.iload_n 1, 1) := by decide +kernel
theorem dX1_queueUp_38 : decode cX1_queueUp 38 = .ok (.istore 4, 2) := by decide +kernel
theorem dX1_queueUp_40 : decode cX1_queueUp 40 = .ok (.iload 4, 2) := by decide +kernel
theorem dX1_queueUp_42 : decode cX1_queueUp 42 = .ok (.ifCond .le 49, 3) := by decide +kernel
theorem dX1_queueUp_45 : decode cX1_queueUp 45 = .ok (.aload_n 0, 1) := by decide +kernel
theorem dX1_queueUp_46 : decode cX1_queueUp 46 = .ok (.aload_n 0, 1) := by decide +kernel
theorem dX1_queueUp_47 : decode cX1_queueUp 47 = .ok (.getfield 20, 3) := by decide +kernel
theorem dX1_queueUp_50 : decode cX1_queueUp 50 = .ok (.aload_n 0, 1) := by decide +kernel
theorem dX1_queueUp_51 : decode cX1_queueUp 51 = .ok (.getfield 26, 3) := by decide +kernel
theorem dX1_queueUp_54 : decode cX1_queueUp 54 = .ok (.iload 4, 2) := by decide +kernel
theorem dX1_queueUp_56 : decode cX1_queueUp 56 = .ok (.iconst 1, 1) := by decide +kernel
theorem dX1_queueUp_57 : decode cX1_queueUp 57 = .ok (.isub, 1) := by decide +kernel
theorem dX1_queueUp_58 : decode cX1_queueUp 58 = .ok (.iaload, 1) := by decide +kernel
theorem dX1_queueUp_59 : decode cX1_queueUp 59 = .ok (.aaload, 1) := by decide +kernel
theorem dX1_queueUp_60 : decode cX1_queueUp 60 = .ok (.iconst 0, 1) := by decide +kernel
theorem dX1_queueUp_61 : decode cX1_queueUp 61 = .ok (.iaload, 1) := by decide +kernel
theorem dX1_queueUp_62 : decode cX1_queueUp 62 = .ok (.invokevirtual 61, 3) := by decide +kernel
theorem dX1_queueUp_65 : decode cX1_queueUp 65 = .ok (.iload_n 3, 1) := by decide +kernel
theorem dX1_queueUp_66 : decode cX1_queueUp 66 = .ok (.if_icmp .le 25, 3) := by decide +kernel
theorem dX1_queueUp_69 : decode cX1_queueUp 69 = .ok (.aload_n 0, 1) := by decide +kernel
theorem dX1_queueUp_70 : decode cX1_queueUp 70 = .ok (.getfield 26, 3) := by decide +kernel
theorem dX1_queueUp_73 : decode cX1_queueUp 73 = .ok (.iload 4, 2) := by decide +kernel
theorem dX1_queueUp_75 : decode cX1_queueUp 75 = .ok (.aload_n 0, 1) := by decide +kernel
theorem dX1_queueUp_76 : decode cX1_queueUp 76 = .ok (.getfield 26, 3) := by decide +kernel
theorem dX1_queueUp_79 : decode cX1_queueUp 79 = .ok (.iload 4, 2) := by decide +kernel
theorem dX1_queueUp_81 : decode cX1_queueUp 81 = .ok (.iconst 1, 1) := by decide +kernel
theorem dX1_queueUp_82 : decode cX1_queueUp 82 = .ok (.isub, 1) := by decide +kernel
theorem dX1_queueUp_83 : decode cX1_queueUp 83 = .ok (.iaload, 1) := by decide +kernel
theorem dX1_queueUp_84 : decode cX1_queueUp 84 = .ok (.iastore, 1) := by decide +kernel
theorem dX1_queueUp_85 : decode cX1_queueUp 85 = .ok (.iinc 4 (-1), 3) := by decide +kernel
theorem dX1_queueUp_88 : decode cX1_queueUp 88 = .ok (.goto (-48), 3) := by decide +kernel
theorem dX1_queueUp_91 : decode cX1_queueUp 91 = .ok (.aload_n 0, 1) := by decide +kernel
theorem dX1_queueUp_92 : decode cX1_queueUp 92 = .ok (.getfield 26, 3) := by decide +kernel
theorem dX1_queueUp_95 : decode cX1_queueUp 95 = .ok (.iload 4, 2) := by decide +kernel
theorem dX1_queueUp_97 : decode cX1_queueUp 97 = .ok (.iload_n 2, 1) := by decide +kernel
theorem dX1_queueUp_98 : decode cX1_queueUp 98 = .ok (.iastore, 1) := by decide +kernel
theorem dX1_queueUp_99 : decode cX1_queueUp 99 = .ok (.iinc 1 1, 3) := by decide +kernel
theorem dX1_queueUp_102 : decode cX1_queueUp 102 = .ok (.iinc 2 1, 3) := by decide +kernel
theorem dX1_queueUp_105 : decode cX1_queueUp 105 = .ok (.goto (-101), 3) := by decide +kernel
theorem dX1_queueUp_108 : decode cX1_queueUp 108 = .ok (.iload_n 1, 1) := by decide +kernel
theorem dX1_queueUp_109 : decode cX1_queueUp 109 = .ok (.ireturn, 1) := by decide +kernel
def w_X1_queueUp_102 (this : Nat) (Q : Int32 → V3 → Prop) (K4 : Int32 → Int32 → V3 → Prop) (x1 : Int32) (x2 : Int32) (v : V3) : Prop := K4 x1 (x2 + 1) v
def w_X1_queueUp_91 (this : Nat) (Q : Int32 → V3 → Prop) (K4 : Int32 → Int32 → V3 → Prop) (x1 : Int32) (x2 : Int32) (x4 : Int32) (v : V3) : Prop := vp_in x4 40 ∧ ∀ v11 : V3, v11 = up2 v (this + 5) (ix x4) x2 → w_X1_queueUp_102 this Q K4 (x1 + 1) x2 v11
def w_X1_queueUp_40 (this : Nat) (Q : Int32 → V3 → Prop) (K4 : Int32 → Int32 → V3 → Prop) : Nat → Int32 → Int32 → Int32 → Int32 → V3 → Prop
  | 0, _, _, _, _, _ => False
  | n40 + 1, x1, x2, x3, x4, v => ((x4 ≤ 0 → w_X1_queueUp_91 this Q K4 x1 x2 x4 v) ∧ (¬ x4 ≤ 0 → vp_in (x4 - 1) 40 ∧ vp_in (v (this + 5) (ix (x4 - 1))) 40 ∧ w_X1_brokenOf this (v (this + 14 + (ix (v (this + 5) (ix (x4 - 1))))) 0) v (fun r16 v15 => ((r16 ≤ x3 → w_X1_queueUp_91 this Q K4 x1 x2 x4 v15) ∧ (¬ r16 ≤ x3 → vp_in (x4 - 1) 40 ∧ vp_in x4 40 ∧ ∀ v20 : V3, v20 = up2 v15 (this + 5) (ix x4) (v15 (this + 5) (ix (x4 - 1))) → (w_X1_queueUp_40 this Q K4 n40) x1 x2 x3 (x4 + (-1)) v20)))))
def w_X1_queueUp_4 (this : Nat) (Q : Int32 → V3 → Prop) : Nat → Int32 → Int32 → V3 → Prop
  | 0, _, _, _ => False
  | n4 + 1, x1, x2, v => (((v this 8) ≤ x2 → Q x1 v) ∧ (¬ (v this 8) ≤ x2 → vp_in x2 40 ∧ ((¬ (v (this + 14 + (ix x2)) 7) = 0 → w_X1_queueUp_102 this Q (w_X1_queueUp_4 this Q n4) x1 x2 v) ∧ ((v (this + 14 + (ix x2)) 7) = 0 → vp_in x2 40 ∧ w_X1_brokenOf this (v (this + 14 + (ix x2)) 0) v (fun r8 v7 => ∃ m40 : Nat, w_X1_queueUp_40 this Q (w_X1_queueUp_4 this Q n4) m40 x1 x2 r8 x1 v7)))))
def w_X1_queueUp (this : Nat) (v : V3) (Q : Int32 → V3 → Prop) : Prop := ∃ m4 : Nat, w_X1_queueUp_4 this Q m4 0 0 v
set_option maxRecDepth 100000 in
set_option maxHeartbeats 4000000 in
theorem b_X1_queueUp_102 {p : Program} (l : Launch) {e : Env} {s : State} {m : MethodId} {args : Array Value} {below : List Frame} {meth : Method} {c : Code} {G : zG} {this : Nat} (hL : isL G this) (C0 : Cx G RX1 cX1_queueUp 5 (some .int) p s m args meth c) {Q : Int32 → V3 → Prop} {K4 : Int32 → Int32 → V3 → Prop} (hK4 : ∀ (x1 : Int32) (x2 : Int32) (v : V3) (H : Heap) (locs : List Loc) (ls : Array Slot), K4 x1 x2 v → Zs G s v H locs → lv_has ls 5 [(0, .ref (gad G this)), (1, .int x1), (2, .int x2)] → W p l e { frames := 1, cells := 0, slots := 0, locals := 21 } s m args below meth c H locs 0 0 (MQ below (QiZ G Q) args s 0 0 (zA G)) (F0 m 4 ls [])) : ∀ (x1 : Int32) (x2 : Int32) (v : V3) (H : Heap) (locs : List Loc) (ls : Array Slot), w_X1_queueUp_102 this Q K4 x1 x2 v → Zs G s v H locs → lv_has ls 5 [(0, .ref (gad G this)), (1, .int x1), (2, .int x2)] → W p l e { frames := 1, cells := 0, slots := 0, locals := 21 } s m args below meth c H locs 0 0 (MQ below (QiZ G Q) args s 0 0 (zA G)) (F0 m 102 ls []) := by
  have hx := C0.1
  have hb := C0.2.1
  intro x1 x2 v H locs ls hw Z hl
  rw [w_X1_queueUp_102] at hw
  refine lv_iinc (v := x2 + 1) (lv' := [(2, .int (x2 + 1)), (0, .ref (gad G this)), (1, .int x1)]) hx hb dX1_queueUp_102 hl (k := 2) rfl rfl (by decide) rfl (fun ls hl => ?_)
  refine lv_goto (tgt := 4) hx hb dX1_queueUp_105 (by decide) ?_
  exact hK4 _ _ _ _ _ _ hw Z (lv_sub hl [1, 2, 0] rfl)
set_option maxRecDepth 100000 in
set_option maxHeartbeats 4000000 in
theorem b_X1_queueUp_91 {p : Program} (l : Launch) {e : Env} {s : State} {m : MethodId} {args : Array Value} {below : List Frame} {meth : Method} {c : Code} {G : zG} {this : Nat} (hL : isL G this) (C0 : Cx G RX1 cX1_queueUp 5 (some .int) p s m args meth c) {Q : Int32 → V3 → Prop} {K4 : Int32 → Int32 → V3 → Prop} (hK4 : ∀ (x1 : Int32) (x2 : Int32) (v : V3) (H : Heap) (locs : List Loc) (ls : Array Slot), K4 x1 x2 v → Zs G s v H locs → lv_has ls 5 [(0, .ref (gad G this)), (1, .int x1), (2, .int x2)] → W p l e { frames := 1, cells := 0, slots := 0, locals := 21 } s m args below meth c H locs 0 0 (MQ below (QiZ G Q) args s 0 0 (zA G)) (F0 m 4 ls [])) : ∀ (x1 : Int32) (x2 : Int32) (x4 : Int32) (v : V3) (H : Heap) (locs : List Loc) (ls : Array Slot), w_X1_queueUp_91 this Q K4 x1 x2 x4 v → Zs G s v H locs → lv_has ls 5 [(0, .ref (gad G this)), (1, .int x1), (2, .int x2), (4, .int x4)] → W p l e { frames := 1, cells := 0, slots := 0, locals := 21 } s m args below meth c H locs 0 0 (MQ below (QiZ G Q) args s 0 0 (zA G)) (F0 m 91 ls []) := by
  have hx := C0.1
  have hb := C0.2.1
  intro x1 x2 x4 v H locs ls hw Z hl
  rw [w_X1_queueUp_91] at hw
  refine lv_aload_n hx hb dX1_queueUp_91 rfl (lv_at hl 0 rfl) ?_
  refine z_get C0 Z in_X1 rfl 4 (by decide) rfl tm_1_54 (isL_lt0 hL) (ent_L hL) rfl dX1_queueUp_92 ?_
  refine lv_iload hx hb dX1_queueUp_95 (lv_at hl 3 rfl) ?_
  refine lv_iload_n hx hb dX1_queueUp_97 rfl (lv_at hl 2 rfl) ?_
  obtain ⟨h10, hw⟩ := hw
  refine z_iast C0 Z (isL_lt hL 5 (by decide)) (fun _ => ent_L5 hL) h10 dX1_queueUp_98 (fun H locs Z => ?_)
  obtain ⟨v11, ev11⟩ : ∃ z : V3, z = up2 v (this + 5) (ix x4) x2 := ⟨_, rfl⟩
  rw [← ev11] at Z
  replace hw := hw v11 ev11
  refine lv_iinc (v := x1 + 1) (lv' := [(1, .int (x1 + 1)), (0, .ref (gad G this)), (2, .int x2), (4, .int x4)]) hx hb dX1_queueUp_99 hl (k := 1) rfl rfl (by decide) rfl (fun ls hl => ?_)
  exact b_X1_queueUp_102 l hL C0 hK4 _ _ _ _ _ _ hw Z (lv_sub hl [1, 0, 2] rfl)
set_option maxRecDepth 100000 in
set_option maxHeartbeats 4000000 in
theorem b_X1_queueUp_40 {p : Program} (l : Launch) {e : Env} {s : State} {m : MethodId} {args : Array Value} {below : List Frame} {meth : Method} {c : Code} {G : zG} {this : Nat} (hL : isL G this) (C0 : Cx G RX1 cX1_queueUp 5 (some .int) p s m args meth c) {Q : Int32 → V3 → Prop} {K4 : Int32 → Int32 → V3 → Prop} (hK4 : ∀ (x1 : Int32) (x2 : Int32) (v : V3) (H : Heap) (locs : List Loc) (ls : Array Slot), K4 x1 x2 v → Zs G s v H locs → lv_has ls 5 [(0, .ref (gad G this)), (1, .int x1), (2, .int x2)] → W p l e { frames := 1, cells := 0, slots := 0, locals := 21 } s m args below meth c H locs 0 0 (MQ below (QiZ G Q) args s 0 0 (zA G)) (F0 m 4 ls [])) : ∀ (n : Nat) (x1 : Int32) (x2 : Int32) (x3 : Int32) (x4 : Int32) (v : V3) (H : Heap) (locs : List Loc) (ls : Array Slot), w_X1_queueUp_40 this Q K4 n x1 x2 x3 x4 v → Zs G s v H locs → lv_has ls 5 [(0, .ref (gad G this)), (1, .int x1), (2, .int x2), (3, .int x3), (4, .int x4)] → W p l e { frames := 1, cells := 0, slots := 0, locals := 21 } s m args below meth c H locs 0 0 (MQ below (QiZ G Q) args s 0 0 (zA G)) (F0 m 40 ls []) := by
  have hx := C0.1
  have hb := C0.2.1
  intro n
  induction n with
  | zero =>
    intro x1 x2 x3 x4 v H locs ls hw Z hl
    exact hw.elim
  | succ n hK40 =>
    intro x1 x2 x3 x4 v H locs ls hw Z hl
    rw [w_X1_queueUp_40] at hw
    refine lv_iload hx hb dX1_queueUp_40 (lv_at hl 4 rfl) ?_
    refine lv_if_le (tgt := 91) hx hb dX1_queueUp_42 (by decide) (fun c9 => ?_) (fun c9 => ?_)
    · replace hw := hw.1 c9
      exact b_X1_queueUp_91 l hL C0 hK4 _ _ _ _ _ _ _ hw Z (lv_sub hl [0, 1, 2, 4] rfl)
    · replace hw := hw.2 c9
      refine lv_aload_n hx hb dX1_queueUp_45 rfl (lv_at hl 0 rfl) ?_
      refine lv_aload_n hx hb dX1_queueUp_46 rfl (lv_at hl 0 rfl) ?_
      refine z_get C0 Z in_X1 rfl 2 (by decide) rfl tm_1_49 (isL_lt0 hL) (ent_L hL) rfl dX1_queueUp_47 ?_
      refine lv_aload_n hx hb dX1_queueUp_50 rfl (lv_at hl 0 rfl) ?_
      refine z_get C0 Z in_X1 rfl 4 (by decide) rfl tm_1_54 (isL_lt0 hL) (ent_L hL) rfl dX1_queueUp_51 ?_
      refine lv_iload hx hb dX1_queueUp_54 (lv_at hl 4 rfl) ?_
      refine lv_iconst (v := 1) hx hb dX1_queueUp_56 (by decide) ?_
      refine lv_isub hx hb dX1_queueUp_57 ?_
      obtain ⟨h12, hw⟩ := hw
      refine z_iald C0 Z (isL_lt hL 5 (by decide)) (ent_L5 hL) h12 dX1_queueUp_58 ?_
      obtain ⟨h13, hw⟩ := hw
      have h14 := vp_lt h13
      refine z_aald C0 Z (isL_lt hL 3 (by decide)) (ent_L3 hL) h13 dX1_queueUp_59 ?_
      refine lv_iconst (v := 0) hx hb dX1_queueUp_60 (by decide) ?_
      refine z_ialdk C0 Z (isL_B hL h14) (ent_B hL h14) in_0_10 nc_0 dX1_queueUp_61 ?_
      refine z_callVi C0 Z hl.1 (As := [.int (v (this + 14 + (ix (v (this + 5) (ix (x4 - 1))))) 0)]) (rest := []) (k_X1_brokenOf l (cx_g C0) hL hw) (gv_X1_brokenOf tm_2_171) rfl ds_X1_brokenOf ⟨Nat.le_of_ble_eq_true rfl, Nat.le_of_ble_eq_true rfl⟩ (ci := 1) rfl (isL_lt0 hL) (ent_L hL) rfl rfl (Nat.le_of_ble_eq_true rfl) ⟨Nat.le_of_ble_eq_true rfl, Nat.le_of_ble_eq_true rfl⟩ dX1_queueUp_62 (fun r16 v15 H locs hw Z => ?_)
      refine lv_iload_n hx hb dX1_queueUp_65 rfl (lv_at hl 3 rfl) ?_
      refine lv_icmp_le (tgt := 91) hx hb dX1_queueUp_66 (by decide) (fun c17 => ?_) (fun c17 => ?_)
      · replace hw := hw.1 c17
        exact b_X1_queueUp_91 l hL C0 hK4 _ _ _ _ _ _ _ hw Z (lv_sub hl [0, 1, 2, 4] rfl)
      · replace hw := hw.2 c17
        refine lv_aload_n hx hb dX1_queueUp_69 rfl (lv_at hl 0 rfl) ?_
        refine z_get C0 Z in_X1 rfl 4 (by decide) rfl tm_1_54 (isL_lt0 hL) (ent_L hL) rfl dX1_queueUp_70 ?_
        refine lv_iload hx hb dX1_queueUp_73 (lv_at hl 4 rfl) ?_
        refine lv_aload_n hx hb dX1_queueUp_75 rfl (lv_at hl 0 rfl) ?_
        refine z_get C0 Z in_X1 rfl 4 (by decide) rfl tm_1_54 (isL_lt0 hL) (ent_L hL) rfl dX1_queueUp_76 ?_
        refine lv_iload hx hb dX1_queueUp_79 (lv_at hl 4 rfl) ?_
        refine lv_iconst (v := 1) hx hb dX1_queueUp_81 (by decide) ?_
        refine lv_isub hx hb dX1_queueUp_82 ?_
        obtain ⟨h18, hw⟩ := hw
        refine z_iald C0 Z (isL_lt hL 5 (by decide)) (ent_L5 hL) h18 dX1_queueUp_83 ?_
        obtain ⟨h19, hw⟩ := hw
        refine z_iast C0 Z (isL_lt hL 5 (by decide)) (fun _ => ent_L5 hL) h19 dX1_queueUp_84 (fun H locs Z => ?_)
        obtain ⟨v20, ev20⟩ : ∃ z : V3, z = up2 v15 (this + 5) (ix x4) (v15 (this + 5) (ix (x4 - 1))) := ⟨_, rfl⟩
        rw [← ev20] at Z
        replace hw := hw v20 ev20
        refine lv_iinc (v := x4 + (-1)) (lv' := [(4, .int (x4 + (-1))), (0, .ref (gad G this)), (1, .int x1), (2, .int x2), (3, .int x3)]) hx hb dX1_queueUp_85 hl (k := 4) rfl rfl (by decide) rfl (fun ls hl => ?_)
        refine lv_goto (tgt := 40) hx hb dX1_queueUp_88 (by decide) ?_
        exact hK40 _ _ _ _ _ _ _ _ hw Z (lv_sub hl [1, 2, 3, 4, 0] rfl)
set_option maxRecDepth 100000 in
set_option maxHeartbeats 4000000 in
theorem b_X1_queueUp_4 {p : Program} (l : Launch) {e : Env} {s : State} {m : MethodId} {args : Array Value} {below : List Frame} {meth : Method} {c : Code} {G : zG} {this : Nat} (hL : isL G this) (C0 : Cx G RX1 cX1_queueUp 5 (some .int) p s m args meth c) {Q : Int32 → V3 → Prop} : ∀ (n : Nat) (x1 : Int32) (x2 : Int32) (v : V3) (H : Heap) (locs : List Loc) (ls : Array Slot), w_X1_queueUp_4 this Q n x1 x2 v → Zs G s v H locs → lv_has ls 5 [(0, .ref (gad G this)), (1, .int x1), (2, .int x2)] → W p l e { frames := 1, cells := 0, slots := 0, locals := 21 } s m args below meth c H locs 0 0 (MQ below (QiZ G Q) args s 0 0 (zA G)) (F0 m 4 ls []) := by
  have hx := C0.1
  have hb := C0.2.1
  intro n
  induction n with
  | zero =>
    intro x1 x2 v H locs ls hw Z hl
    exact hw.elim
  | succ n hK4 =>
    intro x1 x2 v H locs ls hw Z hl
    rw [w_X1_queueUp_4] at hw
    refine lv_iload_n hx hb dX1_queueUp_4 rfl (lv_at hl 2 rfl) ?_
    refine lv_aload_n hx hb dX1_queueUp_5 rfl (lv_at hl 0 rfl) ?_
    refine z_get C0 Z in_X1 rfl 8 (by decide) rfl tm_1_62 (isL_lt0 hL) (ent_L hL) rfl dX1_queueUp_6 ?_
    refine lv_icmp_ge (tgt := 108) hx hb dX1_queueUp_9 (by decide) (fun c1 => ?_) (fun c1 => ?_)
    · replace hw := hw.1 c1
      refine lv_iload_n hx hb dX1_queueUp_108 rfl (lv_at hl 1 rfl) ?_
      exact z_iret C0 Z hw dX1_queueUp_109
    · replace hw := hw.2 c1
      refine lv_aload_n hx hb dX1_queueUp_12 rfl (lv_at hl 0 rfl) ?_
      refine z_get C0 Z in_X1 rfl 2 (by decide) rfl tm_1_49 (isL_lt0 hL) (ent_L hL) rfl dX1_queueUp_13 ?_
      refine lv_iload_n hx hb dX1_queueUp_16 rfl (lv_at hl 2 rfl) ?_
      obtain ⟨h2, hw⟩ := hw
      have h3 := vp_lt h2
      refine z_aald C0 Z (isL_lt hL 3 (by decide)) (ent_L3 hL) h2 dX1_queueUp_17 ?_
      refine lv_bipush (v := 7) hx hb dX1_queueUp_18 (by decide) ?_
      refine z_ialdk C0 Z (isL_B hL h3) (ent_B hL h3) in_7_10 nc_7 dX1_queueUp_20 ?_
      refine lv_if_ne (tgt := 102) hx hb dX1_queueUp_21 (by decide) (fun c4 => ?_) (fun c4 => ?_)
      · replace hw := hw.1 c4
        exact b_X1_queueUp_102 l hL C0 hK4 _ _ _ _ _ _ hw Z (lv_sub hl [0, 1, 2] rfl)
      · replace hw := hw.2 c4
        refine lv_aload_n hx hb dX1_queueUp_24 rfl (lv_at hl 0 rfl) ?_
        refine lv_aload_n hx hb dX1_queueUp_25 rfl (lv_at hl 0 rfl) ?_
        refine z_get C0 Z in_X1 rfl 2 (by decide) rfl tm_1_49 (isL_lt0 hL) (ent_L hL) rfl dX1_queueUp_26 ?_
        refine lv_iload_n hx hb dX1_queueUp_29 rfl (lv_at hl 2 rfl) ?_
        obtain ⟨h5, hw⟩ := hw
        have h6 := vp_lt h5
        refine z_aald C0 Z (isL_lt hL 3 (by decide)) (ent_L3 hL) h5 dX1_queueUp_30 ?_
        refine lv_iconst (v := 0) hx hb dX1_queueUp_31 (by decide) ?_
        refine z_ialdk C0 Z (isL_B hL h6) (ent_B hL h6) in_0_10 nc_0 dX1_queueUp_32 ?_
        refine z_callVi C0 Z hl.1 (As := [.int (v (this + 14 + (ix x2)) 0)]) (rest := []) (k_X1_brokenOf l (cx_g C0) hL hw) (gv_X1_brokenOf tm_2_171) rfl ds_X1_brokenOf ⟨Nat.le_of_ble_eq_true rfl, Nat.le_of_ble_eq_true rfl⟩ (ci := 1) rfl (isL_lt0 hL) (ent_L hL) rfl rfl (Nat.le_of_ble_eq_true rfl) ⟨Nat.le_of_ble_eq_true rfl, Nat.le_of_ble_eq_true rfl⟩ dX1_queueUp_33 (fun r8 v7 H locs hw Z => ?_)
        refine lv_istore_n (lv' := [(3, .int r8), (0, .ref (gad G this)), (1, .int x1), (2, .int x2)]) hx hb dX1_queueUp_36 rfl hl (by decide) rfl (fun ls hl => ?_)
        refine lv_iload_n hx hb dX1_queueUp_37 rfl (lv_at hl 2 rfl) ?_
        refine lv_istore (lv' := [(4, .int x1), (3, .int r8), (0, .ref (gad G this)), (1, .int x1), (2, .int x2)]) hx hb dX1_queueUp_38 hl (by decide) rfl (fun ls hl => ?_)
        obtain ⟨m40, hw⟩ := hw
        exact b_X1_queueUp_40 l hL C0 hK4 m40 _ _ _ _ _ _ _ _ hw Z (lv_sub hl [2, 3, 4, 1, 0] rfl)
set_option maxRecDepth 100000 in
set_option maxHeartbeats 4000000 in
theorem k_X1_queueUp (l : Launch) {G : zG} (hg : 116 ≤ gn G) {this : Nat} (hL : isL G this) {v : V3} {Q : Int32 → V3 → Prop} (hw : w_X1_queueUp this v Q) : Mz l yX1_queueUp cX1_queueUp 5 (some .int) 1 21 G [.ref (gad G this)] v (QiZ G Q) := by
  rw [w_X1_queueUp] at hw
  refine z_ofW hg (by decide) (Nat.le_of_ble_eq_true rfl) ?_
  intro p e s m args below meth c ls C0 Z hl
  have hx := C0.1
  have hb := C0.2.1
  replace hl : lv_has ls 5 [(0, .ref (gad G this))] := hl
  generalize s.heap = H at Z ⊢
  generalize ([] : List Loc) = locs at Z ⊢
  refine lv_iconst (v := 0) hx hb dX1_queueUp_0 (by decide) ?_
  refine lv_istore_n (lv' := [(1, .int 0), (0, .ref (gad G this))]) hx hb dX1_queueUp_1 rfl hl (by decide) rfl (fun ls hl => ?_)
  refine lv_iconst (v := 0) hx hb dX1_queueUp_2 (by decide) ?_
  refine lv_istore_n (lv' := [(2, .int 0), (1, .int 0), (0, .ref (gad G this))]) hx hb dX1_queueUp_3 rfl hl (by decide) rfl (fun ls hl => ?_)
  obtain ⟨m4, hw⟩ := hw
  exact b_X1_queueUp_4 l hL C0 m4 _ _ _ _ _ _ hw Z (lv_sub hl [2, 1, 0] rfl)
-- X1_waiterAt: room (2, 45)
theorem dX1_waiterAt_0 : decode cX1_waiterAt 0 = .ok (.aload_n 0, 1) := by decide +kernel
theorem dX1_waiterAt_1 : decode cX1_waiterAt 1 = .ok (.invokevirtual 114, 3) := by decide +kernel
theorem dX1_waiterAt_4 : decode cX1_waiterAt 4 = .ok (.istore_n 2, 1) := by decide +kernel
theorem dX1_waiterAt_5 : decode cX1_waiterAt 5 = .ok (.iload_n 1, 1) := by decide +kernel
theorem dX1_waiterAt_6 : decode cX1_waiterAt 6 = .ok (.ifCond .lt 17, 3) := by decide +kernel
theorem dX1_waiterAt_9 : decode cX1_waiterAt 9 = .ok (.iload_n 1, 1) := by decide +kernel
theorem dX1_waiterAt_10 : decode cX1_waiterAt 10 = .ok (.iload_n 2, 1) := by decide +kernel
theorem dX1_waiterAt_11 : decode cX1_waiterAt 11 = .ok (.if_icmp .ge 12, 3) := by decide +kernel
theorem dX1_waiterAt_14 : decode cX1_waiterAt 14 = .ok (.aload_n 0, 1) := by decide +kernel
theorem dX1_waiterAt_15 : decode cX1_waiterAt 15 = .ok (.getfield 26, 3) := by decide +kernel
theorem dX1_waiterAt_18 : decode cX1_waiterAt 18 = .ok (.iload_n 1, 1) := by decide +kernel
theorem dX1_waiterAt_19 : decode cX1_waiterAt 19 = .ok (.iaload, 1) := by decide +kernel
theorem dX1_waiterAt_20 : decode cX1_waiterAt 20 = .ok (.goto 4, 3) := by decide +kernel
theorem dX1_waiterAt_23 : decode cX1_waiterAt 23 = .ok (.iconst (-1), 1) := by decide +kernel
theorem dX1_waiterAt_24 : decode cX1_waiterAt 24 = .ok (.ireturn, 1) := by decide +kernel
def w_X1_waiterAt_24 (this : Nat) (Q : Int32 → V3 → Prop) (s0 : Int32) (v : V3) : Prop := Q s0 v
def w_X1_waiterAt_23 (this : Nat) (Q : Int32 → V3 → Prop) (v : V3) : Prop := w_X1_waiterAt_24 this Q (-1) v
def w_X1_waiterAt (this : Nat) (a1 : Int32) (v : V3) (Q : Int32 → V3 → Prop) : Prop := w_X1_queueUp this v (fun r2 v1 => ((a1 < 0 → w_X1_waiterAt_23 this Q v1) ∧ (¬ a1 < 0 → ((r2 ≤ a1 → w_X1_waiterAt_23 this Q v1) ∧ (¬ r2 ≤ a1 → vp_in a1 40 ∧ w_X1_waiterAt_24 this Q (v1 (this + 5) (ix a1)) v1)))))
set_option maxRecDepth 100000 in
set_option maxHeartbeats 4000000 in
theorem b_X1_waiterAt_24 {p : Program} (l : Launch) {e : Env} {s : State} {m : MethodId} {args : Array Value} {below : List Frame} {meth : Method} {c : Code} {G : zG} {this : Nat} (hL : isL G this) (C0 : Cx G RX1 cX1_waiterAt 3 (some .int) p s m args meth c) {Q : Int32 → V3 → Prop} : ∀ (s0 : Int32) (v : V3) (H : Heap) (locs : List Loc) (ls : Array Slot), w_X1_waiterAt_24 this Q s0 v → Zs G s v H locs → lv_has ls 3 [] → W p l e { frames := 2, cells := 0, slots := 0, locals := 45 } s m args below meth c H locs 0 0 (MQ below (QiZ G Q) args s 0 0 (zA G)) (F0 m 24 ls [.int s0]) := by
  have hx := C0.1
  have hb := C0.2.1
  intro s0 v H locs ls hw Z hl
  rw [w_X1_waiterAt_24] at hw
  exact z_iret C0 Z hw dX1_waiterAt_24
set_option maxRecDepth 100000 in
set_option maxHeartbeats 4000000 in
theorem b_X1_waiterAt_23 {p : Program} (l : Launch) {e : Env} {s : State} {m : MethodId} {args : Array Value} {below : List Frame} {meth : Method} {c : Code} {G : zG} {this : Nat} (hL : isL G this) (C0 : Cx G RX1 cX1_waiterAt 3 (some .int) p s m args meth c) {Q : Int32 → V3 → Prop} : ∀ (v : V3) (H : Heap) (locs : List Loc) (ls : Array Slot), w_X1_waiterAt_23 this Q v → Zs G s v H locs → lv_has ls 3 [] → W p l e { frames := 2, cells := 0, slots := 0, locals := 45 } s m args below meth c H locs 0 0 (MQ below (QiZ G Q) args s 0 0 (zA G)) (F0 m 23 ls []) := by
  have hx := C0.1
  have hb := C0.2.1
  intro v H locs ls hw Z hl
  rw [w_X1_waiterAt_23] at hw
  refine lv_iconst (v := (-1)) hx hb dX1_waiterAt_23 (by decide) ?_
  exact b_X1_waiterAt_24 l hL C0 _ _ _ _ _ hw Z (lv_sub hl [] rfl)
set_option maxRecDepth 100000 in
set_option maxHeartbeats 4000000 in
theorem k_X1_waiterAt (l : Launch) {G : zG} (hg : 116 ≤ gn G) {this : Nat} {a1 : Int32} (hL : isL G this) {v : V3} {Q : Int32 → V3 → Prop} (hw : w_X1_waiterAt this a1 v Q) : Mz l yX1_waiterAt cX1_waiterAt 3 (some .int) 2 45 G [.ref (gad G this), .int a1] v (QiZ G Q) := by
  rw [w_X1_waiterAt] at hw
  refine z_ofW hg (by decide) (Nat.le_of_ble_eq_true rfl) ?_
  intro p e s m args below meth c ls C0 Z hl
  have hx := C0.1
  have hb := C0.2.1
  replace hl : lv_has ls 3 [(0, .ref (gad G this)), (1, .int a1)] := hl
  generalize s.heap = H at Z ⊢
  generalize ([] : List Loc) = locs at Z ⊢
  refine lv_aload_n hx hb dX1_waiterAt_0 rfl (lv_at hl 0 rfl) ?_
  refine z_callVi C0 Z hl.1 (As := []) (rest := []) (k_X1_queueUp l (cx_g C0) hL hw) (gv_X1_queueUp tm_3_32) rfl ds_X1_queueUp ⟨Nat.le_of_ble_eq_true rfl, Nat.le_of_ble_eq_true rfl⟩ (ci := 1) rfl (isL_lt0 hL) (ent_L hL) rfl rfl (Nat.le_of_ble_eq_true rfl) ⟨Nat.le_of_ble_eq_true rfl, Nat.le_of_ble_eq_true rfl⟩ dX1_waiterAt_1 (fun r2 v1 H locs hw Z => ?_)
  refine lv_istore_n (lv' := [(2, .int r2), (0, .ref (gad G this)), (1, .int a1)]) hx hb dX1_waiterAt_4 rfl hl (by decide) rfl (fun ls hl => ?_)
  refine lv_iload_n hx hb dX1_waiterAt_5 rfl (lv_at hl 2 rfl) ?_
  refine lv_if_lt (tgt := 23) hx hb dX1_waiterAt_6 (by decide) (fun c3 => ?_) (fun c3 => ?_)
  · replace hw := hw.1 c3
    exact b_X1_waiterAt_23 l hL C0 _ _ _ _ hw Z (lv_sub hl [] rfl)
  · replace hw := hw.2 c3
    refine lv_iload_n hx hb dX1_waiterAt_9 rfl (lv_at hl 2 rfl) ?_
    refine lv_iload_n hx hb dX1_waiterAt_10 rfl (lv_at hl 0 rfl) ?_
    refine lv_icmp_ge (tgt := 23) hx hb dX1_waiterAt_11 (by decide) (fun c4 => ?_) (fun c4 => ?_)
    · replace hw := hw.1 c4
      exact b_X1_waiterAt_23 l hL C0 _ _ _ _ hw Z (lv_sub hl [] rfl)
    · replace hw := hw.2 c4
      refine lv_aload_n hx hb dX1_waiterAt_14 rfl (lv_at hl 1 rfl) ?_
      refine z_get C0 Z in_X1 rfl 4 (by decide) rfl tm_1_54 (isL_lt0 hL) (ent_L hL) rfl dX1_waiterAt_15 ?_
      refine lv_iload_n hx hb dX1_waiterAt_18 rfl (lv_at hl 2 rfl) ?_
      obtain ⟨h5, hw⟩ := hw
      refine z_iald C0 Z (isL_lt hL 5 (by decide)) (ent_L5 hL) h5 dX1_waiterAt_19 ?_
      refine lv_goto (tgt := 24) hx hb dX1_waiterAt_20 (by decide) ?_
      exact b_X1_waiterAt_24 l hL C0 _ _ _ _ _ hw Z (lv_sub hl [] rfl)
-- X1_placeWaiting: room (3, 82)
theorem dX1_placeWaiting_0 : decode cX1_placeWaiting 0 = .ok (.aload_n 0, 1) := by decide +kernel
theorem dX1_placeWaiting_1 : decode cX1_placeWaiting 1 = .ok (.invokevirtual 114, 3) := by decide +kernel
theorem dX1_placeWaiting_4 : decode cX1_placeWaiting 4 = .ok (.istore_n 1, 1) := by decide +kernel
theorem dX1_placeWaiting_5 : decode cX1_placeWaiting 5 = .ok (.iconst 0, 1) := by decide +kernel
theorem dX1_placeWaiting_6 : decode cX1_placeWaiting 6 = .ok (.istore_n 2, 1) := by decide +kernel
theorem dX1_placeWaiting_7 : decode cX1_placeWaiting 7 = .ok (.iload_n 2, 1) := by decide +kernel
theorem dX1_placeWaiting_8 : decode cX1_placeWaiting 8 = .ok (.iload_n 1, 1) := by decide +kernel
theorem dX1_placeWaiting_9 : decode cX1_placeWaiting 9 = .ok (.if_icmp .ge 42, 3) := by decide +kernel
theorem dX1_placeWaiting_12 : decode cX1_placeWaiting 12 = .ok (.aload_n 0, 1) := by decide +kernel
theorem dX1_placeWaiting_13 : decode cX1_placeWaiting 13 = .ok (.aload_n 0, 1) := by decide +kernel
theorem dX1_placeWaiting_14 : decode cX1_placeWaiting 14 = .ok (.getfield 26, 3) := by decide +kernel
theorem dX1_placeWaiting_17 : decode cX1_placeWaiting 17 = .ok (.iload_n 2, 1) := by decide +kernel
theorem dX1_placeWaiting_18 : decode cX1_placeWaiting 18 = .ok (.iaload, 1) := by decide +kernel
theorem dX1_placeWaiting_19 : decode cX1_placeWaiting 19 = .ok (.aload_n 0, 1) := by decide +kernel
theorem dX1_placeWaiting_20 : decode cX1_placeWaiting 20 = .ok (.aload_n 0, 1) := by decide +kernel
theorem dX1_placeWaiting_21 : decode cX1_placeWaiting 21 = .ok (.getfield 26, 3) := by decide +kernel
theorem dX1_placeWaiting_24 : decode cX1_placeWaiting 24 = .ok (.iload_n 2, 1) := by decide +kernel
theorem dX1_placeWaiting_25 : decode cX1_placeWaiting 25 = .ok (.iaload, 1) := by decide +kernel
theorem dX1_placeWaiting_26 : decode cX1_placeWaiting 26 = .ok (.invokevirtual 78, 3) := by decide +kernel
theorem dX1_placeWaiting_29 : decode cX1_placeWaiting 29 = .ok (.invokevirtual 81, 3) := by decide +kernel
theorem dX1_placeWaiting_32 : decode cX1_placeWaiting 32 = .ok (.ifCond .eq 13, 3) := by decide +kernel
theorem dX1_placeWaiting_35 : decode cX1_placeWaiting 35 = .ok (.aload_n 0, 1) := by decide +kernel
theorem dX1_placeWaiting_36 : decode cX1_placeWaiting 36 = .ok (.getfield 23, 3) := by decide +kernel
theorem dX1_placeWaiting_39 : decode cX1_placeWaiting 39 = .ok (.iconst 2, 1) := by decide +kernel
theorem dX1_placeWaiting_40 : decode cX1_placeWaiting 40 = .ok (.dup2, 1) := by decide +kernel
theorem dX1_placeWaiting_41 : decode cX1_placeWaiting 41 = .ok (.iaload, 1) := by decide +kernel
theorem dX1_placeWaiting_42 : decode cX1_placeWaiting 42 = .ok (.iconst 1, 1) := by decide +kernel
theorem dX1_placeWaiting_43 : decode cX1_placeWaiting 43 = .ok (.iadd, 1) := by decide +kernel
theorem dX1_placeWaiting_44 : decode cX1_placeWaiting 44 = .ok (.iastore, 1) := by decide +kernel
theorem dX1_placeWaiting_45 : decode cX1_placeWaiting 45 = .ok (.iinc 2 1, 3) := by decide +kernel
theorem dX1_placeWaiting_48 : decode cX1_placeWaiting 48 = .ok (.goto (-41), 3) := by decide +kernel
theorem dX1_placeWaiting_51 : decode cX1_placeWaiting 51 = .ok (.return_, 1) := by decide +kernel
def w_X1_placeWaiting_45 (this : Nat) (Q : V3 → Prop) (K7 : Int32 → Int32 → V3 → Prop) (x1 : Int32) (x2 : Int32) (v : V3) : Prop := K7 x1 (x2 + 1) v
def w_X1_placeWaiting_7 (this : Nat) (Q : V3 → Prop) : Nat → Int32 → Int32 → V3 → Prop
  | 0, _, _, _ => False
  | n7 + 1, x1, x2, v => ((x1 ≤ x2 → Q v) ∧ (¬ x1 ≤ x2 → vp_in x2 40 ∧ vp_in x2 40 ∧ w_X1_bestTime this (v (this + 5) (ix x2)) v (fun r7 v6 => w_X1_bookAt this (v (this + 5) (ix x2)) r7 v6 (fun r9 v8 => ((r9 = 0 → w_X1_placeWaiting_45 this Q (w_X1_placeWaiting_7 this Q n7) x1 x2 v8) ∧ (¬ r9 = 0 → ∀ v11 : V3, v11 = up2 v8 (this + 4) 2 ((v8 (this + 4) 2) + 1) → w_X1_placeWaiting_45 this Q (w_X1_placeWaiting_7 this Q n7) x1 x2 v11))))))
def w_X1_placeWaiting (this : Nat) (v : V3) (Q : V3 → Prop) : Prop := w_X1_queueUp this v (fun r2 v1 => ∃ m7 : Nat, w_X1_placeWaiting_7 this Q m7 r2 0 v1)
set_option maxRecDepth 100000 in
set_option maxHeartbeats 4000000 in
theorem b_X1_placeWaiting_45 {p : Program} (l : Launch) {e : Env} {s : State} {m : MethodId} {args : Array Value} {below : List Frame} {meth : Method} {c : Code} {G : zG} {this : Nat} (hL : isL G this) (C0 : Cx G RX1 cX1_placeWaiting 3 none p s m args meth c) {Q : V3 → Prop} {K7 : Int32 → Int32 → V3 → Prop} (hK7 : ∀ (x1 : Int32) (x2 : Int32) (v : V3) (H : Heap) (locs : List Loc) (ls : Array Slot), K7 x1 x2 v → Zs G s v H locs → lv_has ls 3 [(0, .ref (gad G this)), (1, .int x1), (2, .int x2)] → W p l e { frames := 3, cells := 0, slots := 0, locals := 82 } s m args below meth c H locs 0 0 (MQ below (QvZ G Q) args s 0 0 (zA G)) (F0 m 7 ls [])) : ∀ (x1 : Int32) (x2 : Int32) (v : V3) (H : Heap) (locs : List Loc) (ls : Array Slot), w_X1_placeWaiting_45 this Q K7 x1 x2 v → Zs G s v H locs → lv_has ls 3 [(0, .ref (gad G this)), (1, .int x1), (2, .int x2)] → W p l e { frames := 3, cells := 0, slots := 0, locals := 82 } s m args below meth c H locs 0 0 (MQ below (QvZ G Q) args s 0 0 (zA G)) (F0 m 45 ls []) := by
  have hx := C0.1
  have hb := C0.2.1
  intro x1 x2 v H locs ls hw Z hl
  rw [w_X1_placeWaiting_45] at hw
  refine lv_iinc (v := x2 + 1) (lv' := [(2, .int (x2 + 1)), (0, .ref (gad G this)), (1, .int x1)]) hx hb dX1_placeWaiting_45 hl (k := 2) rfl rfl (by decide) rfl (fun ls hl => ?_)
  refine lv_goto (tgt := 7) hx hb dX1_placeWaiting_48 (by decide) ?_
  exact hK7 _ _ _ _ _ _ hw Z (lv_sub hl [1, 2, 0] rfl)
set_option maxRecDepth 100000 in
set_option maxHeartbeats 4000000 in
theorem b_X1_placeWaiting_7 {p : Program} (l : Launch) {e : Env} {s : State} {m : MethodId} {args : Array Value} {below : List Frame} {meth : Method} {c : Code} {G : zG} {this : Nat} (hL : isL G this) (C0 : Cx G RX1 cX1_placeWaiting 3 none p s m args meth c) {Q : V3 → Prop} : ∀ (n : Nat) (x1 : Int32) (x2 : Int32) (v : V3) (H : Heap) (locs : List Loc) (ls : Array Slot), w_X1_placeWaiting_7 this Q n x1 x2 v → Zs G s v H locs → lv_has ls 3 [(0, .ref (gad G this)), (1, .int x1), (2, .int x2)] → W p l e { frames := 3, cells := 0, slots := 0, locals := 82 } s m args below meth c H locs 0 0 (MQ below (QvZ G Q) args s 0 0 (zA G)) (F0 m 7 ls []) := by
  have hx := C0.1
  have hb := C0.2.1
  intro n
  induction n with
  | zero =>
    intro x1 x2 v H locs ls hw Z hl
    exact hw.elim
  | succ n hK7 =>
    intro x1 x2 v H locs ls hw Z hl
    rw [w_X1_placeWaiting_7] at hw
    refine lv_iload_n hx hb dX1_placeWaiting_7 rfl (lv_at hl 2 rfl) ?_
    refine lv_iload_n hx hb dX1_placeWaiting_8 rfl (lv_at hl 1 rfl) ?_
    refine lv_icmp_ge (tgt := 51) hx hb dX1_placeWaiting_9 (by decide) (fun c3 => ?_) (fun c3 => ?_)
    · replace hw := hw.1 c3
      exact z_vret C0 Z hw dX1_placeWaiting_51
    · replace hw := hw.2 c3
      refine lv_aload_n hx hb dX1_placeWaiting_12 rfl (lv_at hl 0 rfl) ?_
      refine lv_aload_n hx hb dX1_placeWaiting_13 rfl (lv_at hl 0 rfl) ?_
      refine z_get C0 Z in_X1 rfl 4 (by decide) rfl tm_1_54 (isL_lt0 hL) (ent_L hL) rfl dX1_placeWaiting_14 ?_
      refine lv_iload_n hx hb dX1_placeWaiting_17 rfl (lv_at hl 2 rfl) ?_
      obtain ⟨h4, hw⟩ := hw
      refine z_iald C0 Z (isL_lt hL 5 (by decide)) (ent_L5 hL) h4 dX1_placeWaiting_18 ?_
      refine lv_aload_n hx hb dX1_placeWaiting_19 rfl (lv_at hl 0 rfl) ?_
      refine lv_aload_n hx hb dX1_placeWaiting_20 rfl (lv_at hl 0 rfl) ?_
      refine z_get C0 Z in_X1 rfl 4 (by decide) rfl tm_1_54 (isL_lt0 hL) (ent_L hL) rfl dX1_placeWaiting_21 ?_
      refine lv_iload_n hx hb dX1_placeWaiting_24 rfl (lv_at hl 2 rfl) ?_
      obtain ⟨h5, hw⟩ := hw
      refine z_iald C0 Z (isL_lt hL 5 (by decide)) (ent_L5 hL) h5 dX1_placeWaiting_25 ?_
      refine z_callVi C0 Z hl.1 (As := [.int (v (this + 5) (ix x2))]) (rest := [.int (v (this + 5) (ix x2)), .ref (gad G this)]) (k_X1_bestTime l (cx_g C0) hL hw) (gv_X1_bestTime tm_2_225) rfl ds_X1_bestTime ⟨Nat.le_of_ble_eq_true rfl, Nat.le_of_ble_eq_true rfl⟩ (ci := 1) rfl (isL_lt0 hL) (ent_L hL) rfl rfl (Nat.le_of_ble_eq_true rfl) ⟨Nat.le_of_ble_eq_true rfl, Nat.le_of_ble_eq_true rfl⟩ dX1_placeWaiting_26 (fun r7 v6 H locs hw Z => ?_)
      refine z_callVi C0 Z hl.1 (As := [.int (v (this + 5) (ix x2)), .int r7]) (rest := []) (k_X1_bookAt l (cx_g C0) hL hw) (gv_X1_bookAt tm_2_234) rfl ds_X1_bookAt ⟨Nat.le_of_ble_eq_true rfl, Nat.le_of_ble_eq_true rfl⟩ (ci := 1) rfl (isL_lt0 hL) (ent_L hL) rfl rfl (Nat.le_of_ble_eq_true rfl) ⟨Nat.le_of_ble_eq_true rfl, Nat.le_of_ble_eq_true rfl⟩ dX1_placeWaiting_29 (fun r9 v8 H locs hw Z => ?_)
      refine lv_if_eq (tgt := 45) hx hb dX1_placeWaiting_32 (by decide) (fun c10 => ?_) (fun c10 => ?_)
      · replace hw := hw.1 c10
        exact b_X1_placeWaiting_45 l hL C0 hK7 _ _ _ _ _ _ hw Z (lv_sub hl [0, 1, 2] rfl)
      · replace hw := hw.2 c10
        refine lv_aload_n hx hb dX1_placeWaiting_35 rfl (lv_at hl 0 rfl) ?_
        refine z_get C0 Z in_X1 rfl 3 (by decide) rfl tm_1_52 (isL_lt0 hL) (ent_L hL) rfl dX1_placeWaiting_36 ?_
        refine lv_iconst (v := 2) hx hb dX1_placeWaiting_39 (by decide) ?_
        refine lv_dup2_11 hx hb dX1_placeWaiting_40 rfl rfl ?_
        refine z_ialdk C0 Z (isL_lt hL 4 (by decide)) (ent_L4 hL) in_2_4 nc_2 dX1_placeWaiting_41 ?_
        refine lv_iconst (v := 1) hx hb dX1_placeWaiting_42 (by decide) ?_
        refine lv_iadd hx hb dX1_placeWaiting_43 ?_
        refine z_iastk C0 Z (isL_lt hL 4 (by decide)) (fun _ => ent_L4 hL) in_2_4 nc_2 dX1_placeWaiting_44 (fun H locs Z => ?_)
        obtain ⟨v11, ev11⟩ : ∃ z : V3, z = up2 v8 (this + 4) 2 ((v8 (this + 4) 2) + 1) := ⟨_, rfl⟩
        rw [← ev11] at Z
        replace hw := hw v11 ev11
        exact b_X1_placeWaiting_45 l hL C0 hK7 _ _ _ _ _ _ hw Z (lv_sub hl [0, 1, 2] rfl)
set_option maxRecDepth 100000 in
set_option maxHeartbeats 4000000 in
theorem k_X1_placeWaiting (l : Launch) {G : zG} (hg : 116 ≤ gn G) {this : Nat} (hL : isL G this) {v : V3} {Q : V3 → Prop} (hw : w_X1_placeWaiting this v Q) : Mz l yX1_placeWaiting cX1_placeWaiting 3 none 3 82 G [.ref (gad G this)] v (QvZ G Q) := by
  rw [w_X1_placeWaiting] at hw
  refine z_ofW hg (by decide) (Nat.le_of_ble_eq_true rfl) ?_
  intro p e s m args below meth c ls C0 Z hl
  have hx := C0.1
  have hb := C0.2.1
  replace hl : lv_has ls 3 [(0, .ref (gad G this))] := hl
  generalize s.heap = H at Z ⊢
  generalize ([] : List Loc) = locs at Z ⊢
  refine lv_aload_n hx hb dX1_placeWaiting_0 rfl (lv_at hl 0 rfl) ?_
  refine z_callVi C0 Z hl.1 (As := []) (rest := []) (k_X1_queueUp l (cx_g C0) hL hw) (gv_X1_queueUp tm_3_32) rfl ds_X1_queueUp ⟨Nat.le_of_ble_eq_true rfl, Nat.le_of_ble_eq_true rfl⟩ (ci := 1) rfl (isL_lt0 hL) (ent_L hL) rfl rfl (Nat.le_of_ble_eq_true rfl) ⟨Nat.le_of_ble_eq_true rfl, Nat.le_of_ble_eq_true rfl⟩ dX1_placeWaiting_1 (fun r2 v1 H locs hw Z => ?_)
  refine lv_istore_n (lv' := [(1, .int r2), (0, .ref (gad G this))]) hx hb dX1_placeWaiting_4 rfl hl (by decide) rfl (fun ls hl => ?_)
  refine lv_iconst (v := 0) hx hb dX1_placeWaiting_5 (by decide) ?_
  refine lv_istore_n (lv' := [(2, .int 0), (1, .int r2), (0, .ref (gad G this))]) hx hb dX1_placeWaiting_6 rfl hl (by decide) rfl (fun ls hl => ?_)
  obtain ⟨m7, hw⟩ := hw
  exact b_X1_placeWaiting_7 l hL C0 m7 _ _ _ _ _ _ hw Z (lv_sub hl [2, 1, 0] rfl)
-- X1_finishHeld: room (0, 0)
theorem dX1_finishHeld_0 : decode cX1_finishHeld 0 = .ok (.iconst 0, 1) := by decide +kernel
theorem dX1_finishHeld_1 : decode cX1_finishHeld 1 = .ok (.istore_n 1, 1) := by decide +kernel
theorem dX1_finishHeld_2 : decode cX1_finishHeld 2 = .ok (.iconst 0, 1) := by decide +kernel
theorem dX1_finishHeld_3 : decode cX1_finishHeld 3 = .ok (.istore_n 2, 1) := by decide +kernel
theorem dX1_finishHeld_4 : decode cX1_finishHeld 4 = .ok (.iload_n 2, 1) := by decide +kernel
theorem dX1_finishHeld_5 : decode cX1_finishHeld 5 = .ok (.aload_n 0, 1) := by decide +kernel
theorem dX1_finishHeld_6 : decode cX1_finishHeld 6 = .ok (.getfield 43, 3) := by decide +kernel
theorem dX1_finishHeld_9 : decode cX1_finishHeld 9 = .ok (.if_icmp .ge 57, 3) := by decide +kernel
theorem dX1_finishHeld_12 : decode cX1_finishHeld 12 = .ok (.aload_n 0, 1) := by decide +kernel
theorem dX1_finishHeld_13 : decode cX1_finishHeld 13 = .ok (.getfield 20, 3) := by decide +kernel
theorem dX1_finishHeld_16 : decode cX1_finishHeld 16 = .ok (.iload_n 2, 1) := by decide +kernel
theorem dX1_finishHeld_17 : decode cX1_finishHeld 17 = .ok (.aaload, 1) := by decide +kernel
theorem dX1_finishHeld_18 : decode cX1_finishHeld 18 = .ok (.astore_n 3, 1) := by decide +kernel
theorem dX1_finishHeld_19 : decode cX1_finishHeld 19 = .ok (.aload_n 3, 1) := by decide +kernel
theorem dX1_finishHeld_20 : decode cX1_finishHeld 20 = .ok (.bipush 7, 2) := by decide +kernel
theorem dX1_finishHeld_22 : decode cX1_finishHeld 22 = .ok (.iaload, 1) := by decide +kernel
theorem dX1_finishHeld_23 : decode cX1_finishHeld 23 = .ok (.iconst 2, 1) := by decide +kernel
theorem dX1_finishHeld_24 : decode cX1_finishHeld 24 = .ok (.if_icmp .ne 36, 3) := by decide +kernel
theorem dX1_finishHeld_27 : decode cX1_finishHeld 27 = .ok (.aload_n 3, 1) := by decide +kernel
theorem dX1_finishHeld_28 : decode cX1_finishHeld 28 = .ok (.bipush 9, 2) := by decide +kernel
theorem dX1_finishHeld_30 : decode cX1_finishHeld 30 = .ok (.iaload, 1) := by decide +kernel
theorem dX1_finishHeld_31 : decode cX1_finishHeld 31 = .ok (.aload_n 0, 1) := by decide +kernel
theorem dX1_finishHeld_32 : decode cX1_finishHeld 32 = .ok (.getfield 37, 3) := by decide +kernel
theorem dX1_finishHeld_35 : decode cX1_finishHeld 35 = .ok (.if_icmp .gt 25, 3) := by decide +kernel
theorem dX1_finishHeld_38 : decode cX1_finishHeld 38 = .ok (.aload_n 3, 1) := by decide +kernel
theorem dX1_finishHeld_39 : decode cX1_finishHeld 39 = .ok (.bipush 7, 2) := by decide +kernel
theorem dX1_finishHeld_41 : decode cX1_finishHeld 41 = .ok (.iconst 3, 1) := by decide +kernel
theorem dX1_finishHeld_42 : decode cX1_finishHeld 42 = .ok (.iastore, 1) := by decide +kernel
theorem dX1_finishHeld_43 : decode cX1_finishHeld 43 = .ok (.aload_n 0, 1) := by decide +kernel
theorem dX1_finishHeld_44 : decode cX1_finishHeld 44 = .ok (.getfield 17, 3) := by decide +kernel
theorem dX1_finishHeld_47 : decode cX1_finishHeld 47 = .ok (.aload_n 3, 1) := by decide +kernel
theorem dX1_finishHeld_48 : decode cX1_finishHeld 48 = .ok (.iconst 0, 1) := by decide +kernel
theorem dX1_finishHeld_49 : decode cX1_finishHeld 49 = .ok (.iaload, 1) := by decide +kernel
theorem dX1_finishHeld_50 : decode cX1_finishHeld 50 = .ok (.aaload, 1) := by decide +kernel
theorem dX1_finishHeld_51 : decode cX1_finishHeld 51 = .ok (.iconst 1, 1) := by decide +kernel
theorem dX1_finishHeld_52 : decode cX1_finishHeld 52 = .ok (.dup2, 1) := by decide +kernel
theorem dX1_finishHeld_53 : decode cX1_finishHeld 53 = .ok (.iaload, 1) := by decide +kernel
theorem dX1_finishHeld_54 : decode cX1_finishHeld 54 = .ok (.iconst 1, 1) := by decide +kernel
theorem dX1_finishHeld_55 : decode cX1_finishHeld 55 = .ok (.iadd, 1) := by decide +kernel
theorem dX1_finishHeld_56 : decode cX1_finishHeld 56 = .ok (.iastore, 1) := by decide +kernel
theorem dX1_finishHeld_57 : decode cX1_finishHeld 57 = .ok (.iinc 1 1, 3) := by decide +kernel
theorem dX1_finishHeld_60 : decode cX1_finishHeld 60 = .ok (.iinc 2 1, 3) := by decide +kernel
theorem dX1_finishHeld_63 : decode cX1_finishHeld 63 = .ok (.goto (-59), 3) := by decide +kernel
theorem dX1_finishHeld_66 : decode cX1_finishHeld 66 = .ok (.aload_n 0, 1) := by decide +kernel
theorem dX1_finishHeld_67 : decode cX1_finishHeld 67 = .ok (.getfield 23, 3) := by decide +kernel
theorem dX1_finishHeld_70 : decode cX1_finishHeld 70 = .ok (.iconst 3, 1) := by decide +kernel
theorem dX1_finishHeld_71 : decode cX1_finishHeld 71 = .ok (.dup2, 1) := by decide +kernel
theorem dX1_finishHeld_72 : decode cX1_finishHeld 72 = .ok (.iaload, 1) := by decide +kernel
theorem dX1_finishHeld_73 : decode cX1_finishHeld 73 = .ok (.iload_n 1, 1) := by decide +kernel
theorem dX1_finishHeld_74 : decode cX1_finishHeld 74 = .ok (.iadd, 1) := by decide +kernel
theorem dX1_finishHeld_75 : decode cX1_finishHeld 75 = .ok (.iastore, 1) := by decide +kernel
theorem dX1_finishHeld_76 : decode cX1_finishHeld 76 = .ok (.iload_n 1, 1) := by decide +kernel
theorem dX1_finishHeld_77 : decode cX1_finishHeld 77 = .ok (.ireturn, 1) := by decide +kernel
def w_X1_finishHeld_60 (this : Nat) (Q : Int32 → V3 → Prop) (K4 : Int32 → Int32 → V3 → Prop) (x1 : Int32) (x2 : Int32) (v : V3) : Prop := K4 x1 (x2 + 1) v
def w_X1_finishHeld_4 (this : Nat) (Q : Int32 → V3 → Prop) : Nat → Int32 → Int32 → V3 → Prop
  | 0, _, _, _ => False
  | n4 + 1, x1, x2, v => (((v this 8) ≤ x2 → ∀ v2 : V3, v2 = up2 v (this + 4) 3 ((v (this + 4) 3) + x1) → Q x1 v2) ∧ (¬ (v this 8) ≤ x2 → vp_in x2 40 ∧ ((¬ (v (this + 14 + (ix x2)) 7) = 2 → w_X1_finishHeld_60 this Q (w_X1_finishHeld_4 this Q n4) x1 x2 v) ∧ ((v (this + 14 + (ix x2)) 7) = 2 → (((v this 6) < (v (this + 14 + (ix x2)) 9) → w_X1_finishHeld_60 this Q (w_X1_finishHeld_4 this Q n4) x1 x2 v) ∧ (¬ (v this 6) < (v (this + 14 + (ix x2)) 9) → ∀ v7 : V3, v7 = up2 v (this + 14 + (ix x2)) 7 3 → vp_in (v7 (this + 14 + (ix x2)) 0) 8 ∧ ∀ v10 : V3, v10 = up2 v7 (this + 6 + (ix (v7 (this + 14 + (ix x2)) 0))) 1 ((v7 (this + 6 + (ix (v7 (this + 14 + (ix x2)) 0))) 1) + 1) → w_X1_finishHeld_60 this Q (w_X1_finishHeld_4 this Q n4) (x1 + 1) x2 v10))))))
def w_X1_finishHeld (this : Nat) (v : V3) (Q : Int32 → V3 → Prop) : Prop := ∃ m4 : Nat, w_X1_finishHeld_4 this Q m4 0 0 v
set_option maxRecDepth 100000 in
set_option maxHeartbeats 4000000 in
theorem b_X1_finishHeld_60 {p : Program} (l : Launch) {e : Env} {s : State} {m : MethodId} {args : Array Value} {below : List Frame} {meth : Method} {c : Code} {G : zG} {this : Nat} (hL : isL G this) (C0 : Cx G RX1 cX1_finishHeld 4 (some .int) p s m args meth c) {Q : Int32 → V3 → Prop} {K4 : Int32 → Int32 → V3 → Prop} (hK4 : ∀ (x1 : Int32) (x2 : Int32) (v : V3) (H : Heap) (locs : List Loc) (ls : Array Slot), K4 x1 x2 v → Zs G s v H locs → lv_has ls 4 [(0, .ref (gad G this)), (1, .int x1), (2, .int x2)] → W p l e { frames := 0, cells := 0, slots := 0, locals := 0 } s m args below meth c H locs 0 0 (MQ below (QiZ G Q) args s 0 0 (zA G)) (F0 m 4 ls [])) : ∀ (x1 : Int32) (x2 : Int32) (v : V3) (H : Heap) (locs : List Loc) (ls : Array Slot), w_X1_finishHeld_60 this Q K4 x1 x2 v → Zs G s v H locs → lv_has ls 4 [(0, .ref (gad G this)), (1, .int x1), (2, .int x2)] → W p l e { frames := 0, cells := 0, slots := 0, locals := 0 } s m args below meth c H locs 0 0 (MQ below (QiZ G Q) args s 0 0 (zA G)) (F0 m 60 ls []) := by
  have hx := C0.1
  have hb := C0.2.1
  intro x1 x2 v H locs ls hw Z hl
  rw [w_X1_finishHeld_60] at hw
  refine lv_iinc (v := x2 + 1) (lv' := [(2, .int (x2 + 1)), (0, .ref (gad G this)), (1, .int x1)]) hx hb dX1_finishHeld_60 hl (k := 2) rfl rfl (by decide) rfl (fun ls hl => ?_)
  refine lv_goto (tgt := 4) hx hb dX1_finishHeld_63 (by decide) ?_
  exact hK4 _ _ _ _ _ _ hw Z (lv_sub hl [1, 2, 0] rfl)
set_option maxRecDepth 100000 in
set_option maxHeartbeats 4000000 in
theorem b_X1_finishHeld_4 {p : Program} (l : Launch) {e : Env} {s : State} {m : MethodId} {args : Array Value} {below : List Frame} {meth : Method} {c : Code} {G : zG} {this : Nat} (hL : isL G this) (C0 : Cx G RX1 cX1_finishHeld 4 (some .int) p s m args meth c) {Q : Int32 → V3 → Prop} : ∀ (n : Nat) (x1 : Int32) (x2 : Int32) (v : V3) (H : Heap) (locs : List Loc) (ls : Array Slot), w_X1_finishHeld_4 this Q n x1 x2 v → Zs G s v H locs → lv_has ls 4 [(0, .ref (gad G this)), (1, .int x1), (2, .int x2)] → W p l e { frames := 0, cells := 0, slots := 0, locals := 0 } s m args below meth c H locs 0 0 (MQ below (QiZ G Q) args s 0 0 (zA G)) (F0 m 4 ls []) := by
  have hx := C0.1
  have hb := C0.2.1
  intro n
  induction n with
  | zero =>
    intro x1 x2 v H locs ls hw Z hl
    exact hw.elim
  | succ n hK4 =>
    intro x1 x2 v H locs ls hw Z hl
    rw [w_X1_finishHeld_4] at hw
    refine lv_iload_n hx hb dX1_finishHeld_4 rfl (lv_at hl 2 rfl) ?_
    refine lv_aload_n hx hb dX1_finishHeld_5 rfl (lv_at hl 0 rfl) ?_
    refine z_get C0 Z in_X1 rfl 8 (by decide) rfl tm_1_62 (isL_lt0 hL) (ent_L hL) rfl dX1_finishHeld_6 ?_
    refine lv_icmp_ge (tgt := 66) hx hb dX1_finishHeld_9 (by decide) (fun c1 => ?_) (fun c1 => ?_)
    · replace hw := hw.1 c1
      refine lv_aload_n hx hb dX1_finishHeld_66 rfl (lv_at hl 0 rfl) ?_
      refine z_get C0 Z in_X1 rfl 3 (by decide) rfl tm_1_52 (isL_lt0 hL) (ent_L hL) rfl dX1_finishHeld_67 ?_
      refine lv_iconst (v := 3) hx hb dX1_finishHeld_70 (by decide) ?_
      refine lv_dup2_11 hx hb dX1_finishHeld_71 rfl rfl ?_
      refine z_ialdk C0 Z (isL_lt hL 4 (by decide)) (ent_L4 hL) in_3_4 nc_3 dX1_finishHeld_72 ?_
      refine lv_iload_n hx hb dX1_finishHeld_73 rfl (lv_at hl 1 rfl) ?_
      refine lv_iadd hx hb dX1_finishHeld_74 ?_
      refine z_iastk C0 Z (isL_lt hL 4 (by decide)) (fun _ => ent_L4 hL) in_3_4 nc_3 dX1_finishHeld_75 (fun H locs Z => ?_)
      obtain ⟨v2, ev2⟩ : ∃ z : V3, z = up2 v (this + 4) 3 ((v (this + 4) 3) + x1) := ⟨_, rfl⟩
      rw [← ev2] at Z
      replace hw := hw v2 ev2
      refine lv_iload_n hx hb dX1_finishHeld_76 rfl (lv_at hl 1 rfl) ?_
      exact z_iret C0 Z hw dX1_finishHeld_77
    · replace hw := hw.2 c1
      refine lv_aload_n hx hb dX1_finishHeld_12 rfl (lv_at hl 0 rfl) ?_
      refine z_get C0 Z in_X1 rfl 2 (by decide) rfl tm_1_49 (isL_lt0 hL) (ent_L hL) rfl dX1_finishHeld_13 ?_
      refine lv_iload_n hx hb dX1_finishHeld_16 rfl (lv_at hl 2 rfl) ?_
      obtain ⟨h3, hw⟩ := hw
      have h4 := vp_lt h3
      refine z_aald C0 Z (isL_lt hL 3 (by decide)) (ent_L3 hL) h3 dX1_finishHeld_17 ?_
      refine lv_astore_n (lv' := [(3, .ref (gad G (this + 14 + (ix x2)))), (0, .ref (gad G this)), (1, .int x1), (2, .int x2)]) hx hb dX1_finishHeld_18 rfl hl (by decide) rfl (fun ls hl => ?_)
      refine lv_aload_n hx hb dX1_finishHeld_19 rfl (lv_at hl 0 rfl) ?_
      refine lv_bipush (v := 7) hx hb dX1_finishHeld_20 (by decide) ?_
      refine z_ialdk C0 Z (isL_B hL h4) (ent_B hL h4) in_7_10 nc_7 dX1_finishHeld_22 ?_
      refine lv_iconst (v := 2) hx hb dX1_finishHeld_23 (by decide) ?_
      refine lv_icmp_ne (tgt := 60) hx hb dX1_finishHeld_24 (by decide) (fun c5 => ?_) (fun c5 => ?_)
      · replace hw := hw.1 c5
        exact b_X1_finishHeld_60 l hL C0 hK4 _ _ _ _ _ _ hw Z (lv_sub hl [1, 2, 3] rfl)
      · replace hw := hw.2 c5
        refine lv_aload_n hx hb dX1_finishHeld_27 rfl (lv_at hl 0 rfl) ?_
        refine lv_bipush (v := 9) hx hb dX1_finishHeld_28 (by decide) ?_
        refine z_ialdk C0 Z (isL_B hL h4) (ent_B hL h4) in_9_10 nc_9 dX1_finishHeld_30 ?_
        refine lv_aload_n hx hb dX1_finishHeld_31 rfl (lv_at hl 1 rfl) ?_
        refine z_get C0 Z in_X1 rfl 6 (by decide) rfl tm_1_57 (isL_lt0 hL) (ent_L hL) rfl dX1_finishHeld_32 ?_
        refine lv_icmp_gt (tgt := 60) hx hb dX1_finishHeld_35 (by decide) (fun c6 => ?_) (fun c6 => ?_)
        · replace hw := hw.1 c6
          exact b_X1_finishHeld_60 l hL C0 hK4 _ _ _ _ _ _ hw Z (lv_sub hl [1, 2, 3] rfl)
        · replace hw := hw.2 c6
          refine lv_aload_n hx hb dX1_finishHeld_38 rfl (lv_at hl 0 rfl) ?_
          refine lv_bipush (v := 7) hx hb dX1_finishHeld_39 (by decide) ?_
          refine lv_iconst (v := 3) hx hb dX1_finishHeld_41 (by decide) ?_
          refine z_iastk C0 Z (isL_B hL h4) (fun _ => ent_B hL h4) in_7_10 nc_7 dX1_finishHeld_42 (fun H locs Z => ?_)
          obtain ⟨v7, ev7⟩ : ∃ z : V3, z = up2 v (this + 14 + (ix x2)) 7 3 := ⟨_, rfl⟩
          rw [← ev7] at Z
          replace hw := hw v7 ev7
          refine lv_aload_n hx hb dX1_finishHeld_43 rfl (lv_at hl 1 rfl) ?_
          refine z_get C0 Z in_X1 rfl 1 (by decide) rfl tm_1_46 (isL_lt0 hL) (ent_L hL) rfl dX1_finishHeld_44 ?_
          refine lv_aload_n hx hb dX1_finishHeld_47 rfl (lv_at hl 0 rfl) ?_
          refine lv_iconst (v := 0) hx hb dX1_finishHeld_48 (by decide) ?_
          refine z_ialdk C0 Z (isL_B hL h4) (ent_B hL h4) in_0_10 nc_0 dX1_finishHeld_49 ?_
          obtain ⟨h8, hw⟩ := hw
          have h9 := vp_lt h8
          refine z_aald C0 Z (isL_lt hL 2 (by decide)) (ent_L2 hL) h8 dX1_finishHeld_50 ?_
          refine lv_iconst (v := 1) hx hb dX1_finishHeld_51 (by decide) ?_
          refine lv_dup2_11 hx hb dX1_finishHeld_52 rfl rfl ?_
          refine z_ialdk C0 Z (isL_O hL h9) (ent_O hL h9) in_1_8 nc_1 dX1_finishHeld_53 ?_
          refine lv_iconst (v := 1) hx hb dX1_finishHeld_54 (by decide) ?_
          refine lv_iadd hx hb dX1_finishHeld_55 ?_
          refine z_iastk C0 Z (isL_O hL h9) (fun _ => ent_O hL h9) in_1_8 nc_1 dX1_finishHeld_56 (fun H locs Z => ?_)
          obtain ⟨v10, ev10⟩ : ∃ z : V3, z = up2 v7 (this + 6 + (ix (v7 (this + 14 + (ix x2)) 0))) 1 ((v7 (this + 6 + (ix (v7 (this + 14 + (ix x2)) 0))) 1) + 1) := ⟨_, rfl⟩
          rw [← ev10] at Z
          replace hw := hw v10 ev10
          refine lv_iinc (v := x1 + 1) (lv' := [(1, .int (x1 + 1)), (3, .ref (gad G (this + 14 + (ix x2)))), (0, .ref (gad G this)), (2, .int x2)]) hx hb dX1_finishHeld_57 hl (k := 2) rfl rfl (by decide) rfl (fun ls hl => ?_)
          exact b_X1_finishHeld_60 l hL C0 hK4 _ _ _ _ _ _ hw Z (lv_sub hl [2, 0, 3] rfl)
set_option maxRecDepth 100000 in
set_option maxHeartbeats 4000000 in
theorem k_X1_finishHeld (l : Launch) {G : zG} (hg : 116 ≤ gn G) {this : Nat} (hL : isL G this) {v : V3} {Q : Int32 → V3 → Prop} (hw : w_X1_finishHeld this v Q) : Mz l yX1_finishHeld cX1_finishHeld 4 (some .int) 0 0 G [.ref (gad G this)] v (QiZ G Q) := by
  rw [w_X1_finishHeld] at hw
  refine z_ofW hg (by decide) (Nat.le_of_ble_eq_true rfl) ?_
  intro p e s m args below meth c ls C0 Z hl
  have hx := C0.1
  have hb := C0.2.1
  replace hl : lv_has ls 4 [(0, .ref (gad G this))] := hl
  generalize s.heap = H at Z ⊢
  generalize ([] : List Loc) = locs at Z ⊢
  refine lv_iconst (v := 0) hx hb dX1_finishHeld_0 (by decide) ?_
  refine lv_istore_n (lv' := [(1, .int 0), (0, .ref (gad G this))]) hx hb dX1_finishHeld_1 rfl hl (by decide) rfl (fun ls hl => ?_)
  refine lv_iconst (v := 0) hx hb dX1_finishHeld_2 (by decide) ?_
  refine lv_istore_n (lv' := [(2, .int 0), (1, .int 0), (0, .ref (gad G this))]) hx hb dX1_finishHeld_3 rfl hl (by decide) rfl (fun ls hl => ?_)
  obtain ⟨m4, hw⟩ := hw
  exact b_X1_finishHeld_4 l hL C0 m4 _ _ _ _ _ _ hw Z (lv_sub hl [2, 1, 0] rfl)
-- X1_bumpLate: room (0, 0)
theorem dX1_bumpLate_0 : decode cX1_bumpLate 0 = .ok (.iconst 0, 1) := by decide +kernel
theorem dX1_bumpLate_1 : decode cX1_bumpLate 1 = .ok (.istore_n 1, 1) := by decide +kernel
theorem dX1_bumpLate_2 : decode cX1_bumpLate 2 = .ok (.iconst 0, 1) := by decide +kernel
theorem dX1_bumpLate_3 : decode cX1_bumpLate 3 = .ok (.istore_n 2, 1) := by decide +kernel
theorem dX1_bumpLate_4 : decode cX1_bumpLate 4 = .ok (.iload_n 2, 1) := by decide +kernel
theorem dX1_bumpLate_5 : decode cX1_bumpLate 5 = .ok (.aload_n 0, 1) := by decide +kernel
theorem dX1_bumpLate_6 : decode cX1_bumpLate 6 = .ok (.getfield 43, 3) := by decide +kernel
theorem dX1_bumpLate_9 : decode cX1_bumpLate 9 = .ok (.if_icmp .ge 64, 3) := by decide +kernel
theorem dX1_bumpLate_12 : decode cX1_bumpLate 12 = .ok (.aload_n 0, 1) := by decide +kernel
theorem dX1_bumpLate_13 : decode cX1_bumpLate 13 = .ok (.getfield 20, 3) := by decide +kernel
theorem dX1_bumpLate_16 : decode cX1_bumpLate 16 = .ok (.iload_n 2, 1) := by decide +kernel
theorem dX1_bumpLate_17 : decode cX1_bumpLate 17 = .ok (.aaload, 1) := by decide +kernel
theorem dX1_bumpLate_18 : decode cX1_bumpLate 18 = .ok (.astore_n 3, 1) := by decide +kernel
theorem dX1_bumpLate_19 : decode cX1_bumpLate 19 = .ok (.aload_n 3, 1) := by decide +kernel
theorem dX1_bumpLate_20 : decode cX1_bumpLate 20 = .ok (.bipush 7, 2) := by decide +kernel
theorem dX1_bumpLate_22 : decode cX1_bumpLate 22 = .ok (.iaload, 1) := by decide +kernel
theorem dX1_bumpLate_23 : decode cX1_bumpLate 23 = .ok (.iconst 1, 1) := by decide +kernel
theorem dX1_bumpLate_24 : decode cX1_bumpLate 24 = .ok (.if_icmp .ne 43, 3) := by decide +kernel
theorem dX1_bumpLate_27 : decode cX1_bumpLate 27 = .ok (.aload_n 3, 1) := by decide +kernel
theorem dX1_bumpLate_28 : decode cX1_bumpLate 28 = .ok (.bipush 8, 2) := by decide +kernel
theorem dX1_bumpLate_30 : decode cX1_bumpLate 30 = .ok (.iaload, 1) := by decide +kernel
theorem dX1_bumpLate_31 : decode cX1_bumpLate 31 = .ok (.aload_n 0, 1) := by decide +kernel
theorem dX1_bumpLate_32 : decode cX1_bumpLate 32 = .ok (.getfield 9, 3) := by decide +kernel
theorem dX1_bumpLate_35 : decode cX1_bumpLate 35 = .ok (.iconst 0, 1) := by decide +kernel
theorem dX1_bumpLate_36 : decode cX1_bumpLate 36 = .ok (.iaload, 1) := by decide +kernel
theorem dX1_bumpLate_37 : decode cX1_bumpLate 37 = .ok (.iadd, 1) := by decide +kernel
theorem dX1_bumpLate_38 : decode cX1_bumpLate 38 = .ok (.aload_n 0, 1) := by decide +kernel
theorem dX1_bumpLate_39 : decode cX1_bumpLate 39 = .ok (.getfield 37, 3) := by decide +kernel
theorem dX1_bumpLate_42 : decode cX1_bumpLate 42 = .ok (.if_icmp .ge 25, 3) := by decide +kernel
theorem dX1_bumpLate_45 : decode cX1_bumpLate 45 = .ok (.aload_n 3, 1) := by decide +kernel
theorem dX1_bumpLate_46 : decode cX1_bumpLate 46 = .ok (.bipush 7, 2) := by decide +kernel
theorem dX1_bumpLate_48 : decode cX1_bumpLate 48 = .ok (.iconst 5, 1) := by decide +kernel
theorem dX1_bumpLate_49 : decode cX1_bumpLate 49 = .ok (.iastore, 1) := by decide +kernel
theorem dX1_bumpLate_50 : decode cX1_bumpLate 50 = .ok (.aload_n 0, 1) := by decide +kernel
theorem dX1_bumpLate_51 : decode cX1_bumpLate 51 = .ok (.getfield 17, 3) := by decide +kernel
theorem dX1_bumpLate_54 : decode cX1_bumpLate 54 = .ok (.aload_n 3, 1) := by decide +kernel
theorem dX1_bumpLate_55 : decode cX1_bumpLate 55 = .ok (.iconst 0, 1) := by decide +kernel
theorem dX1_bumpLate_56 : decode cX1_bumpLate 56 = .ok (.iaload, 1) := by decide +kernel
theorem dX1_bumpLate_57 : decode cX1_bumpLate 57 = .ok (.aaload, 1) := by decide +kernel
theorem dX1_bumpLate_58 : decode cX1_bumpLate 58 = .ok (.iconst 2, 1) := by decide +kernel
theorem dX1_bumpLate_59 : decode cX1_bumpLate 59 = .ok (.dup2, 1) := by decide +kernel
theorem dX1_bumpLate_60 : decode cX1_bumpLate 60 = .ok (.iaload, 1) := by decide +kernel
theorem dX1_bumpLate_61 : decode cX1_bumpLate 61 = .ok (.iconst 1, 1) := by decide +kernel
theorem dX1_bumpLate_62 : decode cX1_bumpLate 62 = .ok (.iadd, 1) := by decide +kernel
theorem dX1_bumpLate_63 : decode cX1_bumpLate 63 = .ok (.iastore, 1) := by decide +kernel
theorem dX1_bumpLate_64 : decode cX1_bumpLate 64 = .ok (.iinc 1 1, 3) := by decide +kernel
theorem dX1_bumpLate_67 : decode cX1_bumpLate 67 = .ok (.iinc 2 1, 3) := by decide +kernel
theorem dX1_bumpLate_70 : decode cX1_bumpLate 70 = .ok (.goto (-66), 3) := by decide +kernel
theorem dX1_bumpLate_73 : decode cX1_bumpLate 73 = .ok (.aload_n 0, 1) := by decide +kernel
theorem dX1_bumpLate_74 : decode cX1_bumpLate 74 = .ok (.getfield 23, 3) := by decide +kernel
theorem dX1_bumpLate_77 : decode cX1_bumpLate 77 = .ok (.iconst 0, 1) := by decide +kernel
theorem dX1_bumpLate_78 : decode cX1_bumpLate 78 = .ok (.dup2, 1) := by decide +kernel
theorem dX1_bumpLate_79 : decode cX1_bumpLate 79 = .ok (.iaload, 1) := by decide +kernel
theorem dX1_bumpLate_80 : decode cX1_bumpLate 80 = .ok (.iload_n 1, 1) := by decide +kernel
theorem dX1_bumpLate_81 : decode cX1_bumpLate 81 = .ok (.iadd, 1) := by decide +kernel
theorem dX1_bumpLate_82 : decode cX1_bumpLate 82 = .ok (.iastore, 1) := by decide +kernel
theorem dX1_bumpLate_83 : decode cX1_bumpLate 83 = .ok (.iload_n 1, 1) := by decide +kernel
theorem dX1_bumpLate_84 : decode cX1_bumpLate 84 = .ok (.ireturn, 1) := by decide +kernel
def w_X1_bumpLate_67 (this : Nat) (Q : Int32 → V3 → Prop) (K4 : Int32 → Int32 → V3 → Prop) (x1 : Int32) (x2 : Int32) (v : V3) : Prop := K4 x1 (x2 + 1) v
def w_X1_bumpLate_4 (this : Nat) (Q : Int32 → V3 → Prop) : Nat → Int32 → Int32 → V3 → Prop
  | 0, _, _, _ => False
  | n4 + 1, x1, x2, v => (((v this 8) ≤ x2 → ∀ v2 : V3, v2 = up2 v (this + 4) 0 ((v (this + 4) 0) + x1) → Q x1 v2) ∧ (¬ (v this 8) ≤ x2 → vp_in x2 40 ∧ ((¬ (v (this + 14 + (ix x2)) 7) = 1 → w_X1_bumpLate_67 this Q (w_X1_bumpLate_4 this Q n4) x1 x2 v) ∧ ((v (this + 14 + (ix x2)) 7) = 1 → (((v this 6) ≤ ((v (this + 14 + (ix x2)) 8) + (v (this + 1) 0)) → w_X1_bumpLate_67 this Q (w_X1_bumpLate_4 this Q n4) x1 x2 v) ∧ (¬ (v this 6) ≤ ((v (this + 14 + (ix x2)) 8) + (v (this + 1) 0)) → ∀ v7 : V3, v7 = up2 v (this + 14 + (ix x2)) 7 5 → vp_in (v7 (this + 14 + (ix x2)) 0) 8 ∧ ∀ v10 : V3, v10 = up2 v7 (this + 6 + (ix (v7 (this + 14 + (ix x2)) 0))) 2 ((v7 (this + 6 + (ix (v7 (this + 14 + (ix x2)) 0))) 2) + 1) → w_X1_bumpLate_67 this Q (w_X1_bumpLate_4 this Q n4) (x1 + 1) x2 v10))))))
def w_X1_bumpLate (this : Nat) (v : V3) (Q : Int32 → V3 → Prop) : Prop := ∃ m4 : Nat, w_X1_bumpLate_4 this Q m4 0 0 v
set_option maxRecDepth 100000 in
set_option maxHeartbeats 4000000 in
theorem b_X1_bumpLate_67 {p : Program} (l : Launch) {e : Env} {s : State} {m : MethodId} {args : Array Value} {below : List Frame} {meth : Method} {c : Code} {G : zG} {this : Nat} (hL : isL G this) (C0 : Cx G RX1 cX1_bumpLate 4 (some .int) p s m args meth c) {Q : Int32 → V3 → Prop} {K4 : Int32 → Int32 → V3 → Prop} (hK4 : ∀ (x1 : Int32) (x2 : Int32) (v : V3) (H : Heap) (locs : List Loc) (ls : Array Slot), K4 x1 x2 v → Zs G s v H locs → lv_has ls 4 [(0, .ref (gad G this)), (1, .int x1), (2, .int x2)] → W p l e { frames := 0, cells := 0, slots := 0, locals := 0 } s m args below meth c H locs 0 0 (MQ below (QiZ G Q) args s 0 0 (zA G)) (F0 m 4 ls [])) : ∀ (x1 : Int32) (x2 : Int32) (v : V3) (H : Heap) (locs : List Loc) (ls : Array Slot), w_X1_bumpLate_67 this Q K4 x1 x2 v → Zs G s v H locs → lv_has ls 4 [(0, .ref (gad G this)), (1, .int x1), (2, .int x2)] → W p l e { frames := 0, cells := 0, slots := 0, locals := 0 } s m args below meth c H locs 0 0 (MQ below (QiZ G Q) args s 0 0 (zA G)) (F0 m 67 ls []) := by
  have hx := C0.1
  have hb := C0.2.1
  intro x1 x2 v H locs ls hw Z hl
  rw [w_X1_bumpLate_67] at hw
  refine lv_iinc (v := x2 + 1) (lv' := [(2, .int (x2 + 1)), (0, .ref (gad G this)), (1, .int x1)]) hx hb dX1_bumpLate_67 hl (k := 2) rfl rfl (by decide) rfl (fun ls hl => ?_)
  refine lv_goto (tgt := 4) hx hb dX1_bumpLate_70 (by decide) ?_
  exact hK4 _ _ _ _ _ _ hw Z (lv_sub hl [1, 2, 0] rfl)
set_option maxRecDepth 100000 in
set_option maxHeartbeats 4000000 in
theorem b_X1_bumpLate_4 {p : Program} (l : Launch) {e : Env} {s : State} {m : MethodId} {args : Array Value} {below : List Frame} {meth : Method} {c : Code} {G : zG} {this : Nat} (hL : isL G this) (C0 : Cx G RX1 cX1_bumpLate 4 (some .int) p s m args meth c) {Q : Int32 → V3 → Prop} : ∀ (n : Nat) (x1 : Int32) (x2 : Int32) (v : V3) (H : Heap) (locs : List Loc) (ls : Array Slot), w_X1_bumpLate_4 this Q n x1 x2 v → Zs G s v H locs → lv_has ls 4 [(0, .ref (gad G this)), (1, .int x1), (2, .int x2)] → W p l e { frames := 0, cells := 0, slots := 0, locals := 0 } s m args below meth c H locs 0 0 (MQ below (QiZ G Q) args s 0 0 (zA G)) (F0 m 4 ls []) := by
  have hx := C0.1
  have hb := C0.2.1
  intro n
  induction n with
  | zero =>
    intro x1 x2 v H locs ls hw Z hl
    exact hw.elim
  | succ n hK4 =>
    intro x1 x2 v H locs ls hw Z hl
    rw [w_X1_bumpLate_4] at hw
    refine lv_iload_n hx hb dX1_bumpLate_4 rfl (lv_at hl 2 rfl) ?_
    refine lv_aload_n hx hb dX1_bumpLate_5 rfl (lv_at hl 0 rfl) ?_
    refine z_get C0 Z in_X1 rfl 8 (by decide) rfl tm_1_62 (isL_lt0 hL) (ent_L hL) rfl dX1_bumpLate_6 ?_
    refine lv_icmp_ge (tgt := 73) hx hb dX1_bumpLate_9 (by decide) (fun c1 => ?_) (fun c1 => ?_)
    · replace hw := hw.1 c1
      refine lv_aload_n hx hb dX1_bumpLate_73 rfl (lv_at hl 0 rfl) ?_
      refine z_get C0 Z in_X1 rfl 3 (by decide) rfl tm_1_52 (isL_lt0 hL) (ent_L hL) rfl dX1_bumpLate_74 ?_
      refine lv_iconst (v := 0) hx hb dX1_bumpLate_77 (by decide) ?_
      refine lv_dup2_11 hx hb dX1_bumpLate_78 rfl rfl ?_
      refine z_ialdk C0 Z (isL_lt hL 4 (by decide)) (ent_L4 hL) in_0_4 nc_0 dX1_bumpLate_79 ?_
      refine lv_iload_n hx hb dX1_bumpLate_80 rfl (lv_at hl 1 rfl) ?_
      refine lv_iadd hx hb dX1_bumpLate_81 ?_
      refine z_iastk C0 Z (isL_lt hL 4 (by decide)) (fun _ => ent_L4 hL) in_0_4 nc_0 dX1_bumpLate_82 (fun H locs Z => ?_)
      obtain ⟨v2, ev2⟩ : ∃ z : V3, z = up2 v (this + 4) 0 ((v (this + 4) 0) + x1) := ⟨_, rfl⟩
      rw [← ev2] at Z
      replace hw := hw v2 ev2
      refine lv_iload_n hx hb dX1_bumpLate_83 rfl (lv_at hl 1 rfl) ?_
      exact z_iret C0 Z hw dX1_bumpLate_84
    · replace hw := hw.2 c1
      refine lv_aload_n hx hb dX1_bumpLate_12 rfl (lv_at hl 0 rfl) ?_
      refine z_get C0 Z in_X1 rfl 2 (by decide) rfl tm_1_49 (isL_lt0 hL) (ent_L hL) rfl dX1_bumpLate_13 ?_
      refine lv_iload_n hx hb dX1_bumpLate_16 rfl (lv_at hl 2 rfl) ?_
      obtain ⟨h3, hw⟩ := hw
      have h4 := vp_lt h3
      refine z_aald C0 Z (isL_lt hL 3 (by decide)) (ent_L3 hL) h3 dX1_bumpLate_17 ?_
      refine lv_astore_n (lv' := [(3, .ref (gad G (this + 14 + (ix x2)))), (0, .ref (gad G this)), (1, .int x1), (2, .int x2)]) hx hb dX1_bumpLate_18 rfl hl (by decide) rfl (fun ls hl => ?_)
      refine lv_aload_n hx hb dX1_bumpLate_19 rfl (lv_at hl 0 rfl) ?_
      refine lv_bipush (v := 7) hx hb dX1_bumpLate_20 (by decide) ?_
      refine z_ialdk C0 Z (isL_B hL h4) (ent_B hL h4) in_7_10 nc_7 dX1_bumpLate_22 ?_
      refine lv_iconst (v := 1) hx hb dX1_bumpLate_23 (by decide) ?_
      refine lv_icmp_ne (tgt := 67) hx hb dX1_bumpLate_24 (by decide) (fun c5 => ?_) (fun c5 => ?_)
      · replace hw := hw.1 c5
        exact b_X1_bumpLate_67 l hL C0 hK4 _ _ _ _ _ _ hw Z (lv_sub hl [1, 2, 3] rfl)
      · replace hw := hw.2 c5
        refine lv_aload_n hx hb dX1_bumpLate_27 rfl (lv_at hl 0 rfl) ?_
        refine lv_bipush (v := 8) hx hb dX1_bumpLate_28 (by decide) ?_
        refine z_ialdk C0 Z (isL_B hL h4) (ent_B hL h4) in_8_10 nc_8 dX1_bumpLate_30 ?_
        refine lv_aload_n hx hb dX1_bumpLate_31 rfl (lv_at hl 1 rfl) ?_
        refine z_get C0 Z in_X1 rfl 0 (by decide) rfl tm_1_44 (isL_lt0 hL) (ent_L hL) rfl dX1_bumpLate_32 ?_
        refine lv_iconst (v := 0) hx hb dX1_bumpLate_35 (by decide) ?_
        refine z_ialdk C0 Z (isL_lt hL 1 (by decide)) (ent_L1 hL) in_0_4 nc_0 dX1_bumpLate_36 ?_
        refine lv_iadd hx hb dX1_bumpLate_37 ?_
        refine lv_aload_n hx hb dX1_bumpLate_38 rfl (lv_at hl 1 rfl) ?_
        refine z_get C0 Z in_X1 rfl 6 (by decide) rfl tm_1_57 (isL_lt0 hL) (ent_L hL) rfl dX1_bumpLate_39 ?_
        refine lv_icmp_ge (tgt := 67) hx hb dX1_bumpLate_42 (by decide) (fun c6 => ?_) (fun c6 => ?_)
        · replace hw := hw.1 c6
          exact b_X1_bumpLate_67 l hL C0 hK4 _ _ _ _ _ _ hw Z (lv_sub hl [1, 2, 3] rfl)
        · replace hw := hw.2 c6
          refine lv_aload_n hx hb dX1_bumpLate_45 rfl (lv_at hl 0 rfl) ?_
          refine lv_bipush (v := 7) hx hb dX1_bumpLate_46 (by decide) ?_
          refine lv_iconst (v := 5) hx hb dX1_bumpLate_48 (by decide) ?_
          refine z_iastk C0 Z (isL_B hL h4) (fun _ => ent_B hL h4) in_7_10 nc_7 dX1_bumpLate_49 (fun H locs Z => ?_)
          obtain ⟨v7, ev7⟩ : ∃ z : V3, z = up2 v (this + 14 + (ix x2)) 7 5 := ⟨_, rfl⟩
          rw [← ev7] at Z
          replace hw := hw v7 ev7
          refine lv_aload_n hx hb dX1_bumpLate_50 rfl (lv_at hl 1 rfl) ?_
          refine z_get C0 Z in_X1 rfl 1 (by decide) rfl tm_1_46 (isL_lt0 hL) (ent_L hL) rfl dX1_bumpLate_51 ?_
          refine lv_aload_n hx hb dX1_bumpLate_54 rfl (lv_at hl 0 rfl) ?_
          refine lv_iconst (v := 0) hx hb dX1_bumpLate_55 (by decide) ?_
          refine z_ialdk C0 Z (isL_B hL h4) (ent_B hL h4) in_0_10 nc_0 dX1_bumpLate_56 ?_
          obtain ⟨h8, hw⟩ := hw
          have h9 := vp_lt h8
          refine z_aald C0 Z (isL_lt hL 2 (by decide)) (ent_L2 hL) h8 dX1_bumpLate_57 ?_
          refine lv_iconst (v := 2) hx hb dX1_bumpLate_58 (by decide) ?_
          refine lv_dup2_11 hx hb dX1_bumpLate_59 rfl rfl ?_
          refine z_ialdk C0 Z (isL_O hL h9) (ent_O hL h9) in_2_8 nc_2 dX1_bumpLate_60 ?_
          refine lv_iconst (v := 1) hx hb dX1_bumpLate_61 (by decide) ?_
          refine lv_iadd hx hb dX1_bumpLate_62 ?_
          refine z_iastk C0 Z (isL_O hL h9) (fun _ => ent_O hL h9) in_2_8 nc_2 dX1_bumpLate_63 (fun H locs Z => ?_)
          obtain ⟨v10, ev10⟩ : ∃ z : V3, z = up2 v7 (this + 6 + (ix (v7 (this + 14 + (ix x2)) 0))) 2 ((v7 (this + 6 + (ix (v7 (this + 14 + (ix x2)) 0))) 2) + 1) := ⟨_, rfl⟩
          rw [← ev10] at Z
          replace hw := hw v10 ev10
          refine lv_iinc (v := x1 + 1) (lv' := [(1, .int (x1 + 1)), (3, .ref (gad G (this + 14 + (ix x2)))), (0, .ref (gad G this)), (2, .int x2)]) hx hb dX1_bumpLate_64 hl (k := 2) rfl rfl (by decide) rfl (fun ls hl => ?_)
          exact b_X1_bumpLate_67 l hL C0 hK4 _ _ _ _ _ _ hw Z (lv_sub hl [2, 0, 3] rfl)
set_option maxRecDepth 100000 in
set_option maxHeartbeats 4000000 in
theorem k_X1_bumpLate (l : Launch) {G : zG} (hg : 116 ≤ gn G) {this : Nat} (hL : isL G this) {v : V3} {Q : Int32 → V3 → Prop} (hw : w_X1_bumpLate this v Q) : Mz l yX1_bumpLate cX1_bumpLate 4 (some .int) 0 0 G [.ref (gad G this)] v (QiZ G Q) := by
  rw [w_X1_bumpLate] at hw
  refine z_ofW hg (by decide) (Nat.le_of_ble_eq_true rfl) ?_
  intro p e s m args below meth c ls C0 Z hl
  have hx := C0.1
  have hb := C0.2.1
  replace hl : lv_has ls 4 [(0, .ref (gad G this))] := hl
  generalize s.heap = H at Z ⊢
  generalize ([] : List Loc) = locs at Z ⊢
  refine lv_iconst (v := 0) hx hb dX1_bumpLate_0 (by decide) ?_
  refine lv_istore_n (lv' := [(1, .int 0), (0, .ref (gad G this))]) hx hb dX1_bumpLate_1 rfl hl (by decide) rfl (fun ls hl => ?_)
  refine lv_iconst (v := 0) hx hb dX1_bumpLate_2 (by decide) ?_
  refine lv_istore_n (lv' := [(2, .int 0), (1, .int 0), (0, .ref (gad G this))]) hx hb dX1_bumpLate_3 rfl hl (by decide) rfl (fun ls hl => ?_)
  obtain ⟨m4, hw⟩ := hw
  exact b_X1_bumpLate_4 l hL C0 m4 _ _ _ _ _ _ hw Z (lv_sub hl [2, 1, 0] rfl)
-- X1_expireWaiting: room (0, 0)
theorem dX1_expireWaiting_0 : decode cX1_expireWaiting 0 = .ok (.iconst 0, 1) := by decide +kernel
theorem dX1_expireWaiting_1 : decode cX1_expireWaiting 1 = .ok (.istore_n 1, 1) := by decide +kernel
theorem dX1_expireWaiting_2 : decode cX1_expireWaiting 2 = .ok (.iload_n 1, 1) := by decide +kernel
theorem dX1_expireWaiting_3 : decode cX1_expireWaiting 3 = .ok (.aload_n 0, 1) := by decide +kernel
theorem dX1_expireWaiting_4 : decode cX1_expireWaiting 4 = .ok (.getfield 43, 3) := by decide +kernel
theorem dX1_expireWaiting_7 : decode cX1_expireWaiting 7 = .ok (.if_icmp .ge 67, 3) := by decide +kernel
theorem dX1_expireWaiting_10 : decode cX1_expireWaiting 10 = .ok (.aload_n 0, 1) := by decide +kernel
theorem dX1_expireWaiting_11 : decode cX1_expireWaiting 11 = .ok (.getfield 20, 3) := by decide +kernel
theorem dX1_expireWaiting_14 : decode cX1_expireWaiting 14 = .ok (.iload_n 1, 1) := by decide +kernel
theorem dX1_expireWaiting_15 : decode cX1_expireWaiting 15 = .ok (.aaload, 1) := by decide +kernel
theorem dX1_expireWaiting_16 : decode cX1_expireWaiting 16 = .ok (.astore_n 2, 1) := by decide +kernel
theorem dX1_expireWaiting_17 : decode cX1_expireWaiting 17 = .ok (.aload_n 2, 1) := by decide +kernel
theorem dX1_expireWaiting_18 : decode cX1_expireWaiting 18 = .ok (.bipush 7, 2) := by decide +kernel
theorem dX1_expireWaiting_20 : decode cX1_expireWaiting 20 = .ok (.iaload, 1) := by decide +kernel
theorem dX1_expireWaiting_21 : decode cX1_expireWaiting 21 = .ok (.ifCond .ne 47, 3) := by decide +kernel
theorem dX1_expireWaiting_24 : decode cX1_expireWaiting 24 = .ok (.aload_n 2, 1) := by decide +kernel
theorem dX1_expireWaiting_25 : decode cX1_expireWaiting 25 = .ok (.iconst 4, 1) := by decide +kernel
theorem dX1_expireWaiting_26 : decode cX1_expireWaiting 26 = .ok (.iaload, 1) := by decide +kernel
theorem dX1_expireWaiting_27 : decode cX1_expireWaiting 27 = .ok (.aload_n 2, 1) := by decide +kernel
theorem dX1_expireWaiting_28 : decode cX1_expireWaiting 28 = .ok (.iconst 5, 1) := by decide +kernel
theorem dX1_expireWaiting_29 : decode cX1_expireWaiting 29 = .ok (.iaload, 1) := by decide +kernel
theorem dX1_expireWaiting_30 : decode cX1_expireWaiting 30 = .ok (.iadd, 1) := by decide +kernel
theorem dX1_expireWaiting_31 : decode cX1_expireWaiting 31 = .ok (.aload_n 0, 1) := by decide +kernel
theorem dX1_expireWaiting_32 : decode cX1_expireWaiting 32 = .ok (.getfield 37, 3) := by decide +kernel
theorem dX1_expireWaiting_35 : decode cX1_expireWaiting 35 = .ok (.if_icmp .ge 33, 3) := by decide +kernel
theorem dX1_expireWaiting_38 : decode cX1_expireWaiting 38 = .ok (.aload_n 2, 1) := by decide +kernel
theorem dX1_expireWaiting_39 : decode cX1_expireWaiting 39 = .ok (.bipush 7, 2) := by decide +kernel
theorem dX1_expireWaiting_41 : decode cX1_expireWaiting 41 = .ok (.bipush 6, 2) := by decide +kernel
theorem dX1_expireWaiting_43 : decode cX1_expireWaiting 43 = .ok (.iastore, 1) := by decide +kernel
theorem dX1_expireWaiting_44 : decode cX1_expireWaiting 44 = .ok (.aload_n 0, 1) := by decide +kernel
theorem dX1_expireWaiting_45 : decode cX1_expireWaiting 45 = .ok (.getfield 17, 3) := by decide +kernel
theorem dX1_expireWaiting_48 : decode cX1_expireWaiting 48 = .ok (.aload_n 2, 1) := by decide +kernel
theorem dX1_expireWaiting_49 : decode cX1_expireWaiting 49 = .ok (.iconst 0, 1) := by decide +kernel
theorem dX1_expireWaiting_50 : decode cX1_expireWaiting 50 = .ok (.iaload, 1) := by decide +kernel
theorem dX1_expireWaiting_51 : decode cX1_expireWaiting 51 = .ok (.aaload, 1) := by decide +kernel
theorem dX1_expireWaiting_52 : decode cX1_expireWaiting 52 = .ok (.iconst 5, 1) := by decide +kernel
theorem dX1_expireWaiting_53 : decode cX1_expireWaiting 53 = .ok (.dup2, 1) := by decide +kernel
theorem dX1_expireWaiting_54 : decode cX1_expireWaiting 54 = .ok (.iaload, 1) := by decide +kernel
theorem dX1_expireWaiting_55 : decode cX1_expireWaiting 55 = .ok (.iconst 1, 1) := by decide +kernel
theorem dX1_expireWaiting_56 : decode cX1_expireWaiting 56 = .ok (.iadd, 1) := by decide +kernel
theorem dX1_expireWaiting_57 : decode cX1_expireWaiting 57 = .ok (.iastore, 1) := by decide +kernel
theorem dX1_expireWaiting_58 : decode cX1_expireWaiting 58 = .ok (.aload_n 0, 1) := by decide +kernel
theorem dX1_expireWaiting_59 : decode cX1_expireWaiting 59 = .ok (.getfield 23, 3) := by decide +kernel
theorem dX1_expireWaiting_62 : decode cX1_expireWaiting 62 = .ok (.iconst 1, 1) := by decide +kernel
theorem dX1_expireWaiting_63 : decode cX1_expireWaiting 63 = .ok (.dup2, 1) := by decide +kernel
theorem dX1_expireWaiting_64 : decode cX1_expireWaiting 64 = .ok (.iaload, 1) := by decide +kernel
theorem dX1_expireWaiting_65 : decode cX1_expireWaiting 65 = .ok (.iconst 1, 1) := by decide +kernel
theorem dX1_expireWaiting_66 : decode cX1_expireWaiting 66 = .ok (.iadd, 1) := by decide +kernel
theorem dX1_expireWaiting_67 : decode cX1_expireWaiting 67 = .ok (.iastore, 1) := by decide +kernel
theorem dX1_expireWaiting_68 : decode cX1_expireWaiting 68 = .ok (.iinc 1 1, 3) := by decide +kernel
theorem dX1_expireWaiting_71 : decode cX1_expireWaiting 71 = .ok (.goto (-69), 3) := by decide +kernel
theorem dX1_expireWaiting_74 : decode cX1_expireWaiting 74 = .ok (.return_, 1) := by decide +kernel
def w_X1_expireWaiting_68 (this : Nat) (Q : V3 → Prop) (K2 : Int32 → V3 → Prop) (x1 : Int32) (v : V3) : Prop := K2 (x1 + 1) v
def w_X1_expireWaiting_2 (this : Nat) (Q : V3 → Prop) : Nat → Int32 → V3 → Prop
  | 0, _, _ => False
  | n2 + 1, x1, v => (((v this 8) ≤ x1 → Q v) ∧ (¬ (v this 8) ≤ x1 → vp_in x1 40 ∧ ((¬ (v (this + 14 + (ix x1)) 7) = 0 → w_X1_expireWaiting_68 this Q (w_X1_expireWaiting_2 this Q n2) x1 v) ∧ ((v (this + 14 + (ix x1)) 7) = 0 → (((v this 6) ≤ ((v (this + 14 + (ix x1)) 4) + (v (this + 14 + (ix x1)) 5)) → w_X1_expireWaiting_68 this Q (w_X1_expireWaiting_2 this Q n2) x1 v) ∧ (¬ (v this 6) ≤ ((v (this + 14 + (ix x1)) 4) + (v (this + 14 + (ix x1)) 5)) → ∀ v6 : V3, v6 = up2 v (this + 14 + (ix x1)) 7 6 → vp_in (v6 (this + 14 + (ix x1)) 0) 8 ∧ ∀ v9 : V3, v9 = up2 v6 (this + 6 + (ix (v6 (this + 14 + (ix x1)) 0))) 5 ((v6 (this + 6 + (ix (v6 (this + 14 + (ix x1)) 0))) 5) + 1) → ∀ v10 : V3, v10 = up2 v9 (this + 4) 1 ((v9 (this + 4) 1) + 1) → w_X1_expireWaiting_68 this Q (w_X1_expireWaiting_2 this Q n2) x1 v10))))))
def w_X1_expireWaiting (this : Nat) (v : V3) (Q : V3 → Prop) : Prop := ∃ m2 : Nat, w_X1_expireWaiting_2 this Q m2 0 v
set_option maxRecDepth 100000 in
set_option maxHeartbeats 4000000 in
theorem b_X1_expireWaiting_68 {p : Program} (l : Launch) {e : Env} {s : State} {m : MethodId} {args : Array Value} {below : List Frame} {meth : Method} {c : Code} {G : zG} {this : Nat} (hL : isL G this) (C0 : Cx G RX1 cX1_expireWaiting 3 none p s m args meth c) {Q : V3 → Prop} {K2 : Int32 → V3 → Prop} (hK2 : ∀ (x1 : Int32) (v : V3) (H : Heap) (locs : List Loc) (ls : Array Slot), K2 x1 v → Zs G s v H locs → lv_has ls 3 [(0, .ref (gad G this)), (1, .int x1)] → W p l e { frames := 0, cells := 0, slots := 0, locals := 0 } s m args below meth c H locs 0 0 (MQ below (QvZ G Q) args s 0 0 (zA G)) (F0 m 2 ls [])) : ∀ (x1 : Int32) (v : V3) (H : Heap) (locs : List Loc) (ls : Array Slot), w_X1_expireWaiting_68 this Q K2 x1 v → Zs G s v H locs → lv_has ls 3 [(0, .ref (gad G this)), (1, .int x1)] → W p l e { frames := 0, cells := 0, slots := 0, locals := 0 } s m args below meth c H locs 0 0 (MQ below (QvZ G Q) args s 0 0 (zA G)) (F0 m 68 ls []) := by
  have hx := C0.1
  have hb := C0.2.1
  intro x1 v H locs ls hw Z hl
  rw [w_X1_expireWaiting_68] at hw
  refine lv_iinc (v := x1 + 1) (lv' := [(1, .int (x1 + 1)), (0, .ref (gad G this))]) hx hb dX1_expireWaiting_68 hl (k := 1) rfl rfl (by decide) rfl (fun ls hl => ?_)
  refine lv_goto (tgt := 2) hx hb dX1_expireWaiting_71 (by decide) ?_
  exact hK2 _ _ _ _ _ hw Z (lv_sub hl [1, 0] rfl)
set_option maxRecDepth 100000 in
set_option maxHeartbeats 4000000 in
theorem b_X1_expireWaiting_2 {p : Program} (l : Launch) {e : Env} {s : State} {m : MethodId} {args : Array Value} {below : List Frame} {meth : Method} {c : Code} {G : zG} {this : Nat} (hL : isL G this) (C0 : Cx G RX1 cX1_expireWaiting 3 none p s m args meth c) {Q : V3 → Prop} : ∀ (n : Nat) (x1 : Int32) (v : V3) (H : Heap) (locs : List Loc) (ls : Array Slot), w_X1_expireWaiting_2 this Q n x1 v → Zs G s v H locs → lv_has ls 3 [(0, .ref (gad G this)), (1, .int x1)] → W p l e { frames := 0, cells := 0, slots := 0, locals := 0 } s m args below meth c H locs 0 0 (MQ below (QvZ G Q) args s 0 0 (zA G)) (F0 m 2 ls []) := by
  have hx := C0.1
  have hb := C0.2.1
  intro n
  induction n with
  | zero =>
    intro x1 v H locs ls hw Z hl
    exact hw.elim
  | succ n hK2 =>
    intro x1 v H locs ls hw Z hl
    rw [w_X1_expireWaiting_2] at hw
    refine lv_iload_n hx hb dX1_expireWaiting_2 rfl (lv_at hl 1 rfl) ?_
    refine lv_aload_n hx hb dX1_expireWaiting_3 rfl (lv_at hl 0 rfl) ?_
    refine z_get C0 Z in_X1 rfl 8 (by decide) rfl tm_1_62 (isL_lt0 hL) (ent_L hL) rfl dX1_expireWaiting_4 ?_
    refine lv_icmp_ge (tgt := 74) hx hb dX1_expireWaiting_7 (by decide) (fun c1 => ?_) (fun c1 => ?_)
    · replace hw := hw.1 c1
      exact z_vret C0 Z hw dX1_expireWaiting_74
    · replace hw := hw.2 c1
      refine lv_aload_n hx hb dX1_expireWaiting_10 rfl (lv_at hl 0 rfl) ?_
      refine z_get C0 Z in_X1 rfl 2 (by decide) rfl tm_1_49 (isL_lt0 hL) (ent_L hL) rfl dX1_expireWaiting_11 ?_
      refine lv_iload_n hx hb dX1_expireWaiting_14 rfl (lv_at hl 1 rfl) ?_
      obtain ⟨h2, hw⟩ := hw
      have h3 := vp_lt h2
      refine z_aald C0 Z (isL_lt hL 3 (by decide)) (ent_L3 hL) h2 dX1_expireWaiting_15 ?_
      refine lv_astore_n (lv' := [(2, .ref (gad G (this + 14 + (ix x1)))), (0, .ref (gad G this)), (1, .int x1)]) hx hb dX1_expireWaiting_16 rfl hl (by decide) rfl (fun ls hl => ?_)
      refine lv_aload_n hx hb dX1_expireWaiting_17 rfl (lv_at hl 0 rfl) ?_
      refine lv_bipush (v := 7) hx hb dX1_expireWaiting_18 (by decide) ?_
      refine z_ialdk C0 Z (isL_B hL h3) (ent_B hL h3) in_7_10 nc_7 dX1_expireWaiting_20 ?_
      refine lv_if_ne (tgt := 68) hx hb dX1_expireWaiting_21 (by decide) (fun c4 => ?_) (fun c4 => ?_)
      · replace hw := hw.1 c4
        exact b_X1_expireWaiting_68 l hL C0 hK2 _ _ _ _ _ hw Z (lv_sub hl [1, 2] rfl)
      · replace hw := hw.2 c4
        refine lv_aload_n hx hb dX1_expireWaiting_24 rfl (lv_at hl 0 rfl) ?_
        refine lv_iconst (v := 4) hx hb dX1_expireWaiting_25 (by decide) ?_
        refine z_ialdk C0 Z (isL_B hL h3) (ent_B hL h3) in_4_10 nc_4 dX1_expireWaiting_26 ?_
        refine lv_aload_n hx hb dX1_expireWaiting_27 rfl (lv_at hl 0 rfl) ?_
        refine lv_iconst (v := 5) hx hb dX1_expireWaiting_28 (by decide) ?_
        refine z_ialdk C0 Z (isL_B hL h3) (ent_B hL h3) in_5_10 nc_5 dX1_expireWaiting_29 ?_
        refine lv_iadd hx hb dX1_expireWaiting_30 ?_
        refine lv_aload_n hx hb dX1_expireWaiting_31 rfl (lv_at hl 1 rfl) ?_
        refine z_get C0 Z in_X1 rfl 6 (by decide) rfl tm_1_57 (isL_lt0 hL) (ent_L hL) rfl dX1_expireWaiting_32 ?_
        refine lv_icmp_ge (tgt := 68) hx hb dX1_expireWaiting_35 (by decide) (fun c5 => ?_) (fun c5 => ?_)
        · replace hw := hw.1 c5
          exact b_X1_expireWaiting_68 l hL C0 hK2 _ _ _ _ _ hw Z (lv_sub hl [1, 2] rfl)
        · replace hw := hw.2 c5
          refine lv_aload_n hx hb dX1_expireWaiting_38 rfl (lv_at hl 0 rfl) ?_
          refine lv_bipush (v := 7) hx hb dX1_expireWaiting_39 (by decide) ?_
          refine lv_bipush (v := 6) hx hb dX1_expireWaiting_41 (by decide) ?_
          refine z_iastk C0 Z (isL_B hL h3) (fun _ => ent_B hL h3) in_7_10 nc_7 dX1_expireWaiting_43 (fun H locs Z => ?_)
          obtain ⟨v6, ev6⟩ : ∃ z : V3, z = up2 v (this + 14 + (ix x1)) 7 6 := ⟨_, rfl⟩
          rw [← ev6] at Z
          replace hw := hw v6 ev6
          refine lv_aload_n hx hb dX1_expireWaiting_44 rfl (lv_at hl 1 rfl) ?_
          refine z_get C0 Z in_X1 rfl 1 (by decide) rfl tm_1_46 (isL_lt0 hL) (ent_L hL) rfl dX1_expireWaiting_45 ?_
          refine lv_aload_n hx hb dX1_expireWaiting_48 rfl (lv_at hl 0 rfl) ?_
          refine lv_iconst (v := 0) hx hb dX1_expireWaiting_49 (by decide) ?_
          refine z_ialdk C0 Z (isL_B hL h3) (ent_B hL h3) in_0_10 nc_0 dX1_expireWaiting_50 ?_
          obtain ⟨h7, hw⟩ := hw
          have h8 := vp_lt h7
          refine z_aald C0 Z (isL_lt hL 2 (by decide)) (ent_L2 hL) h7 dX1_expireWaiting_51 ?_
          refine lv_iconst (v := 5) hx hb dX1_expireWaiting_52 (by decide) ?_
          refine lv_dup2_11 hx hb dX1_expireWaiting_53 rfl rfl ?_
          refine z_ialdk C0 Z (isL_O hL h8) (ent_O hL h8) in_5_8 nc_5 dX1_expireWaiting_54 ?_
          refine lv_iconst (v := 1) hx hb dX1_expireWaiting_55 (by decide) ?_
          refine lv_iadd hx hb dX1_expireWaiting_56 ?_
          refine z_iastk C0 Z (isL_O hL h8) (fun _ => ent_O hL h8) in_5_8 nc_5 dX1_expireWaiting_57 (fun H locs Z => ?_)
          obtain ⟨v9, ev9⟩ : ∃ z : V3, z = up2 v6 (this + 6 + (ix (v6 (this + 14 + (ix x1)) 0))) 5 ((v6 (this + 6 + (ix (v6 (this + 14 + (ix x1)) 0))) 5) + 1) := ⟨_, rfl⟩
          rw [← ev9] at Z
          replace hw := hw v9 ev9
          refine lv_aload_n hx hb dX1_expireWaiting_58 rfl (lv_at hl 1 rfl) ?_
          refine z_get C0 Z in_X1 rfl 3 (by decide) rfl tm_1_52 (isL_lt0 hL) (ent_L hL) rfl dX1_expireWaiting_59 ?_
          refine lv_iconst (v := 1) hx hb dX1_expireWaiting_62 (by decide) ?_
          refine lv_dup2_11 hx hb dX1_expireWaiting_63 rfl rfl ?_
          refine z_ialdk C0 Z (isL_lt hL 4 (by decide)) (ent_L4 hL) in_1_4 nc_1 dX1_expireWaiting_64 ?_
          refine lv_iconst (v := 1) hx hb dX1_expireWaiting_65 (by decide) ?_
          refine lv_iadd hx hb dX1_expireWaiting_66 ?_
          refine z_iastk C0 Z (isL_lt hL 4 (by decide)) (fun _ => ent_L4 hL) in_1_4 nc_1 dX1_expireWaiting_67 (fun H locs Z => ?_)
          obtain ⟨v10, ev10⟩ : ∃ z : V3, z = up2 v9 (this + 4) 1 ((v9 (this + 4) 1) + 1) := ⟨_, rfl⟩
          rw [← ev10] at Z
          replace hw := hw v10 ev10
          exact b_X1_expireWaiting_68 l hL C0 hK2 _ _ _ _ _ hw Z (lv_sub hl [1, 2] rfl)
set_option maxRecDepth 100000 in
set_option maxHeartbeats 4000000 in
theorem k_X1_expireWaiting (l : Launch) {G : zG} (hg : 116 ≤ gn G) {this : Nat} (hL : isL G this) {v : V3} {Q : V3 → Prop} (hw : w_X1_expireWaiting this v Q) : Mz l yX1_expireWaiting cX1_expireWaiting 3 none 0 0 G [.ref (gad G this)] v (QvZ G Q) := by
  rw [w_X1_expireWaiting] at hw
  refine z_ofW hg (by decide) (Nat.le_of_ble_eq_true rfl) ?_
  intro p e s m args below meth c ls C0 Z hl
  have hx := C0.1
  have hb := C0.2.1
  replace hl : lv_has ls 3 [(0, .ref (gad G this))] := hl
  generalize s.heap = H at Z ⊢
  generalize ([] : List Loc) = locs at Z ⊢
  refine lv_iconst (v := 0) hx hb dX1_expireWaiting_0 (by decide) ?_
  refine lv_istore_n (lv' := [(1, .int 0), (0, .ref (gad G this))]) hx hb dX1_expireWaiting_1 rfl hl (by decide) rfl (fun ls hl => ?_)
  obtain ⟨m2, hw⟩ := hw
  exact b_X1_expireWaiting_2 l hL C0 m2 _ _ _ _ _ hw Z (lv_sub hl [1, 0] rfl)
-- X1_tick: room (4, 104)
theorem dX1_tick_0 : decode cX1_tick 0 = .ok (.aload_n 0, 1) := by decide +kernel
theorem dX1_tick_1 : decode cX1_tick 1 = .ok (.dup, 1) := by decide +kernel
theorem dX1_tick_2 : decode cX1_tick 2 = .ok (.getfield 37, 3) := by decide +kernel
theorem dX1_tick_5 : decode cX1_tick 5 = .ok (.iconst 1, 1) := by decide +kernel
theorem dX1_tick_6 : decode cX1_tick 6 = .ok (.iadd, 1) := by decide +kernel
theorem dX1_tick_7 : decode cX1_tick 7 = .ok (.putfield 37, 3) := by decide +kernel
theorem dX1_tick_10 : decode cX1_tick 10 = .ok (.aload_n 0, 1) := by decide +kernel
theorem dX1_tick_11 : decode cX1_tick 11 = .ok (.invokevirtual 118, 3) := by decide +kernel
theorem dX1_tick_14 : decode cX1_tick 14 = .ok (.aload_n 0, 1) := by decide +kernel
theorem dX1_tick_15 : decode cX1_tick 15 = .ok (.invokevirtual 121, 3) := by decide +kernel
theorem dX1_tick_18 : decode cX1_tick 18 = .ok (.iadd, 1) := by decide +kernel
theorem dX1_tick_19 : decode cX1_tick 19 = .ok (.istore_n 1, 1) := by decide +kernel
theorem dX1_tick_20 : decode cX1_tick 20 = .ok (.aload_n 0, 1) := by decide +kernel
theorem dX1_tick_21 : decode cX1_tick 21 = .ok (.invokevirtual 124, 3) := by decide +kernel
theorem dX1_tick_24 : decode cX1_tick 24 = .ok (.iload_n 1, 1) := by decide +kernel
theorem dX1_tick_25 : decode cX1_tick 25 = .ok (.ifCond .le 7, 3) := by decide +kernel
theorem dX1_tick_28 : decode cX1_tick 28 = .ok (.aload_n 0, 1) := by decide +kernel
theorem dX1_tick_29 : decode cX1_tick 29 = .ok (.invokevirtual 127, 3) := by decide +kernel
theorem dX1_tick_32 : decode cX1_tick 32 = .ok (.return_, 1) := by decide +kernel
def w_X1_tick_32 (this : Nat) (Q : V3 → Prop) (v : V3) : Prop := Q v
def w_X1_tick (this : Nat) (v : V3) (Q : V3 → Prop) : Prop := ∀ v1 : V3, v1 = up2 v this 6 ((v this 6) + 1) → w_X1_finishHeld this v1 (fun r3 v2 => w_X1_bumpLate this v2 (fun r5 v4 => w_X1_expireWaiting this v4 (fun v6 => (((r3 + r5) ≤ 0 → w_X1_tick_32 this Q v6) ∧ (¬ (r3 + r5) ≤ 0 → w_X1_placeWaiting this v6 (fun v8 => w_X1_tick_32 this Q v8))))))
set_option maxRecDepth 100000 in
set_option maxHeartbeats 4000000 in
theorem b_X1_tick_32 {p : Program} (l : Launch) {e : Env} {s : State} {m : MethodId} {args : Array Value} {below : List Frame} {meth : Method} {c : Code} {G : zG} {this : Nat} (hL : isL G this) (C0 : Cx G RX1 cX1_tick 2 none p s m args meth c) {Q : V3 → Prop} : ∀ (v : V3) (H : Heap) (locs : List Loc) (ls : Array Slot), w_X1_tick_32 this Q v → Zs G s v H locs → lv_has ls 2 [] → W p l e { frames := 4, cells := 0, slots := 0, locals := 104 } s m args below meth c H locs 0 0 (MQ below (QvZ G Q) args s 0 0 (zA G)) (F0 m 32 ls []) := by
  have hx := C0.1
  have hb := C0.2.1
  intro v H locs ls hw Z hl
  rw [w_X1_tick_32] at hw
  exact z_vret C0 Z hw dX1_tick_32
set_option maxRecDepth 100000 in
set_option maxHeartbeats 4000000 in
theorem k_X1_tick (l : Launch) {G : zG} (hg : 116 ≤ gn G) {this : Nat} (hL : isL G this) {v : V3} {Q : V3 → Prop} (hw : w_X1_tick this v Q) : Mz l yX1_tick cX1_tick 2 none 4 104 G [.ref (gad G this)] v (QvZ G Q) := by
  rw [w_X1_tick] at hw
  refine z_ofW hg (by decide) (Nat.le_of_ble_eq_true rfl) ?_
  intro p e s m args below meth c ls C0 Z hl
  have hx := C0.1
  have hb := C0.2.1
  replace hl : lv_has ls 2 [(0, .ref (gad G this))] := hl
  generalize s.heap = H at Z ⊢
  generalize ([] : List Loc) = locs at Z ⊢
  refine lv_aload_n hx hb dX1_tick_0 rfl (lv_at hl 0 rfl) ?_
  refine lv_dup hx hb dX1_tick_1 rfl ?_
  refine z_get C0 Z in_X1 rfl 6 (by decide) rfl tm_1_57 (isL_lt0 hL) (ent_L hL) rfl dX1_tick_2 ?_
  refine lv_iconst (v := 1) hx hb dX1_tick_5 (by decide) ?_
  refine lv_iadd hx hb dX1_tick_6 ?_
  refine z_put C0 Z in_X1 tyX1_ok nmX1 rfl 6 (by decide) rfl rfl tm_1_57 (isL_lt0 hL) (ent_L hL) (p_X1_6 hL) (fun c' h => up2_off _ _ _ h) rfl rfl (Nat.le_of_ble_eq_true rfl) dX1_tick_7 (fun H locs Z => ?_)
  obtain ⟨v1, ev1⟩ : ∃ z : V3, z = up2 v this 6 ((v this 6) + 1) := ⟨_, rfl⟩
  rw [← ev1] at Z
  replace hw := hw v1 ev1
  refine lv_aload_n hx hb dX1_tick_10 rfl (lv_at hl 0 rfl) ?_
  refine z_callVi C0 Z hl.1 (As := []) (rest := []) (k_X1_finishHeld l (cx_g C0) hL hw) (gv_X1_finishHeld tm_3_190) rfl ds_X1_finishHeld ⟨Nat.le_of_ble_eq_true rfl, Nat.le_of_ble_eq_true rfl⟩ (ci := 1) rfl (isL_lt0 hL) (ent_L hL) rfl rfl (Nat.le_of_ble_eq_true rfl) ⟨Nat.le_of_ble_eq_true rfl, Nat.le_of_ble_eq_true rfl⟩ dX1_tick_11 (fun r3 v2 H locs hw Z => ?_)
  refine lv_aload_n hx hb dX1_tick_14 rfl (lv_at hl 0 rfl) ?_
  refine z_callVi C0 Z hl.1 (As := []) (rest := [.int r3]) (k_X1_bumpLate l (cx_g C0) hL hw) (gv_X1_bumpLate tm_3_194) rfl ds_X1_bumpLate ⟨Nat.le_of_ble_eq_true rfl, Nat.le_of_ble_eq_true rfl⟩ (ci := 1) rfl (isL_lt0 hL) (ent_L hL) rfl rfl (Nat.le_of_ble_eq_true rfl) ⟨Nat.le_of_ble_eq_true rfl, Nat.le_of_ble_eq_true rfl⟩ dX1_tick_15 (fun r5 v4 H locs hw Z => ?_)
  refine lv_iadd hx hb dX1_tick_18 ?_
  refine lv_istore_n (lv' := [(1, .int (r3 + r5)), (0, .ref (gad G this))]) hx hb dX1_tick_19 rfl hl (by decide) rfl (fun ls hl => ?_)
  refine lv_aload_n hx hb dX1_tick_20 rfl (lv_at hl 1 rfl) ?_
  refine z_callVv C0 Z hl.1 (As := []) (rest := []) (k_X1_expireWaiting l (cx_g C0) hL hw) (gv_X1_expireWaiting tm_3_198) rfl ds_X1_expireWaiting ⟨Nat.le_of_ble_eq_true rfl, Nat.le_of_ble_eq_true rfl⟩ (ci := 1) rfl (isL_lt0 hL) (ent_L hL) rfl rfl (Nat.le_of_ble_eq_true rfl) ⟨Nat.le_of_ble_eq_true rfl, Nat.le_of_ble_eq_true rfl⟩ dX1_tick_21 (fun v6 H locs hw Z => ?_)
  refine lv_iload_n hx hb dX1_tick_24 rfl (lv_at hl 0 rfl) ?_
  refine lv_if_le (tgt := 32) hx hb dX1_tick_25 (by decide) (fun c7 => ?_) (fun c7 => ?_)
  · replace hw := hw.1 c7
    exact b_X1_tick_32 l hL C0 _ _ _ _ hw Z (lv_sub hl [] rfl)
  · replace hw := hw.2 c7
    refine lv_aload_n hx hb dX1_tick_28 rfl (lv_at hl 1 rfl) ?_
    refine z_callVv C0 Z hl.1 (As := []) (rest := []) (k_X1_placeWaiting l (cx_g C0) hL hw) (gv_X1_placeWaiting tm_3_202) rfl ds_X1_placeWaiting ⟨Nat.le_of_ble_eq_true rfl, Nat.le_of_ble_eq_true rfl⟩ (ci := 1) rfl (isL_lt0 hL) (ent_L hL) rfl rfl (Nat.le_of_ble_eq_true rfl) ⟨Nat.le_of_ble_eq_true rfl, Nat.le_of_ble_eq_true rfl⟩ dX1_tick_29 (fun v8 H locs hw Z => ?_)
    exact b_X1_tick_32 l hL C0 _ _ _ _ hw Z (lv_sub hl [] rfl)
