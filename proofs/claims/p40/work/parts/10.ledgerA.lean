-- X1_brokenOf: room (0, 0)
theorem dX1_brokenOf_0 : decode cX1_brokenOf 0 = .ok (.aload_n 0, 1) := by decide +kernel
theorem dX1_brokenOf_1 : decode cX1_brokenOf 1 = .ok (.getfield 17, 3) := by decide +kernel
theorem dX1_brokenOf_4 : decode cX1_brokenOf 4 = .ok (.iload_n 1, 1) := by decide +kernel
theorem dX1_brokenOf_5 : decode cX1_brokenOf 5 = .ok (.aaload, 1) := by decide +kernel
theorem dX1_brokenOf_6 : decode cX1_brokenOf 6 = .ok (.iconst 2, 1) := by decide +kernel
theorem dX1_brokenOf_7 : decode cX1_brokenOf 7 = .ok (.iaload, 1) := by decide +kernel
theorem dX1_brokenOf_8 : decode cX1_brokenOf 8 = .ok (.aload_n 0, 1) := by decide +kernel
theorem dX1_brokenOf_9 : decode cX1_brokenOf 9 = .ok (.getfield 17, 3) := by decide +kernel
theorem dX1_brokenOf_12 : decode cX1_brokenOf 12 = .ok (.iload_n 1, 1) := by decide +kernel
theorem dX1_brokenOf_13 : decode cX1_brokenOf 13 = .ok (.aaload, 1) := by decide +kernel
theorem dX1_brokenOf_14 : decode cX1_brokenOf 14 = .ok (.iconst 3, 1) := by decide +kernel
theorem dX1_brokenOf_15 : decode cX1_brokenOf 15 = .ok (.iaload, 1) := by decide +kernel
theorem dX1_brokenOf_16 : decode cX1_brokenOf 16 = .ok (.iadd, 1) := by decide +kernel
theorem dX1_brokenOf_17 : decode cX1_brokenOf 17 = .ok (.ireturn, 1) := by decide +kernel
def w_X1_brokenOf (this : Nat) (a1 : Int32) (v : V3) (Q : Int32 → V3 → Prop) : Prop := vp_in a1 8 ∧ vp_in a1 8 ∧ Q ((v (this + 6 + (ix a1)) 2) + (v (this + 6 + (ix a1)) 3)) v
set_option maxRecDepth 100000 in
set_option maxHeartbeats 4000000 in
theorem k_X1_brokenOf (l : Launch) {G : zG} (hg : 116 ≤ gn G) {this : Nat} {a1 : Int32} (hL : isL G this) {v : V3} {Q : Int32 → V3 → Prop} (hw : w_X1_brokenOf this a1 v Q) : Mz l yX1_brokenOf cX1_brokenOf 2 (some .int) 0 0 G [.ref (gad G this), .int a1] v (QiZ G Q) := by
  rw [w_X1_brokenOf] at hw
  refine z_ofW hg (by decide) (Nat.le_of_ble_eq_true rfl) ?_
  intro p e s m args below meth c ls C0 Z hl
  have hx := C0.1
  have hb := C0.2.1
  replace hl : lv_has ls 2 [(0, .ref (gad G this)), (1, .int a1)] := hl
  generalize s.heap = H at Z ⊢
  generalize ([] : List Loc) = locs at Z ⊢
  refine lv_aload_n hx hb dX1_brokenOf_0 rfl (lv_at hl 0 rfl) ?_
  refine z_get C0 Z in_X1 rfl 1 (by decide) rfl tm_1_46 (isL_lt0 hL) (ent_L hL) rfl dX1_brokenOf_1 ?_
  refine lv_iload_n hx hb dX1_brokenOf_4 rfl (lv_at hl 1 rfl) ?_
  obtain ⟨h1, hw⟩ := hw
  have h2 := vp_lt h1
  refine z_aald C0 Z (isL_lt hL 2 (by decide)) (ent_L2 hL) h1 dX1_brokenOf_5 ?_
  refine lv_iconst (v := 2) hx hb dX1_brokenOf_6 (by decide) ?_
  refine z_ialdk C0 Z (isL_O hL h2) (ent_O hL h2) in_2_8 nc_2 dX1_brokenOf_7 ?_
  refine lv_aload_n hx hb dX1_brokenOf_8 rfl (lv_at hl 0 rfl) ?_
  refine z_get C0 Z in_X1 rfl 1 (by decide) rfl tm_1_46 (isL_lt0 hL) (ent_L hL) rfl dX1_brokenOf_9 ?_
  refine lv_iload_n hx hb dX1_brokenOf_12 rfl (lv_at hl 1 rfl) ?_
  obtain ⟨h3, hw⟩ := hw
  have h4 := vp_lt h3
  refine z_aald C0 Z (isL_lt hL 2 (by decide)) (ent_L2 hL) h3 dX1_brokenOf_13 ?_
  refine lv_iconst (v := 3) hx hb dX1_brokenOf_14 (by decide) ?_
  refine z_ialdk C0 Z (isL_O hL h4) (ent_O hL h4) in_3_8 nc_3 dX1_brokenOf_15 ?_
  refine lv_iadd hx hb dX1_brokenOf_16 ?_
  exact z_iret C0 Z hw dX1_brokenOf_17
-- X1_isBarred: room (1, 21)
theorem dX1_isBarred_0 : decode cX1_isBarred 0 = .ok (.aload_n 0, 1) := by decide +kernel
theorem dX1_isBarred_1 : decode cX1_isBarred 1 = .ok (.iload_n 1, 1) := by decide +kernel
theorem dX1_isBarred_2 : decode cX1_isBarred 2 = .ok (.invokevirtual 61, 3) := by decide +kernel
theorem dX1_isBarred_5 : decode cX1_isBarred 5 = .ok (.aload_n 0, 1) := by decide +kernel
theorem dX1_isBarred_6 : decode cX1_isBarred 6 = .ok (.getfield 9, 3) := by decide +kernel
theorem dX1_isBarred_9 : decode cX1_isBarred 9 = .ok (.iconst 3, 1) := by decide +kernel
theorem dX1_isBarred_10 : decode cX1_isBarred 10 = .ok (.iaload, 1) := by decide +kernel
theorem dX1_isBarred_11 : decode cX1_isBarred 11 = .ok (.if_icmp .lt 7, 3) := by decide +kernel
theorem dX1_isBarred_14 : decode cX1_isBarred 14 = .ok (.iconst 1, 1) := by decide +kernel
theorem dX1_isBarred_15 : decode cX1_isBarred 15 = .ok (.goto 4, 3) := by decide +kernel
theorem dX1_isBarred_18 : decode cX1_isBarred 18 = .ok (.iconst 0, 1) := by decide +kernel
theorem dX1_isBarred_19 : decode cX1_isBarred 19 = .ok (.ireturn, 1) := by decide +kernel
def w_X1_isBarred_19 (this : Nat) (Q : Int32 → V3 → Prop) (s0 : Int32) (v : V3) : Prop := (s0 = 0 ∨ s0 = 1) ∧ Q s0 v
def w_X1_isBarred (this : Nat) (a1 : Int32) (v : V3) (Q : Int32 → V3 → Prop) : Prop := w_X1_brokenOf this a1 v (fun r2 v1 => ((r2 < (v1 (this + 1) 3) → w_X1_isBarred_19 this Q 0 v1) ∧ (¬ r2 < (v1 (this + 1) 3) → w_X1_isBarred_19 this Q 1 v1)))
set_option maxRecDepth 100000 in
set_option maxHeartbeats 4000000 in
theorem b_X1_isBarred_19 {p : Program} (l : Launch) {e : Env} {s : State} {m : MethodId} {args : Array Value} {below : List Frame} {meth : Method} {c : Code} {G : zG} {this : Nat} (hL : isL G this) (C0 : Cx G RX1 cX1_isBarred 2 (some .boolean) p s m args meth c) {Q : Int32 → V3 → Prop} : ∀ (s0 : Int32) (v : V3) (H : Heap) (locs : List Loc) (ls : Array Slot), w_X1_isBarred_19 this Q s0 v → Zs G s v H locs → lv_has ls 2 [] → W p l e { frames := 1, cells := 0, slots := 0, locals := 21 } s m args below meth c H locs 0 0 (MQ below (QiZ G Q) args s 0 0 (zA G)) (F0 m 19 ls [.int s0]) := by
  have hx := C0.1
  have hb := C0.2.1
  intro s0 v H locs ls hw Z hl
  rw [w_X1_isBarred_19] at hw
  obtain ⟨h4, hw⟩ := hw
  exact z_zret C0 Z h4 hw dX1_isBarred_19
set_option maxRecDepth 100000 in
set_option maxHeartbeats 4000000 in
theorem k_X1_isBarred (l : Launch) {G : zG} (hg : 116 ≤ gn G) {this : Nat} {a1 : Int32} (hL : isL G this) {v : V3} {Q : Int32 → V3 → Prop} (hw : w_X1_isBarred this a1 v Q) : Mz l yX1_isBarred cX1_isBarred 2 (some .boolean) 1 21 G [.ref (gad G this), .int a1] v (QiZ G Q) := by
  rw [w_X1_isBarred] at hw
  refine z_ofW hg (by decide) (Nat.le_of_ble_eq_true rfl) ?_
  intro p e s m args below meth c ls C0 Z hl
  have hx := C0.1
  have hb := C0.2.1
  replace hl : lv_has ls 2 [(0, .ref (gad G this)), (1, .int a1)] := hl
  generalize s.heap = H at Z ⊢
  generalize ([] : List Loc) = locs at Z ⊢
  refine lv_aload_n hx hb dX1_isBarred_0 rfl (lv_at hl 0 rfl) ?_
  refine lv_iload_n hx hb dX1_isBarred_1 rfl (lv_at hl 1 rfl) ?_
  refine z_callVi C0 Z hl.1 (As := [.int a1]) (rest := []) (k_X1_brokenOf l (cx_g C0) hL hw) (gv_X1_brokenOf tm_2_171) rfl ds_X1_brokenOf ⟨Nat.le_of_ble_eq_true rfl, Nat.le_of_ble_eq_true rfl⟩ (ci := 1) rfl (isL_lt0 hL) (ent_L hL) rfl rfl (Nat.le_of_ble_eq_true rfl) ⟨Nat.le_of_ble_eq_true rfl, Nat.le_of_ble_eq_true rfl⟩ dX1_isBarred_2 (fun r2 v1 H locs hw Z => ?_)
  refine lv_aload_n hx hb dX1_isBarred_5 rfl (lv_at hl 0 rfl) ?_
  refine z_get C0 Z in_X1 rfl 0 (by decide) rfl tm_1_44 (isL_lt0 hL) (ent_L hL) rfl dX1_isBarred_6 ?_
  refine lv_iconst (v := 3) hx hb dX1_isBarred_9 (by decide) ?_
  refine z_ialdk C0 Z (isL_lt hL 1 (by decide)) (ent_L1 hL) in_3_4 nc_3 dX1_isBarred_10 ?_
  refine lv_icmp_lt (tgt := 18) hx hb dX1_isBarred_11 (by decide) (fun c3 => ?_) (fun c3 => ?_)
  · replace hw := hw.1 c3
    refine lv_iconst (v := 0) hx hb dX1_isBarred_18 (by decide) ?_
    exact b_X1_isBarred_19 l hL C0 _ _ _ _ _ hw Z (lv_sub hl [] rfl)
  · replace hw := hw.2 c3
    refine lv_iconst (v := 1) hx hb dX1_isBarred_14 (by decide) ?_
    refine lv_goto (tgt := 19) hx hb dX1_isBarred_15 (by decide) ?_
    exact b_X1_isBarred_19 l hL C0 _ _ _ _ _ hw Z (lv_sub hl [] rfl)
-- X1_isActive: room (0, 0)
theorem dX1_isActive_0 : decode cX1_isActive 0 = .ok (.aload_n 0, 1) := by decide +kernel
theorem dX1_isActive_1 : decode cX1_isActive 1 = .ok (.getfield 20, 3) := by decide +kernel
theorem dX1_isActive_4 : decode cX1_isActive 4 = .ok (.iload_n 1, 1) := by decide +kernel
theorem dX1_isActive_5 : decode cX1_isActive 5 = .ok (.aaload, 1) := by decide +kernel
theorem dX1_isActive_6 : decode cX1_isActive 6 = .ok (.bipush 7, 2) := by decide +kernel
theorem dX1_isActive_8 : decode cX1_isActive 8 = .ok (.iaload, 1) := by decide +kernel
theorem dX1_isActive_9 : decode cX1_isActive 9 = .ok (.istore_n 2, 1) := by decide +kernel
theorem dX1_isActive_10 : decode cX1_isActive 10 = .ok (.iload_n 2, 1) := by decide +kernel
theorem dX1_isActive_11 : decode cX1_isActive 11 = .ok (.ifCond .eq 13, 3) := by decide +kernel
theorem dX1_isActive_14 : decode cX1_isActive 14 = .ok (.iload_n 2, 1) := by decide +kernel
theorem dX1_isActive_15 : decode cX1_isActive 15 = .ok (.iconst 1, 1) := by decide +kernel
theorem dX1_isActive_16 : decode cX1_isActive 16 = .ok (.if_icmp .eq 8, 3) := by decide +kernel
theorem dX1_isActive_19 : decode cX1_isActive 19 = .ok (.iload_n 2, 1) := by decide +kernel
theorem dX1_isActive_20 : decode cX1_isActive 20 = .ok (.iconst 2, 1) := by decide +kernel
theorem dX1_isActive_21 : decode cX1_isActive 21 = .ok (.if_icmp .ne 7, 3) := by decide +kernel
theorem dX1_isActive_24 : decode cX1_isActive 24 = .ok (.iconst 1, 1) := by decide +kernel
theorem dX1_isActive_25 : decode cX1_isActive 25 = .ok (.goto 4, 3) := by decide +kernel
theorem dX1_isActive_28 : decode cX1_isActive 28 = .ok (.iconst 0, 1) := by decide +kernel
theorem dX1_isActive_29 : decode cX1_isActive 29 = .ok (.ireturn, 1) := by decide +kernel
def w_X1_isActive_29 (this : Nat) (Q : Int32 → V3 → Prop) (s0 : Int32) (v : V3) : Prop := (s0 = 0 ∨ s0 = 1) ∧ Q s0 v
def w_X1_isActive_24 (this : Nat) (Q : Int32 → V3 → Prop) (v : V3) : Prop := w_X1_isActive_29 this Q 1 v
def w_X1_isActive (this : Nat) (a1 : Int32) (v : V3) (Q : Int32 → V3 → Prop) : Prop := vp_in a1 40 ∧ (((v (this + 14 + (ix a1)) 7) = 0 → w_X1_isActive_24 this Q v) ∧ (¬ (v (this + 14 + (ix a1)) 7) = 0 → (((v (this + 14 + (ix a1)) 7) = 1 → w_X1_isActive_24 this Q v) ∧ (¬ (v (this + 14 + (ix a1)) 7) = 1 → ((¬ (v (this + 14 + (ix a1)) 7) = 2 → w_X1_isActive_29 this Q 0 v) ∧ ((v (this + 14 + (ix a1)) 7) = 2 → w_X1_isActive_24 this Q v))))))
set_option maxRecDepth 100000 in
set_option maxHeartbeats 4000000 in
theorem b_X1_isActive_29 {p : Program} (l : Launch) {e : Env} {s : State} {m : MethodId} {args : Array Value} {below : List Frame} {meth : Method} {c : Code} {G : zG} {this : Nat} (hL : isL G this) (C0 : Cx G RX1 cX1_isActive 3 (some .boolean) p s m args meth c) {Q : Int32 → V3 → Prop} : ∀ (s0 : Int32) (v : V3) (H : Heap) (locs : List Loc) (ls : Array Slot), w_X1_isActive_29 this Q s0 v → Zs G s v H locs → lv_has ls 3 [] → W p l e { frames := 0, cells := 0, slots := 0, locals := 0 } s m args below meth c H locs 0 0 (MQ below (QiZ G Q) args s 0 0 (zA G)) (F0 m 29 ls [.int s0]) := by
  have hx := C0.1
  have hb := C0.2.1
  intro s0 v H locs ls hw Z hl
  rw [w_X1_isActive_29] at hw
  obtain ⟨h4, hw⟩ := hw
  exact z_zret C0 Z h4 hw dX1_isActive_29
set_option maxRecDepth 100000 in
set_option maxHeartbeats 4000000 in
theorem b_X1_isActive_24 {p : Program} (l : Launch) {e : Env} {s : State} {m : MethodId} {args : Array Value} {below : List Frame} {meth : Method} {c : Code} {G : zG} {this : Nat} (hL : isL G this) (C0 : Cx G RX1 cX1_isActive 3 (some .boolean) p s m args meth c) {Q : Int32 → V3 → Prop} : ∀ (v : V3) (H : Heap) (locs : List Loc) (ls : Array Slot), w_X1_isActive_24 this Q v → Zs G s v H locs → lv_has ls 3 [] → W p l e { frames := 0, cells := 0, slots := 0, locals := 0 } s m args below meth c H locs 0 0 (MQ below (QiZ G Q) args s 0 0 (zA G)) (F0 m 24 ls []) := by
  have hx := C0.1
  have hb := C0.2.1
  intro v H locs ls hw Z hl
  rw [w_X1_isActive_24] at hw
  refine lv_iconst (v := 1) hx hb dX1_isActive_24 (by decide) ?_
  refine lv_goto (tgt := 29) hx hb dX1_isActive_25 (by decide) ?_
  exact b_X1_isActive_29 l hL C0 _ _ _ _ _ hw Z (lv_sub hl [] rfl)
set_option maxRecDepth 100000 in
set_option maxHeartbeats 4000000 in
theorem k_X1_isActive (l : Launch) {G : zG} (hg : 116 ≤ gn G) {this : Nat} {a1 : Int32} (hL : isL G this) {v : V3} {Q : Int32 → V3 → Prop} (hw : w_X1_isActive this a1 v Q) : Mz l yX1_isActive cX1_isActive 3 (some .boolean) 0 0 G [.ref (gad G this), .int a1] v (QiZ G Q) := by
  rw [w_X1_isActive] at hw
  refine z_ofW hg (by decide) (Nat.le_of_ble_eq_true rfl) ?_
  intro p e s m args below meth c ls C0 Z hl
  have hx := C0.1
  have hb := C0.2.1
  replace hl : lv_has ls 3 [(0, .ref (gad G this)), (1, .int a1)] := hl
  generalize s.heap = H at Z ⊢
  generalize ([] : List Loc) = locs at Z ⊢
  refine lv_aload_n hx hb dX1_isActive_0 rfl (lv_at hl 0 rfl) ?_
  refine z_get C0 Z in_X1 rfl 2 (by decide) rfl tm_1_49 (isL_lt0 hL) (ent_L hL) rfl dX1_isActive_1 ?_
  refine lv_iload_n hx hb dX1_isActive_4 rfl (lv_at hl 1 rfl) ?_
  obtain ⟨h1, hw⟩ := hw
  have h2 := vp_lt h1
  refine z_aald C0 Z (isL_lt hL 3 (by decide)) (ent_L3 hL) h1 dX1_isActive_5 ?_
  refine lv_bipush (v := 7) hx hb dX1_isActive_6 (by decide) ?_
  refine z_ialdk C0 Z (isL_B hL h2) (ent_B hL h2) in_7_10 nc_7 dX1_isActive_8 ?_
  refine lv_istore_n (lv' := [(2, .int (v (this + 14 + (ix a1)) 7)), (0, .ref (gad G this)), (1, .int a1)]) hx hb dX1_isActive_9 rfl hl (by decide) rfl (fun ls hl => ?_)
  refine lv_iload_n hx hb dX1_isActive_10 rfl (lv_at hl 0 rfl) ?_
  refine lv_if_eq (tgt := 24) hx hb dX1_isActive_11 (by decide) (fun c3 => ?_) (fun c3 => ?_)
  · replace hw := hw.1 c3
    exact b_X1_isActive_24 l hL C0 _ _ _ _ hw Z (lv_sub hl [] rfl)
  · replace hw := hw.2 c3
    refine lv_iload_n hx hb dX1_isActive_14 rfl (lv_at hl 0 rfl) ?_
    refine lv_iconst (v := 1) hx hb dX1_isActive_15 (by decide) ?_
    refine lv_icmp_eq (tgt := 24) hx hb dX1_isActive_16 (by decide) (fun c5 => ?_) (fun c5 => ?_)
    · replace hw := hw.1 c5
      exact b_X1_isActive_24 l hL C0 _ _ _ _ hw Z (lv_sub hl [] rfl)
    · replace hw := hw.2 c5
      refine lv_iload_n hx hb dX1_isActive_19 rfl (lv_at hl 0 rfl) ?_
      refine lv_iconst (v := 2) hx hb dX1_isActive_20 (by decide) ?_
      refine lv_icmp_ne (tgt := 28) hx hb dX1_isActive_21 (by decide) (fun c6 => ?_) (fun c6 => ?_)
      · replace hw := hw.1 c6
        refine lv_iconst (v := 0) hx hb dX1_isActive_28 (by decide) ?_
        exact b_X1_isActive_29 l hL C0 _ _ _ _ _ hw Z (lv_sub hl [] rfl)
      · replace hw := hw.2 c6
        exact b_X1_isActive_24 l hL C0 _ _ _ _ hw Z (lv_sub hl [] rfl)
-- X1_activeOf: room (1, 22)
theorem dX1_activeOf_0 : decode cX1_activeOf 0 = .ok (.iconst 0, 1) := by decide +kernel
theorem dX1_activeOf_1 : decode cX1_activeOf 1 = .ok (.istore_n 2, 1) := by decide +kernel
theorem dX1_activeOf_2 : decode cX1_activeOf 2 = .ok (.iconst 0, 1) := by decide +kernel
theorem dX1_activeOf_3 : decode cX1_activeOf 3 = .ok (.istore_n 3, 1) := by decide +kernel
theorem dX1_activeOf_4 : decode cX1_activeOf 4 = .ok (.iload_n 3, 1) := by decide +kernel
theorem dX1_activeOf_5 : decode cX1_activeOf 5 = .ok (.aload_n 0, 1) := by decide +kernel
theorem dX1_activeOf_6 : decode cX1_activeOf 6 = .ok (.getfield 43, 3) := by decide +kernel
theorem dX1_activeOf_9 : decode cX1_activeOf 9 = .ok (.if_icmp .ge 32, 3) := by decide +kernel
theorem dX1_activeOf_12 : decode cX1_activeOf 12 = .ok (.aload_n 0, 1) := by decide +kernel
theorem dX1_activeOf_13 : decode cX1_activeOf 13 = .ok (.getfield 20, 3) := by decide +kernel
theorem dX1_activeOf_16 : decode cX1_activeOf 16 = .ok (.iload_n 3, 1) := by decide +kernel
theorem dX1_activeOf_17 : decode cX1_activeOf 17 = .ok (.aaload, 1) := by decide +kernel
theorem dX1_activeOf_18 : decode cX1_activeOf 18 = .ok (.iconst 0, 1) := by decide +kernel
theorem dX1_activeOf_19 : decode cX1_activeOf 19 = .ok (.iaload, 1) := by decide +kernel
theorem dX1_activeOf_20 : decode cX1_activeOf 20 = .ok (.iload_n 1, 1) := by decide +kernel
theorem dX1_activeOf_21 : decode cX1_activeOf 21 = .ok (.if_icmp .ne 14, 3) := by decide +kernel
theorem dX1_activeOf_24 : decode cX1_activeOf 24 = .ok (.aload_n 0, 1) := by decide +kernel
theorem dX1_activeOf_25 : decode cX1_activeOf 25 = .ok (.iload_n 3, 1) := by decide +kernel
theorem dX1_activeOf_26 : decode cX1_activeOf 26 = .ok (.invokevirtual 65, 3) := by decide +kernel
theorem dX1_activeOf_29 : decode cX1_activeOf 29 = .ok (.ifCond .eq 6, 3) := by decide +kernel
theorem dX1_activeOf_32 : decode cX1_activeOf 32 = .ok (.iinc 2 1, 3) := by decide +kernel
theorem dX1_activeOf_35 : decode cX1_activeOf 35 = .ok (.iinc 3 1, 3) := by decide +kernel
theorem dX1_activeOf_38 : decode cX1_activeOf 38 = .ok (.goto (-34), 3) := by decide +kernel
theorem dX1_activeOf_41 : decode cX1_activeOf 41 = .ok (.iload_n 2, 1) := by decide +kernel
theorem dX1_activeOf_42 : decode cX1_activeOf 42 = .ok (.ireturn, 1) := by decide +kernel
def w_X1_activeOf_35 (this : Nat) (Q : Int32 → V3 → Prop) (K4 : Int32 → Int32 → Int32 → V3 → Prop) (x1 : Int32) (x2 : Int32) (x3 : Int32) (v : V3) : Prop := K4 x1 x2 (x3 + 1) v
def w_X1_activeOf_4 (this : Nat) (Q : Int32 → V3 → Prop) : Nat → Int32 → Int32 → Int32 → V3 → Prop
  | 0, _, _, _, _ => False
  | n4 + 1, x1, x2, x3, v => (((v this 8) ≤ x3 → Q x2 v) ∧ (¬ (v this 8) ≤ x3 → vp_in x3 40 ∧ ((¬ (v (this + 14 + (ix x3)) 0) = x1 → w_X1_activeOf_35 this Q (w_X1_activeOf_4 this Q n4) x1 x2 x3 v) ∧ ((v (this + 14 + (ix x3)) 0) = x1 → w_X1_isActive this x3 v (fun r6 v5 => ((r6 = 0 → w_X1_activeOf_35 this Q (w_X1_activeOf_4 this Q n4) x1 x2 x3 v5) ∧ (¬ r6 = 0 → w_X1_activeOf_35 this Q (w_X1_activeOf_4 this Q n4) x1 (x2 + 1) x3 v5)))))))
def w_X1_activeOf (this : Nat) (a1 : Int32) (v : V3) (Q : Int32 → V3 → Prop) : Prop := ∃ m4 : Nat, w_X1_activeOf_4 this Q m4 a1 0 0 v
set_option maxRecDepth 100000 in
set_option maxHeartbeats 4000000 in
theorem b_X1_activeOf_35 {p : Program} (l : Launch) {e : Env} {s : State} {m : MethodId} {args : Array Value} {below : List Frame} {meth : Method} {c : Code} {G : zG} {this : Nat} (hL : isL G this) (C0 : Cx G RX1 cX1_activeOf 4 (some .int) p s m args meth c) {Q : Int32 → V3 → Prop} {K4 : Int32 → Int32 → Int32 → V3 → Prop} (hK4 : ∀ (x1 : Int32) (x2 : Int32) (x3 : Int32) (v : V3) (H : Heap) (locs : List Loc) (ls : Array Slot), K4 x1 x2 x3 v → Zs G s v H locs → lv_has ls 4 [(0, .ref (gad G this)), (1, .int x1), (2, .int x2), (3, .int x3)] → W p l e { frames := 1, cells := 0, slots := 0, locals := 22 } s m args below meth c H locs 0 0 (MQ below (QiZ G Q) args s 0 0 (zA G)) (F0 m 4 ls [])) : ∀ (x1 : Int32) (x2 : Int32) (x3 : Int32) (v : V3) (H : Heap) (locs : List Loc) (ls : Array Slot), w_X1_activeOf_35 this Q K4 x1 x2 x3 v → Zs G s v H locs → lv_has ls 4 [(0, .ref (gad G this)), (1, .int x1), (2, .int x2), (3, .int x3)] → W p l e { frames := 1, cells := 0, slots := 0, locals := 22 } s m args below meth c H locs 0 0 (MQ below (QiZ G Q) args s 0 0 (zA G)) (F0 m 35 ls []) := by
  have hx := C0.1
  have hb := C0.2.1
  intro x1 x2 x3 v H locs ls hw Z hl
  rw [w_X1_activeOf_35] at hw
  refine lv_iinc (v := x3 + 1) (lv' := [(3, .int (x3 + 1)), (0, .ref (gad G this)), (1, .int x1), (2, .int x2)]) hx hb dX1_activeOf_35 hl (k := 3) rfl rfl (by decide) rfl (fun ls hl => ?_)
  refine lv_goto (tgt := 4) hx hb dX1_activeOf_38 (by decide) ?_
  exact hK4 _ _ _ _ _ _ _ hw Z (lv_sub hl [1, 2, 3, 0] rfl)
set_option maxRecDepth 100000 in
set_option maxHeartbeats 4000000 in
theorem b_X1_activeOf_4 {p : Program} (l : Launch) {e : Env} {s : State} {m : MethodId} {args : Array Value} {below : List Frame} {meth : Method} {c : Code} {G : zG} {this : Nat} (hL : isL G this) (C0 : Cx G RX1 cX1_activeOf 4 (some .int) p s m args meth c) {Q : Int32 → V3 → Prop} : ∀ (n : Nat) (x1 : Int32) (x2 : Int32) (x3 : Int32) (v : V3) (H : Heap) (locs : List Loc) (ls : Array Slot), w_X1_activeOf_4 this Q n x1 x2 x3 v → Zs G s v H locs → lv_has ls 4 [(0, .ref (gad G this)), (1, .int x1), (2, .int x2), (3, .int x3)] → W p l e { frames := 1, cells := 0, slots := 0, locals := 22 } s m args below meth c H locs 0 0 (MQ below (QiZ G Q) args s 0 0 (zA G)) (F0 m 4 ls []) := by
  have hx := C0.1
  have hb := C0.2.1
  intro n
  induction n with
  | zero =>
    intro x1 x2 x3 v H locs ls hw Z hl
    exact hw.elim
  | succ n hK4 =>
    intro x1 x2 x3 v H locs ls hw Z hl
    rw [w_X1_activeOf_4] at hw
    refine lv_iload_n hx hb dX1_activeOf_4 rfl (lv_at hl 3 rfl) ?_
    refine lv_aload_n hx hb dX1_activeOf_5 rfl (lv_at hl 0 rfl) ?_
    refine z_get C0 Z in_X1 rfl 8 (by decide) rfl tm_1_62 (isL_lt0 hL) (ent_L hL) rfl dX1_activeOf_6 ?_
    refine lv_icmp_ge (tgt := 41) hx hb dX1_activeOf_9 (by decide) (fun c1 => ?_) (fun c1 => ?_)
    · replace hw := hw.1 c1
      refine lv_iload_n hx hb dX1_activeOf_41 rfl (lv_at hl 2 rfl) ?_
      exact z_iret C0 Z hw dX1_activeOf_42
    · replace hw := hw.2 c1
      refine lv_aload_n hx hb dX1_activeOf_12 rfl (lv_at hl 0 rfl) ?_
      refine z_get C0 Z in_X1 rfl 2 (by decide) rfl tm_1_49 (isL_lt0 hL) (ent_L hL) rfl dX1_activeOf_13 ?_
      refine lv_iload_n hx hb dX1_activeOf_16 rfl (lv_at hl 3 rfl) ?_
      obtain ⟨h2, hw⟩ := hw
      have h3 := vp_lt h2
      refine z_aald C0 Z (isL_lt hL 3 (by decide)) (ent_L3 hL) h2 dX1_activeOf_17 ?_
      refine lv_iconst (v := 0) hx hb dX1_activeOf_18 (by decide) ?_
      refine z_ialdk C0 Z (isL_B hL h3) (ent_B hL h3) in_0_10 nc_0 dX1_activeOf_19 ?_
      refine lv_iload_n hx hb dX1_activeOf_20 rfl (lv_at hl 1 rfl) ?_
      refine lv_icmp_ne (tgt := 35) hx hb dX1_activeOf_21 (by decide) (fun c4 => ?_) (fun c4 => ?_)
      · replace hw := hw.1 c4
        exact b_X1_activeOf_35 l hL C0 hK4 _ _ _ _ _ _ _ hw Z (lv_sub hl [0, 1, 2, 3] rfl)
      · replace hw := hw.2 c4
        refine lv_aload_n hx hb dX1_activeOf_24 rfl (lv_at hl 0 rfl) ?_
        refine lv_iload_n hx hb dX1_activeOf_25 rfl (lv_at hl 3 rfl) ?_
        refine z_callVi C0 Z hl.1 (As := [.int x3]) (rest := []) (k_X1_isActive l (cx_g C0) hL hw) (gv_X1_isActive tm_2_163) rfl ds_X1_isActive ⟨Nat.le_of_ble_eq_true rfl, Nat.le_of_ble_eq_true rfl⟩ (ci := 1) rfl (isL_lt0 hL) (ent_L hL) rfl rfl (Nat.le_of_ble_eq_true rfl) ⟨Nat.le_of_ble_eq_true rfl, Nat.le_of_ble_eq_true rfl⟩ dX1_activeOf_26 (fun r6 v5 H locs hw Z => ?_)
        refine lv_if_eq (tgt := 35) hx hb dX1_activeOf_29 (by decide) (fun c7 => ?_) (fun c7 => ?_)
        · replace hw := hw.1 c7
          exact b_X1_activeOf_35 l hL C0 hK4 _ _ _ _ _ _ _ hw Z (lv_sub hl [0, 1, 2, 3] rfl)
        · replace hw := hw.2 c7
          refine lv_iinc (v := x2 + 1) (lv' := [(2, .int (x2 + 1)), (0, .ref (gad G this)), (1, .int x1), (3, .int x3)]) hx hb dX1_activeOf_32 hl (k := 2) rfl rfl (by decide) rfl (fun ls hl => ?_)
          exact b_X1_activeOf_35 l hL C0 hK4 _ _ _ _ _ _ _ hw Z (lv_sub hl [1, 2, 0, 3] rfl)
set_option maxRecDepth 100000 in
set_option maxHeartbeats 4000000 in
theorem k_X1_activeOf (l : Launch) {G : zG} (hg : 116 ≤ gn G) {this : Nat} {a1 : Int32} (hL : isL G this) {v : V3} {Q : Int32 → V3 → Prop} (hw : w_X1_activeOf this a1 v Q) : Mz l yX1_activeOf cX1_activeOf 4 (some .int) 1 22 G [.ref (gad G this), .int a1] v (QiZ G Q) := by
  rw [w_X1_activeOf] at hw
  refine z_ofW hg (by decide) (Nat.le_of_ble_eq_true rfl) ?_
  intro p e s m args below meth c ls C0 Z hl
  have hx := C0.1
  have hb := C0.2.1
  replace hl : lv_has ls 4 [(0, .ref (gad G this)), (1, .int a1)] := hl
  generalize s.heap = H at Z ⊢
  generalize ([] : List Loc) = locs at Z ⊢
  refine lv_iconst (v := 0) hx hb dX1_activeOf_0 (by decide) ?_
  refine lv_istore_n (lv' := [(2, .int 0), (0, .ref (gad G this)), (1, .int a1)]) hx hb dX1_activeOf_1 rfl hl (by decide) rfl (fun ls hl => ?_)
  refine lv_iconst (v := 0) hx hb dX1_activeOf_2 (by decide) ?_
  refine lv_istore_n (lv' := [(3, .int 0), (2, .int 0), (0, .ref (gad G this)), (1, .int a1)]) hx hb dX1_activeOf_3 rfl hl (by decide) rfl (fun ls hl => ?_)
  obtain ⟨m4, hw⟩ := hw
  exact b_X1_activeOf_4 l hL C0 m4 _ _ _ _ _ _ _ hw Z (lv_sub hl [2, 3, 1, 0] rfl)
-- X1_hasLimit: room (2, 45)
theorem dX1_hasLimit_0 : decode cX1_hasLimit 0 = .ok (.aload_n 0, 1) := by decide +kernel
theorem dX1_hasLimit_1 : decode cX1_hasLimit 1 = .ok (.iload_n 1, 1) := by decide +kernel
theorem dX1_hasLimit_2 : decode cX1_hasLimit 2 = .ok (.invokevirtual 69, 3) := by decide +kernel
theorem dX1_hasLimit_5 : decode cX1_hasLimit 5 = .ok (.aload_n 0, 1) := by decide +kernel
theorem dX1_hasLimit_6 : decode cX1_hasLimit 6 = .ok (.getfield 9, 3) := by decide +kernel
theorem dX1_hasLimit_9 : decode cX1_hasLimit 9 = .ok (.iconst 2, 1) := by decide +kernel
theorem dX1_hasLimit_10 : decode cX1_hasLimit 10 = .ok (.iaload, 1) := by decide +kernel
theorem dX1_hasLimit_11 : decode cX1_hasLimit 11 = .ok (.if_icmp .lt 7, 3) := by decide +kernel
theorem dX1_hasLimit_14 : decode cX1_hasLimit 14 = .ok (.iconst 1, 1) := by decide +kernel
theorem dX1_hasLimit_15 : decode cX1_hasLimit 15 = .ok (.goto 4, 3) := by decide +kernel
theorem dX1_hasLimit_18 : decode cX1_hasLimit 18 = .ok (.iconst 0, 1) := by decide +kernel
theorem dX1_hasLimit_19 : decode cX1_hasLimit 19 = .ok (.ireturn, 1) := by decide +kernel
def w_X1_hasLimit_19 (this : Nat) (Q : Int32 → V3 → Prop) (s0 : Int32) (v : V3) : Prop := (s0 = 0 ∨ s0 = 1) ∧ Q s0 v
def w_X1_hasLimit (this : Nat) (a1 : Int32) (v : V3) (Q : Int32 → V3 → Prop) : Prop := w_X1_activeOf this a1 v (fun r2 v1 => ((r2 < (v1 (this + 1) 2) → w_X1_hasLimit_19 this Q 0 v1) ∧ (¬ r2 < (v1 (this + 1) 2) → w_X1_hasLimit_19 this Q 1 v1)))
set_option maxRecDepth 100000 in
set_option maxHeartbeats 4000000 in
theorem b_X1_hasLimit_19 {p : Program} (l : Launch) {e : Env} {s : State} {m : MethodId} {args : Array Value} {below : List Frame} {meth : Method} {c : Code} {G : zG} {this : Nat} (hL : isL G this) (C0 : Cx G RX1 cX1_hasLimit 2 (some .boolean) p s m args meth c) {Q : Int32 → V3 → Prop} : ∀ (s0 : Int32) (v : V3) (H : Heap) (locs : List Loc) (ls : Array Slot), w_X1_hasLimit_19 this Q s0 v → Zs G s v H locs → lv_has ls 2 [] → W p l e { frames := 2, cells := 0, slots := 0, locals := 45 } s m args below meth c H locs 0 0 (MQ below (QiZ G Q) args s 0 0 (zA G)) (F0 m 19 ls [.int s0]) := by
  have hx := C0.1
  have hb := C0.2.1
  intro s0 v H locs ls hw Z hl
  rw [w_X1_hasLimit_19] at hw
  obtain ⟨h4, hw⟩ := hw
  exact z_zret C0 Z h4 hw dX1_hasLimit_19
set_option maxRecDepth 100000 in
set_option maxHeartbeats 4000000 in
theorem k_X1_hasLimit (l : Launch) {G : zG} (hg : 116 ≤ gn G) {this : Nat} {a1 : Int32} (hL : isL G this) {v : V3} {Q : Int32 → V3 → Prop} (hw : w_X1_hasLimit this a1 v Q) : Mz l yX1_hasLimit cX1_hasLimit 2 (some .boolean) 2 45 G [.ref (gad G this), .int a1] v (QiZ G Q) := by
  rw [w_X1_hasLimit] at hw
  refine z_ofW hg (by decide) (Nat.le_of_ble_eq_true rfl) ?_
  intro p e s m args below meth c ls C0 Z hl
  have hx := C0.1
  have hb := C0.2.1
  replace hl : lv_has ls 2 [(0, .ref (gad G this)), (1, .int a1)] := hl
  generalize s.heap = H at Z ⊢
  generalize ([] : List Loc) = locs at Z ⊢
  refine lv_aload_n hx hb dX1_hasLimit_0 rfl (lv_at hl 0 rfl) ?_
  refine lv_iload_n hx hb dX1_hasLimit_1 rfl (lv_at hl 1 rfl) ?_
  refine z_callVi C0 Z hl.1 (As := [.int a1]) (rest := []) (k_X1_activeOf l (cx_g C0) hL hw) (gv_X1_activeOf tm_2_215) rfl ds_X1_activeOf ⟨Nat.le_of_ble_eq_true rfl, Nat.le_of_ble_eq_true rfl⟩ (ci := 1) rfl (isL_lt0 hL) (ent_L hL) rfl rfl (Nat.le_of_ble_eq_true rfl) ⟨Nat.le_of_ble_eq_true rfl, Nat.le_of_ble_eq_true rfl⟩ dX1_hasLimit_2 (fun r2 v1 H locs hw Z => ?_)
  refine lv_aload_n hx hb dX1_hasLimit_5 rfl (lv_at hl 0 rfl) ?_
  refine z_get C0 Z in_X1 rfl 0 (by decide) rfl tm_1_44 (isL_lt0 hL) (ent_L hL) rfl dX1_hasLimit_6 ?_
  refine lv_iconst (v := 2) hx hb dX1_hasLimit_9 (by decide) ?_
  refine z_ialdk C0 Z (isL_lt hL 1 (by decide)) (ent_L1 hL) in_2_4 nc_2 dX1_hasLimit_10 ?_
  refine lv_icmp_lt (tgt := 18) hx hb dX1_hasLimit_11 (by decide) (fun c3 => ?_) (fun c3 => ?_)
  · replace hw := hw.1 c3
    refine lv_iconst (v := 0) hx hb dX1_hasLimit_18 (by decide) ?_
    exact b_X1_hasLimit_19 l hL C0 _ _ _ _ _ hw Z (lv_sub hl [] rfl)
  · replace hw := hw.2 c3
    refine lv_iconst (v := 1) hx hb dX1_hasLimit_14 (by decide) ?_
    refine lv_goto (tgt := 19) hx hb dX1_hasLimit_15 (by decide) ?_
    exact b_X1_hasLimit_19 l hL C0 _ _ _ _ _ hw Z (lv_sub hl [] rfl)
