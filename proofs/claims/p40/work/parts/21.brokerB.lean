-- X0_keepBetter: room (3, 71)
theorem dX0_keepBetter_0 : decode cX0_keepBetter 0 = .ok (.iload_n 1, 1) := by decide +kernel
theorem dX0_keepBetter_1 : decode cX0_keepBetter 1 = .ok (.aload_n 0, 1) := by decide +kernel
theorem dX0_keepBetter_2 : decode cX0_keepBetter 2 = .ok (.getfield 9, 3) := by decide +kernel
theorem dX0_keepBetter_5 : decode cX0_keepBetter 5 = .ok (.iconst 0, 1) := by decide +kernel
theorem dX0_keepBetter_6 : decode cX0_keepBetter 6 = .ok (.iaload, 1) := by decide +kernel
theorem dX0_keepBetter_7 : decode cX0_keepBetter 7 = .ok (.if_icmp .le 54, 3) := by decide +kernel
theorem dX0_keepBetter_10 : decode cX0_keepBetter 10 = .ok (.aload_n 0, 1) := by decide +kernel
theorem dX0_keepBetter_11 : decode cX0_keepBetter 11 = .ok (.getfield 9, 3) := by decide +kernel
theorem dX0_keepBetter_14 : decode cX0_keepBetter 14 = .ok (.iconst 0, 1) := by decide +kernel
theorem dX0_keepBetter_15 : decode cX0_keepBetter 15 = .ok (.iload_n 1, 1) := by decide +kernel
theorem dX0_keepBetter_16 : decode cX0_keepBetter 16 = .ok (.iastore, 1) := by decide +kernel
theorem dX0_keepBetter_17 : decode cX0_keepBetter 17 = .ok (.aload_n 0, 1) := by decide +kernel
theorem dX0_keepBetter_18 : decode cX0_keepBetter 18 = .ok (.getfield 9, 3) := by decide +kernel
theorem dX0_keepBetter_21 : decode cX0_keepBetter 21 = .ok (.iconst 1, 1) := by decide +kernel
theorem dX0_keepBetter_22 : decode cX0_keepBetter 22 = .ok (.iload_n 2, 1) := by decide +kernel
theorem dX0_keepBetter_23 : decode cX0_keepBetter 23 = .ok (.iastore, 1) := by decide +kernel
theorem dX0_keepBetter_24 : decode cX0_keepBetter 24 = .ok (.aload_n 0, 1) := by decide +kernel
theorem dX0_keepBetter_25 : decode cX0_keepBetter 25 = .ok (.getfield 9, 3) := by decide +kernel
theorem dX0_keepBetter_28 : decode cX0_keepBetter 28 = .ok (.iconst 2, 1) := by decide +kernel
theorem dX0_keepBetter_29 : decode cX0_keepBetter 29 = .ok (.iload_n 3, 1) := by decide +kernel
theorem dX0_keepBetter_30 : decode cX0_keepBetter 30 = .ok (.iastore, 1) := by decide +kernel
theorem dX0_keepBetter_31 : decode cX0_keepBetter 31 = .ok (.aload_n 0, 1) := by decide +kernel
theorem dX0_keepBetter_32 : decode cX0_keepBetter 32 = .ok (.getfield 9, 3) := by decide +kernel
theorem dX0_keepBetter_35 : decode cX0_keepBetter 35 = .ok (.iconst 3, 1) := by decide +kernel
theorem dX0_keepBetter_36 : decode cX0_keepBetter 36 = .ok (.iload 4, 2) := by decide +kernel
theorem dX0_keepBetter_38 : decode cX0_keepBetter 38 = .ok (.iastore, 1) := by decide +kernel
theorem dX0_keepBetter_39 : decode cX0_keepBetter 39 = .ok (.aload_n 0, 1) := by decide +kernel
theorem dX0_keepBetter_40 : decode cX0_keepBetter 40 = .ok (.getfield 9, 3) := by decide +kernel
theorem dX0_keepBetter_43 : decode cX0_keepBetter 43 = .ok (.iconst 4, 1) := by decide +kernel
theorem dX0_keepBetter_44 : decode cX0_keepBetter 44 = .ok (.iload_n 2, 1) := by decide +kernel
theorem dX0_keepBetter_45 : decode cX0_keepBetter 45 = .ok (.iconst 1, 1) := by decide +kernel
theorem dX0_keepBetter_46 : decode cX0_keepBetter 46 = .ok (.if_icmp .ne 13, 3) := by decide +kernel
theorem dX0_keepBetter_49 : decode cX0_keepBetter 49 = .ok (.aload_n 0, 1) := by decide +kernel
theorem dX0_keepBetter_50 : decode cX0_keepBetter 50 = .ok (.iload_n 3, 1) := by decide +kernel
theorem dX0_keepBetter_51 : decode cX0_keepBetter 51 = .ok (.iload 4, 2) := by decide +kernel
theorem dX0_keepBetter_53 : decode cX0_keepBetter 53 = .ok (.invokevirtual 43, 3) := by decide +kernel
theorem dX0_keepBetter_56 : decode cX0_keepBetter 56 = .ok (.goto 4, 3) := by decide +kernel
theorem dX0_keepBetter_59 : decode cX0_keepBetter 59 = .ok (.iconst 0, 1) := by decide +kernel
theorem dX0_keepBetter_60 : decode cX0_keepBetter 60 = .ok (.iastore, 1) := by decide +kernel
theorem dX0_keepBetter_61 : decode cX0_keepBetter 61 = .ok (.return_, 1) := by decide +kernel
def w_X0_keepBetter_61  (Q : V3 → Prop) (v : V3) : Prop := Q v
def w_X0_keepBetter_60  (Q : V3 → Prop) (s1 : Int32) (s2 : Int32) (v : V3) : Prop := vp_in s1 5 ∧ ∀ v8 : V3, v8 = up2 v 5 (ix s1) s2 → w_X0_keepBetter_61 Q v8
def w_X0_keepBetter (a1 : Int32) (a2 : Int32) (a3 : Int32) (a4 : Int32) (v : V3) (Q : V3 → Prop) : Prop := ((a1 ≤ (v 5 0) → w_X0_keepBetter_61 Q v) ∧ (¬ a1 ≤ (v 5 0) → ∀ v2 : V3, v2 = up2 v 5 0 a1 → ∀ v3 : V3, v3 = up2 v2 5 1 a2 → ∀ v4 : V3, v4 = up2 v3 5 2 a3 → ∀ v5 : V3, v5 = up2 v4 5 3 a4 → ((¬ a2 = 1 → w_X0_keepBetter_60 Q 4 0 v5) ∧ (a2 = 1 → w_X0_priceOf a3 a4 v5 (fun r10 v9 => w_X0_keepBetter_60 Q 4 r10 v9)))))
set_option maxRecDepth 100000 in
set_option maxHeartbeats 4000000 in
theorem b_X0_keepBetter_61 {p : Program} (l : Launch) {e : Env} {s : State} {m : MethodId} {args : Array Value} {below : List Frame} {meth : Method} {c : Code} {G : zG}   (C0 : Cx G RX0 cX0_keepBetter 5 none p s m args meth c) {Q : V3 → Prop} : ∀ (v : V3) (H : Heap) (locs : List Loc) (ls : Array Slot), w_X0_keepBetter_61 Q v → Zs G s v H locs → lv_has ls 5 [] → W p l e { frames := 3, cells := 0, slots := 0, locals := 71 } s m args below meth c H locs 0 0 (MQ below (QvZ G Q) args s 0 0 (zA G)) (F0 m 61 ls []) := by
  have hx := C0.1
  have hb := C0.2.1
  intro v H locs ls hw Z hl
  rw [w_X0_keepBetter_61] at hw
  exact z_vret C0 Z hw dX0_keepBetter_61
set_option maxRecDepth 100000 in
set_option maxHeartbeats 4000000 in
theorem b_X0_keepBetter_60 {p : Program} (l : Launch) {e : Env} {s : State} {m : MethodId} {args : Array Value} {below : List Frame} {meth : Method} {c : Code} {G : zG}   (C0 : Cx G RX0 cX0_keepBetter 5 none p s m args meth c) {Q : V3 → Prop} : ∀ (s1 : Int32) (s2 : Int32) (v : V3) (H : Heap) (locs : List Loc) (ls : Array Slot), w_X0_keepBetter_60 Q s1 s2 v → Zs G s v H locs → lv_has ls 5 [] → W p l e { frames := 3, cells := 0, slots := 0, locals := 71 } s m args below meth c H locs 0 0 (MQ below (QvZ G Q) args s 0 0 (zA G)) (F0 m 60 ls [.int s2, .int s1, .ref (gad G 5)]) := by
  have hx := C0.1
  have hb := C0.2.1
  intro s1 s2 v H locs ls hw Z hl
  rw [w_X0_keepBetter_60] at hw
  obtain ⟨h7, hw⟩ := hw
  refine z_iast C0 Z (cx_lt C0 (by decide)) (fun _ => rfl) h7 dX0_keepBetter_60 (fun H locs Z => ?_)
  obtain ⟨v8, ev8⟩ : ∃ z : V3, z = up2 v 5 (ix s1) s2 := ⟨_, rfl⟩
  rw [← ev8] at Z
  replace hw := hw v8 ev8
  exact b_X0_keepBetter_61 l C0 _ _ _ _ hw Z (lv_sub hl [] rfl)
set_option maxRecDepth 100000 in
set_option maxHeartbeats 4000000 in
theorem k_X0_keepBetter (l : Launch) {G : zG} (hg : 116 ≤ gn G) {a1 : Int32} {a2 : Int32} {a3 : Int32} {a4 : Int32}  {v : V3} {Q : V3 → Prop} (hw : w_X0_keepBetter a1 a2 a3 a4 v Q) : Mz l yX0_keepBetter cX0_keepBetter 5 none 3 71 G [.ref (gad G 4), .int a1, .int a2, .int a3, .int a4] v (QvZ G Q) := by
  rw [w_X0_keepBetter] at hw
  refine z_ofW hg (by decide) (Nat.le_of_ble_eq_true rfl) ?_
  intro p e s m args below meth c ls C0 Z hl
  have hx := C0.1
  have hb := C0.2.1
  replace hl : lv_has ls 5 [(0, .ref (gad G 4)), (1, .int a1), (2, .int a2), (3, .int a3), (4, .int a4)] := hl
  generalize s.heap = H at Z ⊢
  generalize ([] : List Loc) = locs at Z ⊢
  refine lv_iload_n hx hb dX0_keepBetter_0 rfl (lv_at hl 1 rfl) ?_
  refine lv_aload_n hx hb dX0_keepBetter_1 rfl (lv_at hl 0 rfl) ?_
  refine z_get C0 Z in_X0 rfl 1 (by decide) rfl tm_1_104 (cx_lt C0 (by decide)) rfl rfl dX0_keepBetter_2 ?_
  refine lv_iconst (v := 0) hx hb dX0_keepBetter_5 (by decide) ?_
  refine z_ialdk C0 Z (cx_lt C0 (by decide)) rfl in_0_5 nc_0 dX0_keepBetter_6 ?_
  refine lv_icmp_le (tgt := 61) hx hb dX0_keepBetter_7 (by decide) (fun c1 => ?_) (fun c1 => ?_)
  · replace hw := hw.1 c1
    exact b_X0_keepBetter_61 l C0 _ _ _ _ hw Z (lv_sub hl [] rfl)
  · replace hw := hw.2 c1
    refine lv_aload_n hx hb dX0_keepBetter_10 rfl (lv_at hl 0 rfl) ?_
    refine z_get C0 Z in_X0 rfl 1 (by decide) rfl tm_1_104 (cx_lt C0 (by decide)) rfl rfl dX0_keepBetter_11 ?_
    refine lv_iconst (v := 0) hx hb dX0_keepBetter_14 (by decide) ?_
    refine lv_iload_n hx hb dX0_keepBetter_15 rfl (lv_at hl 1 rfl) ?_
    refine z_iastk C0 Z (cx_lt C0 (by decide)) (fun _ => rfl) in_0_5 nc_0 dX0_keepBetter_16 (fun H locs Z => ?_)
    obtain ⟨v2, ev2⟩ : ∃ z : V3, z = up2 v 5 0 a1 := ⟨_, rfl⟩
    rw [← ev2] at Z
    replace hw := hw v2 ev2
    refine lv_aload_n hx hb dX0_keepBetter_17 rfl (lv_at hl 0 rfl) ?_
    refine z_get C0 Z in_X0 rfl 1 (by decide) rfl tm_1_104 (cx_lt C0 (by decide)) rfl rfl dX0_keepBetter_18 ?_
    refine lv_iconst (v := 1) hx hb dX0_keepBetter_21 (by decide) ?_
    refine lv_iload_n hx hb dX0_keepBetter_22 rfl (lv_at hl 2 rfl) ?_
    refine z_iastk C0 Z (cx_lt C0 (by decide)) (fun _ => rfl) in_1_5 nc_1 dX0_keepBetter_23 (fun H locs Z => ?_)
    obtain ⟨v3, ev3⟩ : ∃ z : V3, z = up2 v2 5 1 a2 := ⟨_, rfl⟩
    rw [← ev3] at Z
    replace hw := hw v3 ev3
    refine lv_aload_n hx hb dX0_keepBetter_24 rfl (lv_at hl 0 rfl) ?_
    refine z_get C0 Z in_X0 rfl 1 (by decide) rfl tm_1_104 (cx_lt C0 (by decide)) rfl rfl dX0_keepBetter_25 ?_
    refine lv_iconst (v := 2) hx hb dX0_keepBetter_28 (by decide) ?_
    refine lv_iload_n hx hb dX0_keepBetter_29 rfl (lv_at hl 3 rfl) ?_
    refine z_iastk C0 Z (cx_lt C0 (by decide)) (fun _ => rfl) in_2_5 nc_2 dX0_keepBetter_30 (fun H locs Z => ?_)
    obtain ⟨v4, ev4⟩ : ∃ z : V3, z = up2 v3 5 2 a3 := ⟨_, rfl⟩
    rw [← ev4] at Z
    replace hw := hw v4 ev4
    refine lv_aload_n hx hb dX0_keepBetter_31 rfl (lv_at hl 0 rfl) ?_
    refine z_get C0 Z in_X0 rfl 1 (by decide) rfl tm_1_104 (cx_lt C0 (by decide)) rfl rfl dX0_keepBetter_32 ?_
    refine lv_iconst (v := 3) hx hb dX0_keepBetter_35 (by decide) ?_
    refine lv_iload hx hb dX0_keepBetter_36 (lv_at hl 4 rfl) ?_
    refine z_iastk C0 Z (cx_lt C0 (by decide)) (fun _ => rfl) in_3_5 nc_3 dX0_keepBetter_38 (fun H locs Z => ?_)
    obtain ⟨v5, ev5⟩ : ∃ z : V3, z = up2 v4 5 3 a4 := ⟨_, rfl⟩
    rw [← ev5] at Z
    replace hw := hw v5 ev5
    refine lv_aload_n hx hb dX0_keepBetter_39 rfl (lv_at hl 0 rfl) ?_
    refine z_get C0 Z in_X0 rfl 1 (by decide) rfl tm_1_104 (cx_lt C0 (by decide)) rfl rfl dX0_keepBetter_40 ?_
    refine lv_iconst (v := 4) hx hb dX0_keepBetter_43 (by decide) ?_
    refine lv_iload_n hx hb dX0_keepBetter_44 rfl (lv_at hl 2 rfl) ?_
    refine lv_iconst (v := 1) hx hb dX0_keepBetter_45 (by decide) ?_
    refine lv_icmp_ne (tgt := 59) hx hb dX0_keepBetter_46 (by decide) (fun c6 => ?_) (fun c6 => ?_)
    · replace hw := hw.1 c6
      refine lv_iconst (v := 0) hx hb dX0_keepBetter_59 (by decide) ?_
      exact b_X0_keepBetter_60 l C0 _ _ _ _ _ _ hw Z (lv_sub hl [] rfl)
    · replace hw := hw.2 c6
      refine lv_aload_n hx hb dX0_keepBetter_49 rfl (lv_at hl 0 rfl) ?_
      refine lv_iload_n hx hb dX0_keepBetter_50 rfl (lv_at hl 3 rfl) ?_
      refine lv_iload hx hb dX0_keepBetter_51 (lv_at hl 4 rfl) ?_
      refine z_callVi C0 Z hl.1 (As := [.int a3, .int a4]) (rest := [.int 4, .ref (gad G 5)]) (k_X0_priceOf l (cx_g C0) hw) (gv_X0_priceOf tm_3_91) rfl ds_X0_priceOf ⟨Nat.le_of_ble_eq_true rfl, Nat.le_of_ble_eq_true rfl⟩ (ci := 0) rfl (cx_lt C0 (by decide)) rfl rfl rfl (Nat.le_of_ble_eq_true rfl) ⟨Nat.le_of_ble_eq_true rfl, Nat.le_of_ble_eq_true rfl⟩ dX0_keepBetter_53 (fun r10 v9 H locs hw Z => ?_)
      refine lv_goto (tgt := 60) hx hb dX0_keepBetter_56 (by decide) ?_
      exact b_X0_keepBetter_60 l C0 _ _ _ _ _ _ hw Z (lv_sub hl [] rfl)
-- X0_findBestSwap: room (4, 95)
theorem dX0_findBestSwap_0 : decode cX0_findBestSwap 0 = .ok (.iconst 0, 1) := by decide +kernel
theorem dX0_findBestSwap_1 : decode cX0_findBestSwap 1 = .ok (.istore_n 1, 1) := by decide +kernel
theorem dX0_findBestSwap_2 : decode cX0_findBestSwap 2 = .ok (.iload_n 1, 1) := by decide +kernel
theorem dX0_findBestSwap_3 : decode cX0_findBestSwap 3 = .ok (.aload_n 0, 1) := by decide +kernel
theorem dX0_findBestSwap_4 : decode cX0_findBestSwap 4 = .ok (.getfield 15, 3) := by decide +kernel
theorem dX0_findBestSwap_7 : decode cX0_findBestSwap 7 = .ok (.getfield 73, 3) := by decide +kernel
theorem dX0_findBestSwap_10 : decode cX0_findBestSwap 10 = .ok (.if_icmp .ge 67, 3) := by decide +kernel
theorem dX0_findBestSwap_13 : decode cX0_findBestSwap 13 = .ok (.iload_n 1, 1) := by decide +kernel
theorem dX0_findBestSwap_14 : decode cX0_findBestSwap 14 = .ok (.iconst 1, 1) := by decide +kernel
theorem dX0_findBestSwap_15 : decode cX0_findBestSwap 15 = .ok (.iadd, 1) := by decide +kernel
theorem dX0_findBestSwap_16 : decode cX0_findBestSwap 16 = .ok (.istore_n 2, 1) := by decide +kernel
theorem dX0_findBestSwap_17 : decode cX0_findBestSwap 17 = .ok (.iload_n 2, 1) := by decide +kernel
theorem dX0_findBestSwap_18 : decode cX0_findBestSwap 18 = .ok (.aload_n 0, 1) := by decide +kernel
theorem dX0_findBestSwap_19 : decode cX0_findBestSwap 19 = .ok (.getfield 15, 3) := by decide +kernel
theorem dX0_findBestSwap_22 : decode cX0_findBestSwap 22 = .ok (.getfield 73, 3) := by decide +kernel
theorem dX0_findBestSwap_25 : decode cX0_findBestSwap 25 = .ok (.if_icmp .ge 46, 3) := by decide +kernel
theorem dX0_findBestSwap_28 : decode cX0_findBestSwap 28 = .ok (.aload_n 0, 1) := by decide +kernel
theorem dX0_findBestSwap_29 : decode cX0_findBestSwap 29 = .ok (.getfield 15, 3) := by decide +kernel
theorem dX0_findBestSwap_32 : decode cX0_findBestSwap 32 = .ok (.iload_n 1, 1) := by decide +kernel
theorem dX0_findBestSwap_33 : decode cX0_findBestSwap 33 = .ok (.iconst 1, 1) := by decide +kernel
theorem dX0_findBestSwap_34 : decode cX0_findBestSwap 34 = .ok (.invokevirtual 76, 3) := by decide +kernel
theorem dX0_findBestSwap_37 : decode cX0_findBestSwap 37 = .ok (.ifCond .eq 28, 3) := by decide +kernel
theorem dX0_findBestSwap_40 : decode cX0_findBestSwap 40 = .ok (.aload_n 0, 1) := by decide +kernel
theorem dX0_findBestSwap_41 : decode cX0_findBestSwap 41 = .ok (.getfield 15, 3) := by decide +kernel
theorem dX0_findBestSwap_44 : decode cX0_findBestSwap 44 = .ok (.iload_n 2, 1) := by decide +kernel
theorem dX0_findBestSwap_45 : decode cX0_findBestSwap 45 = .ok (.iconst 1, 1) := by decide +kernel
theorem dX0_findBestSwap_46 : decode cX0_findBestSwap 46 = .ok (.invokevirtual 76, 3) := by decide +kernel
theorem dX0_findBestSwap_49 : decode cX0_findBestSwap 49 = .ok (.ifCond .eq 16, 3) := by decide +kernel
theorem dX0_findBestSwap_52 : decode cX0_findBestSwap 52 = .ok (.aload_n 0, 1) := by decide +kernel
theorem dX0_findBestSwap_53 : decode cX0_findBestSwap 53 = .ok (.aload_n 0, 1) := by decide +kernel
theorem dX0_findBestSwap_54 : decode cX0_findBestSwap 54 = .ok (.iload_n 1, 1) := by decide +kernel
theorem dX0_findBestSwap_55 : decode cX0_findBestSwap 55 = .ok (.iload_n 2, 1) := by decide +kernel
theorem dX0_findBestSwap_56 : decode cX0_findBestSwap 56 = .ok (.invokevirtual 79, 3) := by decide +kernel
theorem dX0_findBestSwap_59 : decode cX0_findBestSwap 59 = .ok (.iconst 0, 1) := by decide +kernel
theorem dX0_findBestSwap_60 : decode cX0_findBestSwap 60 = .ok (.iload_n 1, 1) := by decide +kernel
theorem dX0_findBestSwap_61 : decode cX0_findBestSwap 61 = .ok (.iload_n 2, 1) := by decide +kernel
theorem dX0_findBestSwap_62 : decode cX0_findBestSwap 62 = .ok (.invokevirtual 82, 3) := by decide +kernel
theorem dX0_findBestSwap_65 : decode cX0_findBestSwap 65 = .ok (.iinc 2 1, 3) := by decide +kernel
theorem dX0_findBestSwap_68 : decode cX0_findBestSwap 68 = .ok (.goto (-51), 3) := by decide +kernel
theorem dX0_findBestSwap_71 : decode cX0_findBestSwap 71 = .ok (.iinc 1 1, 3) := by decide +kernel
theorem dX0_findBestSwap_74 : decode cX0_findBestSwap 74 = .ok (.goto (-72), 3) := by decide +kernel
theorem dX0_findBestSwap_77 : decode cX0_findBestSwap 77 = .ok (.return_, 1) := by decide +kernel
def w_X0_findBestSwap_65  (Q : V3 → Prop) (K2 : Int32 → V3 → Prop) (K17 : Int32 → Int32 → V3 → Prop) (x1 : Int32) (x2 : Int32) (v : V3) : Prop := K17 x1 (x2 + 1) v
def w_X0_findBestSwap_17  (Q : V3 → Prop) (K2 : Int32 → V3 → Prop) : Nat → Int32 → Int32 → V3 → Prop
  | 0, _, _, _ => False
  | n17 + 1, x1, x2, v => (((v 8 8) ≤ x2 → K2 (x1 + 1) v) ∧ (¬ (v 8 8) ≤ x2 → w_X1_isIn 8 x1 1 v (fun r4 v3 => ((r4 = 0 → w_X0_findBestSwap_65 Q K2 (w_X0_findBestSwap_17 Q K2 n17) x1 x2 v3) ∧ (¬ r4 = 0 → w_X1_isIn 8 x2 1 v3 (fun r7 v6 => ((r7 = 0 → w_X0_findBestSwap_65 Q K2 (w_X0_findBestSwap_17 Q K2 n17) x1 x2 v6) ∧ (¬ r7 = 0 → w_X0_swapGain x1 x2 v6 (fun r10 v9 => w_X0_keepBetter r10 0 x1 x2 v9 (fun v11 => w_X0_findBestSwap_65 Q K2 (w_X0_findBestSwap_17 Q K2 n17) x1 x2 v11))))))))))
def w_X0_findBestSwap_2  (Q : V3 → Prop) : Nat → Int32 → V3 → Prop
  | 0, _, _ => False
  | n2 + 1, x1, v => (((v 8 8) ≤ x1 → Q v) ∧ (¬ (v 8 8) ≤ x1 → ∃ m17 : Nat, w_X0_findBestSwap_17 Q (w_X0_findBestSwap_2 Q n2) m17 x1 (x1 + 1) v))
def w_X0_findBestSwap  (v : V3) (Q : V3 → Prop) : Prop := ∃ m2 : Nat, w_X0_findBestSwap_2 Q m2 0 v
set_option maxRecDepth 100000 in
set_option maxHeartbeats 4000000 in
theorem b_X0_findBestSwap_65 {p : Program} (l : Launch) {e : Env} {s : State} {m : MethodId} {args : Array Value} {below : List Frame} {meth : Method} {c : Code} {G : zG}   (C0 : Cx G RX0 cX0_findBestSwap 3 none p s m args meth c) {Q : V3 → Prop} {K2 : Int32 → V3 → Prop} (hK2 : ∀ (x1 : Int32) (v : V3) (H : Heap) (locs : List Loc) (ls : Array Slot), K2 x1 v → Zs G s v H locs → lv_has ls 3 [(0, .ref (gad G 4)), (1, .int x1)] → W p l e { frames := 4, cells := 0, slots := 0, locals := 95 } s m args below meth c H locs 0 0 (MQ below (QvZ G Q) args s 0 0 (zA G)) (F0 m 2 ls [])) {K17 : Int32 → Int32 → V3 → Prop} (hK17 : ∀ (x1 : Int32) (x2 : Int32) (v : V3) (H : Heap) (locs : List Loc) (ls : Array Slot), K17 x1 x2 v → Zs G s v H locs → lv_has ls 3 [(0, .ref (gad G 4)), (1, .int x1), (2, .int x2)] → W p l e { frames := 4, cells := 0, slots := 0, locals := 95 } s m args below meth c H locs 0 0 (MQ below (QvZ G Q) args s 0 0 (zA G)) (F0 m 17 ls [])) : ∀ (x1 : Int32) (x2 : Int32) (v : V3) (H : Heap) (locs : List Loc) (ls : Array Slot), w_X0_findBestSwap_65 Q K2 K17 x1 x2 v → Zs G s v H locs → lv_has ls 3 [(0, .ref (gad G 4)), (1, .int x1), (2, .int x2)] → W p l e { frames := 4, cells := 0, slots := 0, locals := 95 } s m args below meth c H locs 0 0 (MQ below (QvZ G Q) args s 0 0 (zA G)) (F0 m 65 ls []) := by
  have hx := C0.1
  have hb := C0.2.1
  intro x1 x2 v H locs ls hw Z hl
  rw [w_X0_findBestSwap_65] at hw
  refine lv_iinc (v := x2 + 1) (lv' := [(2, .int (x2 + 1)), (0, .ref (gad G 4)), (1, .int x1)]) hx hb dX0_findBestSwap_65 hl (k := 2) rfl rfl (by decide) rfl (fun ls hl => ?_)
  refine lv_goto (tgt := 17) hx hb dX0_findBestSwap_68 (by decide) ?_
  exact hK17 _ _ _ _ _ _ hw Z (lv_sub hl [1, 2, 0] rfl)
set_option maxRecDepth 100000 in
set_option maxHeartbeats 4000000 in
theorem b_X0_findBestSwap_17 {p : Program} (l : Launch) {e : Env} {s : State} {m : MethodId} {args : Array Value} {below : List Frame} {meth : Method} {c : Code} {G : zG}   (C0 : Cx G RX0 cX0_findBestSwap 3 none p s m args meth c) {Q : V3 → Prop} {K2 : Int32 → V3 → Prop} (hK2 : ∀ (x1 : Int32) (v : V3) (H : Heap) (locs : List Loc) (ls : Array Slot), K2 x1 v → Zs G s v H locs → lv_has ls 3 [(0, .ref (gad G 4)), (1, .int x1)] → W p l e { frames := 4, cells := 0, slots := 0, locals := 95 } s m args below meth c H locs 0 0 (MQ below (QvZ G Q) args s 0 0 (zA G)) (F0 m 2 ls [])) : ∀ (n : Nat) (x1 : Int32) (x2 : Int32) (v : V3) (H : Heap) (locs : List Loc) (ls : Array Slot), w_X0_findBestSwap_17 Q K2 n x1 x2 v → Zs G s v H locs → lv_has ls 3 [(0, .ref (gad G 4)), (1, .int x1), (2, .int x2)] → W p l e { frames := 4, cells := 0, slots := 0, locals := 95 } s m args below meth c H locs 0 0 (MQ below (QvZ G Q) args s 0 0 (zA G)) (F0 m 17 ls []) := by
  have hx := C0.1
  have hb := C0.2.1
  intro n
  induction n with
  | zero =>
    intro x1 x2 v H locs ls hw Z hl
    exact hw.elim
  | succ n hK17 =>
    intro x1 x2 v H locs ls hw Z hl
    rw [w_X0_findBestSwap_17] at hw
    refine lv_iload_n hx hb dX0_findBestSwap_17 rfl (lv_at hl 2 rfl) ?_
    refine lv_aload_n hx hb dX0_findBestSwap_18 rfl (lv_at hl 0 rfl) ?_
    refine z_get C0 Z in_X0 rfl 0 (by decide) rfl tm_1_103 (cx_lt C0 (by decide)) rfl rfl dX0_findBestSwap_19 ?_
    refine z_get C0 Z in_X1 rfl 8 (by decide) rfl tm_1_63 (isL_lt0 (isL8 (cx_g C0))) (ent_L (isL8 (cx_g C0))) rfl dX0_findBestSwap_22 ?_
    refine lv_icmp_ge (tgt := 71) hx hb dX0_findBestSwap_25 (by decide) (fun c2 => ?_) (fun c2 => ?_)
    · replace hw := hw.1 c2
      refine lv_iinc (v := x1 + 1) (lv' := [(1, .int (x1 + 1)), (0, .ref (gad G 4)), (2, .int x2)]) hx hb dX0_findBestSwap_71 hl (k := 1) rfl rfl (by decide) rfl (fun ls hl => ?_)
      refine lv_goto (tgt := 2) hx hb dX0_findBestSwap_74 (by decide) ?_
      exact hK2 _ _ _ _ _ hw Z (lv_sub hl [1, 0] rfl)
    · replace hw := hw.2 c2
      refine lv_aload_n hx hb dX0_findBestSwap_28 rfl (lv_at hl 0 rfl) ?_
      refine z_get C0 Z in_X0 rfl 0 (by decide) rfl tm_1_103 (cx_lt C0 (by decide)) rfl rfl dX0_findBestSwap_29 ?_
      refine lv_iload_n hx hb dX0_findBestSwap_32 rfl (lv_at hl 1 rfl) ?_
      refine lv_iconst (v := 1) hx hb dX0_findBestSwap_33 (by decide) ?_
      refine z_callVi C0 Z hl.1 (As := [.int x1, .int 1]) (rest := []) (k_X1_isIn l (cx_g C0) (isL8 (cx_g C0)) hw) (gv_X1_isIn tm_3_110) rfl ds_X1_isIn ⟨Nat.le_of_ble_eq_true rfl, Nat.le_of_ble_eq_true rfl⟩ (ci := 1) rfl (isL_lt0 (isL8 (cx_g C0))) (ent_L (isL8 (cx_g C0))) rfl rfl (Nat.le_of_ble_eq_true rfl) ⟨Nat.le_of_ble_eq_true rfl, Nat.le_of_ble_eq_true rfl⟩ dX0_findBestSwap_34 (fun r4 v3 H locs hw Z => ?_)
      refine lv_if_eq (tgt := 65) hx hb dX0_findBestSwap_37 (by decide) (fun c5 => ?_) (fun c5 => ?_)
      · replace hw := hw.1 c5
        exact b_X0_findBestSwap_65 l C0 hK2 hK17 _ _ _ _ _ _ hw Z (lv_sub hl [0, 1, 2] rfl)
      · replace hw := hw.2 c5
        refine lv_aload_n hx hb dX0_findBestSwap_40 rfl (lv_at hl 0 rfl) ?_
        refine z_get C0 Z in_X0 rfl 0 (by decide) rfl tm_1_103 (cx_lt C0 (by decide)) rfl rfl dX0_findBestSwap_41 ?_
        refine lv_iload_n hx hb dX0_findBestSwap_44 rfl (lv_at hl 2 rfl) ?_
        refine lv_iconst (v := 1) hx hb dX0_findBestSwap_45 (by decide) ?_
        refine z_callVi C0 Z hl.1 (As := [.int x2, .int 1]) (rest := []) (k_X1_isIn l (cx_g C0) (isL8 (cx_g C0)) hw) (gv_X1_isIn tm_3_110) rfl ds_X1_isIn ⟨Nat.le_of_ble_eq_true rfl, Nat.le_of_ble_eq_true rfl⟩ (ci := 1) rfl (isL_lt0 (isL8 (cx_g C0))) (ent_L (isL8 (cx_g C0))) rfl rfl (Nat.le_of_ble_eq_true rfl) ⟨Nat.le_of_ble_eq_true rfl, Nat.le_of_ble_eq_true rfl⟩ dX0_findBestSwap_46 (fun r7 v6 H locs hw Z => ?_)
        refine lv_if_eq (tgt := 65) hx hb dX0_findBestSwap_49 (by decide) (fun c8 => ?_) (fun c8 => ?_)
        · replace hw := hw.1 c8
          exact b_X0_findBestSwap_65 l C0 hK2 hK17 _ _ _ _ _ _ hw Z (lv_sub hl [0, 1, 2] rfl)
        · replace hw := hw.2 c8
          refine lv_aload_n hx hb dX0_findBestSwap_52 rfl (lv_at hl 0 rfl) ?_
          refine lv_aload_n hx hb dX0_findBestSwap_53 rfl (lv_at hl 0 rfl) ?_
          refine lv_iload_n hx hb dX0_findBestSwap_54 rfl (lv_at hl 1 rfl) ?_
          refine lv_iload_n hx hb dX0_findBestSwap_55 rfl (lv_at hl 2 rfl) ?_
          refine z_callVi C0 Z hl.1 (As := [.int x1, .int x2]) (rest := [.ref (gad G 4)]) (k_X0_swapGain l (cx_g C0) hw) (gv_X0_swapGain tm_3_111) rfl ds_X0_swapGain ⟨Nat.le_of_ble_eq_true rfl, Nat.le_of_ble_eq_true rfl⟩ (ci := 0) rfl (cx_lt C0 (by decide)) rfl rfl rfl (Nat.le_of_ble_eq_true rfl) ⟨Nat.le_of_ble_eq_true rfl, Nat.le_of_ble_eq_true rfl⟩ dX0_findBestSwap_56 (fun r10 v9 H locs hw Z => ?_)
          refine lv_iconst (v := 0) hx hb dX0_findBestSwap_59 (by decide) ?_
          refine lv_iload_n hx hb dX0_findBestSwap_60 rfl (lv_at hl 1 rfl) ?_
          refine lv_iload_n hx hb dX0_findBestSwap_61 rfl (lv_at hl 2 rfl) ?_
          refine z_callVv C0 Z hl.1 (As := [.int r10, .int 0, .int x1, .int x2]) (rest := []) (k_X0_keepBetter l (cx_g C0) hw) (gv_X0_keepBetter tm_3_112) rfl ds_X0_keepBetter ⟨Nat.le_of_ble_eq_true rfl, Nat.le_of_ble_eq_true rfl⟩ (ci := 0) rfl (cx_lt C0 (by decide)) rfl rfl rfl (Nat.le_of_ble_eq_true rfl) ⟨Nat.le_of_ble_eq_true rfl, Nat.le_of_ble_eq_true rfl⟩ dX0_findBestSwap_62 (fun v11 H locs hw Z => ?_)
          exact b_X0_findBestSwap_65 l C0 hK2 hK17 _ _ _ _ _ _ hw Z (lv_sub hl [0, 1, 2] rfl)
set_option maxRecDepth 100000 in
set_option maxHeartbeats 4000000 in
theorem b_X0_findBestSwap_2 {p : Program} (l : Launch) {e : Env} {s : State} {m : MethodId} {args : Array Value} {below : List Frame} {meth : Method} {c : Code} {G : zG}   (C0 : Cx G RX0 cX0_findBestSwap 3 none p s m args meth c) {Q : V3 → Prop} : ∀ (n : Nat) (x1 : Int32) (v : V3) (H : Heap) (locs : List Loc) (ls : Array Slot), w_X0_findBestSwap_2 Q n x1 v → Zs G s v H locs → lv_has ls 3 [(0, .ref (gad G 4)), (1, .int x1)] → W p l e { frames := 4, cells := 0, slots := 0, locals := 95 } s m args below meth c H locs 0 0 (MQ below (QvZ G Q) args s 0 0 (zA G)) (F0 m 2 ls []) := by
  have hx := C0.1
  have hb := C0.2.1
  intro n
  induction n with
  | zero =>
    intro x1 v H locs ls hw Z hl
    exact hw.elim
  | succ n hK2 =>
    intro x1 v H locs ls hw Z hl
    rw [w_X0_findBestSwap_2] at hw
    refine lv_iload_n hx hb dX0_findBestSwap_2 rfl (lv_at hl 1 rfl) ?_
    refine lv_aload_n hx hb dX0_findBestSwap_3 rfl (lv_at hl 0 rfl) ?_
    refine z_get C0 Z in_X0 rfl 0 (by decide) rfl tm_1_103 (cx_lt C0 (by decide)) rfl rfl dX0_findBestSwap_4 ?_
    refine z_get C0 Z in_X1 rfl 8 (by decide) rfl tm_1_63 (isL_lt0 (isL8 (cx_g C0))) (ent_L (isL8 (cx_g C0))) rfl dX0_findBestSwap_7 ?_
    refine lv_icmp_ge (tgt := 77) hx hb dX0_findBestSwap_10 (by decide) (fun c1 => ?_) (fun c1 => ?_)
    · replace hw := hw.1 c1
      exact z_vret C0 Z hw dX0_findBestSwap_77
    · replace hw := hw.2 c1
      refine lv_iload_n hx hb dX0_findBestSwap_13 rfl (lv_at hl 1 rfl) ?_
      refine lv_iconst (v := 1) hx hb dX0_findBestSwap_14 (by decide) ?_
      refine lv_iadd hx hb dX0_findBestSwap_15 ?_
      refine lv_istore_n (lv' := [(2, .int (x1 + 1)), (0, .ref (gad G 4)), (1, .int x1)]) hx hb dX0_findBestSwap_16 rfl hl (by decide) rfl (fun ls hl => ?_)
      obtain ⟨m17, hw⟩ := hw
      exact b_X0_findBestSwap_17 l C0 hK2 m17 _ _ _ _ _ _ hw Z (lv_sub hl [1, 2, 0] rfl)
set_option maxRecDepth 100000 in
set_option maxHeartbeats 4000000 in
theorem k_X0_findBestSwap (l : Launch) {G : zG} (hg : 116 ≤ gn G)  {v : V3} {Q : V3 → Prop} (hw : w_X0_findBestSwap v Q) : Mz l yX0_findBestSwap cX0_findBestSwap 3 none 4 95 G [.ref (gad G 4)] v (QvZ G Q) := by
  rw [w_X0_findBestSwap] at hw
  refine z_ofW hg (by decide) (Nat.le_of_ble_eq_true rfl) ?_
  intro p e s m args below meth c ls C0 Z hl
  have hx := C0.1
  have hb := C0.2.1
  replace hl : lv_has ls 3 [(0, .ref (gad G 4))] := hl
  generalize s.heap = H at Z ⊢
  generalize ([] : List Loc) = locs at Z ⊢
  refine lv_iconst (v := 0) hx hb dX0_findBestSwap_0 (by decide) ?_
  refine lv_istore_n (lv' := [(1, .int 0), (0, .ref (gad G 4))]) hx hb dX0_findBestSwap_1 rfl hl (by decide) rfl (fun ls hl => ?_)
  obtain ⟨m2, hw⟩ := hw
  exact b_X0_findBestSwap_2 l C0 m2 _ _ _ _ _ hw Z (lv_sub hl [1, 0] rfl)
-- X0_findBestBuyout: room (4, 98)
theorem dX0_findBestBuyout_0 : decode cX0_findBestBuyout 0 = .ok (.iconst 0, 1) := by decide +kernel
theorem dX0_findBestBuyout_1 : decode cX0_findBestBuyout 1 = .ok (.istore_n 1, 1) := by decide +kernel
theorem dX0_findBestBuyout_2 : decode cX0_findBestBuyout 2 = .ok (.iload_n 1, 1) := by decide +kernel
theorem dX0_findBestBuyout_3 : decode cX0_findBestBuyout 3 = .ok (.aload_n 0, 1) := by decide +kernel
theorem dX0_findBestBuyout_4 : decode cX0_findBestBuyout 4 = .ok (.getfield 15, 3) := by decide +kernel
theorem dX0_findBestBuyout_7 : decode cX0_findBestBuyout 7 = .ok (.getfield 73, 3) := by decide +kernel
theorem dX0_findBestBuyout_10 : decode cX0_findBestBuyout 10 = .ok (.if_icmp .ge 65, 3) := by decide +kernel
theorem dX0_findBestBuyout_13 : decode cX0_findBestBuyout 13 = .ok (.iconst 0, 1) := by decide +kernel
theorem dX0_findBestBuyout_14 : decode cX0_findBestBuyout 14 = .ok (.istore_n 2, 1) := by decide +kernel
theorem dX0_findBestBuyout_15 : decode cX0_findBestBuyout 15 = .ok (.iload_n 2, 1) := by decide +kernel
theorem dX0_findBestBuyout_16 : decode cX0_findBestBuyout 16 = .ok (.aload_n 0, 1) := by decide +kernel
theorem dX0_findBestBuyout_17 : decode cX0_findBestBuyout 17 = .ok (.getfield 15, 3) := by decide +kernel
theorem dX0_findBestBuyout_20 : decode cX0_findBestBuyout 20 = .ok (.getfield 73, 3) := by decide +kernel
theorem dX0_findBestBuyout_23 : decode cX0_findBestBuyout 23 = .ok (.if_icmp .ge 46, 3) := by decide +kernel
theorem dX0_findBestBuyout_26 : decode cX0_findBestBuyout 26 = .ok (.aload_n 0, 1) := by decide +kernel
theorem dX0_findBestBuyout_27 : decode cX0_findBestBuyout 27 = .ok (.getfield 15, 3) := by decide +kernel
theorem dX0_findBestBuyout_30 : decode cX0_findBestBuyout 30 = .ok (.iload_n 1, 1) := by decide +kernel
theorem dX0_findBestBuyout_31 : decode cX0_findBestBuyout 31 = .ok (.iconst 0, 1) := by decide +kernel
theorem dX0_findBestBuyout_32 : decode cX0_findBestBuyout 32 = .ok (.invokevirtual 76, 3) := by decide +kernel
theorem dX0_findBestBuyout_35 : decode cX0_findBestBuyout 35 = .ok (.ifCond .eq 28, 3) := by decide +kernel
theorem dX0_findBestBuyout_38 : decode cX0_findBestBuyout 38 = .ok (.aload_n 0, 1) := by decide +kernel
theorem dX0_findBestBuyout_39 : decode cX0_findBestBuyout 39 = .ok (.getfield 15, 3) := by decide +kernel
theorem dX0_findBestBuyout_42 : decode cX0_findBestBuyout 42 = .ok (.iload_n 2, 1) := by decide +kernel
theorem dX0_findBestBuyout_43 : decode cX0_findBestBuyout 43 = .ok (.iconst 1, 1) := by decide +kernel
theorem dX0_findBestBuyout_44 : decode cX0_findBestBuyout 44 = .ok (.invokevirtual 76, 3) := by decide +kernel
theorem dX0_findBestBuyout_47 : decode cX0_findBestBuyout 47 = .ok (.ifCond .eq 16, 3) := by decide +kernel
theorem dX0_findBestBuyout_50 : decode cX0_findBestBuyout 50 = .ok (.aload_n 0, 1) := by decide +kernel
theorem dX0_findBestBuyout_51 : decode cX0_findBestBuyout 51 = .ok (.aload_n 0, 1) := by decide +kernel
theorem dX0_findBestBuyout_52 : decode cX0_findBestBuyout 52 = .ok (.iload_n 1, 1) := by decide +kernel
theorem dX0_findBestBuyout_53 : decode cX0_findBestBuyout 53 = .ok (.iload_n 2, 1) := by decide +kernel
theorem dX0_findBestBuyout_54 : decode cX0_findBestBuyout 54 = .ok (.invokevirtual 86, 3) := by decide +kernel
theorem dX0_findBestBuyout_57 : decode cX0_findBestBuyout 57 = .ok (.iconst 1, 1) := by decide +kernel
theorem dX0_findBestBuyout_58 : decode cX0_findBestBuyout 58 = .ok (.iload_n 1, 1) := by decide +kernel
theorem dX0_findBestBuyout_59 : decode cX0_findBestBuyout 59 = .ok (.iload_n 2, 1) := by decide +kernel
theorem dX0_findBestBuyout_60 : decode cX0_findBestBuyout 60 = .ok (.invokevirtual 82, 3) := by decide +kernel
theorem dX0_findBestBuyout_63 : decode cX0_findBestBuyout 63 = .ok (.iinc 2 1, 3) := by decide +kernel
theorem dX0_findBestBuyout_66 : decode cX0_findBestBuyout 66 = .ok (.goto (-51), 3) := by decide +kernel
theorem dX0_findBestBuyout_69 : decode cX0_findBestBuyout 69 = .ok (.iinc 1 1, 3) := by decide +kernel
theorem dX0_findBestBuyout_72 : decode cX0_findBestBuyout 72 = .ok (.goto (-70), 3) := by decide +kernel
theorem dX0_findBestBuyout_75 : decode cX0_findBestBuyout 75 = .ok (.return_, 1) := by decide +kernel
def w_X0_findBestBuyout_63  (Q : V3 → Prop) (K2 : Int32 → V3 → Prop) (K15 : Int32 → Int32 → V3 → Prop) (x1 : Int32) (x2 : Int32) (v : V3) : Prop := K15 x1 (x2 + 1) v
def w_X0_findBestBuyout_15  (Q : V3 → Prop) (K2 : Int32 → V3 → Prop) : Nat → Int32 → Int32 → V3 → Prop
  | 0, _, _, _ => False
  | n15 + 1, x1, x2, v => (((v 8 8) ≤ x2 → K2 (x1 + 1) v) ∧ (¬ (v 8 8) ≤ x2 → w_X1_isIn 8 x1 0 v (fun r4 v3 => ((r4 = 0 → w_X0_findBestBuyout_63 Q K2 (w_X0_findBestBuyout_15 Q K2 n15) x1 x2 v3) ∧ (¬ r4 = 0 → w_X1_isIn 8 x2 1 v3 (fun r7 v6 => ((r7 = 0 → w_X0_findBestBuyout_63 Q K2 (w_X0_findBestBuyout_15 Q K2 n15) x1 x2 v6) ∧ (¬ r7 = 0 → w_X0_buyoutGain x1 x2 v6 (fun r10 v9 => w_X0_keepBetter r10 1 x1 x2 v9 (fun v11 => w_X0_findBestBuyout_63 Q K2 (w_X0_findBestBuyout_15 Q K2 n15) x1 x2 v11))))))))))
def w_X0_findBestBuyout_2  (Q : V3 → Prop) : Nat → Int32 → V3 → Prop
  | 0, _, _ => False
  | n2 + 1, x1, v => (((v 8 8) ≤ x1 → Q v) ∧ (¬ (v 8 8) ≤ x1 → ∃ m15 : Nat, w_X0_findBestBuyout_15 Q (w_X0_findBestBuyout_2 Q n2) m15 x1 0 v))
def w_X0_findBestBuyout  (v : V3) (Q : V3 → Prop) : Prop := ∃ m2 : Nat, w_X0_findBestBuyout_2 Q m2 0 v
set_option maxRecDepth 100000 in
set_option maxHeartbeats 4000000 in
theorem b_X0_findBestBuyout_63 {p : Program} (l : Launch) {e : Env} {s : State} {m : MethodId} {args : Array Value} {below : List Frame} {meth : Method} {c : Code} {G : zG}   (C0 : Cx G RX0 cX0_findBestBuyout 3 none p s m args meth c) {Q : V3 → Prop} {K2 : Int32 → V3 → Prop} (hK2 : ∀ (x1 : Int32) (v : V3) (H : Heap) (locs : List Loc) (ls : Array Slot), K2 x1 v → Zs G s v H locs → lv_has ls 3 [(0, .ref (gad G 4)), (1, .int x1)] → W p l e { frames := 4, cells := 0, slots := 0, locals := 98 } s m args below meth c H locs 0 0 (MQ below (QvZ G Q) args s 0 0 (zA G)) (F0 m 2 ls [])) {K15 : Int32 → Int32 → V3 → Prop} (hK15 : ∀ (x1 : Int32) (x2 : Int32) (v : V3) (H : Heap) (locs : List Loc) (ls : Array Slot), K15 x1 x2 v → Zs G s v H locs → lv_has ls 3 [(0, .ref (gad G 4)), (1, .int x1), (2, .int x2)] → W p l e { frames := 4, cells := 0, slots := 0, locals := 98 } s m args below meth c H locs 0 0 (MQ below (QvZ G Q) args s 0 0 (zA G)) (F0 m 15 ls [])) : ∀ (x1 : Int32) (x2 : Int32) (v : V3) (H : Heap) (locs : List Loc) (ls : Array Slot), w_X0_findBestBuyout_63 Q K2 K15 x1 x2 v → Zs G s v H locs → lv_has ls 3 [(0, .ref (gad G 4)), (1, .int x1), (2, .int x2)] → W p l e { frames := 4, cells := 0, slots := 0, locals := 98 } s m args below meth c H locs 0 0 (MQ below (QvZ G Q) args s 0 0 (zA G)) (F0 m 63 ls []) := by
  have hx := C0.1
  have hb := C0.2.1
  intro x1 x2 v H locs ls hw Z hl
  rw [w_X0_findBestBuyout_63] at hw
  refine lv_iinc (v := x2 + 1) (lv' := [(2, .int (x2 + 1)), (0, .ref (gad G 4)), (1, .int x1)]) hx hb dX0_findBestBuyout_63 hl (k := 2) rfl rfl (by decide) rfl (fun ls hl => ?_)
  refine lv_goto (tgt := 15) hx hb dX0_findBestBuyout_66 (by decide) ?_
  exact hK15 _ _ _ _ _ _ hw Z (lv_sub hl [1, 2, 0] rfl)
set_option maxRecDepth 100000 in
set_option maxHeartbeats 4000000 in
theorem b_X0_findBestBuyout_15 {p : Program} (l : Launch) {e : Env} {s : State} {m : MethodId} {args : Array Value} {below : List Frame} {meth : Method} {c : Code} {G : zG}   (C0 : Cx G RX0 cX0_findBestBuyout 3 none p s m args meth c) {Q : V3 → Prop} {K2 : Int32 → V3 → Prop} (hK2 : ∀ (x1 : Int32) (v : V3) (H : Heap) (locs : List Loc) (ls : Array Slot), K2 x1 v → Zs G s v H locs → lv_has ls 3 [(0, .ref (gad G 4)), (1, .int x1)] → W p l e { frames := 4, cells := 0, slots := 0, locals := 98 } s m args below meth c H locs 0 0 (MQ below (QvZ G Q) args s 0 0 (zA G)) (F0 m 2 ls [])) : ∀ (n : Nat) (x1 : Int32) (x2 : Int32) (v : V3) (H : Heap) (locs : List Loc) (ls : Array Slot), w_X0_findBestBuyout_15 Q K2 n x1 x2 v → Zs G s v H locs → lv_has ls 3 [(0, .ref (gad G 4)), (1, .int x1), (2, .int x2)] → W p l e { frames := 4, cells := 0, slots := 0, locals := 98 } s m args below meth c H locs 0 0 (MQ below (QvZ G Q) args s 0 0 (zA G)) (F0 m 15 ls []) := by
  have hx := C0.1
  have hb := C0.2.1
  intro n
  induction n with
  | zero =>
    intro x1 x2 v H locs ls hw Z hl
    exact hw.elim
  | succ n hK15 =>
    intro x1 x2 v H locs ls hw Z hl
    rw [w_X0_findBestBuyout_15] at hw
    refine lv_iload_n hx hb dX0_findBestBuyout_15 rfl (lv_at hl 2 rfl) ?_
    refine lv_aload_n hx hb dX0_findBestBuyout_16 rfl (lv_at hl 0 rfl) ?_
    refine z_get C0 Z in_X0 rfl 0 (by decide) rfl tm_1_103 (cx_lt C0 (by decide)) rfl rfl dX0_findBestBuyout_17 ?_
    refine z_get C0 Z in_X1 rfl 8 (by decide) rfl tm_1_63 (isL_lt0 (isL8 (cx_g C0))) (ent_L (isL8 (cx_g C0))) rfl dX0_findBestBuyout_20 ?_
    refine lv_icmp_ge (tgt := 69) hx hb dX0_findBestBuyout_23 (by decide) (fun c2 => ?_) (fun c2 => ?_)
    · replace hw := hw.1 c2
      refine lv_iinc (v := x1 + 1) (lv' := [(1, .int (x1 + 1)), (0, .ref (gad G 4)), (2, .int x2)]) hx hb dX0_findBestBuyout_69 hl (k := 1) rfl rfl (by decide) rfl (fun ls hl => ?_)
      refine lv_goto (tgt := 2) hx hb dX0_findBestBuyout_72 (by decide) ?_
      exact hK2 _ _ _ _ _ hw Z (lv_sub hl [1, 0] rfl)
    · replace hw := hw.2 c2
      refine lv_aload_n hx hb dX0_findBestBuyout_26 rfl (lv_at hl 0 rfl) ?_
      refine z_get C0 Z in_X0 rfl 0 (by decide) rfl tm_1_103 (cx_lt C0 (by decide)) rfl rfl dX0_findBestBuyout_27 ?_
      refine lv_iload_n hx hb dX0_findBestBuyout_30 rfl (lv_at hl 1 rfl) ?_
      refine lv_iconst (v := 0) hx hb dX0_findBestBuyout_31 (by decide) ?_
      refine z_callVi C0 Z hl.1 (As := [.int x1, .int 0]) (rest := []) (k_X1_isIn l (cx_g C0) (isL8 (cx_g C0)) hw) (gv_X1_isIn tm_3_110) rfl ds_X1_isIn ⟨Nat.le_of_ble_eq_true rfl, Nat.le_of_ble_eq_true rfl⟩ (ci := 1) rfl (isL_lt0 (isL8 (cx_g C0))) (ent_L (isL8 (cx_g C0))) rfl rfl (Nat.le_of_ble_eq_true rfl) ⟨Nat.le_of_ble_eq_true rfl, Nat.le_of_ble_eq_true rfl⟩ dX0_findBestBuyout_32 (fun r4 v3 H locs hw Z => ?_)
      refine lv_if_eq (tgt := 63) hx hb dX0_findBestBuyout_35 (by decide) (fun c5 => ?_) (fun c5 => ?_)
      · replace hw := hw.1 c5
        exact b_X0_findBestBuyout_63 l C0 hK2 hK15 _ _ _ _ _ _ hw Z (lv_sub hl [0, 1, 2] rfl)
      · replace hw := hw.2 c5
        refine lv_aload_n hx hb dX0_findBestBuyout_38 rfl (lv_at hl 0 rfl) ?_
        refine z_get C0 Z in_X0 rfl 0 (by decide) rfl tm_1_103 (cx_lt C0 (by decide)) rfl rfl dX0_findBestBuyout_39 ?_
        refine lv_iload_n hx hb dX0_findBestBuyout_42 rfl (lv_at hl 2 rfl) ?_
        refine lv_iconst (v := 1) hx hb dX0_findBestBuyout_43 (by decide) ?_
        refine z_callVi C0 Z hl.1 (As := [.int x2, .int 1]) (rest := []) (k_X1_isIn l (cx_g C0) (isL8 (cx_g C0)) hw) (gv_X1_isIn tm_3_110) rfl ds_X1_isIn ⟨Nat.le_of_ble_eq_true rfl, Nat.le_of_ble_eq_true rfl⟩ (ci := 1) rfl (isL_lt0 (isL8 (cx_g C0))) (ent_L (isL8 (cx_g C0))) rfl rfl (Nat.le_of_ble_eq_true rfl) ⟨Nat.le_of_ble_eq_true rfl, Nat.le_of_ble_eq_true rfl⟩ dX0_findBestBuyout_44 (fun r7 v6 H locs hw Z => ?_)
        refine lv_if_eq (tgt := 63) hx hb dX0_findBestBuyout_47 (by decide) (fun c8 => ?_) (fun c8 => ?_)
        · replace hw := hw.1 c8
          exact b_X0_findBestBuyout_63 l C0 hK2 hK15 _ _ _ _ _ _ hw Z (lv_sub hl [0, 1, 2] rfl)
        · replace hw := hw.2 c8
          refine lv_aload_n hx hb dX0_findBestBuyout_50 rfl (lv_at hl 0 rfl) ?_
          refine lv_aload_n hx hb dX0_findBestBuyout_51 rfl (lv_at hl 0 rfl) ?_
          refine lv_iload_n hx hb dX0_findBestBuyout_52 rfl (lv_at hl 1 rfl) ?_
          refine lv_iload_n hx hb dX0_findBestBuyout_53 rfl (lv_at hl 2 rfl) ?_
          refine z_callVi C0 Z hl.1 (As := [.int x1, .int x2]) (rest := [.ref (gad G 4)]) (k_X0_buyoutGain l (cx_g C0) hw) (gv_X0_buyoutGain tm_3_120) rfl ds_X0_buyoutGain ⟨Nat.le_of_ble_eq_true rfl, Nat.le_of_ble_eq_true rfl⟩ (ci := 0) rfl (cx_lt C0 (by decide)) rfl rfl rfl (Nat.le_of_ble_eq_true rfl) ⟨Nat.le_of_ble_eq_true rfl, Nat.le_of_ble_eq_true rfl⟩ dX0_findBestBuyout_54 (fun r10 v9 H locs hw Z => ?_)
          refine lv_iconst (v := 1) hx hb dX0_findBestBuyout_57 (by decide) ?_
          refine lv_iload_n hx hb dX0_findBestBuyout_58 rfl (lv_at hl 1 rfl) ?_
          refine lv_iload_n hx hb dX0_findBestBuyout_59 rfl (lv_at hl 2 rfl) ?_
          refine z_callVv C0 Z hl.1 (As := [.int r10, .int 1, .int x1, .int x2]) (rest := []) (k_X0_keepBetter l (cx_g C0) hw) (gv_X0_keepBetter tm_3_112) rfl ds_X0_keepBetter ⟨Nat.le_of_ble_eq_true rfl, Nat.le_of_ble_eq_true rfl⟩ (ci := 0) rfl (cx_lt C0 (by decide)) rfl rfl rfl (Nat.le_of_ble_eq_true rfl) ⟨Nat.le_of_ble_eq_true rfl, Nat.le_of_ble_eq_true rfl⟩ dX0_findBestBuyout_60 (fun v11 H locs hw Z => ?_)
          exact b_X0_findBestBuyout_63 l C0 hK2 hK15 _ _ _ _ _ _ hw Z (lv_sub hl [0, 1, 2] rfl)
set_option maxRecDepth 100000 in
set_option maxHeartbeats 4000000 in
theorem b_X0_findBestBuyout_2 {p : Program} (l : Launch) {e : Env} {s : State} {m : MethodId} {args : Array Value} {below : List Frame} {meth : Method} {c : Code} {G : zG}   (C0 : Cx G RX0 cX0_findBestBuyout 3 none p s m args meth c) {Q : V3 → Prop} : ∀ (n : Nat) (x1 : Int32) (v : V3) (H : Heap) (locs : List Loc) (ls : Array Slot), w_X0_findBestBuyout_2 Q n x1 v → Zs G s v H locs → lv_has ls 3 [(0, .ref (gad G 4)), (1, .int x1)] → W p l e { frames := 4, cells := 0, slots := 0, locals := 98 } s m args below meth c H locs 0 0 (MQ below (QvZ G Q) args s 0 0 (zA G)) (F0 m 2 ls []) := by
  have hx := C0.1
  have hb := C0.2.1
  intro n
  induction n with
  | zero =>
    intro x1 v H locs ls hw Z hl
    exact hw.elim
  | succ n hK2 =>
    intro x1 v H locs ls hw Z hl
    rw [w_X0_findBestBuyout_2] at hw
    refine lv_iload_n hx hb dX0_findBestBuyout_2 rfl (lv_at hl 1 rfl) ?_
    refine lv_aload_n hx hb dX0_findBestBuyout_3 rfl (lv_at hl 0 rfl) ?_
    refine z_get C0 Z in_X0 rfl 0 (by decide) rfl tm_1_103 (cx_lt C0 (by decide)) rfl rfl dX0_findBestBuyout_4 ?_
    refine z_get C0 Z in_X1 rfl 8 (by decide) rfl tm_1_63 (isL_lt0 (isL8 (cx_g C0))) (ent_L (isL8 (cx_g C0))) rfl dX0_findBestBuyout_7 ?_
    refine lv_icmp_ge (tgt := 75) hx hb dX0_findBestBuyout_10 (by decide) (fun c1 => ?_) (fun c1 => ?_)
    · replace hw := hw.1 c1
      exact z_vret C0 Z hw dX0_findBestBuyout_75
    · replace hw := hw.2 c1
      refine lv_iconst (v := 0) hx hb dX0_findBestBuyout_13 (by decide) ?_
      refine lv_istore_n (lv' := [(2, .int 0), (0, .ref (gad G 4)), (1, .int x1)]) hx hb dX0_findBestBuyout_14 rfl hl (by decide) rfl (fun ls hl => ?_)
      obtain ⟨m15, hw⟩ := hw
      exact b_X0_findBestBuyout_15 l C0 hK2 m15 _ _ _ _ _ _ hw Z (lv_sub hl [1, 2, 0] rfl)
set_option maxRecDepth 100000 in
set_option maxHeartbeats 4000000 in
theorem k_X0_findBestBuyout (l : Launch) {G : zG} (hg : 116 ≤ gn G)  {v : V3} {Q : V3 → Prop} (hw : w_X0_findBestBuyout v Q) : Mz l yX0_findBestBuyout cX0_findBestBuyout 3 none 4 98 G [.ref (gad G 4)] v (QvZ G Q) := by
  rw [w_X0_findBestBuyout] at hw
  refine z_ofW hg (by decide) (Nat.le_of_ble_eq_true rfl) ?_
  intro p e s m args below meth c ls C0 Z hl
  have hx := C0.1
  have hb := C0.2.1
  replace hl : lv_has ls 3 [(0, .ref (gad G 4))] := hl
  generalize s.heap = H at Z ⊢
  generalize ([] : List Loc) = locs at Z ⊢
  refine lv_iconst (v := 0) hx hb dX0_findBestBuyout_0 (by decide) ?_
  refine lv_istore_n (lv' := [(1, .int 0), (0, .ref (gad G 4))]) hx hb dX0_findBestBuyout_1 rfl hl (by decide) rfl (fun ls hl => ?_)
  obtain ⟨m2, hw⟩ := hw
  exact b_X0_findBestBuyout_2 l C0 m2 _ _ _ _ _ hw Z (lv_sub hl [1, 0] rfl)
-- X0_findBest: room (5, 120)
theorem dX0_findBest_0 : decode cX0_findBest 0 = .ok (.aload_n 0, 1) := by decide +kernel
theorem dX0_findBest_1 : decode cX0_findBest 1 = .ok (.getfield 9, 3) := by decide +kernel
theorem dX0_findBest_4 : decode cX0_findBest 4 = .ok (.iconst 0, 1) := by decide +kernel
theorem dX0_findBest_5 : decode cX0_findBest 5 = .ok (.iconst 0, 1) := by decide +kernel
theorem dX0_findBest_6 : decode cX0_findBest 6 = .ok (.iastore, 1) := by decide +kernel
theorem dX0_findBest_7 : decode cX0_findBest 7 = .ok (.aload_n 0, 1) := by decide +kernel
theorem dX0_findBest_8 : decode cX0_findBest 8 = .ok (.invokevirtual 67, 3) := by decide +kernel
theorem dX0_findBest_11 : decode cX0_findBest 11 = .ok (.aload_n 0, 1) := by decide +kernel
theorem dX0_findBest_12 : decode cX0_findBest 12 = .ok (.invokevirtual 70, 3) := by decide +kernel
theorem dX0_findBest_15 : decode cX0_findBest 15 = .ok (.aload_n 0, 1) := by decide +kernel
theorem dX0_findBest_16 : decode cX0_findBest 16 = .ok (.getfield 9, 3) := by decide +kernel
theorem dX0_findBest_19 : decode cX0_findBest 19 = .ok (.iconst 0, 1) := by decide +kernel
theorem dX0_findBest_20 : decode cX0_findBest 20 = .ok (.iaload, 1) := by decide +kernel
theorem dX0_findBest_21 : decode cX0_findBest 21 = .ok (.ifCond .le 7, 3) := by decide +kernel
theorem dX0_findBest_24 : decode cX0_findBest 24 = .ok (.iconst 1, 1) := by decide +kernel
theorem dX0_findBest_25 : decode cX0_findBest 25 = .ok (.goto 4, 3) := by decide +kernel
theorem dX0_findBest_28 : decode cX0_findBest 28 = .ok (.iconst 0, 1) := by decide +kernel
theorem dX0_findBest_29 : decode cX0_findBest 29 = .ok (.ireturn, 1) := by decide +kernel
def w_X0_findBest_29  (Q : Int32 → V3 → Prop) (s0 : Int32) (v : V3) : Prop := (s0 = 0 ∨ s0 = 1) ∧ Q s0 v
def w_X0_findBest  (v : V3) (Q : Int32 → V3 → Prop) : Prop := ∀ v1 : V3, v1 = up2 v 5 0 0 → w_X0_findBestSwap v1 (fun v2 => w_X0_findBestBuyout v2 (fun v3 => (((v3 5 0) ≤ 0 → w_X0_findBest_29 Q 0 v3) ∧ (¬ (v3 5 0) ≤ 0 → w_X0_findBest_29 Q 1 v3))))
set_option maxRecDepth 100000 in
set_option maxHeartbeats 4000000 in
theorem b_X0_findBest_29 {p : Program} (l : Launch) {e : Env} {s : State} {m : MethodId} {args : Array Value} {below : List Frame} {meth : Method} {c : Code} {G : zG}   (C0 : Cx G RX0 cX0_findBest 1 (some .boolean) p s m args meth c) {Q : Int32 → V3 → Prop} : ∀ (s0 : Int32) (v : V3) (H : Heap) (locs : List Loc) (ls : Array Slot), w_X0_findBest_29 Q s0 v → Zs G s v H locs → lv_has ls 1 [] → W p l e { frames := 5, cells := 0, slots := 0, locals := 120 } s m args below meth c H locs 0 0 (MQ below (QiZ G Q) args s 0 0 (zA G)) (F0 m 29 ls [.int s0]) := by
  have hx := C0.1
  have hb := C0.2.1
  intro s0 v H locs ls hw Z hl
  rw [w_X0_findBest_29] at hw
  obtain ⟨h5, hw⟩ := hw
  exact z_zret C0 Z h5 hw dX0_findBest_29
set_option maxRecDepth 100000 in
set_option maxHeartbeats 4000000 in
theorem k_X0_findBest (l : Launch) {G : zG} (hg : 116 ≤ gn G)  {v : V3} {Q : Int32 → V3 → Prop} (hw : w_X0_findBest v Q) : Mz l yX0_findBest cX0_findBest 1 (some .boolean) 5 120 G [.ref (gad G 4)] v (QiZ G Q) := by
  rw [w_X0_findBest] at hw
  refine z_ofW hg (by decide) (Nat.le_of_ble_eq_true rfl) ?_
  intro p e s m args below meth c ls C0 Z hl
  have hx := C0.1
  have hb := C0.2.1
  replace hl : lv_has ls 1 [(0, .ref (gad G 4))] := hl
  generalize s.heap = H at Z ⊢
  generalize ([] : List Loc) = locs at Z ⊢
  refine lv_aload_n hx hb dX0_findBest_0 rfl (lv_at hl 0 rfl) ?_
  refine z_get C0 Z in_X0 rfl 1 (by decide) rfl tm_1_104 (cx_lt C0 (by decide)) rfl rfl dX0_findBest_1 ?_
  refine lv_iconst (v := 0) hx hb dX0_findBest_4 (by decide) ?_
  refine lv_iconst (v := 0) hx hb dX0_findBest_5 (by decide) ?_
  refine z_iastk C0 Z (cx_lt C0 (by decide)) (fun _ => rfl) in_0_5 nc_0 dX0_findBest_6 (fun H locs Z => ?_)
  obtain ⟨v1, ev1⟩ : ∃ z : V3, z = up2 v 5 0 0 := ⟨_, rfl⟩
  rw [← ev1] at Z
  replace hw := hw v1 ev1
  refine lv_aload_n hx hb dX0_findBest_7 rfl (lv_at hl 0 rfl) ?_
  refine z_callVv C0 Z hl.1 (As := []) (rest := []) (k_X0_findBestSwap l (cx_g C0) hw) (gv_X0_findBestSwap tm_3_106) rfl ds_X0_findBestSwap ⟨Nat.le_of_ble_eq_true rfl, Nat.le_of_ble_eq_true rfl⟩ (ci := 0) rfl (cx_lt C0 (by decide)) rfl rfl rfl (Nat.le_of_ble_eq_true rfl) ⟨Nat.le_of_ble_eq_true rfl, Nat.le_of_ble_eq_true rfl⟩ dX0_findBest_8 (fun v2 H locs hw Z => ?_)
  refine lv_aload_n hx hb dX0_findBest_11 rfl (lv_at hl 0 rfl) ?_
  refine z_callVv C0 Z hl.1 (As := []) (rest := []) (k_X0_findBestBuyout l (cx_g C0) hw) (gv_X0_findBestBuyout tm_3_116) rfl ds_X0_findBestBuyout ⟨Nat.le_of_ble_eq_true rfl, Nat.le_of_ble_eq_true rfl⟩ (ci := 0) rfl (cx_lt C0 (by decide)) rfl rfl rfl (Nat.le_of_ble_eq_true rfl) ⟨Nat.le_of_ble_eq_true rfl, Nat.le_of_ble_eq_true rfl⟩ dX0_findBest_12 (fun v3 H locs hw Z => ?_)
  refine lv_aload_n hx hb dX0_findBest_15 rfl (lv_at hl 0 rfl) ?_
  refine z_get C0 Z in_X0 rfl 1 (by decide) rfl tm_1_104 (cx_lt C0 (by decide)) rfl rfl dX0_findBest_16 ?_
  refine lv_iconst (v := 0) hx hb dX0_findBest_19 (by decide) ?_
  refine z_ialdk C0 Z (cx_lt C0 (by decide)) rfl in_0_5 nc_0 dX0_findBest_20 ?_
  refine lv_if_le (tgt := 28) hx hb dX0_findBest_21 (by decide) (fun c4 => ?_) (fun c4 => ?_)
  · replace hw := hw.1 c4
    refine lv_iconst (v := 0) hx hb dX0_findBest_28 (by decide) ?_
    exact b_X0_findBest_29 l C0 _ _ _ _ _ hw Z (lv_sub hl [] rfl)
  · replace hw := hw.2 c4
    refine lv_iconst (v := 1) hx hb dX0_findBest_24 (by decide) ?_
    refine lv_goto (tgt := 29) hx hb dX0_findBest_25 (by decide) ?_
    exact b_X0_findBest_29 l C0 _ _ _ _ _ hw Z (lv_sub hl [] rfl)
-- X0_makeFound: room (4, 95)
theorem dX0_makeFound_0 : decode cX0_makeFound 0 = .ok (.aload_n 0, 1) := by decide +kernel
theorem dX0_makeFound_1 : decode cX0_makeFound 1 = .ok (.getfield 9, 3) := by decide +kernel
theorem dX0_makeFound_4 : decode cX0_makeFound 4 = .ok (.iconst 1, 1) := by decide +kernel
theorem dX0_makeFound_5 : decode cX0_makeFound 5 = .ok (.iaload, 1) := by decide +kernel
theorem dX0_makeFound_6 : decode cX0_makeFound 6 = .ok (.ifCond .ne 22, 3) := by decide +kernel
theorem dX0_makeFound_9 : decode cX0_makeFound 9 = .ok (.aload_n 0, 1) := by decide +kernel
theorem dX0_makeFound_10 : decode cX0_makeFound 10 = .ok (.aload_n 0, 1) := by decide +kernel
theorem dX0_makeFound_11 : decode cX0_makeFound 11 = .ok (.getfield 9, 3) := by decide +kernel
theorem dX0_makeFound_14 : decode cX0_makeFound 14 = .ok (.iconst 2, 1) := by decide +kernel
theorem dX0_makeFound_15 : decode cX0_makeFound 15 = .ok (.iaload, 1) := by decide +kernel
theorem dX0_makeFound_16 : decode cX0_makeFound 16 = .ok (.aload_n 0, 1) := by decide +kernel
theorem dX0_makeFound_17 : decode cX0_makeFound 17 = .ok (.getfield 9, 3) := by decide +kernel
theorem dX0_makeFound_20 : decode cX0_makeFound 20 = .ok (.iconst 3, 1) := by decide +kernel
theorem dX0_makeFound_21 : decode cX0_makeFound 21 = .ok (.iaload, 1) := by decide +kernel
theorem dX0_makeFound_22 : decode cX0_makeFound 22 = .ok (.invokevirtual 89, 3) := by decide +kernel
theorem dX0_makeFound_25 : decode cX0_makeFound 25 = .ok (.goto 19, 3) := by decide +kernel
theorem dX0_makeFound_28 : decode cX0_makeFound 28 = .ok (.aload_n 0, 1) := by decide +kernel
theorem dX0_makeFound_29 : decode cX0_makeFound 29 = .ok (.aload_n 0, 1) := by decide +kernel
theorem dX0_makeFound_30 : decode cX0_makeFound 30 = .ok (.getfield 9, 3) := by decide +kernel
theorem dX0_makeFound_33 : decode cX0_makeFound 33 = .ok (.iconst 2, 1) := by decide +kernel
theorem dX0_makeFound_34 : decode cX0_makeFound 34 = .ok (.iaload, 1) := by decide +kernel
theorem dX0_makeFound_35 : decode cX0_makeFound 35 = .ok (.aload_n 0, 1) := by decide +kernel
theorem dX0_makeFound_36 : decode cX0_makeFound 36 = .ok (.getfield 9, 3) := by decide +kernel
theorem dX0_makeFound_39 : decode cX0_makeFound 39 = .ok (.iconst 3, 1) := by decide +kernel
theorem dX0_makeFound_40 : decode cX0_makeFound 40 = .ok (.iaload, 1) := by decide +kernel
theorem dX0_makeFound_41 : decode cX0_makeFound 41 = .ok (.invokevirtual 92, 3) := by decide +kernel
theorem dX0_makeFound_44 : decode cX0_makeFound 44 = .ok (.return_, 1) := by decide +kernel
def w_X0_makeFound_44  (Q : V3 → Prop) (v : V3) : Prop := Q v
def w_X0_makeFound  (v : V3) (Q : V3 → Prop) : Prop := ((¬ (v 5 1) = 0 → w_X0_makeBuyout (v 5 2) (v 5 3) v (fun v2 => w_X0_makeFound_44 Q v2)) ∧ ((v 5 1) = 0 → w_X0_makeSwap (v 5 2) (v 5 3) v (fun v3 => w_X0_makeFound_44 Q v3)))
set_option maxRecDepth 100000 in
set_option maxHeartbeats 4000000 in
theorem b_X0_makeFound_44 {p : Program} (l : Launch) {e : Env} {s : State} {m : MethodId} {args : Array Value} {below : List Frame} {meth : Method} {c : Code} {G : zG}   (C0 : Cx G RX0 cX0_makeFound 1 none p s m args meth c) {Q : V3 → Prop} : ∀ (v : V3) (H : Heap) (locs : List Loc) (ls : Array Slot), w_X0_makeFound_44 Q v → Zs G s v H locs → lv_has ls 1 [] → W p l e { frames := 4, cells := 0, slots := 0, locals := 95 } s m args below meth c H locs 0 0 (MQ below (QvZ G Q) args s 0 0 (zA G)) (F0 m 44 ls []) := by
  have hx := C0.1
  have hb := C0.2.1
  intro v H locs ls hw Z hl
  rw [w_X0_makeFound_44] at hw
  exact z_vret C0 Z hw dX0_makeFound_44
set_option maxRecDepth 100000 in
set_option maxHeartbeats 4000000 in
theorem k_X0_makeFound (l : Launch) {G : zG} (hg : 116 ≤ gn G)  {v : V3} {Q : V3 → Prop} (hw : w_X0_makeFound v Q) : Mz l yX0_makeFound cX0_makeFound 1 none 4 95 G [.ref (gad G 4)] v (QvZ G Q) := by
  rw [w_X0_makeFound] at hw
  refine z_ofW hg (by decide) (Nat.le_of_ble_eq_true rfl) ?_
  intro p e s m args below meth c ls C0 Z hl
  have hx := C0.1
  have hb := C0.2.1
  replace hl : lv_has ls 1 [(0, .ref (gad G 4))] := hl
  generalize s.heap = H at Z ⊢
  generalize ([] : List Loc) = locs at Z ⊢
  refine lv_aload_n hx hb dX0_makeFound_0 rfl (lv_at hl 0 rfl) ?_
  refine z_get C0 Z in_X0 rfl 1 (by decide) rfl tm_1_104 (cx_lt C0 (by decide)) rfl rfl dX0_makeFound_1 ?_
  refine lv_iconst (v := 1) hx hb dX0_makeFound_4 (by decide) ?_
  refine z_ialdk C0 Z (cx_lt C0 (by decide)) rfl in_1_5 nc_1 dX0_makeFound_5 ?_
  refine lv_if_ne (tgt := 28) hx hb dX0_makeFound_6 (by decide) (fun c1 => ?_) (fun c1 => ?_)
  · replace hw := hw.1 c1
    refine lv_aload_n hx hb dX0_makeFound_28 rfl (lv_at hl 0 rfl) ?_
    refine lv_aload_n hx hb dX0_makeFound_29 rfl (lv_at hl 0 rfl) ?_
    refine z_get C0 Z in_X0 rfl 1 (by decide) rfl tm_1_104 (cx_lt C0 (by decide)) rfl rfl dX0_makeFound_30 ?_
    refine lv_iconst (v := 2) hx hb dX0_makeFound_33 (by decide) ?_
    refine z_ialdk C0 Z (cx_lt C0 (by decide)) rfl in_2_5 nc_2 dX0_makeFound_34 ?_
    refine lv_aload_n hx hb dX0_makeFound_35 rfl (lv_at hl 0 rfl) ?_
    refine z_get C0 Z in_X0 rfl 1 (by decide) rfl tm_1_104 (cx_lt C0 (by decide)) rfl rfl dX0_makeFound_36 ?_
    refine lv_iconst (v := 3) hx hb dX0_makeFound_39 (by decide) ?_
    refine z_ialdk C0 Z (cx_lt C0 (by decide)) rfl in_3_5 nc_3 dX0_makeFound_40 ?_
    refine z_callVv C0 Z hl.1 (As := [.int (v 5 2), .int (v 5 3)]) (rest := []) (k_X0_makeBuyout l (cx_g C0) hw) (gv_X0_makeBuyout tm_3_159) rfl ds_X0_makeBuyout ⟨Nat.le_of_ble_eq_true rfl, Nat.le_of_ble_eq_true rfl⟩ (ci := 0) rfl (cx_lt C0 (by decide)) rfl rfl rfl (Nat.le_of_ble_eq_true rfl) ⟨Nat.le_of_ble_eq_true rfl, Nat.le_of_ble_eq_true rfl⟩ dX0_makeFound_41 (fun v2 H locs hw Z => ?_)
    exact b_X0_makeFound_44 l C0 _ _ _ _ hw Z (lv_sub hl [] rfl)
  · replace hw := hw.2 c1
    refine lv_aload_n hx hb dX0_makeFound_9 rfl (lv_at hl 0 rfl) ?_
    refine lv_aload_n hx hb dX0_makeFound_10 rfl (lv_at hl 0 rfl) ?_
    refine z_get C0 Z in_X0 rfl 1 (by decide) rfl tm_1_104 (cx_lt C0 (by decide)) rfl rfl dX0_makeFound_11 ?_
    refine lv_iconst (v := 2) hx hb dX0_makeFound_14 (by decide) ?_
    refine z_ialdk C0 Z (cx_lt C0 (by decide)) rfl in_2_5 nc_2 dX0_makeFound_15 ?_
    refine lv_aload_n hx hb dX0_makeFound_16 rfl (lv_at hl 0 rfl) ?_
    refine z_get C0 Z in_X0 rfl 1 (by decide) rfl tm_1_104 (cx_lt C0 (by decide)) rfl rfl dX0_makeFound_17 ?_
    refine lv_iconst (v := 3) hx hb dX0_makeFound_20 (by decide) ?_
    refine z_ialdk C0 Z (cx_lt C0 (by decide)) rfl in_3_5 nc_3 dX0_makeFound_21 ?_
    refine z_callVv C0 Z hl.1 (As := [.int (v 5 2), .int (v 5 3)]) (rest := []) (k_X0_makeSwap l (cx_g C0) hw) (gv_X0_makeSwap tm_3_158) rfl ds_X0_makeSwap ⟨Nat.le_of_ble_eq_true rfl, Nat.le_of_ble_eq_true rfl⟩ (ci := 0) rfl (cx_lt C0 (by decide)) rfl rfl rfl (Nat.le_of_ble_eq_true rfl) ⟨Nat.le_of_ble_eq_true rfl, Nat.le_of_ble_eq_true rfl⟩ dX0_makeFound_22 (fun v3 H locs hw Z => ?_)
    refine lv_goto (tgt := 44) hx hb dX0_makeFound_25 (by decide) ?_
    exact b_X0_makeFound_44 l C0 _ _ _ _ hw Z (lv_sub hl [] rfl)
