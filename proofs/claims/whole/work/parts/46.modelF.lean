-- X4_count: room (4, 93)
theorem dX4_count_0 : decode cX4_count 0 = .ok (.aload_n 0, 1) := by decide +kernel
theorem dX4_count_1 : decode cX4_count 1 = .ok (.iconst 0, 1) := by decide +kernel
theorem dX4_count_2 : decode cX4_count 2 = .ok (.putfield 55, 3) := by decide +kernel
theorem dX4_count_5 : decode cX4_count 5 = .ok (.iload_n 1, 1) := by decide +kernel
theorem dX4_count_6 : decode cX4_count 6 = .ok (.tableswitch 72 8 13 #[38, 38, 38, 47, 47, 60], 38) := by decide +kernel
theorem dX4_count_44 : decode cX4_count 44 = .ok (.aload_n 0, 1) := by decide +kernel
theorem dX4_count_45 : decode cX4_count 45 = .ok (.iload_n 1, 1) := by decide +kernel
theorem dX4_count_46 : decode cX4_count 46 = .ok (.bipush 8, 2) := by decide +kernel
theorem dX4_count_48 : decode cX4_count 48 = .ok (.isub, 1) := by decide +kernel
theorem dX4_count_49 : decode cX4_count 49 = .ok (.invokevirtual 220, 3) := by decide +kernel
theorem dX4_count_52 : decode cX4_count 52 = .ok (.ireturn, 1) := by decide +kernel
theorem dX4_count_53 : decode cX4_count 53 = .ok (.aload_n 0, 1) := by decide +kernel
theorem dX4_count_54 : decode cX4_count 54 = .ok (.getfield 7, 3) := by decide +kernel
theorem dX4_count_57 : decode cX4_count 57 = .ok (.bipush 8, 2) := by decide +kernel
theorem dX4_count_59 : decode cX4_count 59 = .ok (.iload_n 1, 1) := by decide +kernel
theorem dX4_count_60 : decode cX4_count 60 = .ok (.iadd, 1) := by decide +kernel
theorem dX4_count_61 : decode cX4_count 61 = .ok (.bipush 11, 2) := by decide +kernel
theorem dX4_count_63 : decode cX4_count 63 = .ok (.isub, 1) := by decide +kernel
theorem dX4_count_64 : decode cX4_count 64 = .ok (.iaload, 1) := by decide +kernel
theorem dX4_count_65 : decode cX4_count 65 = .ok (.ireturn, 1) := by decide +kernel
theorem dX4_count_66 : decode cX4_count 66 = .ok (.aload_n 0, 1) := by decide +kernel
theorem dX4_count_67 : decode cX4_count 67 = .ok (.aload_n 0, 1) := by decide +kernel
theorem dX4_count_68 : decode cX4_count 68 = .ok (.getfield 7, 3) := by decide +kernel
theorem dX4_count_71 : decode cX4_count 71 = .ok (.bipush 7, 2) := by decide +kernel
theorem dX4_count_73 : decode cX4_count 73 = .ok (.iaload, 1) := by decide +kernel
theorem dX4_count_74 : decode cX4_count 74 = .ok (.invokevirtual 223, 3) := by decide +kernel
theorem dX4_count_77 : decode cX4_count 77 = .ok (.ireturn, 1) := by decide +kernel
theorem dX4_count_78 : decode cX4_count 78 = .ok (.iload_n 1, 1) := by decide +kernel
theorem dX4_count_79 : decode cX4_count 79 = .ok (.i2l, 1) := by decide +kernel
theorem dX4_count_80 : decode cX4_count 80 = .ok (.lconst 0, 1) := by decide +kernel
theorem dX4_count_81 : decode cX4_count 81 = .ok (.ldc2_w 226, 3) := by decide +kernel
theorem dX4_count_84 : decode cX4_count 84 = .ok (.invokestatic 67, 3) := by decide +kernel
theorem dX4_count_87 : decode cX4_count 87 = .ok (.ifCond .eq 12, 3) := by decide +kernel
theorem dX4_count_90 : decode cX4_count 90 = .ok (.aload_n 0, 1) := by decide +kernel
theorem dX4_count_91 : decode cX4_count 91 = .ok (.getfield 7, 3) := by decide +kernel
theorem dX4_count_94 : decode cX4_count 94 = .ok (.iload_n 1, 1) := by decide +kernel
theorem dX4_count_95 : decode cX4_count 95 = .ok (.iaload, 1) := by decide +kernel
theorem dX4_count_96 : decode cX4_count 96 = .ok (.goto 8, 3) := by decide +kernel
theorem dX4_count_99 : decode cX4_count 99 = .ok (.aload_n 0, 1) := by decide +kernel
theorem dX4_count_100 : decode cX4_count 100 = .ok (.iconst 1, 1) := by decide +kernel
theorem dX4_count_101 : decode cX4_count 101 = .ok (.invokevirtual 78, 3) := by decide +kernel
theorem dX4_count_104 : decode cX4_count 104 = .ok (.ireturn, 1) := by decide +kernel
def w_X4_count_104  (Q : Int32 → V3 → Prop) (s0 : Int32) (v : V3) : Prop := Q s0 v
def w_X4_count (a1 : Int32) (v : V3) (Q : Int32 → V3 → Prop) : Prop := ∀ v1 : V3, v1 = up2 v 7 11 0 → ((a1 = 8 → w_X4_inState (a1 - 8) v1 (fun r4 v3 => Q r4 v3)) ∧ (a1 = 9 → w_X4_inState (a1 - 8) v1 (fun r7 v6 => Q r7 v6)) ∧ (a1 = 10 → w_X4_inState (a1 - 8) v1 (fun r10 v9 => Q r10 v9)) ∧ (a1 = 11 → vp_in ((8 + a1) - 11) 474 ∧ Q (v1 8 (ix ((8 + a1) - 11))) v1) ∧ (a1 = 12 → vp_in ((8 + a1) - 11) 474 ∧ Q (v1 8 (ix ((8 + a1) - 11))) v1) ∧ (a1 = 13 → w_X4_bytesAt (v1 8 7) v1 (fun r17 v16 => Q r17 v16)) ∧ (¬ a1 = 8 ∧ ¬ a1 = 9 ∧ ¬ a1 = 10 ∧ ¬ a1 = 11 ∧ ¬ a1 = 12 ∧ ¬ a1 = 13 → w_X4_isBetween ((a1).toInt64) 0 7 v1 (fun r19 v18 => ((r19 = 0 → w_X4_fail 1 v18 (fun r22 v21 => w_X4_count_104 Q r22 v21)) ∧ (¬ r19 = 0 → vp_in a1 474 ∧ w_X4_count_104 Q (v18 8 (ix a1)) v18)))))
set_option maxRecDepth 100000 in
set_option maxHeartbeats 4000000 in
theorem b_X4_count_104 {p : Program} (l : Launch) {e : Env} {s : State} {m : MethodId} {args : Array Value} {below : List Frame} {meth : Method} {c : Code} {G : zG}   (C0 : Cx G RX4 cX4_count 2 (some .int) p s m args meth c) {Q : Int32 → V3 → Prop} : ∀ (s0 : Int32) (v : V3) (H : Heap) (locs : List Loc) (ls : Array Slot), w_X4_count_104 Q s0 v → Zs G s v H locs → lv_has ls 2 [] → W p l e { frames := 4, cells := 0, slots := 0, locals := 93 } s m args below meth c H locs 0 0 (MQ below (QiZ G Q) args s 0 0 (zA G)) (F0 m 104 ls [.int s0]) := by
  have hx := C0.1
  have hb := C0.2.1
  intro s0 v H locs ls hw Z hl
  rw [w_X4_count_104] at hw
  exact z_iret C0 Z hw dX4_count_104
set_option maxRecDepth 100000 in
set_option maxHeartbeats 4000000 in
theorem k_X4_count (l : Launch) {G : zG} (hg : 129 ≤ gn G) {a1 : Int32}  {v : V3} {Q : Int32 → V3 → Prop} (hw : w_X4_count a1 v Q) : Mz l yX4_count cX4_count 2 (some .int) 4 93 G [.ref (gad G 7), .int a1] v (QiZ G Q) := by
  rw [w_X4_count] at hw
  refine z_ofW hg (by decide) (Nat.le_of_ble_eq_true rfl) ?_
  intro p e s m args below meth c ls C0 Z hl
  have hx := C0.1
  have hb := C0.2.1
  replace hl : lv_has ls 2 [(0, .ref (gad G 7)), (1, .int a1)] := hl
  generalize s.heap = H at Z ⊢
  generalize ([] : List Loc) = locs at Z ⊢
  refine lv_aload_n hx hb dX4_count_0 rfl (lv_at hl 0 rfl) ?_
  refine lv_iconst (v := 0) hx hb dX4_count_1 (by decide) ?_
  refine z_put C0 Z in_X4 tyX4_ok nmX4 rfl 11 (by decide) rfl rfl tm_4_214 (cx_lt C0 (by decide)) rfl p_X4_11 (fun c' h => up2_off _ _ _ h) rfl rfl (Nat.le_of_ble_eq_true rfl) dX4_count_2 (fun H locs Z => ?_)
  obtain ⟨v1, ev1⟩ : ∃ z : V3, z = up2 v 7 11 0 := ⟨_, rfl⟩
  rw [← ev1] at Z
  replace hw := hw v1 ev1
  refine lv_iload_n hx hb dX4_count_5 rfl (lv_at hl 1 rfl) ?_
  by_cases c2 : a1 = 8
  · refine lv_tableIn (tgt := 44) (off := 38) hx hb dX4_count_6 (by rw [c2]; decide) (by rw [c2]; decide) (by rw [c2]; rfl) (by decide) ?_
    replace hw := hw.1 c2
    refine lv_aload_n hx hb dX4_count_44 rfl (lv_at hl 0 rfl) ?_
    refine lv_iload_n hx hb dX4_count_45 rfl (lv_at hl 1 rfl) ?_
    refine lv_bipush (v := 8) hx hb dX4_count_46 (by decide) ?_
    refine lv_isub hx hb dX4_count_48 ?_
    refine z_callVi C0 Z hl.1 (As := [.int (a1 - 8)]) (rest := []) (k_X4_inState l (cx_g C0) hw) (gv_X4_inState tm_5_237) rfl ds_X4_inState ⟨Nat.le_of_ble_eq_true rfl, Nat.le_of_ble_eq_true rfl⟩ (ci := 4) rfl (cx_lt C0 (by decide)) rfl rfl rfl (Nat.le_of_ble_eq_true rfl) ⟨Nat.le_of_ble_eq_true rfl, Nat.le_of_ble_eq_true rfl⟩ dX4_count_49 (fun r4 v3 H locs hw Z => ?_)
    exact z_iret C0 Z hw dX4_count_52
  replace hw := hw.2
  by_cases c5 : a1 = 9
  · refine lv_tableIn (tgt := 44) (off := 38) hx hb dX4_count_6 (by rw [c5]; decide) (by rw [c5]; decide) (by rw [c5]; rfl) (by decide) ?_
    replace hw := hw.1 c5
    refine lv_aload_n hx hb dX4_count_44 rfl (lv_at hl 0 rfl) ?_
    refine lv_iload_n hx hb dX4_count_45 rfl (lv_at hl 1 rfl) ?_
    refine lv_bipush (v := 8) hx hb dX4_count_46 (by decide) ?_
    refine lv_isub hx hb dX4_count_48 ?_
    refine z_callVi C0 Z hl.1 (As := [.int (a1 - 8)]) (rest := []) (k_X4_inState l (cx_g C0) hw) (gv_X4_inState tm_5_237) rfl ds_X4_inState ⟨Nat.le_of_ble_eq_true rfl, Nat.le_of_ble_eq_true rfl⟩ (ci := 4) rfl (cx_lt C0 (by decide)) rfl rfl rfl (Nat.le_of_ble_eq_true rfl) ⟨Nat.le_of_ble_eq_true rfl, Nat.le_of_ble_eq_true rfl⟩ dX4_count_49 (fun r7 v6 H locs hw Z => ?_)
    exact z_iret C0 Z hw dX4_count_52
  replace hw := hw.2
  by_cases c8 : a1 = 10
  · refine lv_tableIn (tgt := 44) (off := 38) hx hb dX4_count_6 (by rw [c8]; decide) (by rw [c8]; decide) (by rw [c8]; rfl) (by decide) ?_
    replace hw := hw.1 c8
    refine lv_aload_n hx hb dX4_count_44 rfl (lv_at hl 0 rfl) ?_
    refine lv_iload_n hx hb dX4_count_45 rfl (lv_at hl 1 rfl) ?_
    refine lv_bipush (v := 8) hx hb dX4_count_46 (by decide) ?_
    refine lv_isub hx hb dX4_count_48 ?_
    refine z_callVi C0 Z hl.1 (As := [.int (a1 - 8)]) (rest := []) (k_X4_inState l (cx_g C0) hw) (gv_X4_inState tm_5_237) rfl ds_X4_inState ⟨Nat.le_of_ble_eq_true rfl, Nat.le_of_ble_eq_true rfl⟩ (ci := 4) rfl (cx_lt C0 (by decide)) rfl rfl rfl (Nat.le_of_ble_eq_true rfl) ⟨Nat.le_of_ble_eq_true rfl, Nat.le_of_ble_eq_true rfl⟩ dX4_count_49 (fun r10 v9 H locs hw Z => ?_)
    exact z_iret C0 Z hw dX4_count_52
  replace hw := hw.2
  by_cases c11 : a1 = 11
  · refine lv_tableIn (tgt := 53) (off := 47) hx hb dX4_count_6 (by rw [c11]; decide) (by rw [c11]; decide) (by rw [c11]; rfl) (by decide) ?_
    replace hw := hw.1 c11
    refine lv_aload_n hx hb dX4_count_53 rfl (lv_at hl 0 rfl) ?_
    refine z_get C0 Z in_X4 rfl 0 (by decide) rfl tm_4_203 (cx_lt C0 (by decide)) rfl rfl dX4_count_54 ?_
    refine lv_bipush (v := 8) hx hb dX4_count_57 (by decide) ?_
    refine lv_iload_n hx hb dX4_count_59 rfl (lv_at hl 1 rfl) ?_
    refine lv_iadd hx hb dX4_count_60 ?_
    refine lv_bipush (v := 11) hx hb dX4_count_61 (by decide) ?_
    refine lv_isub hx hb dX4_count_63 ?_
    obtain ⟨h12, hw⟩ := hw
    refine z_iald C0 Z (cx_lt C0 (by decide)) rfl h12 dX4_count_64 ?_
    exact z_iret C0 Z hw dX4_count_65
  replace hw := hw.2
  by_cases c13 : a1 = 12
  · refine lv_tableIn (tgt := 53) (off := 47) hx hb dX4_count_6 (by rw [c13]; decide) (by rw [c13]; decide) (by rw [c13]; rfl) (by decide) ?_
    replace hw := hw.1 c13
    refine lv_aload_n hx hb dX4_count_53 rfl (lv_at hl 0 rfl) ?_
    refine z_get C0 Z in_X4 rfl 0 (by decide) rfl tm_4_203 (cx_lt C0 (by decide)) rfl rfl dX4_count_54 ?_
    refine lv_bipush (v := 8) hx hb dX4_count_57 (by decide) ?_
    refine lv_iload_n hx hb dX4_count_59 rfl (lv_at hl 1 rfl) ?_
    refine lv_iadd hx hb dX4_count_60 ?_
    refine lv_bipush (v := 11) hx hb dX4_count_61 (by decide) ?_
    refine lv_isub hx hb dX4_count_63 ?_
    obtain ⟨h14, hw⟩ := hw
    refine z_iald C0 Z (cx_lt C0 (by decide)) rfl h14 dX4_count_64 ?_
    exact z_iret C0 Z hw dX4_count_65
  replace hw := hw.2
  by_cases c15 : a1 = 13
  · refine lv_tableIn (tgt := 66) (off := 60) hx hb dX4_count_6 (by rw [c15]; decide) (by rw [c15]; decide) (by rw [c15]; rfl) (by decide) ?_
    replace hw := hw.1 c15
    refine lv_aload_n hx hb dX4_count_66 rfl (lv_at hl 0 rfl) ?_
    refine lv_aload_n hx hb dX4_count_67 rfl (lv_at hl 0 rfl) ?_
    refine z_get C0 Z in_X4 rfl 0 (by decide) rfl tm_4_203 (cx_lt C0 (by decide)) rfl rfl dX4_count_68 ?_
    refine lv_bipush (v := 7) hx hb dX4_count_71 (by decide) ?_
    refine z_ialdk C0 Z (cx_lt C0 (by decide)) rfl in_7_474 nc_7 dX4_count_73 ?_
    refine z_callVi C0 Z hl.1 (As := [.int (v1 8 7)]) (rest := []) (k_X4_bytesAt l (cx_g C0) hw) (gv_X4_bytesAt tm_6_1) rfl ds_X4_bytesAt ⟨Nat.le_of_ble_eq_true rfl, Nat.le_of_ble_eq_true rfl⟩ (ci := 4) rfl (cx_lt C0 (by decide)) rfl rfl rfl (Nat.le_of_ble_eq_true rfl) ⟨Nat.le_of_ble_eq_true rfl, Nat.le_of_ble_eq_true rfl⟩ dX4_count_74 (fun r17 v16 H locs hw Z => ?_)
    exact z_iret C0 Z hw dX4_count_77
  replace hw := hw.2
  refine lv_tableOut (tgt := 78) hx hb dX4_count_6 (by have q0 := lv_neT (a := 8) c2 (by decide); have q1 := lv_neT (a := 9) c5 (by decide); have q2 := lv_neT (a := 10) c8 (by decide); have q3 := lv_neT (a := 11) c11 (by decide); have q4 := lv_neT (a := 12) c13 (by decide); have q5 := lv_neT (a := 13) c15 (by decide); omega) (by decide) ?_
  replace hw := hw ⟨c2, c5, c8, c11, c13, c15⟩
  refine lv_iload_n hx hb dX4_count_78 rfl (lv_at hl 1 rfl) ?_
  refine lv_i2l (v := (a1).toInt64) hx hb dX4_count_79 rfl ?_
  refine lv_lconst (v := 0) hx hb dX4_count_80 (by decide) ?_
  refine lv_ldc2 hx hb (cx_own C0) (cx_w C0 tm_6_13) dX4_count_81 ?_
  refine z_callSi C0 Z hl.1 (As := [.long ((a1).toInt64), .long 0, .long 7]) (rest := []) (k_X4_isBetween l (cx_g C0) hw) (gv_X4_isBetween tm_5_83) ds_X4_isBetween ⟨Nat.le_of_ble_eq_true rfl, Nat.le_of_ble_eq_true rfl⟩ rfl rfl (Nat.le_of_ble_eq_true rfl) ⟨Nat.le_of_ble_eq_true rfl, Nat.le_of_ble_eq_true rfl⟩ dX4_count_84 (fun r19 v18 H locs hw Z => ?_)
  refine lv_if_eq (tgt := 99) hx hb dX4_count_87 (by decide) (fun c20 => ?_) (fun c20 => ?_)
  · replace hw := hw.1 c20
    refine lv_aload_n hx hb dX4_count_99 rfl (lv_at hl 0 rfl) ?_
    refine lv_iconst (v := 1) hx hb dX4_count_100 (by decide) ?_
    refine z_callVi C0 Z hl.1 (As := [.int 1]) (rest := []) (k_X4_fail l (cx_g C0) hw) (gv_X4_fail tm_5_75) rfl ds_X4_fail ⟨Nat.le_of_ble_eq_true rfl, Nat.le_of_ble_eq_true rfl⟩ (ci := 4) rfl (cx_lt C0 (by decide)) rfl rfl rfl (Nat.le_of_ble_eq_true rfl) ⟨Nat.le_of_ble_eq_true rfl, Nat.le_of_ble_eq_true rfl⟩ dX4_count_101 (fun r22 v21 H locs hw Z => ?_)
    exact b_X4_count_104 l C0 _ _ _ _ _ hw Z (lv_sub hl [] rfl)
  · replace hw := hw.2 c20
    refine lv_aload_n hx hb dX4_count_90 rfl (lv_at hl 0 rfl) ?_
    refine z_get C0 Z in_X4 rfl 0 (by decide) rfl tm_4_203 (cx_lt C0 (by decide)) rfl rfl dX4_count_91 ?_
    refine lv_iload_n hx hb dX4_count_94 rfl (lv_at hl 1 rfl) ?_
    obtain ⟨h23, hw⟩ := hw
    refine z_iald C0 Z (cx_lt C0 (by decide)) rfl h23 dX4_count_95 ?_
    refine lv_goto (tgt := 104) hx hb dX4_count_96 (by decide) ?_
    exact b_X4_count_104 l C0 _ _ _ _ _ hw Z (lv_sub hl [] rfl)
-- X4_owner: room (4, 90)
theorem dX4_owner_0 : decode cX4_owner 0 = .ok (.aload_n 0, 1) := by decide +kernel
theorem dX4_owner_1 : decode cX4_owner 1 = .ok (.iconst 0, 1) := by decide +kernel
theorem dX4_owner_2 : decode cX4_owner 2 = .ok (.putfield 55, 3) := by decide +kernel
theorem dX4_owner_5 : decode cX4_owner 5 = .ok (.aload_n 0, 1) := by decide +kernel
theorem dX4_owner_6 : decode cX4_owner 6 = .ok (.iload_n 1, 1) := by decide +kernel
theorem dX4_owner_7 : decode cX4_owner 7 = .ok (.invokevirtual 245, 3) := by decide +kernel
theorem dX4_owner_10 : decode cX4_owner 10 = .ok (.ifCond .ne 9, 3) := by decide +kernel
theorem dX4_owner_13 : decode cX4_owner 13 = .ok (.aload_n 0, 1) := by decide +kernel
theorem dX4_owner_14 : decode cX4_owner 14 = .ok (.iconst 1, 1) := by decide +kernel
theorem dX4_owner_15 : decode cX4_owner 15 = .ok (.invokevirtual 78, 3) := by decide +kernel
theorem dX4_owner_18 : decode cX4_owner 18 = .ok (.ireturn, 1) := by decide +kernel
theorem dX4_owner_19 : decode cX4_owner 19 = .ok (.iload_n 2, 1) := by decide +kernel
theorem dX4_owner_20 : decode cX4_owner 20 = .ok (.tableswitch 60 8 10 #[28, 34, 54], 28) := by decide +kernel
theorem dX4_owner_48 : decode cX4_owner 48 = .ok (.aload_n 0, 1) := by decide +kernel
theorem dX4_owner_49 : decode cX4_owner 49 = .ok (.iload_n 1, 1) := by decide +kernel
theorem dX4_owner_50 : decode cX4_owner 50 = .ok (.invokevirtual 165, 3) := by decide +kernel
theorem dX4_owner_53 : decode cX4_owner 53 = .ok (.ireturn, 1) := by decide +kernel
theorem dX4_owner_54 : decode cX4_owner 54 = .ok (.aload_n 0, 1) := by decide +kernel
theorem dX4_owner_55 : decode cX4_owner 55 = .ok (.iload_n 1, 1) := by decide +kernel
theorem dX4_owner_56 : decode cX4_owner 56 = .ok (.invokevirtual 248, 3) := by decide +kernel
theorem dX4_owner_59 : decode cX4_owner 59 = .ok (.aload_n 0, 1) := by decide +kernel
theorem dX4_owner_60 : decode cX4_owner 60 = .ok (.getfield 7, 3) := by decide +kernel
theorem dX4_owner_63 : decode cX4_owner 63 = .ok (.iconst 3, 1) := by decide +kernel
theorem dX4_owner_64 : decode cX4_owner 64 = .ok (.iaload, 1) := by decide +kernel
theorem dX4_owner_65 : decode cX4_owner 65 = .ok (.if_icmp .lt 7, 3) := by decide +kernel
theorem dX4_owner_68 : decode cX4_owner 68 = .ok (.iconst 1, 1) := by decide +kernel
theorem dX4_owner_69 : decode cX4_owner 69 = .ok (.goto 4, 3) := by decide +kernel
theorem dX4_owner_72 : decode cX4_owner 72 = .ok (.iconst 0, 1) := by decide +kernel
theorem dX4_owner_73 : decode cX4_owner 73 = .ok (.ireturn, 1) := by decide +kernel
theorem dX4_owner_74 : decode cX4_owner 74 = .ok (.aload_n 0, 1) := by decide +kernel
theorem dX4_owner_75 : decode cX4_owner 75 = .ok (.iload_n 1, 1) := by decide +kernel
theorem dX4_owner_76 : decode cX4_owner 76 = .ok (.invokevirtual 251, 3) := by decide +kernel
theorem dX4_owner_79 : decode cX4_owner 79 = .ok (.ireturn, 1) := by decide +kernel
theorem dX4_owner_80 : decode cX4_owner 80 = .ok (.iload_n 2, 1) := by decide +kernel
theorem dX4_owner_81 : decode cX4_owner 81 = .ok (.i2l, 1) := by decide +kernel
theorem dX4_owner_82 : decode cX4_owner 82 = .ok (.lconst 0, 1) := by decide +kernel
theorem dX4_owner_83 : decode cX4_owner 83 = .ok (.ldc2_w 226, 3) := by decide +kernel
theorem dX4_owner_86 : decode cX4_owner 86 = .ok (.invokestatic 67, 3) := by decide +kernel
theorem dX4_owner_89 : decode cX4_owner 89 = .ok (.ifCond .eq 12, 3) := by decide +kernel
theorem dX4_owner_92 : decode cX4_owner 92 = .ok (.aload_n 0, 1) := by decide +kernel
theorem dX4_owner_93 : decode cX4_owner 93 = .ok (.iload_n 1, 1) := by decide +kernel
theorem dX4_owner_94 : decode cX4_owner 94 = .ok (.iload_n 2, 1) := by decide +kernel
theorem dX4_owner_95 : decode cX4_owner 95 = .ok (.invokevirtual 228, 3) := by decide +kernel
theorem dX4_owner_98 : decode cX4_owner 98 = .ok (.goto 8, 3) := by decide +kernel
theorem dX4_owner_101 : decode cX4_owner 101 = .ok (.aload_n 0, 1) := by decide +kernel
theorem dX4_owner_102 : decode cX4_owner 102 = .ok (.iconst 2, 1) := by decide +kernel
theorem dX4_owner_103 : decode cX4_owner 103 = .ok (.invokevirtual 78, 3) := by decide +kernel
theorem dX4_owner_106 : decode cX4_owner 106 = .ok (.ireturn, 1) := by decide +kernel
def w_X4_owner_73  (Q : Int32 → V3 → Prop) (s0 : Int32) (v : V3) : Prop := Q s0 v
def w_X4_owner_106  (Q : Int32 → V3 → Prop) (s0 : Int32) (v : V3) : Prop := Q s0 v
def w_X4_owner (a1 : Int32) (a2 : Int32) (v : V3) (Q : Int32 → V3 → Prop) : Prop := ∀ v1 : V3, v1 = up2 v 7 11 0 → w_X4_isOwner a1 v1 (fun r3 v2 => ((¬ r3 = 0 → ((a2 = 8 → w_X4_openBookings a1 v2 (fun r7 v6 => Q r7 v6)) ∧ (a2 = 9 → w_X4_broken a1 v2 (fun r10 v9 => ((r10 < (v9 8 3) → w_X4_owner_73 Q 0 v9) ∧ (¬ r10 < (v9 8 3) → w_X4_owner_73 Q 1 v9)))) ∧ (a2 = 10 → w_X4_joys a1 v2 (fun r14 v13 => Q r14 v13)) ∧ (¬ a2 = 8 ∧ ¬ a2 = 9 ∧ ¬ a2 = 10 → w_X4_isBetween ((a2).toInt64) 0 7 v2 (fun r16 v15 => ((r16 = 0 → w_X4_fail 2 v15 (fun r19 v18 => w_X4_owner_106 Q r19 v18)) ∧ (¬ r16 = 0 → w_X4_ofOwner a1 a2 v15 (fun r21 v20 => w_X4_owner_106 Q r21 v20))))))) ∧ (r3 = 0 → w_X4_fail 1 v2 (fun r23 v22 => Q r23 v22))))
set_option maxRecDepth 100000 in
set_option maxHeartbeats 4000000 in
theorem b_X4_owner_73 {p : Program} (l : Launch) {e : Env} {s : State} {m : MethodId} {args : Array Value} {below : List Frame} {meth : Method} {c : Code} {G : zG}   (C0 : Cx G RX4 cX4_owner 3 (some .int) p s m args meth c) {Q : Int32 → V3 → Prop} : ∀ (s0 : Int32) (v : V3) (H : Heap) (locs : List Loc) (ls : Array Slot), w_X4_owner_73 Q s0 v → Zs G s v H locs → lv_has ls 3 [] → W p l e { frames := 4, cells := 0, slots := 0, locals := 90 } s m args below meth c H locs 0 0 (MQ below (QiZ G Q) args s 0 0 (zA G)) (F0 m 73 ls [.int s0]) := by
  have hx := C0.1
  have hb := C0.2.1
  intro s0 v H locs ls hw Z hl
  rw [w_X4_owner_73] at hw
  exact z_iret C0 Z hw dX4_owner_73
set_option maxRecDepth 100000 in
set_option maxHeartbeats 4000000 in
theorem b_X4_owner_106 {p : Program} (l : Launch) {e : Env} {s : State} {m : MethodId} {args : Array Value} {below : List Frame} {meth : Method} {c : Code} {G : zG}   (C0 : Cx G RX4 cX4_owner 3 (some .int) p s m args meth c) {Q : Int32 → V3 → Prop} : ∀ (s0 : Int32) (v : V3) (H : Heap) (locs : List Loc) (ls : Array Slot), w_X4_owner_106 Q s0 v → Zs G s v H locs → lv_has ls 3 [] → W p l e { frames := 4, cells := 0, slots := 0, locals := 90 } s m args below meth c H locs 0 0 (MQ below (QiZ G Q) args s 0 0 (zA G)) (F0 m 106 ls [.int s0]) := by
  have hx := C0.1
  have hb := C0.2.1
  intro s0 v H locs ls hw Z hl
  rw [w_X4_owner_106] at hw
  exact z_iret C0 Z hw dX4_owner_106
set_option maxRecDepth 100000 in
set_option maxHeartbeats 4000000 in
theorem k_X4_owner (l : Launch) {G : zG} (hg : 129 ≤ gn G) {a1 : Int32} {a2 : Int32}  {v : V3} {Q : Int32 → V3 → Prop} (hw : w_X4_owner a1 a2 v Q) : Mz l yX4_owner cX4_owner 3 (some .int) 4 90 G [.ref (gad G 7), .int a1, .int a2] v (QiZ G Q) := by
  rw [w_X4_owner] at hw
  refine z_ofW hg (by decide) (Nat.le_of_ble_eq_true rfl) ?_
  intro p e s m args below meth c ls C0 Z hl
  have hx := C0.1
  have hb := C0.2.1
  replace hl : lv_has ls 3 [(0, .ref (gad G 7)), (1, .int a1), (2, .int a2)] := hl
  generalize s.heap = H at Z ⊢
  generalize ([] : List Loc) = locs at Z ⊢
  refine lv_aload_n hx hb dX4_owner_0 rfl (lv_at hl 0 rfl) ?_
  refine lv_iconst (v := 0) hx hb dX4_owner_1 (by decide) ?_
  refine z_put C0 Z in_X4 tyX4_ok nmX4 rfl 11 (by decide) rfl rfl tm_4_214 (cx_lt C0 (by decide)) rfl p_X4_11 (fun c' h => up2_off _ _ _ h) rfl rfl (Nat.le_of_ble_eq_true rfl) dX4_owner_2 (fun H locs Z => ?_)
  obtain ⟨v1, ev1⟩ : ∃ z : V3, z = up2 v 7 11 0 := ⟨_, rfl⟩
  rw [← ev1] at Z
  replace hw := hw v1 ev1
  refine lv_aload_n hx hb dX4_owner_5 rfl (lv_at hl 0 rfl) ?_
  refine lv_iload_n hx hb dX4_owner_6 rfl (lv_at hl 1 rfl) ?_
  refine z_callVi C0 Z hl.1 (As := [.int a1]) (rest := []) (k_X4_isOwner l (cx_g C0) hw) (gv_X4_isOwner tm_6_18) rfl ds_X4_isOwner ⟨Nat.le_of_ble_eq_true rfl, Nat.le_of_ble_eq_true rfl⟩ (ci := 4) rfl (cx_lt C0 (by decide)) rfl rfl rfl (Nat.le_of_ble_eq_true rfl) ⟨Nat.le_of_ble_eq_true rfl, Nat.le_of_ble_eq_true rfl⟩ dX4_owner_7 (fun r3 v2 H locs hw Z => ?_)
  refine lv_if_ne (tgt := 19) hx hb dX4_owner_10 (by decide) (fun c4 => ?_) (fun c4 => ?_)
  · replace hw := hw.1 c4
    refine lv_iload_n hx hb dX4_owner_19 rfl (lv_at hl 2 rfl) ?_
    by_cases c5 : a2 = 8
    · refine lv_tableIn (tgt := 48) (off := 28) hx hb dX4_owner_20 (by rw [c5]; decide) (by rw [c5]; decide) (by rw [c5]; rfl) (by decide) ?_
      replace hw := hw.1 c5
      refine lv_aload_n hx hb dX4_owner_48 rfl (lv_at hl 0 rfl) ?_
      refine lv_iload_n hx hb dX4_owner_49 rfl (lv_at hl 1 rfl) ?_
      refine z_callVi C0 Z hl.1 (As := [.int a1]) (rest := []) (k_X4_openBookings l (cx_g C0) hw) (gv_X4_openBookings tm_5_159) rfl ds_X4_openBookings ⟨Nat.le_of_ble_eq_true rfl, Nat.le_of_ble_eq_true rfl⟩ (ci := 4) rfl (cx_lt C0 (by decide)) rfl rfl rfl (Nat.le_of_ble_eq_true rfl) ⟨Nat.le_of_ble_eq_true rfl, Nat.le_of_ble_eq_true rfl⟩ dX4_owner_50 (fun r7 v6 H locs hw Z => ?_)
      exact z_iret C0 Z hw dX4_owner_53
    replace hw := hw.2
    by_cases c8 : a2 = 9
    · refine lv_tableIn (tgt := 54) (off := 34) hx hb dX4_owner_20 (by rw [c8]; decide) (by rw [c8]; decide) (by rw [c8]; rfl) (by decide) ?_
      replace hw := hw.1 c8
      refine lv_aload_n hx hb dX4_owner_54 rfl (lv_at hl 0 rfl) ?_
      refine lv_iload_n hx hb dX4_owner_55 rfl (lv_at hl 1 rfl) ?_
      refine z_callVi C0 Z hl.1 (As := [.int a1]) (rest := []) (k_X4_broken l (cx_g C0) hw) (gv_X4_broken tm_6_22) rfl ds_X4_broken ⟨Nat.le_of_ble_eq_true rfl, Nat.le_of_ble_eq_true rfl⟩ (ci := 4) rfl (cx_lt C0 (by decide)) rfl rfl rfl (Nat.le_of_ble_eq_true rfl) ⟨Nat.le_of_ble_eq_true rfl, Nat.le_of_ble_eq_true rfl⟩ dX4_owner_56 (fun r10 v9 H locs hw Z => ?_)
      refine lv_aload_n hx hb dX4_owner_59 rfl (lv_at hl 0 rfl) ?_
      refine z_get C0 Z in_X4 rfl 0 (by decide) rfl tm_4_203 (cx_lt C0 (by decide)) rfl rfl dX4_owner_60 ?_
      refine lv_iconst (v := 3) hx hb dX4_owner_63 (by decide) ?_
      refine z_ialdk C0 Z (cx_lt C0 (by decide)) rfl in_3_474 nc_3 dX4_owner_64 ?_
      refine lv_icmp_lt (tgt := 72) hx hb dX4_owner_65 (by decide) (fun c11 => ?_) (fun c11 => ?_)
      · replace hw := hw.1 c11
        refine lv_iconst (v := 0) hx hb dX4_owner_72 (by decide) ?_
        exact b_X4_owner_73 l C0 _ _ _ _ _ hw Z (lv_sub hl [] rfl)
      · replace hw := hw.2 c11
        refine lv_iconst (v := 1) hx hb dX4_owner_68 (by decide) ?_
        refine lv_goto (tgt := 73) hx hb dX4_owner_69 (by decide) ?_
        exact b_X4_owner_73 l C0 _ _ _ _ _ hw Z (lv_sub hl [] rfl)
    replace hw := hw.2
    by_cases c12 : a2 = 10
    · refine lv_tableIn (tgt := 74) (off := 54) hx hb dX4_owner_20 (by rw [c12]; decide) (by rw [c12]; decide) (by rw [c12]; rfl) (by decide) ?_
      replace hw := hw.1 c12
      refine lv_aload_n hx hb dX4_owner_74 rfl (lv_at hl 0 rfl) ?_
      refine lv_iload_n hx hb dX4_owner_75 rfl (lv_at hl 1 rfl) ?_
      refine z_callVi C0 Z hl.1 (As := [.int a1]) (rest := []) (k_X4_joys l (cx_g C0) hw) (gv_X4_joys tm_6_30) rfl ds_X4_joys ⟨Nat.le_of_ble_eq_true rfl, Nat.le_of_ble_eq_true rfl⟩ (ci := 4) rfl (cx_lt C0 (by decide)) rfl rfl rfl (Nat.le_of_ble_eq_true rfl) ⟨Nat.le_of_ble_eq_true rfl, Nat.le_of_ble_eq_true rfl⟩ dX4_owner_76 (fun r14 v13 H locs hw Z => ?_)
      exact z_iret C0 Z hw dX4_owner_79
    replace hw := hw.2
    refine lv_tableOut (tgt := 80) hx hb dX4_owner_20 (by have q0 := lv_neT (a := 8) c5 (by decide); have q1 := lv_neT (a := 9) c8 (by decide); have q2 := lv_neT (a := 10) c12 (by decide); omega) (by decide) ?_
    replace hw := hw ⟨c5, c8, c12⟩
    refine lv_iload_n hx hb dX4_owner_80 rfl (lv_at hl 2 rfl) ?_
    refine lv_i2l (v := (a2).toInt64) hx hb dX4_owner_81 rfl ?_
    refine lv_lconst (v := 0) hx hb dX4_owner_82 (by decide) ?_
    refine lv_ldc2 hx hb (cx_own C0) (cx_w C0 tm_6_13) dX4_owner_83 ?_
    refine z_callSi C0 Z hl.1 (As := [.long ((a2).toInt64), .long 0, .long 7]) (rest := []) (k_X4_isBetween l (cx_g C0) hw) (gv_X4_isBetween tm_5_83) ds_X4_isBetween ⟨Nat.le_of_ble_eq_true rfl, Nat.le_of_ble_eq_true rfl⟩ rfl rfl (Nat.le_of_ble_eq_true rfl) ⟨Nat.le_of_ble_eq_true rfl, Nat.le_of_ble_eq_true rfl⟩ dX4_owner_86 (fun r16 v15 H locs hw Z => ?_)
    refine lv_if_eq (tgt := 101) hx hb dX4_owner_89 (by decide) (fun c17 => ?_) (fun c17 => ?_)
    · replace hw := hw.1 c17
      refine lv_aload_n hx hb dX4_owner_101 rfl (lv_at hl 0 rfl) ?_
      refine lv_iconst (v := 2) hx hb dX4_owner_102 (by decide) ?_
      refine z_callVi C0 Z hl.1 (As := [.int 2]) (rest := []) (k_X4_fail l (cx_g C0) hw) (gv_X4_fail tm_5_75) rfl ds_X4_fail ⟨Nat.le_of_ble_eq_true rfl, Nat.le_of_ble_eq_true rfl⟩ (ci := 4) rfl (cx_lt C0 (by decide)) rfl rfl rfl (Nat.le_of_ble_eq_true rfl) ⟨Nat.le_of_ble_eq_true rfl, Nat.le_of_ble_eq_true rfl⟩ dX4_owner_103 (fun r19 v18 H locs hw Z => ?_)
      exact b_X4_owner_106 l C0 _ _ _ _ _ hw Z (lv_sub hl [] rfl)
    · replace hw := hw.2 c17
      refine lv_aload_n hx hb dX4_owner_92 rfl (lv_at hl 0 rfl) ?_
      refine lv_iload_n hx hb dX4_owner_93 rfl (lv_at hl 1 rfl) ?_
      refine lv_iload_n hx hb dX4_owner_94 rfl (lv_at hl 2 rfl) ?_
      refine z_callVi C0 Z hl.1 (As := [.int a1, .int a2]) (rest := []) (k_X4_ofOwner l (cx_g C0) hw) (gv_X4_ofOwner tm_6_26) rfl ds_X4_ofOwner ⟨Nat.le_of_ble_eq_true rfl, Nat.le_of_ble_eq_true rfl⟩ (ci := 4) rfl (cx_lt C0 (by decide)) rfl rfl rfl (Nat.le_of_ble_eq_true rfl) ⟨Nat.le_of_ble_eq_true rfl, Nat.le_of_ble_eq_true rfl⟩ dX4_owner_95 (fun r21 v20 H locs hw Z => ?_)
      refine lv_goto (tgt := 106) hx hb dX4_owner_98 (by decide) ?_
      exact b_X4_owner_106 l C0 _ _ _ _ _ hw Z (lv_sub hl [] rfl)
  · replace hw := hw.2 c4
    refine lv_aload_n hx hb dX4_owner_13 rfl (lv_at hl 0 rfl) ?_
    refine lv_iconst (v := 1) hx hb dX4_owner_14 (by decide) ?_
    refine z_callVi C0 Z hl.1 (As := [.int 1]) (rest := []) (k_X4_fail l (cx_g C0) hw) (gv_X4_fail tm_5_75) rfl ds_X4_fail ⟨Nat.le_of_ble_eq_true rfl, Nat.le_of_ble_eq_true rfl⟩ (ci := 4) rfl (cx_lt C0 (by decide)) rfl rfl rfl (Nat.le_of_ble_eq_true rfl) ⟨Nat.le_of_ble_eq_true rfl, Nat.le_of_ble_eq_true rfl⟩ dX4_owner_15 (fun r23 v22 H locs hw Z => ?_)
    exact z_iret C0 Z hw dX4_owner_18
-- X4_trust: room (2, 46)
theorem dX4_trust_0 : decode cX4_trust 0 = .ok (.aload_n 0, 1) := by decide +kernel
theorem dX4_trust_1 : decode cX4_trust 1 = .ok (.aload_n 0, 1) := by decide +kernel
theorem dX4_trust_2 : decode cX4_trust 2 = .ok (.iload_n 1, 1) := by decide +kernel
theorem dX4_trust_3 : decode cX4_trust 3 = .ok (.invokevirtual 245, 3) := by decide +kernel
theorem dX4_trust_6 : decode cX4_trust 6 = .ok (.ifCond .eq 7, 3) := by decide +kernel
theorem dX4_trust_9 : decode cX4_trust 9 = .ok (.iconst 0, 1) := by decide +kernel
theorem dX4_trust_10 : decode cX4_trust 10 = .ok (.goto 4, 3) := by decide +kernel
theorem dX4_trust_13 : decode cX4_trust 13 = .ok (.iconst 1, 1) := by decide +kernel
theorem dX4_trust_14 : decode cX4_trust 14 = .ok (.putfield 55, 3) := by decide +kernel
theorem dX4_trust_17 : decode cX4_trust 17 = .ok (.aload_n 0, 1) := by decide +kernel
theorem dX4_trust_18 : decode cX4_trust 18 = .ok (.getfield 55, 3) := by decide +kernel
theorem dX4_trust_21 : decode cX4_trust 21 = .ok (.ifCond .eq 5, 3) := by decide +kernel
theorem dX4_trust_24 : decode cX4_trust 24 = .ok (.dconst 0, 1) := by decide +kernel
theorem dX4_trust_25 : decode cX4_trust 25 = .ok (.dreturn, 1) := by decide +kernel
theorem dX4_trust_26 : decode cX4_trust 26 = .ok (.aload_n 0, 1) := by decide +kernel
theorem dX4_trust_27 : decode cX4_trust 27 = .ok (.iload_n 1, 1) := by decide +kernel
theorem dX4_trust_28 : decode cX4_trust 28 = .ok (.iconst 1, 1) := by decide +kernel
theorem dX4_trust_29 : decode cX4_trust 29 = .ok (.invokevirtual 228, 3) := by decide +kernel
theorem dX4_trust_32 : decode cX4_trust 32 = .ok (.istore_n 2, 1) := by decide +kernel
theorem dX4_trust_33 : decode cX4_trust 33 = .ok (.iload_n 2, 1) := by decide +kernel
theorem dX4_trust_34 : decode cX4_trust 34 = .ok (.aload_n 0, 1) := by decide +kernel
theorem dX4_trust_35 : decode cX4_trust 35 = .ok (.iload_n 1, 1) := by decide +kernel
theorem dX4_trust_36 : decode cX4_trust 36 = .ok (.invokevirtual 248, 3) := by decide +kernel
theorem dX4_trust_39 : decode cX4_trust 39 = .ok (.iadd, 1) := by decide +kernel
theorem dX4_trust_40 : decode cX4_trust 40 = .ok (.istore_n 3, 1) := by decide +kernel
theorem dX4_trust_41 : decode cX4_trust 41 = .ok (.iload_n 3, 1) := by decide +kernel
theorem dX4_trust_42 : decode cX4_trust 42 = .ok (.ifCond .ne 7, 3) := by decide +kernel
theorem dX4_trust_45 : decode cX4_trust 45 = .ok (.dconst 1, 1) := by decide +kernel
theorem dX4_trust_46 : decode cX4_trust 46 = .ok (.goto 8, 3) := by decide +kernel
theorem dX4_trust_49 : decode cX4_trust 49 = .ok (.iload_n 2, 1) := by decide +kernel
theorem dX4_trust_50 : decode cX4_trust 50 = .ok (.i2d, 1) := by decide +kernel
theorem dX4_trust_51 : decode cX4_trust 51 = .ok (.iload_n 3, 1) := by decide +kernel
theorem dX4_trust_52 : decode cX4_trust 52 = .ok (.i2d, 1) := by decide +kernel
theorem dX4_trust_53 : decode cX4_trust 53 = .ok (.ddiv, 1) := by decide +kernel
theorem dX4_trust_54 : decode cX4_trust 54 = .ok (.dreturn, 1) := by decide +kernel
def w_X4_trust_54  (Q : UInt64 → V3 → Prop) (s0 : UInt64) (v : V3) : Prop := Q s0 v
def w_X4_trust_14  (Q : UInt64 → V3 → Prop) (x1 : Int32) (s1 : Int32) (v : V3) : Prop := ∀ v4 : V3, v4 = up2 v 7 11 s1 → (((v4 7 11) = 0 → w_X4_ofOwner x1 1 v4 (fun r7 v6 => w_X4_broken x1 v6 (fun r9 v8 => ((¬ (r7 + r9) = 0 → vf_n64 (FP.ddiv (FP.i2d r7) (FP.i2d (r7 + r9))) ∧ w_X4_trust_54 Q (FP.ddiv (FP.i2d r7) (FP.i2d (r7 + r9))) v8) ∧ ((r7 + r9) = 0 → w_X4_trust_54 Q FP.dconst1 v8))))) ∧ (¬ (v4 7 11) = 0 → Q FP.dconst0 v4))
def w_X4_trust (a1 : Int32) (v : V3) (Q : UInt64 → V3 → Prop) : Prop := w_X4_isOwner a1 v (fun r2 v1 => ((r2 = 0 → w_X4_trust_14 Q a1 1 v1) ∧ (¬ r2 = 0 → w_X4_trust_14 Q a1 0 v1)))
set_option maxRecDepth 100000 in
set_option maxHeartbeats 4000000 in
theorem b_X4_trust_54 {p : Program} (l : Launch) {e : Env} {s : State} {m : MethodId} {args : Array Value} {below : List Frame} {meth : Method} {c : Code} {G : zG}   (C0 : Cx G RX4 cX4_trust 4 (some .double) p s m args meth c) {Q : UInt64 → V3 → Prop} : ∀ (s0 : UInt64) (v : V3) (H : Heap) (locs : List Loc) (ls : Array Slot), w_X4_trust_54 Q s0 v → Zs G s v H locs → lv_has ls 4 [] → W p l e { frames := 2, cells := 0, slots := 0, locals := 46 } s m args below meth c H locs 0 0 (MQ below (QdZ G Q) args s 0 0 (zA G)) (F0 m 54 ls [.double s0]) := by
  have hx := C0.1
  have hb := C0.2.1
  intro s0 v H locs ls hw Z hl
  rw [w_X4_trust_54] at hw
  exact z_dret C0 Z hw dX4_trust_54
set_option maxRecDepth 100000 in
set_option maxHeartbeats 4000000 in
theorem b_X4_trust_14 {p : Program} (l : Launch) {e : Env} {s : State} {m : MethodId} {args : Array Value} {below : List Frame} {meth : Method} {c : Code} {G : zG}   (C0 : Cx G RX4 cX4_trust 4 (some .double) p s m args meth c) {Q : UInt64 → V3 → Prop} : ∀ (x1 : Int32) (s1 : Int32) (v : V3) (H : Heap) (locs : List Loc) (ls : Array Slot), w_X4_trust_14 Q x1 s1 v → Zs G s v H locs → lv_has ls 4 [(0, .ref (gad G 7)), (1, .int x1)] → W p l e { frames := 2, cells := 0, slots := 0, locals := 46 } s m args below meth c H locs 0 0 (MQ below (QdZ G Q) args s 0 0 (zA G)) (F0 m 14 ls [.int s1, .ref (gad G 7)]) := by
  have hx := C0.1
  have hb := C0.2.1
  intro x1 s1 v H locs ls hw Z hl
  rw [w_X4_trust_14] at hw
  refine z_put C0 Z in_X4 tyX4_ok nmX4 rfl 11 (by decide) rfl rfl tm_4_214 (cx_lt C0 (by decide)) rfl p_X4_11 (fun c' h => up2_off _ _ _ h) rfl rfl (Nat.le_of_ble_eq_true rfl) dX4_trust_14 (fun H locs Z => ?_)
  obtain ⟨v4, ev4⟩ : ∃ z : V3, z = up2 v 7 11 s1 := ⟨_, rfl⟩
  rw [← ev4] at Z
  replace hw := hw v4 ev4
  refine lv_aload_n hx hb dX4_trust_17 rfl (lv_at hl 0 rfl) ?_
  refine z_get C0 Z in_X4 rfl 11 (by decide) rfl tm_4_214 (cx_lt C0 (by decide)) rfl rfl dX4_trust_18 ?_
  refine lv_if_eq (tgt := 26) hx hb dX4_trust_21 (by decide) (fun c5 => ?_) (fun c5 => ?_)
  · replace hw := hw.1 c5
    refine lv_aload_n hx hb dX4_trust_26 rfl (lv_at hl 0 rfl) ?_
    refine lv_iload_n hx hb dX4_trust_27 rfl (lv_at hl 1 rfl) ?_
    refine lv_iconst (v := 1) hx hb dX4_trust_28 (by decide) ?_
    refine z_callVi C0 Z hl.1 (As := [.int x1, .int 1]) (rest := []) (k_X4_ofOwner l (cx_g C0) hw) (gv_X4_ofOwner tm_6_26) rfl ds_X4_ofOwner ⟨Nat.le_of_ble_eq_true rfl, Nat.le_of_ble_eq_true rfl⟩ (ci := 4) rfl (cx_lt C0 (by decide)) rfl rfl rfl (Nat.le_of_ble_eq_true rfl) ⟨Nat.le_of_ble_eq_true rfl, Nat.le_of_ble_eq_true rfl⟩ dX4_trust_29 (fun r7 v6 H locs hw Z => ?_)
    refine lv_istore_n (lv' := [(2, .int r7), (0, .ref (gad G 7)), (1, .int x1)]) hx hb dX4_trust_32 rfl hl (by decide) rfl (fun ls hl => ?_)
    refine lv_iload_n hx hb dX4_trust_33 rfl (lv_at hl 0 rfl) ?_
    refine lv_aload_n hx hb dX4_trust_34 rfl (lv_at hl 1 rfl) ?_
    refine lv_iload_n hx hb dX4_trust_35 rfl (lv_at hl 2 rfl) ?_
    refine z_callVi C0 Z hl.1 (As := [.int x1]) (rest := [.int r7]) (k_X4_broken l (cx_g C0) hw) (gv_X4_broken tm_6_22) rfl ds_X4_broken ⟨Nat.le_of_ble_eq_true rfl, Nat.le_of_ble_eq_true rfl⟩ (ci := 4) rfl (cx_lt C0 (by decide)) rfl rfl rfl (Nat.le_of_ble_eq_true rfl) ⟨Nat.le_of_ble_eq_true rfl, Nat.le_of_ble_eq_true rfl⟩ dX4_trust_36 (fun r9 v8 H locs hw Z => ?_)
    refine lv_iadd hx hb dX4_trust_39 ?_
    refine lv_istore_n (lv' := [(3, .int (r7 + r9)), (2, .int r7), (0, .ref (gad G 7)), (1, .int x1)]) hx hb dX4_trust_40 rfl hl (by decide) rfl (fun ls hl => ?_)
    refine lv_iload_n hx hb dX4_trust_41 rfl (lv_at hl 0 rfl) ?_
    refine lv_if_ne (tgt := 49) hx hb dX4_trust_42 (by decide) (fun c10 => ?_) (fun c10 => ?_)
    · replace hw := hw.1 c10
      refine lv_iload_n hx hb dX4_trust_49 rfl (lv_at hl 1 rfl) ?_
      refine lv_i2d hx hb dX4_trust_50 ?_
      refine lv_iload_n hx hb dX4_trust_51 rfl (lv_at hl 0 rfl) ?_
      refine lv_i2d hx hb dX4_trust_52 ?_
      obtain ⟨h11, hw⟩ := hw
      refine lv_ddiv hx hb dX4_trust_53 h11 ?_
      exact b_X4_trust_54 l C0 _ _ _ _ _ hw Z (lv_sub hl [] rfl)
    · replace hw := hw.2 c10
      refine lv_dconst1 hx hb dX4_trust_45 ?_
      refine lv_goto (tgt := 54) hx hb dX4_trust_46 (by decide) ?_
      exact b_X4_trust_54 l C0 _ _ _ _ _ hw Z (lv_sub hl [] rfl)
  · replace hw := hw.2 c5
    refine lv_dconst0 hx hb dX4_trust_24 ?_
    exact z_dret C0 Z hw dX4_trust_25
set_option maxRecDepth 100000 in
set_option maxHeartbeats 4000000 in
theorem k_X4_trust (l : Launch) {G : zG} (hg : 129 ≤ gn G) {a1 : Int32}  {v : V3} {Q : UInt64 → V3 → Prop} (hw : w_X4_trust a1 v Q) : Mz l yX4_trust cX4_trust 4 (some .double) 2 46 G [.ref (gad G 7), .int a1] v (QdZ G Q) := by
  rw [w_X4_trust] at hw
  refine z_ofW hg (by decide) (Nat.le_of_ble_eq_true rfl) ?_
  intro p e s m args below meth c ls C0 Z hl
  have hx := C0.1
  have hb := C0.2.1
  replace hl : lv_has ls 4 [(0, .ref (gad G 7)), (1, .int a1)] := hl
  generalize s.heap = H at Z ⊢
  generalize ([] : List Loc) = locs at Z ⊢
  refine lv_aload_n hx hb dX4_trust_0 rfl (lv_at hl 0 rfl) ?_
  refine lv_aload_n hx hb dX4_trust_1 rfl (lv_at hl 0 rfl) ?_
  refine lv_iload_n hx hb dX4_trust_2 rfl (lv_at hl 1 rfl) ?_
  refine z_callVi C0 Z hl.1 (As := [.int a1]) (rest := [.ref (gad G 7)]) (k_X4_isOwner l (cx_g C0) hw) (gv_X4_isOwner tm_6_18) rfl ds_X4_isOwner ⟨Nat.le_of_ble_eq_true rfl, Nat.le_of_ble_eq_true rfl⟩ (ci := 4) rfl (cx_lt C0 (by decide)) rfl rfl rfl (Nat.le_of_ble_eq_true rfl) ⟨Nat.le_of_ble_eq_true rfl, Nat.le_of_ble_eq_true rfl⟩ dX4_trust_3 (fun r2 v1 H locs hw Z => ?_)
  refine lv_if_eq (tgt := 13) hx hb dX4_trust_6 (by decide) (fun c3 => ?_) (fun c3 => ?_)
  · replace hw := hw.1 c3
    refine lv_iconst (v := 1) hx hb dX4_trust_13 (by decide) ?_
    exact b_X4_trust_14 l C0 _ _ _ _ _ _ hw Z (lv_sub hl [0, 1] rfl)
  · replace hw := hw.2 c3
    refine lv_iconst (v := 0) hx hb dX4_trust_9 (by decide) ?_
    refine lv_goto (tgt := 14) hx hb dX4_trust_10 (by decide) ?_
    exact b_X4_trust_14 l C0 _ _ _ _ _ _ hw Z (lv_sub hl [0, 1] rfl)
-- X4_booking: room (5, 117)
theorem dX4_booking_0 : decode cX4_booking 0 = .ok (.aload_n 0, 1) := by decide +kernel
theorem dX4_booking_1 : decode cX4_booking 1 = .ok (.iconst 0, 1) := by decide +kernel
theorem dX4_booking_2 : decode cX4_booking 2 = .ok (.putfield 55, 3) := by decide +kernel
theorem dX4_booking_5 : decode cX4_booking 5 = .ok (.aload_n 0, 1) := by decide +kernel
theorem dX4_booking_6 : decode cX4_booking 6 = .ok (.iload_n 1, 1) := by decide +kernel
theorem dX4_booking_7 : decode cX4_booking 7 = .ok (.invokevirtual 290, 3) := by decide +kernel
theorem dX4_booking_10 : decode cX4_booking 10 = .ok (.ifCond .ne 9, 3) := by decide +kernel
theorem dX4_booking_13 : decode cX4_booking 13 = .ok (.aload_n 0, 1) := by decide +kernel
theorem dX4_booking_14 : decode cX4_booking 14 = .ok (.iconst 1, 1) := by decide +kernel
theorem dX4_booking_15 : decode cX4_booking 15 = .ok (.invokevirtual 78, 3) := by decide +kernel
theorem dX4_booking_18 : decode cX4_booking 18 = .ok (.ireturn, 1) := by decide +kernel
theorem dX4_booking_19 : decode cX4_booking 19 = .ok (.iload_n 2, 1) := by decide +kernel
theorem dX4_booking_20 : decode cX4_booking 20 = .ok (.lookupswitch 54 #[(10, 28), (11, 34)], 28) := by decide +kernel
theorem dX4_booking_48 : decode cX4_booking 48 = .ok (.aload_n 0, 1) := by decide +kernel
theorem dX4_booking_49 : decode cX4_booking 49 = .ok (.iload_n 1, 1) := by decide +kernel
theorem dX4_booking_50 : decode cX4_booking 50 = .ok (.invokevirtual 242, 3) := by decide +kernel
theorem dX4_booking_53 : decode cX4_booking 53 = .ok (.ireturn, 1) := by decide +kernel
theorem dX4_booking_54 : decode cX4_booking 54 = .ok (.aload_n 0, 1) := by decide +kernel
theorem dX4_booking_55 : decode cX4_booking 55 = .ok (.iload_n 1, 1) := by decide +kernel
theorem dX4_booking_56 : decode cX4_booking 56 = .ok (.bipush 7, 2) := by decide +kernel
theorem dX4_booking_58 : decode cX4_booking 58 = .ok (.invokevirtual 71, 3) := by decide +kernel
theorem dX4_booking_61 : decode cX4_booking 61 = .ok (.ifCond .ne 11, 3) := by decide +kernel
theorem dX4_booking_64 : decode cX4_booking 64 = .ok (.aload_n 0, 1) := by decide +kernel
theorem dX4_booking_65 : decode cX4_booking 65 = .ok (.iload_n 1, 1) := by decide +kernel
theorem dX4_booking_66 : decode cX4_booking 66 = .ok (.invokevirtual 274, 3) := by decide +kernel
theorem dX4_booking_69 : decode cX4_booking 69 = .ok (.goto 4, 3) := by decide +kernel
theorem dX4_booking_72 : decode cX4_booking 72 = .ok (.iconst (-1), 1) := by decide +kernel
theorem dX4_booking_73 : decode cX4_booking 73 = .ok (.ireturn, 1) := by decide +kernel
theorem dX4_booking_74 : decode cX4_booking 74 = .ok (.iload_n 2, 1) := by decide +kernel
theorem dX4_booking_75 : decode cX4_booking 75 = .ok (.i2l, 1) := by decide +kernel
theorem dX4_booking_76 : decode cX4_booking 76 = .ok (.lconst 0, 1) := by decide +kernel
theorem dX4_booking_77 : decode cX4_booking 77 = .ok (.ldc2_w 288, 3) := by decide +kernel
theorem dX4_booking_80 : decode cX4_booking 80 = .ok (.invokestatic 67, 3) := by decide +kernel
theorem dX4_booking_83 : decode cX4_booking 83 = .ok (.ifCond .eq 12, 3) := by decide +kernel
theorem dX4_booking_86 : decode cX4_booking 86 = .ok (.aload_n 0, 1) := by decide +kernel
theorem dX4_booking_87 : decode cX4_booking 87 = .ok (.iload_n 1, 1) := by decide +kernel
theorem dX4_booking_88 : decode cX4_booking 88 = .ok (.iload_n 2, 1) := by decide +kernel
theorem dX4_booking_89 : decode cX4_booking 89 = .ok (.invokevirtual 71, 3) := by decide +kernel
theorem dX4_booking_92 : decode cX4_booking 92 = .ok (.goto 8, 3) := by decide +kernel
theorem dX4_booking_95 : decode cX4_booking 95 = .ok (.aload_n 0, 1) := by decide +kernel
theorem dX4_booking_96 : decode cX4_booking 96 = .ok (.iconst 2, 1) := by decide +kernel
theorem dX4_booking_97 : decode cX4_booking 97 = .ok (.invokevirtual 78, 3) := by decide +kernel
theorem dX4_booking_100 : decode cX4_booking 100 = .ok (.ireturn, 1) := by decide +kernel
def w_X4_booking_73  (Q : Int32 → V3 → Prop) (s0 : Int32) (v : V3) : Prop := Q s0 v
def w_X4_booking_100  (Q : Int32 → V3 → Prop) (s0 : Int32) (v : V3) : Prop := Q s0 v
def w_X4_booking (a1 : Int32) (a2 : Int32) (v : V3) (Q : Int32 → V3 → Prop) : Prop := ∀ v1 : V3, v1 = up2 v 7 11 0 → w_X4_isBooking a1 v1 (fun r3 v2 => ((¬ r3 = 0 → ((a2 = 10 → w_X4_joyNow a1 v2 (fun r7 v6 => Q r7 v6)) ∧ (a2 = 11 → w_X4_of a1 7 v2 (fun r10 v9 => ((¬ r10 = 0 → w_X4_booking_73 Q (-1) v9) ∧ (r10 = 0 → w_X4_bestTime a1 v9 (fun r13 v12 => w_X4_booking_73 Q r13 v12))))) ∧ (¬ a2 = 10 ∧ ¬ a2 = 11 → w_X4_isBetween ((a2).toInt64) 0 9 v2 (fun r15 v14 => ((r15 = 0 → w_X4_fail 2 v14 (fun r18 v17 => w_X4_booking_100 Q r18 v17)) ∧ (¬ r15 = 0 → w_X4_of a1 a2 v14 (fun r20 v19 => w_X4_booking_100 Q r20 v19))))))) ∧ (r3 = 0 → w_X4_fail 1 v2 (fun r22 v21 => Q r22 v21))))
set_option maxRecDepth 100000 in
set_option maxHeartbeats 4000000 in
theorem b_X4_booking_73 {p : Program} (l : Launch) {e : Env} {s : State} {m : MethodId} {args : Array Value} {below : List Frame} {meth : Method} {c : Code} {G : zG}   (C0 : Cx G RX4 cX4_booking 3 (some .int) p s m args meth c) {Q : Int32 → V3 → Prop} : ∀ (s0 : Int32) (v : V3) (H : Heap) (locs : List Loc) (ls : Array Slot), w_X4_booking_73 Q s0 v → Zs G s v H locs → lv_has ls 3 [] → W p l e { frames := 5, cells := 0, slots := 0, locals := 117 } s m args below meth c H locs 0 0 (MQ below (QiZ G Q) args s 0 0 (zA G)) (F0 m 73 ls [.int s0]) := by
  have hx := C0.1
  have hb := C0.2.1
  intro s0 v H locs ls hw Z hl
  rw [w_X4_booking_73] at hw
  exact z_iret C0 Z hw dX4_booking_73
set_option maxRecDepth 100000 in
set_option maxHeartbeats 4000000 in
theorem b_X4_booking_100 {p : Program} (l : Launch) {e : Env} {s : State} {m : MethodId} {args : Array Value} {below : List Frame} {meth : Method} {c : Code} {G : zG}   (C0 : Cx G RX4 cX4_booking 3 (some .int) p s m args meth c) {Q : Int32 → V3 → Prop} : ∀ (s0 : Int32) (v : V3) (H : Heap) (locs : List Loc) (ls : Array Slot), w_X4_booking_100 Q s0 v → Zs G s v H locs → lv_has ls 3 [] → W p l e { frames := 5, cells := 0, slots := 0, locals := 117 } s m args below meth c H locs 0 0 (MQ below (QiZ G Q) args s 0 0 (zA G)) (F0 m 100 ls [.int s0]) := by
  have hx := C0.1
  have hb := C0.2.1
  intro s0 v H locs ls hw Z hl
  rw [w_X4_booking_100] at hw
  exact z_iret C0 Z hw dX4_booking_100
set_option maxRecDepth 100000 in
set_option maxHeartbeats 4000000 in
theorem k_X4_booking (l : Launch) {G : zG} (hg : 129 ≤ gn G) {a1 : Int32} {a2 : Int32}  {v : V3} {Q : Int32 → V3 → Prop} (hw : w_X4_booking a1 a2 v Q) : Mz l yX4_booking cX4_booking 3 (some .int) 5 117 G [.ref (gad G 7), .int a1, .int a2] v (QiZ G Q) := by
  rw [w_X4_booking] at hw
  refine z_ofW hg (by decide) (Nat.le_of_ble_eq_true rfl) ?_
  intro p e s m args below meth c ls C0 Z hl
  have hx := C0.1
  have hb := C0.2.1
  replace hl : lv_has ls 3 [(0, .ref (gad G 7)), (1, .int a1), (2, .int a2)] := hl
  generalize s.heap = H at Z ⊢
  generalize ([] : List Loc) = locs at Z ⊢
  refine lv_aload_n hx hb dX4_booking_0 rfl (lv_at hl 0 rfl) ?_
  refine lv_iconst (v := 0) hx hb dX4_booking_1 (by decide) ?_
  refine z_put C0 Z in_X4 tyX4_ok nmX4 rfl 11 (by decide) rfl rfl tm_4_214 (cx_lt C0 (by decide)) rfl p_X4_11 (fun c' h => up2_off _ _ _ h) rfl rfl (Nat.le_of_ble_eq_true rfl) dX4_booking_2 (fun H locs Z => ?_)
  obtain ⟨v1, ev1⟩ : ∃ z : V3, z = up2 v 7 11 0 := ⟨_, rfl⟩
  rw [← ev1] at Z
  replace hw := hw v1 ev1
  refine lv_aload_n hx hb dX4_booking_5 rfl (lv_at hl 0 rfl) ?_
  refine lv_iload_n hx hb dX4_booking_6 rfl (lv_at hl 1 rfl) ?_
  refine z_callVi C0 Z hl.1 (As := [.int a1]) (rest := []) (k_X4_isBooking l (cx_g C0) hw) (gv_X4_isBooking tm_6_75) rfl ds_X4_isBooking ⟨Nat.le_of_ble_eq_true rfl, Nat.le_of_ble_eq_true rfl⟩ (ci := 4) rfl (cx_lt C0 (by decide)) rfl rfl rfl (Nat.le_of_ble_eq_true rfl) ⟨Nat.le_of_ble_eq_true rfl, Nat.le_of_ble_eq_true rfl⟩ dX4_booking_7 (fun r3 v2 H locs hw Z => ?_)
  refine lv_if_ne (tgt := 19) hx hb dX4_booking_10 (by decide) (fun c4 => ?_) (fun c4 => ?_)
  · replace hw := hw.1 c4
    refine lv_iload_n hx hb dX4_booking_19 rfl (lv_at hl 2 rfl) ?_
    by_cases c5 : a2 = 10
    · refine lv_lookup (tgt := 48) (off := 28) hx hb dX4_booking_20 (by decide) (by rw [c5]; rfl) (by decide) ?_
      replace hw := hw.1 c5
      refine lv_aload_n hx hb dX4_booking_48 rfl (lv_at hl 0 rfl) ?_
      refine lv_iload_n hx hb dX4_booking_49 rfl (lv_at hl 1 rfl) ?_
      refine z_callVi C0 Z hl.1 (As := [.int a1]) (rest := []) (k_X4_joyNow l (cx_g C0) hw) (gv_X4_joyNow tm_6_34) rfl ds_X4_joyNow ⟨Nat.le_of_ble_eq_true rfl, Nat.le_of_ble_eq_true rfl⟩ (ci := 4) rfl (cx_lt C0 (by decide)) rfl rfl rfl (Nat.le_of_ble_eq_true rfl) ⟨Nat.le_of_ble_eq_true rfl, Nat.le_of_ble_eq_true rfl⟩ dX4_booking_50 (fun r7 v6 H locs hw Z => ?_)
      exact z_iret C0 Z hw dX4_booking_53
    replace hw := hw.2
    by_cases c8 : a2 = 11
    · refine lv_lookup (tgt := 54) (off := 34) hx hb dX4_booking_20 (by decide) (by rw [c8]; rfl) (by decide) ?_
      replace hw := hw.1 c8
      refine lv_aload_n hx hb dX4_booking_54 rfl (lv_at hl 0 rfl) ?_
      refine lv_iload_n hx hb dX4_booking_55 rfl (lv_at hl 1 rfl) ?_
      refine lv_bipush (v := 7) hx hb dX4_booking_56 (by decide) ?_
      refine z_callVi C0 Z hl.1 (As := [.int a1, .int 7]) (rest := []) (k_X4_of l (cx_g C0) hw) (gv_X4_of tm_5_163) rfl ds_X4_of ⟨Nat.le_of_ble_eq_true rfl, Nat.le_of_ble_eq_true rfl⟩ (ci := 4) rfl (cx_lt C0 (by decide)) rfl rfl rfl (Nat.le_of_ble_eq_true rfl) ⟨Nat.le_of_ble_eq_true rfl, Nat.le_of_ble_eq_true rfl⟩ dX4_booking_58 (fun r10 v9 H locs hw Z => ?_)
      refine lv_if_ne (tgt := 72) hx hb dX4_booking_61 (by decide) (fun c11 => ?_) (fun c11 => ?_)
      · replace hw := hw.1 c11
        refine lv_iconst (v := (-1)) hx hb dX4_booking_72 (by decide) ?_
        exact b_X4_booking_73 l C0 _ _ _ _ _ hw Z (lv_sub hl [] rfl)
      · replace hw := hw.2 c11
        refine lv_aload_n hx hb dX4_booking_64 rfl (lv_at hl 0 rfl) ?_
        refine lv_iload_n hx hb dX4_booking_65 rfl (lv_at hl 1 rfl) ?_
        refine z_callVi C0 Z hl.1 (As := [.int a1]) (rest := []) (k_X4_bestTime l (cx_g C0) hw) (gv_X4_bestTime tm_5_190) rfl ds_X4_bestTime ⟨Nat.le_of_ble_eq_true rfl, Nat.le_of_ble_eq_true rfl⟩ (ci := 4) rfl (cx_lt C0 (by decide)) rfl rfl rfl (Nat.le_of_ble_eq_true rfl) ⟨Nat.le_of_ble_eq_true rfl, Nat.le_of_ble_eq_true rfl⟩ dX4_booking_66 (fun r13 v12 H locs hw Z => ?_)
        refine lv_goto (tgt := 73) hx hb dX4_booking_69 (by decide) ?_
        exact b_X4_booking_73 l C0 _ _ _ _ _ hw Z (lv_sub hl [] rfl)
    replace hw := hw.2
    refine lv_lookup (tgt := 74) (off := 54) hx hb dX4_booking_20 (by decide) ((lv_osw (a := 10) c5 (by decide)).trans ((lv_osw (a := 11) c8 (by decide)).trans rfl)) (by decide) ?_
    replace hw := hw ⟨c5, c8⟩
    refine lv_iload_n hx hb dX4_booking_74 rfl (lv_at hl 2 rfl) ?_
    refine lv_i2l (v := (a2).toInt64) hx hb dX4_booking_75 rfl ?_
    refine lv_lconst (v := 0) hx hb dX4_booking_76 (by decide) ?_
    refine lv_ldc2 hx hb (cx_own C0) (cx_w C0 tm_6_70) dX4_booking_77 ?_
    refine z_callSi C0 Z hl.1 (As := [.long ((a2).toInt64), .long 0, .long 9]) (rest := []) (k_X4_isBetween l (cx_g C0) hw) (gv_X4_isBetween tm_5_83) ds_X4_isBetween ⟨Nat.le_of_ble_eq_true rfl, Nat.le_of_ble_eq_true rfl⟩ rfl rfl (Nat.le_of_ble_eq_true rfl) ⟨Nat.le_of_ble_eq_true rfl, Nat.le_of_ble_eq_true rfl⟩ dX4_booking_80 (fun r15 v14 H locs hw Z => ?_)
    refine lv_if_eq (tgt := 95) hx hb dX4_booking_83 (by decide) (fun c16 => ?_) (fun c16 => ?_)
    · replace hw := hw.1 c16
      refine lv_aload_n hx hb dX4_booking_95 rfl (lv_at hl 0 rfl) ?_
      refine lv_iconst (v := 2) hx hb dX4_booking_96 (by decide) ?_
      refine z_callVi C0 Z hl.1 (As := [.int 2]) (rest := []) (k_X4_fail l (cx_g C0) hw) (gv_X4_fail tm_5_75) rfl ds_X4_fail ⟨Nat.le_of_ble_eq_true rfl, Nat.le_of_ble_eq_true rfl⟩ (ci := 4) rfl (cx_lt C0 (by decide)) rfl rfl rfl (Nat.le_of_ble_eq_true rfl) ⟨Nat.le_of_ble_eq_true rfl, Nat.le_of_ble_eq_true rfl⟩ dX4_booking_97 (fun r18 v17 H locs hw Z => ?_)
      exact b_X4_booking_100 l C0 _ _ _ _ _ hw Z (lv_sub hl [] rfl)
    · replace hw := hw.2 c16
      refine lv_aload_n hx hb dX4_booking_86 rfl (lv_at hl 0 rfl) ?_
      refine lv_iload_n hx hb dX4_booking_87 rfl (lv_at hl 1 rfl) ?_
      refine lv_iload_n hx hb dX4_booking_88 rfl (lv_at hl 2 rfl) ?_
      refine z_callVi C0 Z hl.1 (As := [.int a1, .int a2]) (rest := []) (k_X4_of l (cx_g C0) hw) (gv_X4_of tm_5_163) rfl ds_X4_of ⟨Nat.le_of_ble_eq_true rfl, Nat.le_of_ble_eq_true rfl⟩ (ci := 4) rfl (cx_lt C0 (by decide)) rfl rfl rfl (Nat.le_of_ble_eq_true rfl) ⟨Nat.le_of_ble_eq_true rfl, Nat.le_of_ble_eq_true rfl⟩ dX4_booking_89 (fun r20 v19 H locs hw Z => ?_)
      refine lv_goto (tgt := 100) hx hb dX4_booking_92 (by decide) ?_
      exact b_X4_booking_100 l C0 _ _ _ _ _ hw Z (lv_sub hl [] rfl)
  · replace hw := hw.2 c4
    refine lv_aload_n hx hb dX4_booking_13 rfl (lv_at hl 0 rfl) ?_
    refine lv_iconst (v := 1) hx hb dX4_booking_14 (by decide) ?_
    refine z_callVi C0 Z hl.1 (As := [.int 1]) (rest := []) (k_X4_fail l (cx_g C0) hw) (gv_X4_fail tm_5_75) rfl ds_X4_fail ⟨Nat.le_of_ble_eq_true rfl, Nat.le_of_ble_eq_true rfl⟩ (ci := 4) rfl (cx_lt C0 (by decide)) rfl rfl rfl (Nat.le_of_ble_eq_true rfl) ⟨Nat.le_of_ble_eq_true rfl, Nat.le_of_ble_eq_true rfl⟩ dX4_booking_15 (fun r22 v21 H locs hw Z => ?_)
    exact z_iret C0 Z hw dX4_booking_18
-- X4_best: room (8, 188)
theorem dX4_best_0 : decode cX4_best 0 = .ok (.aload_n 0, 1) := by decide +kernel
theorem dX4_best_1 : decode cX4_best 1 = .ok (.iconst 0, 1) := by decide +kernel
theorem dX4_best_2 : decode cX4_best 2 = .ok (.putfield 55, 3) := by decide +kernel
theorem dX4_best_5 : decode cX4_best 5 = .ok (.iload_n 1, 1) := by decide +kernel
theorem dX4_best_6 : decode cX4_best 6 = .ok (.i2l, 1) := by decide +kernel
theorem dX4_best_7 : decode cX4_best 7 = .ok (.lconst 0, 1) := by decide +kernel
theorem dX4_best_8 : decode cX4_best 8 = .ok (.ldc2_w 381, 3) := by decide +kernel
theorem dX4_best_11 : decode cX4_best 11 = .ok (.invokestatic 67, 3) := by decide +kernel
theorem dX4_best_14 : decode cX4_best 14 = .ok (.ifCond .ne 9, 3) := by decide +kernel
theorem dX4_best_17 : decode cX4_best 17 = .ok (.aload_n 0, 1) := by decide +kernel
theorem dX4_best_18 : decode cX4_best 18 = .ok (.iconst 1, 1) := by decide +kernel
theorem dX4_best_19 : decode cX4_best 19 = .ok (.invokevirtual 78, 3) := by decide +kernel
theorem dX4_best_22 : decode cX4_best 22 = .ok (.ireturn, 1) := by decide +kernel
theorem dX4_best_23 : decode cX4_best 23 = .ok (.aload_n 0, 1) := by decide +kernel
theorem dX4_best_24 : decode cX4_best 24 = .ok (.invokevirtual 352, 3) := by decide +kernel
theorem dX4_best_27 : decode cX4_best 27 = .ok (.aload_n 0, 1) := by decide +kernel
theorem dX4_best_28 : decode cX4_best 28 = .ok (.getfield 335, 3) := by decide +kernel
theorem dX4_best_31 : decode cX4_best 31 = .ok (.ifCond .ne 5, 3) := by decide +kernel
theorem dX4_best_34 : decode cX4_best 34 = .ok (.iconst (-1), 1) := by decide +kernel
theorem dX4_best_35 : decode cX4_best 35 = .ok (.ireturn, 1) := by decide +kernel
theorem dX4_best_36 : decode cX4_best 36 = .ok (.iload_n 1, 1) := by decide +kernel
theorem dX4_best_37 : decode cX4_best 37 = .ok (.tableswitch 59 0 3 #[31, 36, 49, 54], 31) := by decide +kernel
theorem dX4_best_68 : decode cX4_best 68 = .ok (.aload_n 0, 1) := by decide +kernel
theorem dX4_best_69 : decode cX4_best 69 = .ok (.getfield 335, 3) := by decide +kernel
theorem dX4_best_72 : decode cX4_best 72 = .ok (.ireturn, 1) := by decide +kernel
theorem dX4_best_73 : decode cX4_best 73 = .ok (.aload_n 0, 1) := by decide +kernel
theorem dX4_best_74 : decode cX4_best 74 = .ok (.getfield 338, 3) := by decide +kernel
theorem dX4_best_77 : decode cX4_best 77 = .ok (.ifCond .eq 7, 3) := by decide +kernel
theorem dX4_best_80 : decode cX4_best 80 = .ok (.iconst 1, 1) := by decide +kernel
theorem dX4_best_81 : decode cX4_best 81 = .ok (.goto 4, 3) := by decide +kernel
theorem dX4_best_84 : decode cX4_best 84 = .ok (.iconst 0, 1) := by decide +kernel
theorem dX4_best_85 : decode cX4_best 85 = .ok (.ireturn, 1) := by decide +kernel
theorem dX4_best_86 : decode cX4_best 86 = .ok (.aload_n 0, 1) := by decide +kernel
theorem dX4_best_87 : decode cX4_best 87 = .ok (.getfield 342, 3) := by decide +kernel
theorem dX4_best_90 : decode cX4_best 90 = .ok (.ireturn, 1) := by decide +kernel
theorem dX4_best_91 : decode cX4_best 91 = .ok (.aload_n 0, 1) := by decide +kernel
theorem dX4_best_92 : decode cX4_best 92 = .ok (.getfield 345, 3) := by decide +kernel
theorem dX4_best_95 : decode cX4_best 95 = .ok (.ireturn, 1) := by decide +kernel
theorem dX4_best_96 : decode cX4_best 96 = .ok (.aload_n 0, 1) := by decide +kernel
theorem dX4_best_97 : decode cX4_best 97 = .ok (.getfield 338, 3) := by decide +kernel
theorem dX4_best_100 : decode cX4_best 100 = .ok (.ifCond .eq 18, 3) := by decide +kernel
theorem dX4_best_103 : decode cX4_best 103 = .ok (.aload_n 0, 1) := by decide +kernel
theorem dX4_best_104 : decode cX4_best 104 = .ok (.aload_n 0, 1) := by decide +kernel
theorem dX4_best_105 : decode cX4_best 105 = .ok (.getfield 342, 3) := by decide +kernel
theorem dX4_best_108 : decode cX4_best 108 = .ok (.aload_n 0, 1) := by decide +kernel
theorem dX4_best_109 : decode cX4_best 109 = .ok (.getfield 345, 3) := by decide +kernel
theorem dX4_best_112 : decode cX4_best 112 = .ok (.invokevirtual 311, 3) := by decide +kernel
theorem dX4_best_115 : decode cX4_best 115 = .ok (.goto 4, 3) := by decide +kernel
theorem dX4_best_118 : decode cX4_best 118 = .ok (.iconst 0, 1) := by decide +kernel
theorem dX4_best_119 : decode cX4_best 119 = .ok (.ireturn, 1) := by decide +kernel
def w_X4_best_85  (Q : Int32 → V3 → Prop) (s0 : Int32) (v : V3) : Prop := Q s0 v
def w_X4_best_119  (Q : Int32 → V3 → Prop) (s0 : Int32) (v : V3) : Prop := Q s0 v
def w_X4_best (a1 : Int32) (v : V3) (Q : Int32 → V3 → Prop) : Prop := ∀ v1 : V3, v1 = up2 v 7 11 0 → w_X4_isBetween ((a1).toInt64) 0 4 v1 (fun r3 v2 => ((¬ r3 = 0 → w_X4_layBest v2 (fun v5 => ((¬ (v5 7 28) = 0 → ((a1 = 0 → Q (v5 7 28) v5) ∧ (a1 = 1 → (((v5 7 29) = 0 → w_X4_best_85 Q 0 v5) ∧ (¬ (v5 7 29) = 0 → w_X4_best_85 Q 1 v5))) ∧ (a1 = 2 → Q (v5 7 30) v5) ∧ (a1 = 3 → Q (v5 7 31) v5) ∧ (¬ a1 = 0 ∧ ¬ a1 = 1 ∧ ¬ a1 = 2 ∧ ¬ a1 = 3 → (((v5 7 29) = 0 → w_X4_best_119 Q 0 v5) ∧ (¬ (v5 7 29) = 0 → w_X4_priceOf (v5 7 30) (v5 7 31) v5 (fun r14 v13 => w_X4_best_119 Q r14 v13)))))) ∧ ((v5 7 28) = 0 → Q (-1) v5)))) ∧ (r3 = 0 → w_X4_fail 1 v2 (fun r16 v15 => Q r16 v15))))
set_option maxRecDepth 100000 in
set_option maxHeartbeats 4000000 in
theorem b_X4_best_85 {p : Program} (l : Launch) {e : Env} {s : State} {m : MethodId} {args : Array Value} {below : List Frame} {meth : Method} {c : Code} {G : zG}   (C0 : Cx G RX4 cX4_best 2 (some .int) p s m args meth c) {Q : Int32 → V3 → Prop} : ∀ (s0 : Int32) (v : V3) (H : Heap) (locs : List Loc) (ls : Array Slot), w_X4_best_85 Q s0 v → Zs G s v H locs → lv_has ls 2 [] → W p l e { frames := 8, cells := 0, slots := 0, locals := 188 } s m args below meth c H locs 0 0 (MQ below (QiZ G Q) args s 0 0 (zA G)) (F0 m 85 ls [.int s0]) := by
  have hx := C0.1
  have hb := C0.2.1
  intro s0 v H locs ls hw Z hl
  rw [w_X4_best_85] at hw
  exact z_iret C0 Z hw dX4_best_85
set_option maxRecDepth 100000 in
set_option maxHeartbeats 4000000 in
theorem b_X4_best_119 {p : Program} (l : Launch) {e : Env} {s : State} {m : MethodId} {args : Array Value} {below : List Frame} {meth : Method} {c : Code} {G : zG}   (C0 : Cx G RX4 cX4_best 2 (some .int) p s m args meth c) {Q : Int32 → V3 → Prop} : ∀ (s0 : Int32) (v : V3) (H : Heap) (locs : List Loc) (ls : Array Slot), w_X4_best_119 Q s0 v → Zs G s v H locs → lv_has ls 2 [] → W p l e { frames := 8, cells := 0, slots := 0, locals := 188 } s m args below meth c H locs 0 0 (MQ below (QiZ G Q) args s 0 0 (zA G)) (F0 m 119 ls [.int s0]) := by
  have hx := C0.1
  have hb := C0.2.1
  intro s0 v H locs ls hw Z hl
  rw [w_X4_best_119] at hw
  exact z_iret C0 Z hw dX4_best_119
set_option maxRecDepth 100000 in
set_option maxHeartbeats 4000000 in
theorem k_X4_best (l : Launch) {G : zG} (hg : 129 ≤ gn G) {a1 : Int32}  {v : V3} {Q : Int32 → V3 → Prop} (hw : w_X4_best a1 v Q) : Mz l yX4_best cX4_best 2 (some .int) 8 188 G [.ref (gad G 7), .int a1] v (QiZ G Q) := by
  rw [w_X4_best] at hw
  refine z_ofW hg (by decide) (Nat.le_of_ble_eq_true rfl) ?_
  intro p e s m args below meth c ls C0 Z hl
  have hx := C0.1
  have hb := C0.2.1
  replace hl : lv_has ls 2 [(0, .ref (gad G 7)), (1, .int a1)] := hl
  generalize s.heap = H at Z ⊢
  generalize ([] : List Loc) = locs at Z ⊢
  refine lv_aload_n hx hb dX4_best_0 rfl (lv_at hl 0 rfl) ?_
  refine lv_iconst (v := 0) hx hb dX4_best_1 (by decide) ?_
  refine z_put C0 Z in_X4 tyX4_ok nmX4 rfl 11 (by decide) rfl rfl tm_4_214 (cx_lt C0 (by decide)) rfl p_X4_11 (fun c' h => up2_off _ _ _ h) rfl rfl (Nat.le_of_ble_eq_true rfl) dX4_best_2 (fun H locs Z => ?_)
  obtain ⟨v1, ev1⟩ : ∃ z : V3, z = up2 v 7 11 0 := ⟨_, rfl⟩
  rw [← ev1] at Z
  replace hw := hw v1 ev1
  refine lv_iload_n hx hb dX4_best_5 rfl (lv_at hl 1 rfl) ?_
  refine lv_i2l (v := (a1).toInt64) hx hb dX4_best_6 rfl ?_
  refine lv_lconst (v := 0) hx hb dX4_best_7 (by decide) ?_
  refine lv_ldc2 hx hb (cx_own C0) (cx_w C0 tm_6_208) dX4_best_8 ?_
  refine z_callSi C0 Z hl.1 (As := [.long ((a1).toInt64), .long 0, .long 4]) (rest := []) (k_X4_isBetween l (cx_g C0) hw) (gv_X4_isBetween tm_5_83) ds_X4_isBetween ⟨Nat.le_of_ble_eq_true rfl, Nat.le_of_ble_eq_true rfl⟩ rfl rfl (Nat.le_of_ble_eq_true rfl) ⟨Nat.le_of_ble_eq_true rfl, Nat.le_of_ble_eq_true rfl⟩ dX4_best_11 (fun r3 v2 H locs hw Z => ?_)
  refine lv_if_ne (tgt := 23) hx hb dX4_best_14 (by decide) (fun c4 => ?_) (fun c4 => ?_)
  · replace hw := hw.1 c4
    refine lv_aload_n hx hb dX4_best_23 rfl (lv_at hl 0 rfl) ?_
    refine z_callVv C0 Z hl.1 (As := []) (rest := []) (k_X4_layBest l (cx_g C0) hw) (gv_X4_layBest tm_6_163) rfl ds_X4_layBest ⟨Nat.le_of_ble_eq_true rfl, Nat.le_of_ble_eq_true rfl⟩ (ci := 4) rfl (cx_lt C0 (by decide)) rfl rfl rfl (Nat.le_of_ble_eq_true rfl) ⟨Nat.le_of_ble_eq_true rfl, Nat.le_of_ble_eq_true rfl⟩ dX4_best_24 (fun v5 H locs hw Z => ?_)
    refine lv_aload_n hx hb dX4_best_27 rfl (lv_at hl 0 rfl) ?_
    refine z_get C0 Z in_X4 rfl 28 (by decide) rfl tm_4_231 (cx_lt C0 (by decide)) rfl rfl dX4_best_28 ?_
    refine lv_if_ne (tgt := 36) hx hb dX4_best_31 (by decide) (fun c6 => ?_) (fun c6 => ?_)
    · replace hw := hw.1 c6
      refine lv_iload_n hx hb dX4_best_36 rfl (lv_at hl 1 rfl) ?_
      by_cases c7 : a1 = 0
      · refine lv_tableIn (tgt := 68) (off := 31) hx hb dX4_best_37 (by rw [c7]; decide) (by rw [c7]; decide) (by rw [c7]; rfl) (by decide) ?_
        replace hw := hw.1 c7
        refine lv_aload_n hx hb dX4_best_68 rfl (lv_at hl 0 rfl) ?_
        refine z_get C0 Z in_X4 rfl 28 (by decide) rfl tm_4_231 (cx_lt C0 (by decide)) rfl rfl dX4_best_69 ?_
        exact z_iret C0 Z hw dX4_best_72
      replace hw := hw.2
      by_cases c8 : a1 = 1
      · refine lv_tableIn (tgt := 73) (off := 36) hx hb dX4_best_37 (by rw [c8]; decide) (by rw [c8]; decide) (by rw [c8]; rfl) (by decide) ?_
        replace hw := hw.1 c8
        refine lv_aload_n hx hb dX4_best_73 rfl (lv_at hl 0 rfl) ?_
        refine z_get C0 Z in_X4 rfl 29 (by decide) rfl tm_4_232 (cx_lt C0 (by decide)) rfl rfl dX4_best_74 ?_
        refine lv_if_eq (tgt := 84) hx hb dX4_best_77 (by decide) (fun c9 => ?_) (fun c9 => ?_)
        · replace hw := hw.1 c9
          refine lv_iconst (v := 0) hx hb dX4_best_84 (by decide) ?_
          exact b_X4_best_85 l C0 _ _ _ _ _ hw Z (lv_sub hl [] rfl)
        · replace hw := hw.2 c9
          refine lv_iconst (v := 1) hx hb dX4_best_80 (by decide) ?_
          refine lv_goto (tgt := 85) hx hb dX4_best_81 (by decide) ?_
          exact b_X4_best_85 l C0 _ _ _ _ _ hw Z (lv_sub hl [] rfl)
      replace hw := hw.2
      by_cases c10 : a1 = 2
      · refine lv_tableIn (tgt := 86) (off := 49) hx hb dX4_best_37 (by rw [c10]; decide) (by rw [c10]; decide) (by rw [c10]; rfl) (by decide) ?_
        replace hw := hw.1 c10
        refine lv_aload_n hx hb dX4_best_86 rfl (lv_at hl 0 rfl) ?_
        refine z_get C0 Z in_X4 rfl 30 (by decide) rfl tm_4_233 (cx_lt C0 (by decide)) rfl rfl dX4_best_87 ?_
        exact z_iret C0 Z hw dX4_best_90
      replace hw := hw.2
      by_cases c11 : a1 = 3
      · refine lv_tableIn (tgt := 91) (off := 54) hx hb dX4_best_37 (by rw [c11]; decide) (by rw [c11]; decide) (by rw [c11]; rfl) (by decide) ?_
        replace hw := hw.1 c11
        refine lv_aload_n hx hb dX4_best_91 rfl (lv_at hl 0 rfl) ?_
        refine z_get C0 Z in_X4 rfl 31 (by decide) rfl tm_4_234 (cx_lt C0 (by decide)) rfl rfl dX4_best_92 ?_
        exact z_iret C0 Z hw dX4_best_95
      replace hw := hw.2
      refine lv_tableOut (tgt := 96) hx hb dX4_best_37 (by have q0 := lv_neT (a := 0) c7 (by decide); have q1 := lv_neT (a := 1) c8 (by decide); have q2 := lv_neT (a := 2) c10 (by decide); have q3 := lv_neT (a := 3) c11 (by decide); omega) (by decide) ?_
      replace hw := hw ⟨c7, c8, c10, c11⟩
      refine lv_aload_n hx hb dX4_best_96 rfl (lv_at hl 0 rfl) ?_
      refine z_get C0 Z in_X4 rfl 29 (by decide) rfl tm_4_232 (cx_lt C0 (by decide)) rfl rfl dX4_best_97 ?_
      refine lv_if_eq (tgt := 118) hx hb dX4_best_100 (by decide) (fun c12 => ?_) (fun c12 => ?_)
      · replace hw := hw.1 c12
        refine lv_iconst (v := 0) hx hb dX4_best_118 (by decide) ?_
        exact b_X4_best_119 l C0 _ _ _ _ _ hw Z (lv_sub hl [] rfl)
      · replace hw := hw.2 c12
        refine lv_aload_n hx hb dX4_best_103 rfl (lv_at hl 0 rfl) ?_
        refine lv_aload_n hx hb dX4_best_104 rfl (lv_at hl 0 rfl) ?_
        refine z_get C0 Z in_X4 rfl 30 (by decide) rfl tm_4_233 (cx_lt C0 (by decide)) rfl rfl dX4_best_105 ?_
        refine lv_aload_n hx hb dX4_best_108 rfl (lv_at hl 0 rfl) ?_
        refine z_get C0 Z in_X4 rfl 31 (by decide) rfl tm_4_234 (cx_lt C0 (by decide)) rfl rfl dX4_best_109 ?_
        refine z_callVi C0 Z hl.1 (As := [.int (v5 7 30), .int (v5 7 31)]) (rest := []) (k_X4_priceOf l (cx_g C0) hw) (gv_X4_priceOf tm_6_151) rfl ds_X4_priceOf ⟨Nat.le_of_ble_eq_true rfl, Nat.le_of_ble_eq_true rfl⟩ (ci := 4) rfl (cx_lt C0 (by decide)) rfl rfl rfl (Nat.le_of_ble_eq_true rfl) ⟨Nat.le_of_ble_eq_true rfl, Nat.le_of_ble_eq_true rfl⟩ dX4_best_112 (fun r14 v13 H locs hw Z => ?_)
        refine lv_goto (tgt := 119) hx hb dX4_best_115 (by decide) ?_
        exact b_X4_best_119 l C0 _ _ _ _ _ hw Z (lv_sub hl [] rfl)
    · replace hw := hw.2 c6
      refine lv_iconst (v := (-1)) hx hb dX4_best_34 (by decide) ?_
      exact z_iret C0 Z hw dX4_best_35
  · replace hw := hw.2 c4
    refine lv_aload_n hx hb dX4_best_17 rfl (lv_at hl 0 rfl) ?_
    refine lv_iconst (v := 1) hx hb dX4_best_18 (by decide) ?_
    refine z_callVi C0 Z hl.1 (As := [.int 1]) (rest := []) (k_X4_fail l (cx_g C0) hw) (gv_X4_fail tm_5_75) rfl ds_X4_fail ⟨Nat.le_of_ble_eq_true rfl, Nat.le_of_ble_eq_true rfl⟩ (ci := 4) rfl (cx_lt C0 (by decide)) rfl rfl rfl (Nat.le_of_ble_eq_true rfl) ⟨Nat.le_of_ble_eq_true rfl, Nat.le_of_ble_eq_true rfl⟩ dX4_best_19 (fun r16 v15 H locs hw Z => ?_)
    exact z_iret C0 Z hw dX4_best_22
-- X4_usage: room (4, 93)
theorem dX4_usage_0 : decode cX4_usage 0 = .ok (.aload_n 0, 1) := by decide +kernel
theorem dX4_usage_1 : decode cX4_usage 1 = .ok (.iload_n 1, 1) := by decide +kernel
theorem dX4_usage_2 : decode cX4_usage 2 = .ok (.i2l, 1) := by decide +kernel
theorem dX4_usage_3 : decode cX4_usage 3 = .ok (.lconst 1, 1) := by decide +kernel
theorem dX4_usage_4 : decode cX4_usage 4 = .ok (.ldc2_w 376, 3) := by decide +kernel
theorem dX4_usage_7 : decode cX4_usage 7 = .ok (.invokestatic 67, 3) := by decide +kernel
theorem dX4_usage_10 : decode cX4_usage 10 = .ok (.ifCond .eq 7, 3) := by decide +kernel
theorem dX4_usage_13 : decode cX4_usage 13 = .ok (.iconst 0, 1) := by decide +kernel
theorem dX4_usage_14 : decode cX4_usage 14 = .ok (.goto 4, 3) := by decide +kernel
theorem dX4_usage_17 : decode cX4_usage 17 = .ok (.iconst 1, 1) := by decide +kernel
theorem dX4_usage_18 : decode cX4_usage 18 = .ok (.putfield 55, 3) := by decide +kernel
theorem dX4_usage_21 : decode cX4_usage 21 = .ok (.aload_n 0, 1) := by decide +kernel
theorem dX4_usage_22 : decode cX4_usage 22 = .ok (.getfield 55, 3) := by decide +kernel
theorem dX4_usage_25 : decode cX4_usage 25 = .ok (.ifCond .eq 5, 3) := by decide +kernel
theorem dX4_usage_28 : decode cX4_usage 28 = .ok (.fconst 0, 1) := by decide +kernel
theorem dX4_usage_29 : decode cX4_usage 29 = .ok (.freturn, 1) := by decide +kernel
theorem dX4_usage_30 : decode cX4_usage 30 = .ok (.iconst 0, 1) := by decide +kernel
theorem dX4_usage_31 : decode cX4_usage 31 = .ok (.istore_n 2, 1) := by decide +kernel
theorem dX4_usage_32 : decode cX4_usage 32 = .ok (.iconst 0, 1) := by decide +kernel
theorem dX4_usage_33 : decode cX4_usage 33 = .ok (.istore_n 3, 1) := by decide +kernel
theorem dX4_usage_34 : decode cX4_usage 34 = .ok (.iload_n 3, 1) := by decide +kernel
theorem dX4_usage_35 : decode cX4_usage 35 = .ok (.iload_n 1, 1) := by decide +kernel
theorem dX4_usage_36 : decode cX4_usage 36 = .ok (.if_icmp .ge 25, 3) := by decide +kernel
theorem dX4_usage_39 : decode cX4_usage 39 = .ok (.iload_n 2, 1) := by decide +kernel
theorem dX4_usage_40 : decode cX4_usage 40 = .ok (.aload_n 0, 1) := by decide +kernel
theorem dX4_usage_41 : decode cX4_usage 41 = .ok (.aload_n 0, 1) := by decide +kernel
theorem dX4_usage_42 : decode cX4_usage 42 = .ok (.getfield 7, 3) := by decide +kernel
theorem dX4_usage_45 : decode cX4_usage 45 = .ok (.bipush 7, 2) := by decide +kernel
theorem dX4_usage_47 : decode cX4_usage 47 = .ok (.iaload, 1) := by decide +kernel
theorem dX4_usage_48 : decode cX4_usage 48 = .ok (.iload_n 3, 1) := by decide +kernel
theorem dX4_usage_49 : decode cX4_usage 49 = .ok (.iadd, 1) := by decide +kernel
theorem dX4_usage_50 : decode cX4_usage 50 = .ok (.invokevirtual 223, 3) := by decide +kernel
theorem dX4_usage_53 : decode cX4_usage 53 = .ok (.iadd, 1) := by decide +kernel
theorem dX4_usage_54 : decode cX4_usage 54 = .ok (.istore_n 2, 1) := by decide +kernel
theorem dX4_usage_55 : decode cX4_usage 55 = .ok (.iinc 3 1, 3) := by decide +kernel
theorem dX4_usage_58 : decode cX4_usage 58 = .ok (.goto (-24), 3) := by decide +kernel
theorem dX4_usage_61 : decode cX4_usage 61 = .ok (.iload_n 2, 1) := by decide +kernel
theorem dX4_usage_62 : decode cX4_usage 62 = .ok (.i2f, 1) := by decide +kernel
theorem dX4_usage_63 : decode cX4_usage 63 = .ok (.aload_n 0, 1) := by decide +kernel
theorem dX4_usage_64 : decode cX4_usage 64 = .ok (.getfield 7, 3) := by decide +kernel
theorem dX4_usage_67 : decode cX4_usage 67 = .ok (.iconst 4, 1) := by decide +kernel
theorem dX4_usage_68 : decode cX4_usage 68 = .ok (.iaload, 1) := by decide +kernel
theorem dX4_usage_69 : decode cX4_usage 69 = .ok (.iload_n 1, 1) := by decide +kernel
theorem dX4_usage_70 : decode cX4_usage 70 = .ok (.imul, 1) := by decide +kernel
theorem dX4_usage_71 : decode cX4_usage 71 = .ok (.i2f, 1) := by decide +kernel
theorem dX4_usage_72 : decode cX4_usage 72 = .ok (.fdiv, 1) := by decide +kernel
theorem dX4_usage_73 : decode cX4_usage 73 = .ok (.freturn, 1) := by decide +kernel
def w_X4_usage_34  (Q : UInt32 → V3 → Prop) : Nat → Int32 → Int32 → Int32 → V3 → Prop
  | 0, _, _, _, _ => False
  | n34 + 1, x1, x2, x3, v => ((x1 ≤ x3 → vf_n32 (FP.fdiv (FP.i2f x2) (FP.i2f ((v 8 4) * x1))) ∧ Q (FP.fdiv (FP.i2f x2) (FP.i2f ((v 8 4) * x1))) v) ∧ (¬ x1 ≤ x3 → w_X4_bytesAt ((v 8 7) + x3) v (fun r9 v8 => (w_X4_usage_34 Q n34) x1 (x2 + r9) (x3 + 1) v8)))
def w_X4_usage_18  (Q : UInt32 → V3 → Prop) (x1 : Int32) (s1 : Int32) (v : V3) : Prop := ∀ v4 : V3, v4 = up2 v 7 11 s1 → (((v4 7 11) = 0 → ∃ m34 : Nat, w_X4_usage_34 Q m34 x1 0 0 v4) ∧ (¬ (v4 7 11) = 0 → Q FP.fconst0 v4))
def w_X4_usage (a1 : Int32) (v : V3) (Q : UInt32 → V3 → Prop) : Prop := w_X4_isBetween ((a1).toInt64) 1 200 v (fun r2 v1 => ((r2 = 0 → w_X4_usage_18 Q a1 1 v1) ∧ (¬ r2 = 0 → w_X4_usage_18 Q a1 0 v1)))
set_option maxRecDepth 100000 in
set_option maxHeartbeats 4000000 in
theorem b_X4_usage_34 {p : Program} (l : Launch) {e : Env} {s : State} {m : MethodId} {args : Array Value} {below : List Frame} {meth : Method} {c : Code} {G : zG}   (C0 : Cx G RX4 cX4_usage 4 (some .float) p s m args meth c) {Q : UInt32 → V3 → Prop} : ∀ (n : Nat) (x1 : Int32) (x2 : Int32) (x3 : Int32) (v : V3) (H : Heap) (locs : List Loc) (ls : Array Slot), w_X4_usage_34 Q n x1 x2 x3 v → Zs G s v H locs → lv_has ls 4 [(0, .ref (gad G 7)), (1, .int x1), (2, .int x2), (3, .int x3)] → W p l e { frames := 4, cells := 0, slots := 0, locals := 93 } s m args below meth c H locs 0 0 (MQ below (QfZ G Q) args s 0 0 (zA G)) (F0 m 34 ls []) := by
  have hx := C0.1
  have hb := C0.2.1
  intro n
  induction n with
  | zero =>
    intro x1 x2 x3 v H locs ls hw Z hl
    exact hw.elim
  | succ n hK34 =>
    intro x1 x2 x3 v H locs ls hw Z hl
    rw [w_X4_usage_34] at hw
    refine lv_iload_n hx hb dX4_usage_34 rfl (lv_at hl 3 rfl) ?_
    refine lv_iload_n hx hb dX4_usage_35 rfl (lv_at hl 1 rfl) ?_
    refine lv_icmp_ge (tgt := 61) hx hb dX4_usage_36 (by decide) (fun c6 => ?_) (fun c6 => ?_)
    · replace hw := hw.1 c6
      refine lv_iload_n hx hb dX4_usage_61 rfl (lv_at hl 2 rfl) ?_
      refine lv_i2f hx hb dX4_usage_62 ?_
      refine lv_aload_n hx hb dX4_usage_63 rfl (lv_at hl 0 rfl) ?_
      refine z_get C0 Z in_X4 rfl 0 (by decide) rfl tm_4_203 (cx_lt C0 (by decide)) rfl rfl dX4_usage_64 ?_
      refine lv_iconst (v := 4) hx hb dX4_usage_67 (by decide) ?_
      refine z_ialdk C0 Z (cx_lt C0 (by decide)) rfl in_4_474 nc_4 dX4_usage_68 ?_
      refine lv_iload_n hx hb dX4_usage_69 rfl (lv_at hl 1 rfl) ?_
      refine lv_imul hx hb dX4_usage_70 ?_
      refine lv_i2f hx hb dX4_usage_71 ?_
      obtain ⟨h7, hw⟩ := hw
      refine lv_fdiv hx hb dX4_usage_72 h7 ?_
      exact z_fret C0 Z hw dX4_usage_73
    · replace hw := hw.2 c6
      refine lv_iload_n hx hb dX4_usage_39 rfl (lv_at hl 2 rfl) ?_
      refine lv_aload_n hx hb dX4_usage_40 rfl (lv_at hl 0 rfl) ?_
      refine lv_aload_n hx hb dX4_usage_41 rfl (lv_at hl 0 rfl) ?_
      refine z_get C0 Z in_X4 rfl 0 (by decide) rfl tm_4_203 (cx_lt C0 (by decide)) rfl rfl dX4_usage_42 ?_
      refine lv_bipush (v := 7) hx hb dX4_usage_45 (by decide) ?_
      refine z_ialdk C0 Z (cx_lt C0 (by decide)) rfl in_7_474 nc_7 dX4_usage_47 ?_
      refine lv_iload_n hx hb dX4_usage_48 rfl (lv_at hl 3 rfl) ?_
      refine lv_iadd hx hb dX4_usage_49 ?_
      refine z_callVi C0 Z hl.1 (As := [.int ((v 8 7) + x3)]) (rest := [.int x2]) (k_X4_bytesAt l (cx_g C0) hw) (gv_X4_bytesAt tm_6_1) rfl ds_X4_bytesAt ⟨Nat.le_of_ble_eq_true rfl, Nat.le_of_ble_eq_true rfl⟩ (ci := 4) rfl (cx_lt C0 (by decide)) rfl rfl rfl (Nat.le_of_ble_eq_true rfl) ⟨Nat.le_of_ble_eq_true rfl, Nat.le_of_ble_eq_true rfl⟩ dX4_usage_50 (fun r9 v8 H locs hw Z => ?_)
      refine lv_iadd hx hb dX4_usage_53 ?_
      refine lv_istore_n (lv' := [(2, .int (x2 + r9)), (0, .ref (gad G 7)), (1, .int x1), (3, .int x3)]) hx hb dX4_usage_54 rfl hl (by decide) rfl (fun ls hl => ?_)
      refine lv_iinc (v := x3 + 1) (lv' := [(3, .int (x3 + 1)), (2, .int (x2 + r9)), (0, .ref (gad G 7)), (1, .int x1)]) hx hb dX4_usage_55 hl (k := 3) rfl rfl (by decide) rfl (fun ls hl => ?_)
      refine lv_goto (tgt := 34) hx hb dX4_usage_58 (by decide) ?_
      exact hK34 _ _ _ _ _ _ _ hw Z (lv_sub hl [2, 3, 1, 0] rfl)
set_option maxRecDepth 100000 in
set_option maxHeartbeats 4000000 in
theorem b_X4_usage_18 {p : Program} (l : Launch) {e : Env} {s : State} {m : MethodId} {args : Array Value} {below : List Frame} {meth : Method} {c : Code} {G : zG}   (C0 : Cx G RX4 cX4_usage 4 (some .float) p s m args meth c) {Q : UInt32 → V3 → Prop} : ∀ (x1 : Int32) (s1 : Int32) (v : V3) (H : Heap) (locs : List Loc) (ls : Array Slot), w_X4_usage_18 Q x1 s1 v → Zs G s v H locs → lv_has ls 4 [(0, .ref (gad G 7)), (1, .int x1)] → W p l e { frames := 4, cells := 0, slots := 0, locals := 93 } s m args below meth c H locs 0 0 (MQ below (QfZ G Q) args s 0 0 (zA G)) (F0 m 18 ls [.int s1, .ref (gad G 7)]) := by
  have hx := C0.1
  have hb := C0.2.1
  intro x1 s1 v H locs ls hw Z hl
  rw [w_X4_usage_18] at hw
  refine z_put C0 Z in_X4 tyX4_ok nmX4 rfl 11 (by decide) rfl rfl tm_4_214 (cx_lt C0 (by decide)) rfl p_X4_11 (fun c' h => up2_off _ _ _ h) rfl rfl (Nat.le_of_ble_eq_true rfl) dX4_usage_18 (fun H locs Z => ?_)
  obtain ⟨v4, ev4⟩ : ∃ z : V3, z = up2 v 7 11 s1 := ⟨_, rfl⟩
  rw [← ev4] at Z
  replace hw := hw v4 ev4
  refine lv_aload_n hx hb dX4_usage_21 rfl (lv_at hl 0 rfl) ?_
  refine z_get C0 Z in_X4 rfl 11 (by decide) rfl tm_4_214 (cx_lt C0 (by decide)) rfl rfl dX4_usage_22 ?_
  refine lv_if_eq (tgt := 30) hx hb dX4_usage_25 (by decide) (fun c5 => ?_) (fun c5 => ?_)
  · replace hw := hw.1 c5
    refine lv_iconst (v := 0) hx hb dX4_usage_30 (by decide) ?_
    refine lv_istore_n (lv' := [(2, .int 0), (0, .ref (gad G 7)), (1, .int x1)]) hx hb dX4_usage_31 rfl hl (by decide) rfl (fun ls hl => ?_)
    refine lv_iconst (v := 0) hx hb dX4_usage_32 (by decide) ?_
    refine lv_istore_n (lv' := [(3, .int 0), (2, .int 0), (0, .ref (gad G 7)), (1, .int x1)]) hx hb dX4_usage_33 rfl hl (by decide) rfl (fun ls hl => ?_)
    obtain ⟨m34, hw⟩ := hw
    exact b_X4_usage_34 l C0 m34 _ _ _ _ _ _ _ hw Z (lv_sub hl [2, 3, 1, 0] rfl)
  · replace hw := hw.2 c5
    refine lv_fconst0 hx hb dX4_usage_28 ?_
    exact z_fret C0 Z hw dX4_usage_29
set_option maxRecDepth 100000 in
set_option maxHeartbeats 4000000 in
theorem k_X4_usage (l : Launch) {G : zG} (hg : 129 ≤ gn G) {a1 : Int32}  {v : V3} {Q : UInt32 → V3 → Prop} (hw : w_X4_usage a1 v Q) : Mz l yX4_usage cX4_usage 4 (some .float) 4 93 G [.ref (gad G 7), .int a1] v (QfZ G Q) := by
  rw [w_X4_usage] at hw
  refine z_ofW hg (by decide) (Nat.le_of_ble_eq_true rfl) ?_
  intro p e s m args below meth c ls C0 Z hl
  have hx := C0.1
  have hb := C0.2.1
  replace hl : lv_has ls 4 [(0, .ref (gad G 7)), (1, .int a1)] := hl
  generalize s.heap = H at Z ⊢
  generalize ([] : List Loc) = locs at Z ⊢
  refine lv_aload_n hx hb dX4_usage_0 rfl (lv_at hl 0 rfl) ?_
  refine lv_iload_n hx hb dX4_usage_1 rfl (lv_at hl 1 rfl) ?_
  refine lv_i2l (v := (a1).toInt64) hx hb dX4_usage_2 rfl ?_
  refine lv_lconst (v := 1) hx hb dX4_usage_3 (by decide) ?_
  refine lv_ldc2 hx hb (cx_own C0) (cx_w C0 tm_6_179) dX4_usage_4 ?_
  refine z_callSi C0 Z hl.1 (As := [.long ((a1).toInt64), .long 1, .long 200]) (rest := [.ref (gad G 7)]) (k_X4_isBetween l (cx_g C0) hw) (gv_X4_isBetween tm_5_83) ds_X4_isBetween ⟨Nat.le_of_ble_eq_true rfl, Nat.le_of_ble_eq_true rfl⟩ rfl rfl (Nat.le_of_ble_eq_true rfl) ⟨Nat.le_of_ble_eq_true rfl, Nat.le_of_ble_eq_true rfl⟩ dX4_usage_7 (fun r2 v1 H locs hw Z => ?_)
  refine lv_if_eq (tgt := 17) hx hb dX4_usage_10 (by decide) (fun c3 => ?_) (fun c3 => ?_)
  · replace hw := hw.1 c3
    refine lv_iconst (v := 1) hx hb dX4_usage_17 (by decide) ?_
    exact b_X4_usage_18 l C0 _ _ _ _ _ _ hw Z (lv_sub hl [0, 1] rfl)
  · replace hw := hw.2 c3
    refine lv_iconst (v := 0) hx hb dX4_usage_13 (by decide) ?_
    refine lv_goto (tgt := 18) hx hb dX4_usage_14 (by decide) ?_
    exact b_X4_usage_18 l C0 _ _ _ _ _ _ hw Z (lv_sub hl [0, 1] rfl)
