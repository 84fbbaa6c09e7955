-- X3_arrive: room (1, 21)
theorem dX3_arrive_0 : decode cX3_arrive 0 = .ok (.aload_n 0, 1) := by decide +kernel
theorem dX3_arrive_1 : decode cX3_arrive 1 = .ok (.iload_n 1, 1) := by decide +kernel
theorem dX3_arrive_2 : decode cX3_arrive 2 = .ok (.invokevirtual 177, 3) := by decide +kernel
theorem dX3_arrive_5 : decode cX3_arrive 5 = .ok (.aload_n 0, 1) := by decide +kernel
theorem dX3_arrive_6 : decode cX3_arrive 6 = .ok (.getfield 26, 3) := by decide +kernel
theorem dX3_arrive_9 : decode cX3_arrive 9 = .ok (.getfield 190, 3) := by decide +kernel
theorem dX3_arrive_12 : decode cX3_arrive 12 = .ok (.iload_n 1, 1) := by decide +kernel
theorem dX3_arrive_13 : decode cX3_arrive 13 = .ok (.aaload, 1) := by decide +kernel
theorem dX3_arrive_14 : decode cX3_arrive 14 = .ok (.astore_n 2, 1) := by decide +kernel
theorem dX3_arrive_15 : decode cX3_arrive 15 = .ok (.aload_n 2, 1) := by decide +kernel
theorem dX3_arrive_16 : decode cX3_arrive 16 = .ok (.bipush 7, 2) := by decide +kernel
theorem dX3_arrive_18 : decode cX3_arrive 18 = .ok (.iaload, 1) := by decide +kernel
theorem dX3_arrive_19 : decode cX3_arrive 19 = .ok (.iconst 1, 1) := by decide +kernel
theorem dX3_arrive_20 : decode cX3_arrive 20 = .ok (.if_icmp .eq 5, 3) := by decide +kernel
theorem dX3_arrive_23 : decode cX3_arrive 23 = .ok (.iconst 1, 1) := by decide +kernel
theorem dX3_arrive_24 : decode cX3_arrive 24 = .ok (.ireturn, 1) := by decide +kernel
theorem dX3_arrive_25 : decode cX3_arrive 25 = .ok (.aload_n 0, 1) := by decide +kernel
theorem dX3_arrive_26 : decode cX3_arrive 26 = .ok (.getfield 26, 3) := by decide +kernel
theorem dX3_arrive_29 : decode cX3_arrive 29 = .ok (.getfield 122, 3) := by decide +kernel
theorem dX3_arrive_32 : decode cX3_arrive 32 = .ok (.aload_n 2, 1) := by decide +kernel
theorem dX3_arrive_33 : decode cX3_arrive 33 = .ok (.bipush 8, 2) := by decide +kernel
theorem dX3_arrive_35 : decode cX3_arrive 35 = .ok (.iaload, 1) := by decide +kernel
theorem dX3_arrive_36 : decode cX3_arrive 36 = .ok (.if_icmp .ge 5, 3) := by decide +kernel
theorem dX3_arrive_39 : decode cX3_arrive 39 = .ok (.iconst 2, 1) := by decide +kernel
theorem dX3_arrive_40 : decode cX3_arrive 40 = .ok (.ireturn, 1) := by decide +kernel
theorem dX3_arrive_41 : decode cX3_arrive 41 = .ok (.aload_n 2, 1) := by decide +kernel
theorem dX3_arrive_42 : decode cX3_arrive 42 = .ok (.bipush 7, 2) := by decide +kernel
theorem dX3_arrive_44 : decode cX3_arrive 44 = .ok (.iconst 2, 1) := by decide +kernel
theorem dX3_arrive_45 : decode cX3_arrive 45 = .ok (.iastore, 1) := by decide +kernel
theorem dX3_arrive_46 : decode cX3_arrive 46 = .ok (.aload_n 0, 1) := by decide +kernel
theorem dX3_arrive_47 : decode cX3_arrive 47 = .ok (.getfield 26, 3) := by decide +kernel
theorem dX3_arrive_50 : decode cX3_arrive 50 = .ok (.getfield 150, 3) := by decide +kernel
theorem dX3_arrive_53 : decode cX3_arrive 53 = .ok (.aload_n 2, 1) := by decide +kernel
theorem dX3_arrive_54 : decode cX3_arrive 54 = .ok (.iconst 0, 1) := by decide +kernel
theorem dX3_arrive_55 : decode cX3_arrive 55 = .ok (.iaload, 1) := by decide +kernel
theorem dX3_arrive_56 : decode cX3_arrive 56 = .ok (.aaload, 1) := by decide +kernel
theorem dX3_arrive_57 : decode cX3_arrive 57 = .ok (.bipush 6, 2) := by decide +kernel
theorem dX3_arrive_59 : decode cX3_arrive 59 = .ok (.dup2, 1) := by decide +kernel
theorem dX3_arrive_60 : decode cX3_arrive 60 = .ok (.iaload, 1) := by decide +kernel
theorem dX3_arrive_61 : decode cX3_arrive 61 = .ok (.aload_n 0, 1) := by decide +kernel
theorem dX3_arrive_62 : decode cX3_arrive 62 = .ok (.getfield 26, 3) := by decide +kernel
theorem dX3_arrive_65 : decode cX3_arrive 65 = .ok (.getfield 122, 3) := by decide +kernel
theorem dX3_arrive_68 : decode cX3_arrive 68 = .ok (.aload_n 2, 1) := by decide +kernel
theorem dX3_arrive_69 : decode cX3_arrive 69 = .ok (.bipush 8, 2) := by decide +kernel
theorem dX3_arrive_71 : decode cX3_arrive 71 = .ok (.iaload, 1) := by decide +kernel
theorem dX3_arrive_72 : decode cX3_arrive 72 = .ok (.isub, 1) := by decide +kernel
theorem dX3_arrive_73 : decode cX3_arrive 73 = .ok (.iadd, 1) := by decide +kernel
theorem dX3_arrive_74 : decode cX3_arrive 74 = .ok (.iastore, 1) := by decide +kernel
theorem dX3_arrive_75 : decode cX3_arrive 75 = .ok (.iconst 0, 1) := by decide +kernel
theorem dX3_arrive_76 : decode cX3_arrive 76 = .ok (.ireturn, 1) := by decide +kernel
def w_X3_arrive (a1 : Int32) (v : V3) (Q : Int32 → V3 → Prop) : Prop := w_X3_needBooking a1 v (fun v1 => vp_in a1 40 ∧ (((v1 (8 + 14 + (ix a1)) 7) = 1 → (((v1 (8 + 14 + (ix a1)) 8) ≤ (v1 8 6) → ∀ v6 : V3, v6 = up2 v1 (8 + 14 + (ix a1)) 7 2 → vp_in (v6 (8 + 14 + (ix a1)) 0) 8 ∧ ∀ v9 : V3, v9 = up2 v6 (8 + 6 + (ix (v6 (8 + 14 + (ix a1)) 0))) 6 ((v6 (8 + 6 + (ix (v6 (8 + 14 + (ix a1)) 0))) 6) + ((v6 8 6) - (v6 (8 + 14 + (ix a1)) 8))) → Q 0 v9) ∧ (¬ (v1 (8 + 14 + (ix a1)) 8) ≤ (v1 8 6) → Q 2 v1))) ∧ (¬ (v1 (8 + 14 + (ix a1)) 7) = 1 → Q 1 v1)))
set_option maxRecDepth 100000 in
set_option maxHeartbeats 4000000 in
theorem k_X3_arrive (l : Launch) {G : zG} (hg : 116 ≤ gn G) {a1 : Int32}  {v : V3} {Q : Int32 → V3 → Prop} (hw : w_X3_arrive a1 v Q) : Mz l yX3_arrive cX3_arrive 3 (some .int) 1 21 G [.ref (gad G 0), .int a1] v (QiZ G Q) := by
  rw [w_X3_arrive] at hw
  refine z_ofW hg (by decide) (Nat.le_of_ble_eq_true rfl) ?_
  intro p e s m args below meth c ls C0 Z hl
  have hx := C0.1
  have hb := C0.2.1
  replace hl : lv_has ls 3 [(0, .ref (gad G 0)), (1, .int a1)] := hl
  generalize s.heap = H at Z ⊢
  generalize ([] : List Loc) = locs at Z ⊢
  refine lv_aload_n hx hb dX3_arrive_0 rfl (lv_at hl 0 rfl) ?_
  refine lv_iload_n hx hb dX3_arrive_1 rfl (lv_at hl 1 rfl) ?_
  refine z_callVv C0 Z hl.1 (As := [.int a1]) (rest := []) (k_X3_needBooking l (cx_g C0) hw) (gv_X3_needBooking tm_3_5) rfl ds_X3_needBooking ⟨Nat.le_of_ble_eq_true rfl, Nat.le_of_ble_eq_true rfl⟩ (ci := 3) rfl (cx_lt C0 (by decide)) rfl rfl rfl (Nat.le_of_ble_eq_true rfl) ⟨Nat.le_of_ble_eq_true rfl, Nat.le_of_ble_eq_true rfl⟩ dX3_arrive_2 (fun v1 H locs hw Z => ?_)
  refine lv_aload_n hx hb dX3_arrive_5 rfl (lv_at hl 0 rfl) ?_
  refine z_get C0 Z in_X3 rfl 4 (by decide) rfl tm_1_142 (cx_lt C0 (by decide)) rfl rfl dX3_arrive_6 ?_
  refine z_get C0 Z in_X1 rfl 2 (by decide) rfl tm_1_51 (isL_lt0 (isL8 (cx_g C0))) (ent_L (isL8 (cx_g C0))) rfl dX3_arrive_9 ?_
  refine lv_iload_n hx hb dX3_arrive_12 rfl (lv_at hl 1 rfl) ?_
  obtain ⟨h2, hw⟩ := hw
  have h3 := vp_lt h2
  refine z_aald C0 Z (isL_lt (isL8 (cx_g C0)) 3 (by decide)) (ent_L3 (isL8 (cx_g C0))) h2 dX3_arrive_13 ?_
  refine lv_astore_n (lv' := [(2, .ref (gad G (8 + 14 + (ix a1)))), (0, .ref (gad G 0)), (1, .int a1)]) hx hb dX3_arrive_14 rfl hl (by decide) rfl (fun ls hl => ?_)
  refine lv_aload_n hx hb dX3_arrive_15 rfl (lv_at hl 0 rfl) ?_
  refine lv_bipush (v := 7) hx hb dX3_arrive_16 (by decide) ?_
  refine z_ialdk C0 Z (isL_B (isL8 (cx_g C0)) h3) (ent_B (isL8 (cx_g C0)) h3) in_7_10 nc_7 dX3_arrive_18 ?_
  refine lv_iconst (v := 1) hx hb dX3_arrive_19 (by decide) ?_
  refine lv_icmp_eq (tgt := 25) hx hb dX3_arrive_20 (by decide) (fun c4 => ?_) (fun c4 => ?_)
  · replace hw := hw.1 c4
    refine lv_aload_n hx hb dX3_arrive_25 rfl (lv_at hl 1 rfl) ?_
    refine z_get C0 Z in_X3 rfl 4 (by decide) rfl tm_1_142 (cx_lt C0 (by decide)) rfl rfl dX3_arrive_26 ?_
    refine z_get C0 Z in_X1 rfl 6 (by decide) rfl tm_1_59 (isL_lt0 (isL8 (cx_g C0))) (ent_L (isL8 (cx_g C0))) rfl dX3_arrive_29 ?_
    refine lv_aload_n hx hb dX3_arrive_32 rfl (lv_at hl 0 rfl) ?_
    refine lv_bipush (v := 8) hx hb dX3_arrive_33 (by decide) ?_
    refine z_ialdk C0 Z (isL_B (isL8 (cx_g C0)) h3) (ent_B (isL8 (cx_g C0)) h3) in_8_10 nc_8 dX3_arrive_35 ?_
    refine lv_icmp_ge (tgt := 41) hx hb dX3_arrive_36 (by decide) (fun c5 => ?_) (fun c5 => ?_)
    · replace hw := hw.1 c5
      refine lv_aload_n hx hb dX3_arrive_41 rfl (lv_at hl 0 rfl) ?_
      refine lv_bipush (v := 7) hx hb dX3_arrive_42 (by decide) ?_
      refine lv_iconst (v := 2) hx hb dX3_arrive_44 (by decide) ?_
      refine z_iastk C0 Z (isL_B (isL8 (cx_g C0)) h3) (fun _ => ent_B (isL8 (cx_g C0)) h3) in_7_10 nc_7 dX3_arrive_45 (fun H locs Z => ?_)
      obtain ⟨v6, ev6⟩ : ∃ z : V3, z = up2 v1 (8 + 14 + (ix a1)) 7 2 := ⟨_, rfl⟩
      rw [← ev6] at Z
      replace hw := hw v6 ev6
      refine lv_aload_n hx hb dX3_arrive_46 rfl (lv_at hl 1 rfl) ?_
      refine z_get C0 Z in_X3 rfl 4 (by decide) rfl tm_1_142 (cx_lt C0 (by decide)) rfl rfl dX3_arrive_47 ?_
      refine z_get C0 Z in_X1 rfl 1 (by decide) rfl tm_1_48 (isL_lt0 (isL8 (cx_g C0))) (ent_L (isL8 (cx_g C0))) rfl dX3_arrive_50 ?_
      refine lv_aload_n hx hb dX3_arrive_53 rfl (lv_at hl 0 rfl) ?_
      refine lv_iconst (v := 0) hx hb dX3_arrive_54 (by decide) ?_
      refine z_ialdk C0 Z (isL_B (isL8 (cx_g C0)) h3) (ent_B (isL8 (cx_g C0)) h3) in_0_10 nc_0 dX3_arrive_55 ?_
      obtain ⟨h7, hw⟩ := hw
      have h8 := vp_lt h7
      refine z_aald C0 Z (isL_lt (isL8 (cx_g C0)) 2 (by decide)) (ent_L2 (isL8 (cx_g C0))) h7 dX3_arrive_56 ?_
      refine lv_bipush (v := 6) hx hb dX3_arrive_57 (by decide) ?_
      refine lv_dup2_11 hx hb dX3_arrive_59 rfl rfl ?_
      refine z_ialdk C0 Z (isL_O (isL8 (cx_g C0)) h8) (ent_O (isL8 (cx_g C0)) h8) in_6_8 nc_6 dX3_arrive_60 ?_
      refine lv_aload_n hx hb dX3_arrive_61 rfl (lv_at hl 1 rfl) ?_
      refine z_get C0 Z in_X3 rfl 4 (by decide) rfl tm_1_142 (cx_lt C0 (by decide)) rfl rfl dX3_arrive_62 ?_
      refine z_get C0 Z in_X1 rfl 6 (by decide) rfl tm_1_59 (isL_lt0 (isL8 (cx_g C0))) (ent_L (isL8 (cx_g C0))) rfl dX3_arrive_65 ?_
      refine lv_aload_n hx hb dX3_arrive_68 rfl (lv_at hl 0 rfl) ?_
      refine lv_bipush (v := 8) hx hb dX3_arrive_69 (by decide) ?_
      refine z_ialdk C0 Z (isL_B (isL8 (cx_g C0)) h3) (ent_B (isL8 (cx_g C0)) h3) in_8_10 nc_8 dX3_arrive_71 ?_
      refine lv_isub hx hb dX3_arrive_72 ?_
      refine lv_iadd hx hb dX3_arrive_73 ?_
      refine z_iastk C0 Z (isL_O (isL8 (cx_g C0)) h8) (fun _ => ent_O (isL8 (cx_g C0)) h8) in_6_8 nc_6 dX3_arrive_74 (fun H locs Z => ?_)
      obtain ⟨v9, ev9⟩ : ∃ z : V3, z = up2 v6 (8 + 6 + (ix (v6 (8 + 14 + (ix a1)) 0))) 6 ((v6 (8 + 6 + (ix (v6 (8 + 14 + (ix a1)) 0))) 6) + ((v6 8 6) - (v6 (8 + 14 + (ix a1)) 8))) := ⟨_, rfl⟩
      rw [← ev9] at Z
      replace hw := hw v9 ev9
      refine lv_iconst (v := 0) hx hb dX3_arrive_75 (by decide) ?_
      exact z_iret C0 Z hw dX3_arrive_76
    · replace hw := hw.2 c5
      refine lv_iconst (v := 2) hx hb dX3_arrive_39 (by decide) ?_
      exact z_iret C0 Z hw dX3_arrive_40
  · replace hw := hw.2 c4
    refine lv_iconst (v := 1) hx hb dX3_arrive_23 (by decide) ?_
    exact z_iret C0 Z hw dX3_arrive_24
-- X3_leave: room (4, 104)
theorem dX3_leave_0 : decode cX3_leave 0 = .ok (.aload_n 0, 1) := by decide +kernel
theorem dX3_leave_1 : decode cX3_leave 1 = .ok (.iload_n 1, 1) := by decide +kernel
theorem dX3_leave_2 : decode cX3_leave 2 = .ok (.invokevirtual 177, 3) := by decide +kernel
theorem dX3_leave_5 : decode cX3_leave 5 = .ok (.aload_n 0, 1) := by decide +kernel
theorem dX3_leave_6 : decode cX3_leave 6 = .ok (.getfield 26, 3) := by decide +kernel
theorem dX3_leave_9 : decode cX3_leave 9 = .ok (.getfield 190, 3) := by decide +kernel
theorem dX3_leave_12 : decode cX3_leave 12 = .ok (.iload_n 1, 1) := by decide +kernel
theorem dX3_leave_13 : decode cX3_leave 13 = .ok (.aaload, 1) := by decide +kernel
theorem dX3_leave_14 : decode cX3_leave 14 = .ok (.astore_n 2, 1) := by decide +kernel
theorem dX3_leave_15 : decode cX3_leave 15 = .ok (.aload_n 2, 1) := by decide +kernel
theorem dX3_leave_16 : decode cX3_leave 16 = .ok (.bipush 7, 2) := by decide +kernel
theorem dX3_leave_18 : decode cX3_leave 18 = .ok (.iaload, 1) := by decide +kernel
theorem dX3_leave_19 : decode cX3_leave 19 = .ok (.iconst 2, 1) := by decide +kernel
theorem dX3_leave_20 : decode cX3_leave 20 = .ok (.if_icmp .eq 5, 3) := by decide +kernel
theorem dX3_leave_23 : decode cX3_leave 23 = .ok (.iconst 1, 1) := by decide +kernel
theorem dX3_leave_24 : decode cX3_leave 24 = .ok (.ireturn, 1) := by decide +kernel
theorem dX3_leave_25 : decode cX3_leave 25 = .ok (.aload_n 2, 1) := by decide +kernel
theorem dX3_leave_26 : decode cX3_leave 26 = .ok (.bipush 7, 2) := by decide +kernel
theorem dX3_leave_28 : decode cX3_leave 28 = .ok (.iconst 3, 1) := by decide +kernel
theorem dX3_leave_29 : decode cX3_leave 29 = .ok (.iastore, 1) := by decide +kernel
theorem dX3_leave_30 : decode cX3_leave 30 = .ok (.aload_n 2, 1) := by decide +kernel
theorem dX3_leave_31 : decode cX3_leave 31 = .ok (.bipush 9, 2) := by decide +kernel
theorem dX3_leave_33 : decode cX3_leave 33 = .ok (.aload_n 0, 1) := by decide +kernel
theorem dX3_leave_34 : decode cX3_leave 34 = .ok (.getfield 26, 3) := by decide +kernel
theorem dX3_leave_37 : decode cX3_leave 37 = .ok (.getfield 122, 3) := by decide +kernel
theorem dX3_leave_40 : decode cX3_leave 40 = .ok (.iastore, 1) := by decide +kernel
theorem dX3_leave_41 : decode cX3_leave 41 = .ok (.aload_n 0, 1) := by decide +kernel
theorem dX3_leave_42 : decode cX3_leave 42 = .ok (.getfield 26, 3) := by decide +kernel
theorem dX3_leave_45 : decode cX3_leave 45 = .ok (.getfield 150, 3) := by decide +kernel
theorem dX3_leave_48 : decode cX3_leave 48 = .ok (.aload_n 2, 1) := by decide +kernel
theorem dX3_leave_49 : decode cX3_leave 49 = .ok (.iconst 0, 1) := by decide +kernel
theorem dX3_leave_50 : decode cX3_leave 50 = .ok (.iaload, 1) := by decide +kernel
theorem dX3_leave_51 : decode cX3_leave 51 = .ok (.aaload, 1) := by decide +kernel
theorem dX3_leave_52 : decode cX3_leave 52 = .ok (.iconst 1, 1) := by decide +kernel
theorem dX3_leave_53 : decode cX3_leave 53 = .ok (.dup2, 1) := by decide +kernel
theorem dX3_leave_54 : decode cX3_leave 54 = .ok (.iaload, 1) := by decide +kernel
theorem dX3_leave_55 : decode cX3_leave 55 = .ok (.iconst 1, 1) := by decide +kernel
theorem dX3_leave_56 : decode cX3_leave 56 = .ok (.iadd, 1) := by decide +kernel
theorem dX3_leave_57 : decode cX3_leave 57 = .ok (.iastore, 1) := by decide +kernel
theorem dX3_leave_58 : decode cX3_leave 58 = .ok (.aload_n 0, 1) := by decide +kernel
theorem dX3_leave_59 : decode cX3_leave 59 = .ok (.getfield 26, 3) := by decide +kernel
theorem dX3_leave_62 : decode cX3_leave 62 = .ok (.invokevirtual 205, 3) := by decide +kernel
theorem dX3_leave_65 : decode cX3_leave 65 = .ok (.iconst 0, 1) := by decide +kernel
theorem dX3_leave_66 : decode cX3_leave 66 = .ok (.ireturn, 1) := by decide +kernel
def w_X3_leave (a1 : Int32) (v : V3) (Q : Int32 → V3 → Prop) : Prop := w_X3_needBooking a1 v (fun v1 => vp_in a1 40 ∧ (((v1 (8 + 14 + (ix a1)) 7) = 2 → ∀ v5 : V3, v5 = up2 v1 (8 + 14 + (ix a1)) 7 3 → ∀ v6 : V3, v6 = up2 v5 (8 + 14 + (ix a1)) 9 (v5 8 6) → vp_in (v6 (8 + 14 + (ix a1)) 0) 8 ∧ ∀ v9 : V3, v9 = up2 v6 (8 + 6 + (ix (v6 (8 + 14 + (ix a1)) 0))) 1 ((v6 (8 + 6 + (ix (v6 (8 + 14 + (ix a1)) 0))) 1) + 1) → w_X1_placeWaiting 8 v9 (fun v10 => Q 0 v10)) ∧ (¬ (v1 (8 + 14 + (ix a1)) 7) = 2 → Q 1 v1)))
set_option maxRecDepth 100000 in
set_option maxHeartbeats 4000000 in
theorem k_X3_leave (l : Launch) {G : zG} (hg : 116 ≤ gn G) {a1 : Int32}  {v : V3} {Q : Int32 → V3 → Prop} (hw : w_X3_leave a1 v Q) : Mz l yX3_leave cX3_leave 3 (some .int) 4 104 G [.ref (gad G 0), .int a1] v (QiZ G Q) := by
  rw [w_X3_leave] at hw
  refine z_ofW hg (by decide) (Nat.le_of_ble_eq_true rfl) ?_
  intro p e s m args below meth c ls C0 Z hl
  have hx := C0.1
  have hb := C0.2.1
  replace hl : lv_has ls 3 [(0, .ref (gad G 0)), (1, .int a1)] := hl
  generalize s.heap = H at Z ⊢
  generalize ([] : List Loc) = locs at Z ⊢
  refine lv_aload_n hx hb dX3_leave_0 rfl (lv_at hl 0 rfl) ?_
  refine lv_iload_n hx hb dX3_leave_1 rfl (lv_at hl 1 rfl) ?_
  refine z_callVv C0 Z hl.1 (As := [.int a1]) (rest := []) (k_X3_needBooking l (cx_g C0) hw) (gv_X3_needBooking tm_3_5) rfl ds_X3_needBooking ⟨Nat.le_of_ble_eq_true rfl, Nat.le_of_ble_eq_true rfl⟩ (ci := 3) rfl (cx_lt C0 (by decide)) rfl rfl rfl (Nat.le_of_ble_eq_true rfl) ⟨Nat.le_of_ble_eq_true rfl, Nat.le_of_ble_eq_true rfl⟩ dX3_leave_2 (fun v1 H locs hw Z => ?_)
  refine lv_aload_n hx hb dX3_leave_5 rfl (lv_at hl 0 rfl) ?_
  refine z_get C0 Z in_X3 rfl 4 (by decide) rfl tm_1_142 (cx_lt C0 (by decide)) rfl rfl dX3_leave_6 ?_
  refine z_get C0 Z in_X1 rfl 2 (by decide) rfl tm_1_51 (isL_lt0 (isL8 (cx_g C0))) (ent_L (isL8 (cx_g C0))) rfl dX3_leave_9 ?_
  refine lv_iload_n hx hb dX3_leave_12 rfl (lv_at hl 1 rfl) ?_
  obtain ⟨h2, hw⟩ := hw
  have h3 := vp_lt h2
  refine z_aald C0 Z (isL_lt (isL8 (cx_g C0)) 3 (by decide)) (ent_L3 (isL8 (cx_g C0))) h2 dX3_leave_13 ?_
  refine lv_astore_n (lv' := [(2, .ref (gad G (8 + 14 + (ix a1)))), (0, .ref (gad G 0)), (1, .int a1)]) hx hb dX3_leave_14 rfl hl (by decide) rfl (fun ls hl => ?_)
  refine lv_aload_n hx hb dX3_leave_15 rfl (lv_at hl 0 rfl) ?_
  refine lv_bipush (v := 7) hx hb dX3_leave_16 (by decide) ?_
  refine z_ialdk C0 Z (isL_B (isL8 (cx_g C0)) h3) (ent_B (isL8 (cx_g C0)) h3) in_7_10 nc_7 dX3_leave_18 ?_
  refine lv_iconst (v := 2) hx hb dX3_leave_19 (by decide) ?_
  refine lv_icmp_eq (tgt := 25) hx hb dX3_leave_20 (by decide) (fun c4 => ?_) (fun c4 => ?_)
  · replace hw := hw.1 c4
    refine lv_aload_n hx hb dX3_leave_25 rfl (lv_at hl 0 rfl) ?_
    refine lv_bipush (v := 7) hx hb dX3_leave_26 (by decide) ?_
    refine lv_iconst (v := 3) hx hb dX3_leave_28 (by decide) ?_
    refine z_iastk C0 Z (isL_B (isL8 (cx_g C0)) h3) (fun _ => ent_B (isL8 (cx_g C0)) h3) in_7_10 nc_7 dX3_leave_29 (fun H locs Z => ?_)
    obtain ⟨v5, ev5⟩ : ∃ z : V3, z = up2 v1 (8 + 14 + (ix a1)) 7 3 := ⟨_, rfl⟩
    rw [← ev5] at Z
    replace hw := hw v5 ev5
    refine lv_aload_n hx hb dX3_leave_30 rfl (lv_at hl 0 rfl) ?_
    refine lv_bipush (v := 9) hx hb dX3_leave_31 (by decide) ?_
    refine lv_aload_n hx hb dX3_leave_33 rfl (lv_at hl 1 rfl) ?_
    refine z_get C0 Z in_X3 rfl 4 (by decide) rfl tm_1_142 (cx_lt C0 (by decide)) rfl rfl dX3_leave_34 ?_
    refine z_get C0 Z in_X1 rfl 6 (by decide) rfl tm_1_59 (isL_lt0 (isL8 (cx_g C0))) (ent_L (isL8 (cx_g C0))) rfl dX3_leave_37 ?_
    refine z_iastk C0 Z (isL_B (isL8 (cx_g C0)) h3) (fun _ => ent_B (isL8 (cx_g C0)) h3) in_9_10 nc_9 dX3_leave_40 (fun H locs Z => ?_)
    obtain ⟨v6, ev6⟩ : ∃ z : V3, z = up2 v5 (8 + 14 + (ix a1)) 9 (v5 8 6) := ⟨_, rfl⟩
    rw [← ev6] at Z
    replace hw := hw v6 ev6
    refine lv_aload_n hx hb dX3_leave_41 rfl (lv_at hl 1 rfl) ?_
    refine z_get C0 Z in_X3 rfl 4 (by decide) rfl tm_1_142 (cx_lt C0 (by decide)) rfl rfl dX3_leave_42 ?_
    refine z_get C0 Z in_X1 rfl 1 (by decide) rfl tm_1_48 (isL_lt0 (isL8 (cx_g C0))) (ent_L (isL8 (cx_g C0))) rfl dX3_leave_45 ?_
    refine lv_aload_n hx hb dX3_leave_48 rfl (lv_at hl 0 rfl) ?_
    refine lv_iconst (v := 0) hx hb dX3_leave_49 (by decide) ?_
    refine z_ialdk C0 Z (isL_B (isL8 (cx_g C0)) h3) (ent_B (isL8 (cx_g C0)) h3) in_0_10 nc_0 dX3_leave_50 ?_
    obtain ⟨h7, hw⟩ := hw
    have h8 := vp_lt h7
    refine z_aald C0 Z (isL_lt (isL8 (cx_g C0)) 2 (by decide)) (ent_L2 (isL8 (cx_g C0))) h7 dX3_leave_51 ?_
    refine lv_iconst (v := 1) hx hb dX3_leave_52 (by decide) ?_
    refine lv_dup2_11 hx hb dX3_leave_53 rfl rfl ?_
    refine z_ialdk C0 Z (isL_O (isL8 (cx_g C0)) h8) (ent_O (isL8 (cx_g C0)) h8) in_1_8 nc_1 dX3_leave_54 ?_
    refine lv_iconst (v := 1) hx hb dX3_leave_55 (by decide) ?_
    refine lv_iadd hx hb dX3_leave_56 ?_
    refine z_iastk C0 Z (isL_O (isL8 (cx_g C0)) h8) (fun _ => ent_O (isL8 (cx_g C0)) h8) in_1_8 nc_1 dX3_leave_57 (fun H locs Z => ?_)
    obtain ⟨v9, ev9⟩ : ∃ z : V3, z = up2 v6 (8 + 6 + (ix (v6 (8 + 14 + (ix a1)) 0))) 1 ((v6 (8 + 6 + (ix (v6 (8 + 14 + (ix a1)) 0))) 1) + 1) := ⟨_, rfl⟩
    rw [← ev9] at Z
    replace hw := hw v9 ev9
    refine lv_aload_n hx hb dX3_leave_58 rfl (lv_at hl 1 rfl) ?_
    refine z_get C0 Z in_X3 rfl 4 (by decide) rfl tm_1_142 (cx_lt C0 (by decide)) rfl rfl dX3_leave_59 ?_
    refine z_callVv C0 Z hl.1 (As := []) (rest := []) (k_X1_placeWaiting l (cx_g C0) (isL8 (cx_g C0)) hw) (gv_X1_placeWaiting tm_3_28) rfl ds_X1_placeWaiting ⟨Nat.le_of_ble_eq_true rfl, Nat.le_of_ble_eq_true rfl⟩ (ci := 1) rfl (isL_lt0 (isL8 (cx_g C0))) (ent_L (isL8 (cx_g C0))) rfl rfl (Nat.le_of_ble_eq_true rfl) ⟨Nat.le_of_ble_eq_true rfl, Nat.le_of_ble_eq_true rfl⟩ dX3_leave_62 (fun v10 H locs hw Z => ?_)
    refine lv_iconst (v := 0) hx hb dX3_leave_65 (by decide) ?_
    exact z_iret C0 Z hw dX3_leave_66
  · replace hw := hw.2 c4
    refine lv_iconst (v := 1) hx hb dX3_leave_23 (by decide) ?_
    exact z_iret C0 Z hw dX3_leave_24
-- X3_extend: room (4, 104)
theorem dX3_extend_0 : decode cX3_extend 0 = .ok (.aload_n 0, 1) := by decide +kernel
theorem dX3_extend_1 : decode cX3_extend 1 = .ok (.iload_n 1, 1) := by decide +kernel
theorem dX3_extend_2 : decode cX3_extend 2 = .ok (.invokevirtual 177, 3) := by decide +kernel
theorem dX3_extend_5 : decode cX3_extend 5 = .ok (.iload_n 2, 1) := by decide +kernel
theorem dX3_extend_6 : decode cX3_extend 6 = .ok (.iconst 1, 1) := by decide +kernel
theorem dX3_extend_7 : decode cX3_extend 7 = .ok (.bipush 99, 2) := by decide +kernel
theorem dX3_extend_9 : decode cX3_extend 9 = .ok (.invokestatic 77, 3) := by decide +kernel
theorem dX3_extend_12 : decode cX3_extend 12 = .ok (.aload_n 0, 1) := by decide +kernel
theorem dX3_extend_13 : decode cX3_extend 13 = .ok (.getfield 26, 3) := by decide +kernel
theorem dX3_extend_16 : decode cX3_extend 16 = .ok (.getfield 190, 3) := by decide +kernel
theorem dX3_extend_19 : decode cX3_extend 19 = .ok (.iload_n 1, 1) := by decide +kernel
theorem dX3_extend_20 : decode cX3_extend 20 = .ok (.aaload, 1) := by decide +kernel
theorem dX3_extend_21 : decode cX3_extend 21 = .ok (.astore_n 3, 1) := by decide +kernel
theorem dX3_extend_22 : decode cX3_extend 22 = .ok (.aload_n 3, 1) := by decide +kernel
theorem dX3_extend_23 : decode cX3_extend 23 = .ok (.bipush 7, 2) := by decide +kernel
theorem dX3_extend_25 : decode cX3_extend 25 = .ok (.iaload, 1) := by decide +kernel
theorem dX3_extend_26 : decode cX3_extend 26 = .ok (.iconst 1, 1) := by decide +kernel
theorem dX3_extend_27 : decode cX3_extend 27 = .ok (.if_icmp .eq 13, 3) := by decide +kernel
theorem dX3_extend_30 : decode cX3_extend 30 = .ok (.aload_n 3, 1) := by decide +kernel
theorem dX3_extend_31 : decode cX3_extend 31 = .ok (.bipush 7, 2) := by decide +kernel
theorem dX3_extend_33 : decode cX3_extend 33 = .ok (.iaload, 1) := by decide +kernel
theorem dX3_extend_34 : decode cX3_extend 34 = .ok (.iconst 2, 1) := by decide +kernel
theorem dX3_extend_35 : decode cX3_extend 35 = .ok (.if_icmp .eq 5, 3) := by decide +kernel
theorem dX3_extend_38 : decode cX3_extend 38 = .ok (.iconst 1, 1) := by decide +kernel
theorem dX3_extend_39 : decode cX3_extend 39 = .ok (.ireturn, 1) := by decide +kernel
theorem dX3_extend_40 : decode cX3_extend 40 = .ok (.aload_n 0, 1) := by decide +kernel
theorem dX3_extend_41 : decode cX3_extend 41 = .ok (.getfield 26, 3) := by decide +kernel
theorem dX3_extend_44 : decode cX3_extend 44 = .ok (.iload_n 1, 1) := by decide +kernel
theorem dX3_extend_45 : decode cX3_extend 45 = .ok (.aload_n 3, 1) := by decide +kernel
theorem dX3_extend_46 : decode cX3_extend 46 = .ok (.bipush 8, 2) := by decide +kernel
theorem dX3_extend_48 : decode cX3_extend 48 = .ok (.iaload, 1) := by decide +kernel
theorem dX3_extend_49 : decode cX3_extend 49 = .ok (.aload_n 3, 1) := by decide +kernel
theorem dX3_extend_50 : decode cX3_extend 50 = .ok (.bipush 9, 2) := by decide +kernel
theorem dX3_extend_52 : decode cX3_extend 52 = .ok (.iaload, 1) := by decide +kernel
theorem dX3_extend_53 : decode cX3_extend 53 = .ok (.iload_n 2, 1) := by decide +kernel
theorem dX3_extend_54 : decode cX3_extend 54 = .ok (.iadd, 1) := by decide +kernel
theorem dX3_extend_55 : decode cX3_extend 55 = .ok (.iload_n 1, 1) := by decide +kernel
theorem dX3_extend_56 : decode cX3_extend 56 = .ok (.invokevirtual 208, 3) := by decide +kernel
theorem dX3_extend_59 : decode cX3_extend 59 = .ok (.ifCond .eq 5, 3) := by decide +kernel
theorem dX3_extend_62 : decode cX3_extend 62 = .ok (.iconst 3, 1) := by decide +kernel
theorem dX3_extend_63 : decode cX3_extend 63 = .ok (.ireturn, 1) := by decide +kernel
theorem dX3_extend_64 : decode cX3_extend 64 = .ok (.aload_n 3, 1) := by decide +kernel
theorem dX3_extend_65 : decode cX3_extend 65 = .ok (.bipush 9, 2) := by decide +kernel
theorem dX3_extend_67 : decode cX3_extend 67 = .ok (.dup2, 1) := by decide +kernel
theorem dX3_extend_68 : decode cX3_extend 68 = .ok (.iaload, 1) := by decide +kernel
theorem dX3_extend_69 : decode cX3_extend 69 = .ok (.iload_n 2, 1) := by decide +kernel
theorem dX3_extend_70 : decode cX3_extend 70 = .ok (.iadd, 1) := by decide +kernel
theorem dX3_extend_71 : decode cX3_extend 71 = .ok (.iastore, 1) := by decide +kernel
theorem dX3_extend_72 : decode cX3_extend 72 = .ok (.aload_n 0, 1) := by decide +kernel
theorem dX3_extend_73 : decode cX3_extend 73 = .ok (.getfield 26, 3) := by decide +kernel
theorem dX3_extend_76 : decode cX3_extend 76 = .ok (.invokevirtual 205, 3) := by decide +kernel
theorem dX3_extend_79 : decode cX3_extend 79 = .ok (.iconst 0, 1) := by decide +kernel
theorem dX3_extend_80 : decode cX3_extend 80 = .ok (.ireturn, 1) := by decide +kernel
def w_X3_extend_40  (Q : Int32 → V3 → Prop) (x1 : Int32) (x2 : Int32) (x3 : Nat) (v : V3) : Prop := w_X1_wouldClash 8 x1 (v (8 + 14 + x3) 8) ((v (8 + 14 + x3) 9) + x2) x1 v (fun r7 v6 => ((r7 = 0 → ∀ v9 : V3, v9 = up2 v6 (8 + 14 + x3) 9 ((v6 (8 + 14 + x3) 9) + x2) → w_X1_placeWaiting 8 v9 (fun v10 => Q 0 v10)) ∧ (¬ r7 = 0 → Q 3 v6)))
def w_X3_extend (a1 : Int32) (a2 : Int32) (v : V3) (Q : Int32 → V3 → Prop) : Prop := w_X3_needBooking a1 v (fun v1 => w_X3_needWithin a2 1 99 v1 (fun v2 => vp_in a1 40 ∧ (((v2 (8 + 14 + (ix a1)) 7) = 1 → w_X3_extend_40 Q a1 a2 (ix a1) v2) ∧ (¬ (v2 (8 + 14 + (ix a1)) 7) = 1 → (((v2 (8 + 14 + (ix a1)) 7) = 2 → w_X3_extend_40 Q a1 a2 (ix a1) v2) ∧ (¬ (v2 (8 + 14 + (ix a1)) 7) = 2 → Q 1 v2))))))
set_option maxRecDepth 100000 in
set_option maxHeartbeats 4000000 in
theorem b_X3_extend_40 {p : Program} (l : Launch) {e : Env} {s : State} {m : MethodId} {args : Array Value} {below : List Frame} {meth : Method} {c : Code} {G : zG}   (C0 : Cx G RX3 cX3_extend 4 (some .int) p s m args meth c) {Q : Int32 → V3 → Prop} : ∀ (x1 : Int32) (x2 : Int32) (x3 : Nat) (v : V3) (H : Heap) (locs : List Loc) (ls : Array Slot), x3 < 40 → w_X3_extend_40 Q x1 x2 x3 v → Zs G s v H locs → lv_has ls 4 [(0, .ref (gad G 0)), (1, .int x1), (2, .int x2), (3, .ref (gad G (8 + 14 + x3)))] → W p l e { frames := 4, cells := 0, slots := 0, locals := 104 } s m args below meth c H locs 0 0 (MQ below (QiZ G Q) args s 0 0 (zA G)) (F0 m 40 ls []) := by
  have hx := C0.1
  have hb := C0.2.1
  intro x1 x2 x3 v H locs ls hx3 hw Z hl
  rw [w_X3_extend_40] at hw
  refine lv_aload_n hx hb dX3_extend_40 rfl (lv_at hl 0 rfl) ?_
  refine z_get C0 Z in_X3 rfl 4 (by decide) rfl tm_1_142 (cx_lt C0 (by decide)) rfl rfl dX3_extend_41 ?_
  refine lv_iload_n hx hb dX3_extend_44 rfl (lv_at hl 1 rfl) ?_
  refine lv_aload_n hx hb dX3_extend_45 rfl (lv_at hl 3 rfl) ?_
  refine lv_bipush (v := 8) hx hb dX3_extend_46 (by decide) ?_
  refine z_ialdk C0 Z (isL_B (isL8 (cx_g C0)) hx3) (ent_B (isL8 (cx_g C0)) hx3) in_8_10 nc_8 dX3_extend_48 ?_
  refine lv_aload_n hx hb dX3_extend_49 rfl (lv_at hl 3 rfl) ?_
  refine lv_bipush (v := 9) hx hb dX3_extend_50 (by decide) ?_
  refine z_ialdk C0 Z (isL_B (isL8 (cx_g C0)) hx3) (ent_B (isL8 (cx_g C0)) hx3) in_9_10 nc_9 dX3_extend_52 ?_
  refine lv_iload_n hx hb dX3_extend_53 rfl (lv_at hl 2 rfl) ?_
  refine lv_iadd hx hb dX3_extend_54 ?_
  refine lv_iload_n hx hb dX3_extend_55 rfl (lv_at hl 1 rfl) ?_
  refine z_callVi C0 Z hl.1 (As := [.int x1, .int (v (8 + 14 + x3) 8), .int ((v (8 + 14 + x3) 9) + x2), .int x1]) (rest := []) (k_X1_wouldClash l (cx_g C0) (isL8 (cx_g C0)) hw) (gv_X1_wouldClash tm_3_61) rfl ds_X1_wouldClash ⟨Nat.le_of_ble_eq_true rfl, Nat.le_of_ble_eq_true rfl⟩ (ci := 1) rfl (isL_lt0 (isL8 (cx_g C0))) (ent_L (isL8 (cx_g C0))) rfl rfl (Nat.le_of_ble_eq_true rfl) ⟨Nat.le_of_ble_eq_true rfl, Nat.le_of_ble_eq_true rfl⟩ dX3_extend_56 (fun r7 v6 H locs hw Z => ?_)
  refine lv_if_eq (tgt := 64) hx hb dX3_extend_59 (by decide) (fun c8 => ?_) (fun c8 => ?_)
  · replace hw := hw.1 c8
    refine lv_aload_n hx hb dX3_extend_64 rfl (lv_at hl 3 rfl) ?_
    refine lv_bipush (v := 9) hx hb dX3_extend_65 (by decide) ?_
    refine lv_dup2_11 hx hb dX3_extend_67 rfl rfl ?_
    refine z_ialdk C0 Z (isL_B (isL8 (cx_g C0)) hx3) (ent_B (isL8 (cx_g C0)) hx3) in_9_10 nc_9 dX3_extend_68 ?_
    refine lv_iload_n hx hb dX3_extend_69 rfl (lv_at hl 2 rfl) ?_
    refine lv_iadd hx hb dX3_extend_70 ?_
    refine z_iastk C0 Z (isL_B (isL8 (cx_g C0)) hx3) (fun _ => ent_B (isL8 (cx_g C0)) hx3) in_9_10 nc_9 dX3_extend_71 (fun H locs Z => ?_)
    obtain ⟨v9, ev9⟩ : ∃ z : V3, z = up2 v6 (8 + 14 + x3) 9 ((v6 (8 + 14 + x3) 9) + x2) := ⟨_, rfl⟩
    rw [← ev9] at Z
    replace hw := hw v9 ev9
    refine lv_aload_n hx hb dX3_extend_72 rfl (lv_at hl 0 rfl) ?_
    refine z_get C0 Z in_X3 rfl 4 (by decide) rfl tm_1_142 (cx_lt C0 (by decide)) rfl rfl dX3_extend_73 ?_
    refine z_callVv C0 Z hl.1 (As := []) (rest := []) (k_X1_placeWaiting l (cx_g C0) (isL8 (cx_g C0)) hw) (gv_X1_placeWaiting tm_3_28) rfl ds_X1_placeWaiting ⟨Nat.le_of_ble_eq_true rfl, Nat.le_of_ble_eq_true rfl⟩ (ci := 1) rfl (isL_lt0 (isL8 (cx_g C0))) (ent_L (isL8 (cx_g C0))) rfl rfl (Nat.le_of_ble_eq_true rfl) ⟨Nat.le_of_ble_eq_true rfl, Nat.le_of_ble_eq_true rfl⟩ dX3_extend_76 (fun v10 H locs hw Z => ?_)
    refine lv_iconst (v := 0) hx hb dX3_extend_79 (by decide) ?_
    exact z_iret C0 Z hw dX3_extend_80
  · replace hw := hw.2 c8
    refine lv_iconst (v := 3) hx hb dX3_extend_62 (by decide) ?_
    exact z_iret C0 Z hw dX3_extend_63
set_option maxRecDepth 100000 in
set_option maxHeartbeats 4000000 in
theorem k_X3_extend (l : Launch) {G : zG} (hg : 116 ≤ gn G) {a1 : Int32} {a2 : Int32}  {v : V3} {Q : Int32 → V3 → Prop} (hw : w_X3_extend a1 a2 v Q) : Mz l yX3_extend cX3_extend 4 (some .int) 4 104 G [.ref (gad G 0), .int a1, .int a2] v (QiZ G Q) := by
  rw [w_X3_extend] at hw
  refine z_ofW hg (by decide) (Nat.le_of_ble_eq_true rfl) ?_
  intro p e s m args below meth c ls C0 Z hl
  have hx := C0.1
  have hb := C0.2.1
  replace hl : lv_has ls 4 [(0, .ref (gad G 0)), (1, .int a1), (2, .int a2)] := hl
  generalize s.heap = H at Z ⊢
  generalize ([] : List Loc) = locs at Z ⊢
  refine lv_aload_n hx hb dX3_extend_0 rfl (lv_at hl 0 rfl) ?_
  refine lv_iload_n hx hb dX3_extend_1 rfl (lv_at hl 1 rfl) ?_
  refine z_callVv C0 Z hl.1 (As := [.int a1]) (rest := []) (k_X3_needBooking l (cx_g C0) hw) (gv_X3_needBooking tm_3_5) rfl ds_X3_needBooking ⟨Nat.le_of_ble_eq_true rfl, Nat.le_of_ble_eq_true rfl⟩ (ci := 3) rfl (cx_lt C0 (by decide)) rfl rfl rfl (Nat.le_of_ble_eq_true rfl) ⟨Nat.le_of_ble_eq_true rfl, Nat.le_of_ble_eq_true rfl⟩ dX3_extend_2 (fun v1 H locs hw Z => ?_)
  refine lv_iload_n hx hb dX3_extend_5 rfl (lv_at hl 2 rfl) ?_
  refine lv_iconst (v := 1) hx hb dX3_extend_6 (by decide) ?_
  refine lv_bipush (v := 99) hx hb dX3_extend_7 (by decide) ?_
  refine z_callSv C0 Z hl.1 (As := [.int a2, .int 1, .int 99]) (rest := []) (k_X3_needWithin l (cx_g C0) hw) (gv_X3_needWithin tm_1_228) ds_X3_needWithin ⟨Nat.le_of_ble_eq_true rfl, Nat.le_of_ble_eq_true rfl⟩ rfl rfl (Nat.le_of_ble_eq_true rfl) ⟨Nat.le_of_ble_eq_true rfl, Nat.le_of_ble_eq_true rfl⟩ dX3_extend_9 (fun v2 H locs hw Z => ?_)
  refine lv_aload_n hx hb dX3_extend_12 rfl (lv_at hl 0 rfl) ?_
  refine z_get C0 Z in_X3 rfl 4 (by decide) rfl tm_1_142 (cx_lt C0 (by decide)) rfl rfl dX3_extend_13 ?_
  refine z_get C0 Z in_X1 rfl 2 (by decide) rfl tm_1_51 (isL_lt0 (isL8 (cx_g C0))) (ent_L (isL8 (cx_g C0))) rfl dX3_extend_16 ?_
  refine lv_iload_n hx hb dX3_extend_19 rfl (lv_at hl 1 rfl) ?_
  obtain ⟨h3, hw⟩ := hw
  have h4 := vp_lt h3
  refine z_aald C0 Z (isL_lt (isL8 (cx_g C0)) 3 (by decide)) (ent_L3 (isL8 (cx_g C0))) h3 dX3_extend_20 ?_
  refine lv_astore_n (lv' := [(3, .ref (gad G (8 + 14 + (ix a1)))), (0, .ref (gad G 0)), (1, .int a1), (2, .int a2)]) hx hb dX3_extend_21 rfl hl (by decide) rfl (fun ls hl => ?_)
  refine lv_aload_n hx hb dX3_extend_22 rfl (lv_at hl 0 rfl) ?_
  refine lv_bipush (v := 7) hx hb dX3_extend_23 (by decide) ?_
  refine z_ialdk C0 Z (isL_B (isL8 (cx_g C0)) h4) (ent_B (isL8 (cx_g C0)) h4) in_7_10 nc_7 dX3_extend_25 ?_
  refine lv_iconst (v := 1) hx hb dX3_extend_26 (by decide) ?_
  refine lv_icmp_eq (tgt := 40) hx hb dX3_extend_27 (by decide) (fun c5 => ?_) (fun c5 => ?_)
  · replace hw := hw.1 c5
    exact b_X3_extend_40 l C0 _ _ _ _ _ _ _ h4 hw Z (lv_sub hl [1, 2, 3, 0] rfl)
  · replace hw := hw.2 c5
    refine lv_aload_n hx hb dX3_extend_30 rfl (lv_at hl 0 rfl) ?_
    refine lv_bipush (v := 7) hx hb dX3_extend_31 (by decide) ?_
    refine z_ialdk C0 Z (isL_B (isL8 (cx_g C0)) h4) (ent_B (isL8 (cx_g C0)) h4) in_7_10 nc_7 dX3_extend_33 ?_
    refine lv_iconst (v := 2) hx hb dX3_extend_34 (by decide) ?_
    refine lv_icmp_eq (tgt := 40) hx hb dX3_extend_35 (by decide) (fun c11 => ?_) (fun c11 => ?_)
    · replace hw := hw.1 c11
      exact b_X3_extend_40 l C0 _ _ _ _ _ _ _ h4 hw Z (lv_sub hl [1, 2, 3, 0] rfl)
    · replace hw := hw.2 c11
      refine lv_iconst (v := 1) hx hb dX3_extend_38 (by decide) ?_
      exact z_iret C0 Z hw dX3_extend_39
-- X3_cancel: room (4, 104)
theorem dX3_cancel_0 : decode cX3_cancel 0 = .ok (.aload_n 0, 1) := by decide +kernel
theorem dX3_cancel_1 : decode cX3_cancel 1 = .ok (.iload_n 1, 1) := by decide +kernel
theorem dX3_cancel_2 : decode cX3_cancel 2 = .ok (.invokevirtual 177, 3) := by decide +kernel
theorem dX3_cancel_5 : decode cX3_cancel 5 = .ok (.aload_n 0, 1) := by decide +kernel
theorem dX3_cancel_6 : decode cX3_cancel 6 = .ok (.getfield 26, 3) := by decide +kernel
theorem dX3_cancel_9 : decode cX3_cancel 9 = .ok (.getfield 190, 3) := by decide +kernel
theorem dX3_cancel_12 : decode cX3_cancel 12 = .ok (.iload_n 1, 1) := by decide +kernel
theorem dX3_cancel_13 : decode cX3_cancel 13 = .ok (.aaload, 1) := by decide +kernel
theorem dX3_cancel_14 : decode cX3_cancel 14 = .ok (.astore_n 2, 1) := by decide +kernel
theorem dX3_cancel_15 : decode cX3_cancel 15 = .ok (.aload_n 2, 1) := by decide +kernel
theorem dX3_cancel_16 : decode cX3_cancel 16 = .ok (.bipush 7, 2) := by decide +kernel
theorem dX3_cancel_18 : decode cX3_cancel 18 = .ok (.iaload, 1) := by decide +kernel
theorem dX3_cancel_19 : decode cX3_cancel 19 = .ok (.ifCond .eq 13, 3) := by decide +kernel
theorem dX3_cancel_22 : decode cX3_cancel 22 = .ok (.aload_n 2, 1) := by decide +kernel
theorem dX3_cancel_23 : decode cX3_cancel 23 = .ok (.bipush 7, 2) := by decide +kernel
theorem dX3_cancel_25 : decode cX3_cancel 25 = .ok (.iaload, 1) := by decide +kernel
theorem dX3_cancel_26 : decode cX3_cancel 26 = .ok (.iconst 1, 1) := by decide +kernel
theorem dX3_cancel_27 : decode cX3_cancel 27 = .ok (.if_icmp .eq 5, 3) := by decide +kernel
theorem dX3_cancel_30 : decode cX3_cancel 30 = .ok (.iconst 1, 1) := by decide +kernel
theorem dX3_cancel_31 : decode cX3_cancel 31 = .ok (.ireturn, 1) := by decide +kernel
theorem dX3_cancel_32 : decode cX3_cancel 32 = .ok (.aload_n 2, 1) := by decide +kernel
theorem dX3_cancel_33 : decode cX3_cancel 33 = .ok (.bipush 7, 2) := by decide +kernel
theorem dX3_cancel_35 : decode cX3_cancel 35 = .ok (.iaload, 1) := by decide +kernel
theorem dX3_cancel_36 : decode cX3_cancel 36 = .ok (.iconst 1, 1) := by decide +kernel
theorem dX3_cancel_37 : decode cX3_cancel 37 = .ok (.if_icmp .ne 44, 3) := by decide +kernel
theorem dX3_cancel_40 : decode cX3_cancel 40 = .ok (.aload_n 2, 1) := by decide +kernel
theorem dX3_cancel_41 : decode cX3_cancel 41 = .ok (.bipush 8, 2) := by decide +kernel
theorem dX3_cancel_43 : decode cX3_cancel 43 = .ok (.iaload, 1) := by decide +kernel
theorem dX3_cancel_44 : decode cX3_cancel 44 = .ok (.aload_n 0, 1) := by decide +kernel
theorem dX3_cancel_45 : decode cX3_cancel 45 = .ok (.getfield 26, 3) := by decide +kernel
theorem dX3_cancel_48 : decode cX3_cancel 48 = .ok (.getfield 122, 3) := by decide +kernel
theorem dX3_cancel_51 : decode cX3_cancel 51 = .ok (.aload_n 0, 1) := by decide +kernel
theorem dX3_cancel_52 : decode cX3_cancel 52 = .ok (.getfield 26, 3) := by decide +kernel
theorem dX3_cancel_55 : decode cX3_cancel 55 = .ok (.getfield 116, 3) := by decide +kernel
theorem dX3_cancel_58 : decode cX3_cancel 58 = .ok (.iconst 1, 1) := by decide +kernel
theorem dX3_cancel_59 : decode cX3_cancel 59 = .ok (.iaload, 1) := by decide +kernel
theorem dX3_cancel_60 : decode cX3_cancel 60 = .ok (.iadd, 1) := by decide +kernel
theorem dX3_cancel_61 : decode cX3_cancel 61 = .ok (.if_icmp .ge 20, 3) := by decide +kernel
theorem dX3_cancel_64 : decode cX3_cancel 64 = .ok (.aload_n 0, 1) := by decide +kernel
theorem dX3_cancel_65 : decode cX3_cancel 65 = .ok (.getfield 26, 3) := by decide +kernel
theorem dX3_cancel_68 : decode cX3_cancel 68 = .ok (.getfield 150, 3) := by decide +kernel
theorem dX3_cancel_71 : decode cX3_cancel 71 = .ok (.aload_n 2, 1) := by decide +kernel
theorem dX3_cancel_72 : decode cX3_cancel 72 = .ok (.iconst 0, 1) := by decide +kernel
theorem dX3_cancel_73 : decode cX3_cancel 73 = .ok (.iaload, 1) := by decide +kernel
theorem dX3_cancel_74 : decode cX3_cancel 74 = .ok (.aaload, 1) := by decide +kernel
theorem dX3_cancel_75 : decode cX3_cancel 75 = .ok (.iconst 3, 1) := by decide +kernel
theorem dX3_cancel_76 : decode cX3_cancel 76 = .ok (.dup2, 1) := by decide +kernel
theorem dX3_cancel_77 : decode cX3_cancel 77 = .ok (.iaload, 1) := by decide +kernel
theorem dX3_cancel_78 : decode cX3_cancel 78 = .ok (.iconst 1, 1) := by decide +kernel
theorem dX3_cancel_79 : decode cX3_cancel 79 = .ok (.iadd, 1) := by decide +kernel
theorem dX3_cancel_80 : decode cX3_cancel 80 = .ok (.iastore, 1) := by decide +kernel
theorem dX3_cancel_81 : decode cX3_cancel 81 = .ok (.aload_n 2, 1) := by decide +kernel
theorem dX3_cancel_82 : decode cX3_cancel 82 = .ok (.bipush 7, 2) := by decide +kernel
theorem dX3_cancel_84 : decode cX3_cancel 84 = .ok (.iconst 4, 1) := by decide +kernel
theorem dX3_cancel_85 : decode cX3_cancel 85 = .ok (.iastore, 1) := by decide +kernel
theorem dX3_cancel_86 : decode cX3_cancel 86 = .ok (.aload_n 0, 1) := by decide +kernel
theorem dX3_cancel_87 : decode cX3_cancel 87 = .ok (.getfield 26, 3) := by decide +kernel
theorem dX3_cancel_90 : decode cX3_cancel 90 = .ok (.invokevirtual 205, 3) := by decide +kernel
theorem dX3_cancel_93 : decode cX3_cancel 93 = .ok (.iconst 0, 1) := by decide +kernel
theorem dX3_cancel_94 : decode cX3_cancel 94 = .ok (.ireturn, 1) := by decide +kernel
def w_X3_cancel_81  (Q : Int32 → V3 → Prop) (x2 : Nat) (v : V3) : Prop := ∀ v6 : V3, v6 = up2 v (8 + 14 + x2) 7 4 → w_X1_placeWaiting 8 v6 (fun v7 => Q 0 v7)
def w_X3_cancel_32  (Q : Int32 → V3 → Prop) (x2 : Nat) (v : V3) : Prop := ((¬ (v (8 + 14 + x2) 7) = 1 → w_X3_cancel_81 Q x2 v) ∧ ((v (8 + 14 + x2) 7) = 1 → ((((v 8 6) + (v (8 + 1) 1)) ≤ (v (8 + 14 + x2) 8) → w_X3_cancel_81 Q x2 v) ∧ (¬ ((v 8 6) + (v (8 + 1) 1)) ≤ (v (8 + 14 + x2) 8) → vp_in (v (8 + 14 + x2) 0) 8 ∧ ∀ v11 : V3, v11 = up2 v (8 + 6 + (ix (v (8 + 14 + x2) 0))) 3 ((v (8 + 6 + (ix (v (8 + 14 + x2) 0))) 3) + 1) → w_X3_cancel_81 Q x2 v11))))
def w_X3_cancel (a1 : Int32) (v : V3) (Q : Int32 → V3 → Prop) : Prop := w_X3_needBooking a1 v (fun v1 => vp_in a1 40 ∧ (((v1 (8 + 14 + (ix a1)) 7) = 0 → w_X3_cancel_32 Q (ix a1) v1) ∧ (¬ (v1 (8 + 14 + (ix a1)) 7) = 0 → (((v1 (8 + 14 + (ix a1)) 7) = 1 → w_X3_cancel_32 Q (ix a1) v1) ∧ (¬ (v1 (8 + 14 + (ix a1)) 7) = 1 → Q 1 v1)))))
set_option maxRecDepth 100000 in
set_option maxHeartbeats 4000000 in
theorem b_X3_cancel_81 {p : Program} (l : Launch) {e : Env} {s : State} {m : MethodId} {args : Array Value} {below : List Frame} {meth : Method} {c : Code} {G : zG}   (C0 : Cx G RX3 cX3_cancel 3 (some .int) p s m args meth c) {Q : Int32 → V3 → Prop} : ∀ (x2 : Nat) (v : V3) (H : Heap) (locs : List Loc) (ls : Array Slot), x2 < 40 → w_X3_cancel_81 Q x2 v → Zs G s v H locs → lv_has ls 3 [(0, .ref (gad G 0)), (2, .ref (gad G (8 + 14 + x2)))] → W p l e { frames := 4, cells := 0, slots := 0, locals := 104 } s m args below meth c H locs 0 0 (MQ below (QiZ G Q) args s 0 0 (zA G)) (F0 m 81 ls []) := by
  have hx := C0.1
  have hb := C0.2.1
  intro x2 v H locs ls hx2 hw Z hl
  rw [w_X3_cancel_81] at hw
  refine lv_aload_n hx hb dX3_cancel_81 rfl (lv_at hl 1 rfl) ?_
  refine lv_bipush (v := 7) hx hb dX3_cancel_82 (by decide) ?_
  refine lv_iconst (v := 4) hx hb dX3_cancel_84 (by decide) ?_
  refine z_iastk C0 Z (isL_B (isL8 (cx_g C0)) hx2) (fun _ => ent_B (isL8 (cx_g C0)) hx2) in_7_10 nc_7 dX3_cancel_85 (fun H locs Z => ?_)
  obtain ⟨v6, ev6⟩ : ∃ z : V3, z = up2 v (8 + 14 + x2) 7 4 := ⟨_, rfl⟩
  rw [← ev6] at Z
  replace hw := hw v6 ev6
  refine lv_aload_n hx hb dX3_cancel_86 rfl (lv_at hl 0 rfl) ?_
  refine z_get C0 Z in_X3 rfl 4 (by decide) rfl tm_1_142 (cx_lt C0 (by decide)) rfl rfl dX3_cancel_87 ?_
  refine z_callVv C0 Z hl.1 (As := []) (rest := []) (k_X1_placeWaiting l (cx_g C0) (isL8 (cx_g C0)) hw) (gv_X1_placeWaiting tm_3_28) rfl ds_X1_placeWaiting ⟨Nat.le_of_ble_eq_true rfl, Nat.le_of_ble_eq_true rfl⟩ (ci := 1) rfl (isL_lt0 (isL8 (cx_g C0))) (ent_L (isL8 (cx_g C0))) rfl rfl (Nat.le_of_ble_eq_true rfl) ⟨Nat.le_of_ble_eq_true rfl, Nat.le_of_ble_eq_true rfl⟩ dX3_cancel_90 (fun v7 H locs hw Z => ?_)
  refine lv_iconst (v := 0) hx hb dX3_cancel_93 (by decide) ?_
  exact z_iret C0 Z hw dX3_cancel_94
set_option maxRecDepth 100000 in
set_option maxHeartbeats 4000000 in
theorem b_X3_cancel_32 {p : Program} (l : Launch) {e : Env} {s : State} {m : MethodId} {args : Array Value} {below : List Frame} {meth : Method} {c : Code} {G : zG}   (C0 : Cx G RX3 cX3_cancel 3 (some .int) p s m args meth c) {Q : Int32 → V3 → Prop} : ∀ (x2 : Nat) (v : V3) (H : Heap) (locs : List Loc) (ls : Array Slot), x2 < 40 → w_X3_cancel_32 Q x2 v → Zs G s v H locs → lv_has ls 3 [(0, .ref (gad G 0)), (2, .ref (gad G (8 + 14 + x2)))] → W p l e { frames := 4, cells := 0, slots := 0, locals := 104 } s m args below meth c H locs 0 0 (MQ below (QiZ G Q) args s 0 0 (zA G)) (F0 m 32 ls []) := by
  have hx := C0.1
  have hb := C0.2.1
  intro x2 v H locs ls hx2 hw Z hl
  rw [w_X3_cancel_32] at hw
  refine lv_aload_n hx hb dX3_cancel_32 rfl (lv_at hl 1 rfl) ?_
  refine lv_bipush (v := 7) hx hb dX3_cancel_33 (by decide) ?_
  refine z_ialdk C0 Z (isL_B (isL8 (cx_g C0)) hx2) (ent_B (isL8 (cx_g C0)) hx2) in_7_10 nc_7 dX3_cancel_35 ?_
  refine lv_iconst (v := 1) hx hb dX3_cancel_36 (by decide) ?_
  refine lv_icmp_ne (tgt := 81) hx hb dX3_cancel_37 (by decide) (fun c5 => ?_) (fun c5 => ?_)
  · replace hw := hw.1 c5
    exact b_X3_cancel_81 l C0 _ _ _ _ _ hx2 hw Z (lv_sub hl [0, 1] rfl)
  · replace hw := hw.2 c5
    refine lv_aload_n hx hb dX3_cancel_40 rfl (lv_at hl 1 rfl) ?_
    refine lv_bipush (v := 8) hx hb dX3_cancel_41 (by decide) ?_
    refine z_ialdk C0 Z (isL_B (isL8 (cx_g C0)) hx2) (ent_B (isL8 (cx_g C0)) hx2) in_8_10 nc_8 dX3_cancel_43 ?_
    refine lv_aload_n hx hb dX3_cancel_44 rfl (lv_at hl 0 rfl) ?_
    refine z_get C0 Z in_X3 rfl 4 (by decide) rfl tm_1_142 (cx_lt C0 (by decide)) rfl rfl dX3_cancel_45 ?_
    refine z_get C0 Z in_X1 rfl 6 (by decide) rfl tm_1_59 (isL_lt0 (isL8 (cx_g C0))) (ent_L (isL8 (cx_g C0))) rfl dX3_cancel_48 ?_
    refine lv_aload_n hx hb dX3_cancel_51 rfl (lv_at hl 0 rfl) ?_
    refine z_get C0 Z in_X3 rfl 4 (by decide) rfl tm_1_142 (cx_lt C0 (by decide)) rfl rfl dX3_cancel_52 ?_
    refine z_get C0 Z in_X1 rfl 0 (by decide) rfl tm_1_45 (isL_lt0 (isL8 (cx_g C0))) (ent_L (isL8 (cx_g C0))) rfl dX3_cancel_55 ?_
    refine lv_iconst (v := 1) hx hb dX3_cancel_58 (by decide) ?_
    refine z_ialdk C0 Z (isL_lt (isL8 (cx_g C0)) 1 (by decide)) (ent_L1 (isL8 (cx_g C0))) in_1_4 nc_1 dX3_cancel_59 ?_
    refine lv_iadd hx hb dX3_cancel_60 ?_
    refine lv_icmp_ge (tgt := 81) hx hb dX3_cancel_61 (by decide) (fun c8 => ?_) (fun c8 => ?_)
    · replace hw := hw.1 c8
      exact b_X3_cancel_81 l C0 _ _ _ _ _ hx2 hw Z (lv_sub hl [0, 1] rfl)
    · replace hw := hw.2 c8
      refine lv_aload_n hx hb dX3_cancel_64 rfl (lv_at hl 0 rfl) ?_
      refine z_get C0 Z in_X3 rfl 4 (by decide) rfl tm_1_142 (cx_lt C0 (by decide)) rfl rfl dX3_cancel_65 ?_
      refine z_get C0 Z in_X1 rfl 1 (by decide) rfl tm_1_48 (isL_lt0 (isL8 (cx_g C0))) (ent_L (isL8 (cx_g C0))) rfl dX3_cancel_68 ?_
      refine lv_aload_n hx hb dX3_cancel_71 rfl (lv_at hl 1 rfl) ?_
      refine lv_iconst (v := 0) hx hb dX3_cancel_72 (by decide) ?_
      refine z_ialdk C0 Z (isL_B (isL8 (cx_g C0)) hx2) (ent_B (isL8 (cx_g C0)) hx2) in_0_10 nc_0 dX3_cancel_73 ?_
      obtain ⟨h9, hw⟩ := hw
      have h10 := vp_lt h9
      refine z_aald C0 Z (isL_lt (isL8 (cx_g C0)) 2 (by decide)) (ent_L2 (isL8 (cx_g C0))) h9 dX3_cancel_74 ?_
      refine lv_iconst (v := 3) hx hb dX3_cancel_75 (by decide) ?_
      refine lv_dup2_11 hx hb dX3_cancel_76 rfl rfl ?_
      refine z_ialdk C0 Z (isL_O (isL8 (cx_g C0)) h10) (ent_O (isL8 (cx_g C0)) h10) in_3_8 nc_3 dX3_cancel_77 ?_
      refine lv_iconst (v := 1) hx hb dX3_cancel_78 (by decide) ?_
      refine lv_iadd hx hb dX3_cancel_79 ?_
      refine z_iastk C0 Z (isL_O (isL8 (cx_g C0)) h10) (fun _ => ent_O (isL8 (cx_g C0)) h10) in_3_8 nc_3 dX3_cancel_80 (fun H locs Z => ?_)
      obtain ⟨v11, ev11⟩ : ∃ z : V3, z = up2 v (8 + 6 + (ix (v (8 + 14 + x2) 0))) 3 ((v (8 + 6 + (ix (v (8 + 14 + x2) 0))) 3) + 1) := ⟨_, rfl⟩
      rw [← ev11] at Z
      replace hw := hw v11 ev11
      exact b_X3_cancel_81 l C0 _ _ _ _ _ hx2 hw Z (lv_sub hl [0, 1] rfl)
set_option maxRecDepth 100000 in
set_option maxHeartbeats 4000000 in
theorem k_X3_cancel (l : Launch) {G : zG} (hg : 116 ≤ gn G) {a1 : Int32}  {v : V3} {Q : Int32 → V3 → Prop} (hw : w_X3_cancel a1 v Q) : Mz l yX3_cancel cX3_cancel 3 (some .int) 4 104 G [.ref (gad G 0), .int a1] v (QiZ G Q) := by
  rw [w_X3_cancel] at hw
  refine z_ofW hg (by decide) (Nat.le_of_ble_eq_true rfl) ?_
  intro p e s m args below meth c ls C0 Z hl
  have hx := C0.1
  have hb := C0.2.1
  replace hl : lv_has ls 3 [(0, .ref (gad G 0)), (1, .int a1)] := hl
  generalize s.heap = H at Z ⊢
  generalize ([] : List Loc) = locs at Z ⊢
  refine lv_aload_n hx hb dX3_cancel_0 rfl (lv_at hl 0 rfl) ?_
  refine lv_iload_n hx hb dX3_cancel_1 rfl (lv_at hl 1 rfl) ?_
  refine z_callVv C0 Z hl.1 (As := [.int a1]) (rest := []) (k_X3_needBooking l (cx_g C0) hw) (gv_X3_needBooking tm_3_5) rfl ds_X3_needBooking ⟨Nat.le_of_ble_eq_true rfl, Nat.le_of_ble_eq_true rfl⟩ (ci := 3) rfl (cx_lt C0 (by decide)) rfl rfl rfl (Nat.le_of_ble_eq_true rfl) ⟨Nat.le_of_ble_eq_true rfl, Nat.le_of_ble_eq_true rfl⟩ dX3_cancel_2 (fun v1 H locs hw Z => ?_)
  refine lv_aload_n hx hb dX3_cancel_5 rfl (lv_at hl 0 rfl) ?_
  refine z_get C0 Z in_X3 rfl 4 (by decide) rfl tm_1_142 (cx_lt C0 (by decide)) rfl rfl dX3_cancel_6 ?_
  refine z_get C0 Z in_X1 rfl 2 (by decide) rfl tm_1_51 (isL_lt0 (isL8 (cx_g C0))) (ent_L (isL8 (cx_g C0))) rfl dX3_cancel_9 ?_
  refine lv_iload_n hx hb dX3_cancel_12 rfl (lv_at hl 1 rfl) ?_
  obtain ⟨h2, hw⟩ := hw
  have h3 := vp_lt h2
  refine z_aald C0 Z (isL_lt (isL8 (cx_g C0)) 3 (by decide)) (ent_L3 (isL8 (cx_g C0))) h2 dX3_cancel_13 ?_
  refine lv_astore_n (lv' := [(2, .ref (gad G (8 + 14 + (ix a1)))), (0, .ref (gad G 0)), (1, .int a1)]) hx hb dX3_cancel_14 rfl hl (by decide) rfl (fun ls hl => ?_)
  refine lv_aload_n hx hb dX3_cancel_15 rfl (lv_at hl 0 rfl) ?_
  refine lv_bipush (v := 7) hx hb dX3_cancel_16 (by decide) ?_
  refine z_ialdk C0 Z (isL_B (isL8 (cx_g C0)) h3) (ent_B (isL8 (cx_g C0)) h3) in_7_10 nc_7 dX3_cancel_18 ?_
  refine lv_if_eq (tgt := 32) hx hb dX3_cancel_19 (by decide) (fun c4 => ?_) (fun c4 => ?_)
  · replace hw := hw.1 c4
    exact b_X3_cancel_32 l C0 _ _ _ _ _ h3 hw Z (lv_sub hl [1, 0] rfl)
  · replace hw := hw.2 c4
    refine lv_aload_n hx hb dX3_cancel_22 rfl (lv_at hl 0 rfl) ?_
    refine lv_bipush (v := 7) hx hb dX3_cancel_23 (by decide) ?_
    refine z_ialdk C0 Z (isL_B (isL8 (cx_g C0)) h3) (ent_B (isL8 (cx_g C0)) h3) in_7_10 nc_7 dX3_cancel_25 ?_
    refine lv_iconst (v := 1) hx hb dX3_cancel_26 (by decide) ?_
    refine lv_icmp_eq (tgt := 32) hx hb dX3_cancel_27 (by decide) (fun c12 => ?_) (fun c12 => ?_)
    · replace hw := hw.1 c12
      exact b_X3_cancel_32 l C0 _ _ _ _ _ h3 hw Z (lv_sub hl [1, 0] rfl)
    · replace hw := hw.2 c12
      refine lv_iconst (v := 1) hx hb dX3_cancel_30 (by decide) ?_
      exact z_iret C0 Z hw dX3_cancel_31
-- X3_evict: room (4, 104)
theorem dX3_evict_0 : decode cX3_evict 0 = .ok (.aload_n 0, 1) := by decide +kernel
theorem dX3_evict_1 : decode cX3_evict 1 = .ok (.iload_n 1, 1) := by decide +kernel
theorem dX3_evict_2 : decode cX3_evict 2 = .ok (.invokevirtual 177, 3) := by decide +kernel
theorem dX3_evict_5 : decode cX3_evict 5 = .ok (.aload_n 0, 1) := by decide +kernel
theorem dX3_evict_6 : decode cX3_evict 6 = .ok (.getfield 26, 3) := by decide +kernel
theorem dX3_evict_9 : decode cX3_evict 9 = .ok (.getfield 190, 3) := by decide +kernel
theorem dX3_evict_12 : decode cX3_evict 12 = .ok (.iload_n 1, 1) := by decide +kernel
theorem dX3_evict_13 : decode cX3_evict 13 = .ok (.aaload, 1) := by decide +kernel
theorem dX3_evict_14 : decode cX3_evict 14 = .ok (.astore_n 2, 1) := by decide +kernel
theorem dX3_evict_15 : decode cX3_evict 15 = .ok (.aload_n 2, 1) := by decide +kernel
theorem dX3_evict_16 : decode cX3_evict 16 = .ok (.bipush 7, 2) := by decide +kernel
theorem dX3_evict_18 : decode cX3_evict 18 = .ok (.iaload, 1) := by decide +kernel
theorem dX3_evict_19 : decode cX3_evict 19 = .ok (.iconst 1, 1) := by decide +kernel
theorem dX3_evict_20 : decode cX3_evict 20 = .ok (.if_icmp .eq 5, 3) := by decide +kernel
theorem dX3_evict_23 : decode cX3_evict 23 = .ok (.iconst 1, 1) := by decide +kernel
theorem dX3_evict_24 : decode cX3_evict 24 = .ok (.ireturn, 1) := by decide +kernel
theorem dX3_evict_25 : decode cX3_evict 25 = .ok (.aload_n 0, 1) := by decide +kernel
theorem dX3_evict_26 : decode cX3_evict 26 = .ok (.getfield 26, 3) := by decide +kernel
theorem dX3_evict_29 : decode cX3_evict 29 = .ok (.iload_n 1, 1) := by decide +kernel
theorem dX3_evict_30 : decode cX3_evict 30 = .ok (.invokevirtual 212, 3) := by decide +kernel
theorem dX3_evict_33 : decode cX3_evict 33 = .ok (.aload_n 0, 1) := by decide +kernel
theorem dX3_evict_34 : decode cX3_evict 34 = .ok (.getfield 26, 3) := by decide +kernel
theorem dX3_evict_37 : decode cX3_evict 37 = .ok (.getfield 150, 3) := by decide +kernel
theorem dX3_evict_40 : decode cX3_evict 40 = .ok (.aload_n 2, 1) := by decide +kernel
theorem dX3_evict_41 : decode cX3_evict 41 = .ok (.iconst 0, 1) := by decide +kernel
theorem dX3_evict_42 : decode cX3_evict 42 = .ok (.iaload, 1) := by decide +kernel
theorem dX3_evict_43 : decode cX3_evict 43 = .ok (.aaload, 1) := by decide +kernel
theorem dX3_evict_44 : decode cX3_evict 44 = .ok (.iconst 4, 1) := by decide +kernel
theorem dX3_evict_45 : decode cX3_evict 45 = .ok (.dup2, 1) := by decide +kernel
theorem dX3_evict_46 : decode cX3_evict 46 = .ok (.iaload, 1) := by decide +kernel
theorem dX3_evict_47 : decode cX3_evict 47 = .ok (.iconst 1, 1) := by decide +kernel
theorem dX3_evict_48 : decode cX3_evict 48 = .ok (.iadd, 1) := by decide +kernel
theorem dX3_evict_49 : decode cX3_evict 49 = .ok (.iastore, 1) := by decide +kernel
theorem dX3_evict_50 : decode cX3_evict 50 = .ok (.aload_n 0, 1) := by decide +kernel
theorem dX3_evict_51 : decode cX3_evict 51 = .ok (.getfield 26, 3) := by decide +kernel
theorem dX3_evict_54 : decode cX3_evict 54 = .ok (.invokevirtual 205, 3) := by decide +kernel
theorem dX3_evict_57 : decode cX3_evict 57 = .ok (.iconst 0, 1) := by decide +kernel
theorem dX3_evict_58 : decode cX3_evict 58 = .ok (.ireturn, 1) := by decide +kernel
def w_X3_evict (a1 : Int32) (v : V3) (Q : Int32 → V3 → Prop) : Prop := w_X3_needBooking a1 v (fun v1 => vp_in a1 40 ∧ (((v1 (8 + 14 + (ix a1)) 7) = 1 → w_X1_letWait 8 a1 v1 (fun v5 => vp_in (v5 (8 + 14 + (ix a1)) 0) 8 ∧ ∀ v8 : V3, v8 = up2 v5 (8 + 6 + (ix (v5 (8 + 14 + (ix a1)) 0))) 4 ((v5 (8 + 6 + (ix (v5 (8 + 14 + (ix a1)) 0))) 4) + 1) → w_X1_placeWaiting 8 v8 (fun v9 => Q 0 v9))) ∧ (¬ (v1 (8 + 14 + (ix a1)) 7) = 1 → Q 1 v1)))
set_option maxRecDepth 100000 in
set_option maxHeartbeats 4000000 in
theorem k_X3_evict (l : Launch) {G : zG} (hg : 116 ≤ gn G) {a1 : Int32}  {v : V3} {Q : Int32 → V3 → Prop} (hw : w_X3_evict a1 v Q) : Mz l yX3_evict cX3_evict 3 (some .int) 4 104 G [.ref (gad G 0), .int a1] v (QiZ G Q) := by
  rw [w_X3_evict] at hw
  refine z_ofW hg (by decide) (Nat.le_of_ble_eq_true rfl) ?_
  intro p e s m args below meth c ls C0 Z hl
  have hx := C0.1
  have hb := C0.2.1
  replace hl : lv_has ls 3 [(0, .ref (gad G 0)), (1, .int a1)] := hl
  generalize s.heap = H at Z ⊢
  generalize ([] : List Loc) = locs at Z ⊢
  refine lv_aload_n hx hb dX3_evict_0 rfl (lv_at hl 0 rfl) ?_
  refine lv_iload_n hx hb dX3_evict_1 rfl (lv_at hl 1 rfl) ?_
  refine z_callVv C0 Z hl.1 (As := [.int a1]) (rest := []) (k_X3_needBooking l (cx_g C0) hw) (gv_X3_needBooking tm_3_5) rfl ds_X3_needBooking ⟨Nat.le_of_ble_eq_true rfl, Nat.le_of_ble_eq_true rfl⟩ (ci := 3) rfl (cx_lt C0 (by decide)) rfl rfl rfl (Nat.le_of_ble_eq_true rfl) ⟨Nat.le_of_ble_eq_true rfl, Nat.le_of_ble_eq_true rfl⟩ dX3_evict_2 (fun v1 H locs hw Z => ?_)
  refine lv_aload_n hx hb dX3_evict_5 rfl (lv_at hl 0 rfl) ?_
  refine z_get C0 Z in_X3 rfl 4 (by decide) rfl tm_1_142 (cx_lt C0 (by decide)) rfl rfl dX3_evict_6 ?_
  refine z_get C0 Z in_X1 rfl 2 (by decide) rfl tm_1_51 (isL_lt0 (isL8 (cx_g C0))) (ent_L (isL8 (cx_g C0))) rfl dX3_evict_9 ?_
  refine lv_iload_n hx hb dX3_evict_12 rfl (lv_at hl 1 rfl) ?_
  obtain ⟨h2, hw⟩ := hw
  have h3 := vp_lt h2
  refine z_aald C0 Z (isL_lt (isL8 (cx_g C0)) 3 (by decide)) (ent_L3 (isL8 (cx_g C0))) h2 dX3_evict_13 ?_
  refine lv_astore_n (lv' := [(2, .ref (gad G (8 + 14 + (ix a1)))), (0, .ref (gad G 0)), (1, .int a1)]) hx hb dX3_evict_14 rfl hl (by decide) rfl (fun ls hl => ?_)
  refine lv_aload_n hx hb dX3_evict_15 rfl (lv_at hl 0 rfl) ?_
  refine lv_bipush (v := 7) hx hb dX3_evict_16 (by decide) ?_
  refine z_ialdk C0 Z (isL_B (isL8 (cx_g C0)) h3) (ent_B (isL8 (cx_g C0)) h3) in_7_10 nc_7 dX3_evict_18 ?_
  refine lv_iconst (v := 1) hx hb dX3_evict_19 (by decide) ?_
  refine lv_icmp_eq (tgt := 25) hx hb dX3_evict_20 (by decide) (fun c4 => ?_) (fun c4 => ?_)
  · replace hw := hw.1 c4
    refine lv_aload_n hx hb dX3_evict_25 rfl (lv_at hl 1 rfl) ?_
    refine z_get C0 Z in_X3 rfl 4 (by decide) rfl tm_1_142 (cx_lt C0 (by decide)) rfl rfl dX3_evict_26 ?_
    refine lv_iload_n hx hb dX3_evict_29 rfl (lv_at hl 2 rfl) ?_
    refine z_callVv C0 Z hl.1 (As := [.int a1]) (rest := []) (k_X1_letWait l (cx_g C0) (isL8 (cx_g C0)) hw) (gv_X1_letWait tm_3_72) rfl ds_X1_letWait ⟨Nat.le_of_ble_eq_true rfl, Nat.le_of_ble_eq_true rfl⟩ (ci := 1) rfl (isL_lt0 (isL8 (cx_g C0))) (ent_L (isL8 (cx_g C0))) rfl rfl (Nat.le_of_ble_eq_true rfl) ⟨Nat.le_of_ble_eq_true rfl, Nat.le_of_ble_eq_true rfl⟩ dX3_evict_30 (fun v5 H locs hw Z => ?_)
    refine lv_aload_n hx hb dX3_evict_33 rfl (lv_at hl 1 rfl) ?_
    refine z_get C0 Z in_X3 rfl 4 (by decide) rfl tm_1_142 (cx_lt C0 (by decide)) rfl rfl dX3_evict_34 ?_
    refine z_get C0 Z in_X1 rfl 1 (by decide) rfl tm_1_48 (isL_lt0 (isL8 (cx_g C0))) (ent_L (isL8 (cx_g C0))) rfl dX3_evict_37 ?_
    refine lv_aload_n hx hb dX3_evict_40 rfl (lv_at hl 0 rfl) ?_
    refine lv_iconst (v := 0) hx hb dX3_evict_41 (by decide) ?_
    refine z_ialdk C0 Z (isL_B (isL8 (cx_g C0)) h3) (ent_B (isL8 (cx_g C0)) h3) in_0_10 nc_0 dX3_evict_42 ?_
    obtain ⟨h6, hw⟩ := hw
    have h7 := vp_lt h6
    refine z_aald C0 Z (isL_lt (isL8 (cx_g C0)) 2 (by decide)) (ent_L2 (isL8 (cx_g C0))) h6 dX3_evict_43 ?_
    refine lv_iconst (v := 4) hx hb dX3_evict_44 (by decide) ?_
    refine lv_dup2_11 hx hb dX3_evict_45 rfl rfl ?_
    refine z_ialdk C0 Z (isL_O (isL8 (cx_g C0)) h7) (ent_O (isL8 (cx_g C0)) h7) in_4_8 nc_4 dX3_evict_46 ?_
    refine lv_iconst (v := 1) hx hb dX3_evict_47 (by decide) ?_
    refine lv_iadd hx hb dX3_evict_48 ?_
    refine z_iastk C0 Z (isL_O (isL8 (cx_g C0)) h7) (fun _ => ent_O (isL8 (cx_g C0)) h7) in_4_8 nc_4 dX3_evict_49 (fun H locs Z => ?_)
    obtain ⟨v8, ev8⟩ : ∃ z : V3, z = up2 v5 (8 + 6 + (ix (v5 (8 + 14 + (ix a1)) 0))) 4 ((v5 (8 + 6 + (ix (v5 (8 + 14 + (ix a1)) 0))) 4) + 1) := ⟨_, rfl⟩
    rw [← ev8] at Z
    replace hw := hw v8 ev8
    refine lv_aload_n hx hb dX3_evict_50 rfl (lv_at hl 1 rfl) ?_
    refine z_get C0 Z in_X3 rfl 4 (by decide) rfl tm_1_142 (cx_lt C0 (by decide)) rfl rfl dX3_evict_51 ?_
    refine z_callVv C0 Z hl.1 (As := []) (rest := []) (k_X1_placeWaiting l (cx_g C0) (isL8 (cx_g C0)) hw) (gv_X1_placeWaiting tm_3_28) rfl ds_X1_placeWaiting ⟨Nat.le_of_ble_eq_true rfl, Nat.le_of_ble_eq_true rfl⟩ (ci := 1) rfl (isL_lt0 (isL8 (cx_g C0))) (ent_L (isL8 (cx_g C0))) rfl rfl (Nat.le_of_ble_eq_true rfl) ⟨Nat.le_of_ble_eq_true rfl, Nat.le_of_ble_eq_true rfl⟩ dX3_evict_54 (fun v9 H locs hw Z => ?_)
    refine lv_iconst (v := 0) hx hb dX3_evict_57 (by decide) ?_
    exact z_iret C0 Z hw dX3_evict_58
  · replace hw := hw.2 c4
    refine lv_iconst (v := 1) hx hb dX3_evict_23 (by decide) ?_
    exact z_iret C0 Z hw dX3_evict_24
-- X3_swap: room (4, 104)
theorem dX3_swap_0 : decode cX3_swap 0 = .ok (.aload_n 0, 1) := by decide +kernel
theorem dX3_swap_1 : decode cX3_swap 1 = .ok (.iload_n 1, 1) := by decide +kernel
theorem dX3_swap_2 : decode cX3_swap 2 = .ok (.invokevirtual 177, 3) := by decide +kernel
theorem dX3_swap_5 : decode cX3_swap 5 = .ok (.aload_n 0, 1) := by decide +kernel
theorem dX3_swap_6 : decode cX3_swap 6 = .ok (.iload_n 2, 1) := by decide +kernel
theorem dX3_swap_7 : decode cX3_swap 7 = .ok (.invokevirtual 177, 3) := by decide +kernel
theorem dX3_swap_10 : decode cX3_swap 10 = .ok (.iload_n 1, 1) := by decide +kernel
theorem dX3_swap_11 : decode cX3_swap 11 = .ok (.iload_n 2, 1) := by decide +kernel
theorem dX3_swap_12 : decode cX3_swap 12 = .ok (.if_icmp .ne 13, 3) := by decide +kernel
theorem dX3_swap_15 : decode cX3_swap 15 = .ok (.new 161, 3) := by decide +kernel
theorem dX3_swap_18 : decode cX3_swap 18 = .ok (.dup, 1) := by decide +kernel
theorem dX3_swap_19 : decode cX3_swap 19 = .ok (.ldc 215, 2) := by decide +kernel
theorem dX3_swap_21 : decode cX3_swap 21 = .ok (.invokespecial 165, 3) := by decide +kernel
theorem dX3_swap_24 : decode cX3_swap 24 = .ok (.athrow, 1) := by decide +kernel
theorem dX3_swap_25 : decode cX3_swap 25 = .ok (.aload_n 0, 1) := by decide +kernel
theorem dX3_swap_26 : decode cX3_swap 26 = .ok (.getfield 26, 3) := by decide +kernel
theorem dX3_swap_29 : decode cX3_swap 29 = .ok (.iload_n 1, 1) := by decide +kernel
theorem dX3_swap_30 : decode cX3_swap 30 = .ok (.iconst 1, 1) := by decide +kernel
theorem dX3_swap_31 : decode cX3_swap 31 = .ok (.invokevirtual 183, 3) := by decide +kernel
theorem dX3_swap_34 : decode cX3_swap 34 = .ok (.ifCond .eq 15, 3) := by decide +kernel
theorem dX3_swap_37 : decode cX3_swap 37 = .ok (.aload_n 0, 1) := by decide +kernel
theorem dX3_swap_38 : decode cX3_swap 38 = .ok (.getfield 26, 3) := by decide +kernel
theorem dX3_swap_41 : decode cX3_swap 41 = .ok (.iload_n 2, 1) := by decide +kernel
theorem dX3_swap_42 : decode cX3_swap 42 = .ok (.iconst 1, 1) := by decide +kernel
theorem dX3_swap_43 : decode cX3_swap 43 = .ok (.invokevirtual 183, 3) := by decide +kernel
theorem dX3_swap_46 : decode cX3_swap 46 = .ok (.ifCond .ne 5, 3) := by decide +kernel
theorem dX3_swap_49 : decode cX3_swap 49 = .ok (.iconst 1, 1) := by decide +kernel
theorem dX3_swap_50 : decode cX3_swap 50 = .ok (.ireturn, 1) := by decide +kernel
theorem dX3_swap_51 : decode cX3_swap 51 = .ok (.aload_n 0, 1) := by decide +kernel
theorem dX3_swap_52 : decode cX3_swap 52 = .ok (.getfield 42, 3) := by decide +kernel
theorem dX3_swap_55 : decode cX3_swap 55 = .ok (.iload_n 1, 1) := by decide +kernel
theorem dX3_swap_56 : decode cX3_swap 56 = .ok (.iload_n 2, 1) := by decide +kernel
theorem dX3_swap_57 : decode cX3_swap 57 = .ok (.invokevirtual 217, 3) := by decide +kernel
theorem dX3_swap_60 : decode cX3_swap 60 = .ok (.ifCond .ne 5, 3) := by decide +kernel
theorem dX3_swap_63 : decode cX3_swap 63 = .ok (.iconst 4, 1) := by decide +kernel
theorem dX3_swap_64 : decode cX3_swap 64 = .ok (.ireturn, 1) := by decide +kernel
theorem dX3_swap_65 : decode cX3_swap 65 = .ok (.aload_n 0, 1) := by decide +kernel
theorem dX3_swap_66 : decode cX3_swap 66 = .ok (.getfield 42, 3) := by decide +kernel
theorem dX3_swap_69 : decode cX3_swap 69 = .ok (.iload_n 1, 1) := by decide +kernel
theorem dX3_swap_70 : decode cX3_swap 70 = .ok (.iload_n 2, 1) := by decide +kernel
theorem dX3_swap_71 : decode cX3_swap 71 = .ok (.invokevirtual 221, 3) := by decide +kernel
theorem dX3_swap_74 : decode cX3_swap 74 = .ok (.aload_n 0, 1) := by decide +kernel
theorem dX3_swap_75 : decode cX3_swap 75 = .ok (.getfield 26, 3) := by decide +kernel
theorem dX3_swap_78 : decode cX3_swap 78 = .ok (.invokevirtual 205, 3) := by decide +kernel
theorem dX3_swap_81 : decode cX3_swap 81 = .ok (.iconst 0, 1) := by decide +kernel
theorem dX3_swap_82 : decode cX3_swap 82 = .ok (.ireturn, 1) := by decide +kernel
def w_X3_swap_49  (Q : Int32 → V3 → Prop) (v : V3) : Prop := Q 1 v
def w_X3_swap (a1 : Int32) (a2 : Int32) (v : V3) (Q : Int32 → V3 → Prop) : Prop := w_X3_needBooking a1 v (fun v1 => w_X3_needBooking a2 v1 (fun v2 => ((¬ a1 = a2 → w_X1_isIn 8 a1 1 v2 (fun r5 v4 => ((r5 = 0 → w_X3_swap_49 Q v4) ∧ (¬ r5 = 0 → w_X1_isIn 8 a2 1 v4 (fun r8 v7 => ((¬ r8 = 0 → w_X0_swapGain a1 a2 v7 (fun r11 v10 => ((¬ r11 = 0 → w_X0_makeSwap a1 a2 v10 (fun v13 => w_X1_placeWaiting 8 v13 (fun v14 => Q 0 v14))) ∧ (r11 = 0 → Q 4 v10)))) ∧ (r8 = 0 → w_X3_swap_49 Q v7))))))) ∧ (a1 = a2 → False))))
set_option maxRecDepth 100000 in
set_option maxHeartbeats 4000000 in
theorem b_X3_swap_49 {p : Program} (l : Launch) {e : Env} {s : State} {m : MethodId} {args : Array Value} {below : List Frame} {meth : Method} {c : Code} {G : zG}   (C0 : Cx G RX3 cX3_swap 3 (some .int) p s m args meth c) {Q : Int32 → V3 → Prop} : ∀ (v : V3) (H : Heap) (locs : List Loc) (ls : Array Slot), w_X3_swap_49 Q v → Zs G s v H locs → lv_has ls 3 [] → W p l e { frames := 4, cells := 0, slots := 0, locals := 104 } s m args below meth c H locs 0 0 (MQ below (QiZ G Q) args s 0 0 (zA G)) (F0 m 49 ls []) := by
  have hx := C0.1
  have hb := C0.2.1
  intro v H locs ls hw Z hl
  rw [w_X3_swap_49] at hw
  refine lv_iconst (v := 1) hx hb dX3_swap_49 (by decide) ?_
  exact z_iret C0 Z hw dX3_swap_50
set_option maxRecDepth 100000 in
set_option maxHeartbeats 4000000 in
theorem k_X3_swap (l : Launch) {G : zG} (hg : 116 ≤ gn G) {a1 : Int32} {a2 : Int32}  {v : V3} {Q : Int32 → V3 → Prop} (hw : w_X3_swap a1 a2 v Q) : Mz l yX3_swap cX3_swap 3 (some .int) 4 104 G [.ref (gad G 0), .int a1, .int a2] v (QiZ G Q) := by
  rw [w_X3_swap] at hw
  refine z_ofW hg (by decide) (Nat.le_of_ble_eq_true rfl) ?_
  intro p e s m args below meth c ls C0 Z hl
  have hx := C0.1
  have hb := C0.2.1
  replace hl : lv_has ls 3 [(0, .ref (gad G 0)), (1, .int a1), (2, .int a2)] := hl
  generalize s.heap = H at Z ⊢
  generalize ([] : List Loc) = locs at Z ⊢
  refine lv_aload_n hx hb dX3_swap_0 rfl (lv_at hl 0 rfl) ?_
  refine lv_iload_n hx hb dX3_swap_1 rfl (lv_at hl 1 rfl) ?_
  refine z_callVv C0 Z hl.1 (As := [.int a1]) (rest := []) (k_X3_needBooking l (cx_g C0) hw) (gv_X3_needBooking tm_3_5) rfl ds_X3_needBooking ⟨Nat.le_of_ble_eq_true rfl, Nat.le_of_ble_eq_true rfl⟩ (ci := 3) rfl (cx_lt C0 (by decide)) rfl rfl rfl (Nat.le_of_ble_eq_true rfl) ⟨Nat.le_of_ble_eq_true rfl, Nat.le_of_ble_eq_true rfl⟩ dX3_swap_2 (fun v1 H locs hw Z => ?_)
  refine lv_aload_n hx hb dX3_swap_5 rfl (lv_at hl 0 rfl) ?_
  refine lv_iload_n hx hb dX3_swap_6 rfl (lv_at hl 2 rfl) ?_
  refine z_callVv C0 Z hl.1 (As := [.int a2]) (rest := []) (k_X3_needBooking l (cx_g C0) hw) (gv_X3_needBooking tm_3_5) rfl ds_X3_needBooking ⟨Nat.le_of_ble_eq_true rfl, Nat.le_of_ble_eq_true rfl⟩ (ci := 3) rfl (cx_lt C0 (by decide)) rfl rfl rfl (Nat.le_of_ble_eq_true rfl) ⟨Nat.le_of_ble_eq_true rfl, Nat.le_of_ble_eq_true rfl⟩ dX3_swap_7 (fun v2 H locs hw Z => ?_)
  refine lv_iload_n hx hb dX3_swap_10 rfl (lv_at hl 1 rfl) ?_
  refine lv_iload_n hx hb dX3_swap_11 rfl (lv_at hl 2 rfl) ?_
  refine lv_icmp_ne (tgt := 25) hx hb dX3_swap_12 (by decide) (fun c3 => ?_) (fun c3 => ?_)
  · replace hw := hw.1 c3
    refine lv_aload_n hx hb dX3_swap_25 rfl (lv_at hl 0 rfl) ?_
    refine z_get C0 Z in_X3 rfl 4 (by decide) rfl tm_1_142 (cx_lt C0 (by decide)) rfl rfl dX3_swap_26 ?_
    refine lv_iload_n hx hb dX3_swap_29 rfl (lv_at hl 1 rfl) ?_
    refine lv_iconst (v := 1) hx hb dX3_swap_30 (by decide) ?_
    refine z_callVi C0 Z hl.1 (As := [.int a1, .int 1]) (rest := []) (k_X1_isIn l (cx_g C0) (isL8 (cx_g C0)) hw) (gv_X1_isIn tm_3_11) rfl ds_X1_isIn ⟨Nat.le_of_ble_eq_true rfl, Nat.le_of_ble_eq_true rfl⟩ (ci := 1) rfl (isL_lt0 (isL8 (cx_g C0))) (ent_L (isL8 (cx_g C0))) rfl rfl (Nat.le_of_ble_eq_true rfl) ⟨Nat.le_of_ble_eq_true rfl, Nat.le_of_ble_eq_true rfl⟩ dX3_swap_31 (fun r5 v4 H locs hw Z => ?_)
    refine lv_if_eq (tgt := 49) hx hb dX3_swap_34 (by decide) (fun c6 => ?_) (fun c6 => ?_)
    · replace hw := hw.1 c6
      exact b_X3_swap_49 l C0 _ _ _ _ hw Z (lv_sub hl [] rfl)
    · replace hw := hw.2 c6
      refine lv_aload_n hx hb dX3_swap_37 rfl (lv_at hl 0 rfl) ?_
      refine z_get C0 Z in_X3 rfl 4 (by decide) rfl tm_1_142 (cx_lt C0 (by decide)) rfl rfl dX3_swap_38 ?_
      refine lv_iload_n hx hb dX3_swap_41 rfl (lv_at hl 2 rfl) ?_
      refine lv_iconst (v := 1) hx hb dX3_swap_42 (by decide) ?_
      refine z_callVi C0 Z hl.1 (As := [.int a2, .int 1]) (rest := []) (k_X1_isIn l (cx_g C0) (isL8 (cx_g C0)) hw) (gv_X1_isIn tm_3_11) rfl ds_X1_isIn ⟨Nat.le_of_ble_eq_true rfl, Nat.le_of_ble_eq_true rfl⟩ (ci := 1) rfl (isL_lt0 (isL8 (cx_g C0))) (ent_L (isL8 (cx_g C0))) rfl rfl (Nat.le_of_ble_eq_true rfl) ⟨Nat.le_of_ble_eq_true rfl, Nat.le_of_ble_eq_true rfl⟩ dX3_swap_43 (fun r8 v7 H locs hw Z => ?_)
      refine lv_if_ne (tgt := 51) hx hb dX3_swap_46 (by decide) (fun c9 => ?_) (fun c9 => ?_)
      · replace hw := hw.1 c9
        refine lv_aload_n hx hb dX3_swap_51 rfl (lv_at hl 0 rfl) ?_
        refine z_get C0 Z in_X3 rfl 7 (by decide) rfl tm_1_145 (cx_lt C0 (by decide)) rfl rfl dX3_swap_52 ?_
        refine lv_iload_n hx hb dX3_swap_55 rfl (lv_at hl 1 rfl) ?_
        refine lv_iload_n hx hb dX3_swap_56 rfl (lv_at hl 2 rfl) ?_
        refine z_callVi C0 Z hl.1 (As := [.int a1, .int a2]) (rest := []) (k_X0_swapGain l (cx_g C0) hw) (gv_X0_swapGain tm_3_80) rfl ds_X0_swapGain ⟨Nat.le_of_ble_eq_true rfl, Nat.le_of_ble_eq_true rfl⟩ (ci := 0) rfl (cx_lt C0 (by decide)) rfl rfl rfl (Nat.le_of_ble_eq_true rfl) ⟨Nat.le_of_ble_eq_true rfl, Nat.le_of_ble_eq_true rfl⟩ dX3_swap_57 (fun r11 v10 H locs hw Z => ?_)
        refine lv_if_ne (tgt := 65) hx hb dX3_swap_60 (by decide) (fun c12 => ?_) (fun c12 => ?_)
        · replace hw := hw.1 c12
          refine lv_aload_n hx hb dX3_swap_65 rfl (lv_at hl 0 rfl) ?_
          refine z_get C0 Z in_X3 rfl 7 (by decide) rfl tm_1_145 (cx_lt C0 (by decide)) rfl rfl dX3_swap_66 ?_
          refine lv_iload_n hx hb dX3_swap_69 rfl (lv_at hl 1 rfl) ?_
          refine lv_iload_n hx hb dX3_swap_70 rfl (lv_at hl 2 rfl) ?_
          refine z_callVv C0 Z hl.1 (As := [.int a1, .int a2]) (rest := []) (k_X0_makeSwap l (cx_g C0) hw) (gv_X0_makeSwap tm_3_129) rfl ds_X0_makeSwap ⟨Nat.le_of_ble_eq_true rfl, Nat.le_of_ble_eq_true rfl⟩ (ci := 0) rfl (cx_lt C0 (by decide)) rfl rfl rfl (Nat.le_of_ble_eq_true rfl) ⟨Nat.le_of_ble_eq_true rfl, Nat.le_of_ble_eq_true rfl⟩ dX3_swap_71 (fun v13 H locs hw Z => ?_)
          refine lv_aload_n hx hb dX3_swap_74 rfl (lv_at hl 0 rfl) ?_
          refine z_get C0 Z in_X3 rfl 4 (by decide) rfl tm_1_142 (cx_lt C0 (by decide)) rfl rfl dX3_swap_75 ?_
          refine z_callVv C0 Z hl.1 (As := []) (rest := []) (k_X1_placeWaiting l (cx_g C0) (isL8 (cx_g C0)) hw) (gv_X1_placeWaiting tm_3_28) rfl ds_X1_placeWaiting ⟨Nat.le_of_ble_eq_true rfl, Nat.le_of_ble_eq_true rfl⟩ (ci := 1) rfl (isL_lt0 (isL8 (cx_g C0))) (ent_L (isL8 (cx_g C0))) rfl rfl (Nat.le_of_ble_eq_true rfl) ⟨Nat.le_of_ble_eq_true rfl, Nat.le_of_ble_eq_true rfl⟩ dX3_swap_78 (fun v14 H locs hw Z => ?_)
          refine lv_iconst (v := 0) hx hb dX3_swap_81 (by decide) ?_
          exact z_iret C0 Z hw dX3_swap_82
        · replace hw := hw.2 c12
          refine lv_iconst (v := 4) hx hb dX3_swap_63 (by decide) ?_
          exact z_iret C0 Z hw dX3_swap_64
      · replace hw := hw.2 c9
        exact b_X3_swap_49 l C0 _ _ _ _ hw Z (lv_sub hl [] rfl)
  · replace hw := hw.2 c3
    exact hw.elim
-- X3_buy: room (4, 104)
theorem dX3_buy_0 : decode cX3_buy 0 = .ok (.aload_n 0, 1) := by decide +kernel
theorem dX3_buy_1 : decode cX3_buy 1 = .ok (.iload_n 1, 1) := by decide +kernel
theorem dX3_buy_2 : decode cX3_buy 2 = .ok (.invokevirtual 177, 3) := by decide +kernel
theorem dX3_buy_5 : decode cX3_buy 5 = .ok (.aload_n 0, 1) := by decide +kernel
theorem dX3_buy_6 : decode cX3_buy 6 = .ok (.iload_n 2, 1) := by decide +kernel
theorem dX3_buy_7 : decode cX3_buy 7 = .ok (.invokevirtual 177, 3) := by decide +kernel
theorem dX3_buy_10 : decode cX3_buy 10 = .ok (.aload_n 0, 1) := by decide +kernel
theorem dX3_buy_11 : decode cX3_buy 11 = .ok (.getfield 26, 3) := by decide +kernel
theorem dX3_buy_14 : decode cX3_buy 14 = .ok (.iload_n 1, 1) := by decide +kernel
theorem dX3_buy_15 : decode cX3_buy 15 = .ok (.iconst 0, 1) := by decide +kernel
theorem dX3_buy_16 : decode cX3_buy 16 = .ok (.invokevirtual 183, 3) := by decide +kernel
theorem dX3_buy_19 : decode cX3_buy 19 = .ok (.ifCond .eq 15, 3) := by decide +kernel
theorem dX3_buy_22 : decode cX3_buy 22 = .ok (.aload_n 0, 1) := by decide +kernel
theorem dX3_buy_23 : decode cX3_buy 23 = .ok (.getfield 26, 3) := by decide +kernel
theorem dX3_buy_26 : decode cX3_buy 26 = .ok (.iload_n 2, 1) := by decide +kernel
theorem dX3_buy_27 : decode cX3_buy 27 = .ok (.iconst 1, 1) := by decide +kernel
theorem dX3_buy_28 : decode cX3_buy 28 = .ok (.invokevirtual 183, 3) := by decide +kernel
theorem dX3_buy_31 : decode cX3_buy 31 = .ok (.ifCond .ne 5, 3) := by decide +kernel
theorem dX3_buy_34 : decode cX3_buy 34 = .ok (.iconst 1, 1) := by decide +kernel
theorem dX3_buy_35 : decode cX3_buy 35 = .ok (.ireturn, 1) := by decide +kernel
theorem dX3_buy_36 : decode cX3_buy 36 = .ok (.aload_n 0, 1) := by decide +kernel
theorem dX3_buy_37 : decode cX3_buy 37 = .ok (.getfield 42, 3) := by decide +kernel
theorem dX3_buy_40 : decode cX3_buy 40 = .ok (.iload_n 1, 1) := by decide +kernel
theorem dX3_buy_41 : decode cX3_buy 41 = .ok (.iload_n 2, 1) := by decide +kernel
theorem dX3_buy_42 : decode cX3_buy 42 = .ok (.invokevirtual 224, 3) := by decide +kernel
theorem dX3_buy_45 : decode cX3_buy 45 = .ok (.ifCond .ne 5, 3) := by decide +kernel
theorem dX3_buy_48 : decode cX3_buy 48 = .ok (.iconst 4, 1) := by decide +kernel
theorem dX3_buy_49 : decode cX3_buy 49 = .ok (.ireturn, 1) := by decide +kernel
theorem dX3_buy_50 : decode cX3_buy 50 = .ok (.aload_n 0, 1) := by decide +kernel
theorem dX3_buy_51 : decode cX3_buy 51 = .ok (.getfield 42, 3) := by decide +kernel
theorem dX3_buy_54 : decode cX3_buy 54 = .ok (.iload_n 1, 1) := by decide +kernel
theorem dX3_buy_55 : decode cX3_buy 55 = .ok (.iload_n 2, 1) := by decide +kernel
theorem dX3_buy_56 : decode cX3_buy 56 = .ok (.invokevirtual 227, 3) := by decide +kernel
theorem dX3_buy_59 : decode cX3_buy 59 = .ok (.aload_n 0, 1) := by decide +kernel
theorem dX3_buy_60 : decode cX3_buy 60 = .ok (.getfield 26, 3) := by decide +kernel
theorem dX3_buy_63 : decode cX3_buy 63 = .ok (.invokevirtual 205, 3) := by decide +kernel
theorem dX3_buy_66 : decode cX3_buy 66 = .ok (.iconst 0, 1) := by decide +kernel
theorem dX3_buy_67 : decode cX3_buy 67 = .ok (.ireturn, 1) := by decide +kernel
def w_X3_buy_34  (Q : Int32 → V3 → Prop) (v : V3) : Prop := Q 1 v
def w_X3_buy (a1 : Int32) (a2 : Int32) (v : V3) (Q : Int32 → V3 → Prop) : Prop := w_X3_needBooking a1 v (fun v1 => w_X3_needBooking a2 v1 (fun v2 => w_X1_isIn 8 a1 0 v2 (fun r4 v3 => ((r4 = 0 → w_X3_buy_34 Q v3) ∧ (¬ r4 = 0 → w_X1_isIn 8 a2 1 v3 (fun r7 v6 => ((¬ r7 = 0 → w_X0_buyoutGain a1 a2 v6 (fun r10 v9 => ((¬ r10 = 0 → w_X0_makeBuyout a1 a2 v9 (fun v12 => w_X1_placeWaiting 8 v12 (fun v13 => Q 0 v13))) ∧ (r10 = 0 → Q 4 v9)))) ∧ (r7 = 0 → w_X3_buy_34 Q v6))))))))
set_option maxRecDepth 100000 in
set_option maxHeartbeats 4000000 in
theorem b_X3_buy_34 {p : Program} (l : Launch) {e : Env} {s : State} {m : MethodId} {args : Array Value} {below : List Frame} {meth : Method} {c : Code} {G : zG}   (C0 : Cx G RX3 cX3_buy 3 (some .int) p s m args meth c) {Q : Int32 → V3 → Prop} : ∀ (v : V3) (H : Heap) (locs : List Loc) (ls : Array Slot), w_X3_buy_34 Q v → Zs G s v H locs → lv_has ls 3 [] → W p l e { frames := 4, cells := 0, slots := 0, locals := 104 } s m args below meth c H locs 0 0 (MQ below (QiZ G Q) args s 0 0 (zA G)) (F0 m 34 ls []) := by
  have hx := C0.1
  have hb := C0.2.1
  intro v H locs ls hw Z hl
  rw [w_X3_buy_34] at hw
  refine lv_iconst (v := 1) hx hb dX3_buy_34 (by decide) ?_
  exact z_iret C0 Z hw dX3_buy_35
set_option maxRecDepth 100000 in
set_option maxHeartbeats 4000000 in
theorem k_X3_buy (l : Launch) {G : zG} (hg : 116 ≤ gn G) {a1 : Int32} {a2 : Int32}  {v : V3} {Q : Int32 → V3 → Prop} (hw : w_X3_buy a1 a2 v Q) : Mz l yX3_buy cX3_buy 3 (some .int) 4 104 G [.ref (gad G 0), .int a1, .int a2] v (QiZ G Q) := by
  rw [w_X3_buy] at hw
  refine z_ofW hg (by decide) (Nat.le_of_ble_eq_true rfl) ?_
  intro p e s m args below meth c ls C0 Z hl
  have hx := C0.1
  have hb := C0.2.1
  replace hl : lv_has ls 3 [(0, .ref (gad G 0)), (1, .int a1), (2, .int a2)] := hl
  generalize s.heap = H at Z ⊢
  generalize ([] : List Loc) = locs at Z ⊢
  refine lv_aload_n hx hb dX3_buy_0 rfl (lv_at hl 0 rfl) ?_
  refine lv_iload_n hx hb dX3_buy_1 rfl (lv_at hl 1 rfl) ?_
  refine z_callVv C0 Z hl.1 (As := [.int a1]) (rest := []) (k_X3_needBooking l (cx_g C0) hw) (gv_X3_needBooking tm_3_5) rfl ds_X3_needBooking ⟨Nat.le_of_ble_eq_true rfl, Nat.le_of_ble_eq_true rfl⟩ (ci := 3) rfl (cx_lt C0 (by decide)) rfl rfl rfl (Nat.le_of_ble_eq_true rfl) ⟨Nat.le_of_ble_eq_true rfl, Nat.le_of_ble_eq_true rfl⟩ dX3_buy_2 (fun v1 H locs hw Z => ?_)
  refine lv_aload_n hx hb dX3_buy_5 rfl (lv_at hl 0 rfl) ?_
  refine lv_iload_n hx hb dX3_buy_6 rfl (lv_at hl 2 rfl) ?_
  refine z_callVv C0 Z hl.1 (As := [.int a2]) (rest := []) (k_X3_needBooking l (cx_g C0) hw) (gv_X3_needBooking tm_3_5) rfl ds_X3_needBooking ⟨Nat.le_of_ble_eq_true rfl, Nat.le_of_ble_eq_true rfl⟩ (ci := 3) rfl (cx_lt C0 (by decide)) rfl rfl rfl (Nat.le_of_ble_eq_true rfl) ⟨Nat.le_of_ble_eq_true rfl, Nat.le_of_ble_eq_true rfl⟩ dX3_buy_7 (fun v2 H locs hw Z => ?_)
  refine lv_aload_n hx hb dX3_buy_10 rfl (lv_at hl 0 rfl) ?_
  refine z_get C0 Z in_X3 rfl 4 (by decide) rfl tm_1_142 (cx_lt C0 (by decide)) rfl rfl dX3_buy_11 ?_
  refine lv_iload_n hx hb dX3_buy_14 rfl (lv_at hl 1 rfl) ?_
  refine lv_iconst (v := 0) hx hb dX3_buy_15 (by decide) ?_
  refine z_callVi C0 Z hl.1 (As := [.int a1, .int 0]) (rest := []) (k_X1_isIn l (cx_g C0) (isL8 (cx_g C0)) hw) (gv_X1_isIn tm_3_11) rfl ds_X1_isIn ⟨Nat.le_of_ble_eq_true rfl, Nat.le_of_ble_eq_true rfl⟩ (ci := 1) rfl (isL_lt0 (isL8 (cx_g C0))) (ent_L (isL8 (cx_g C0))) rfl rfl (Nat.le_of_ble_eq_true rfl) ⟨Nat.le_of_ble_eq_true rfl, Nat.le_of_ble_eq_true rfl⟩ dX3_buy_16 (fun r4 v3 H locs hw Z => ?_)
  refine lv_if_eq (tgt := 34) hx hb dX3_buy_19 (by decide) (fun c5 => ?_) (fun c5 => ?_)
  · replace hw := hw.1 c5
    exact b_X3_buy_34 l C0 _ _ _ _ hw Z (lv_sub hl [] rfl)
  · replace hw := hw.2 c5
    refine lv_aload_n hx hb dX3_buy_22 rfl (lv_at hl 0 rfl) ?_
    refine z_get C0 Z in_X3 rfl 4 (by decide) rfl tm_1_142 (cx_lt C0 (by decide)) rfl rfl dX3_buy_23 ?_
    refine lv_iload_n hx hb dX3_buy_26 rfl (lv_at hl 2 rfl) ?_
    refine lv_iconst (v := 1) hx hb dX3_buy_27 (by decide) ?_
    refine z_callVi C0 Z hl.1 (As := [.int a2, .int 1]) (rest := []) (k_X1_isIn l (cx_g C0) (isL8 (cx_g C0)) hw) (gv_X1_isIn tm_3_11) rfl ds_X1_isIn ⟨Nat.le_of_ble_eq_true rfl, Nat.le_of_ble_eq_true rfl⟩ (ci := 1) rfl (isL_lt0 (isL8 (cx_g C0))) (ent_L (isL8 (cx_g C0))) rfl rfl (Nat.le_of_ble_eq_true rfl) ⟨Nat.le_of_ble_eq_true rfl, Nat.le_of_ble_eq_true rfl⟩ dX3_buy_28 (fun r7 v6 H locs hw Z => ?_)
    refine lv_if_ne (tgt := 36) hx hb dX3_buy_31 (by decide) (fun c8 => ?_) (fun c8 => ?_)
    · replace hw := hw.1 c8
      refine lv_aload_n hx hb dX3_buy_36 rfl (lv_at hl 0 rfl) ?_
      refine z_get C0 Z in_X3 rfl 7 (by decide) rfl tm_1_145 (cx_lt C0 (by decide)) rfl rfl dX3_buy_37 ?_
      refine lv_iload_n hx hb dX3_buy_40 rfl (lv_at hl 1 rfl) ?_
      refine lv_iload_n hx hb dX3_buy_41 rfl (lv_at hl 2 rfl) ?_
      refine z_callVi C0 Z hl.1 (As := [.int a1, .int a2]) (rest := []) (k_X0_buyoutGain l (cx_g C0) hw) (gv_X0_buyoutGain tm_3_86) rfl ds_X0_buyoutGain ⟨Nat.le_of_ble_eq_true rfl, Nat.le_of_ble_eq_true rfl⟩ (ci := 0) rfl (cx_lt C0 (by decide)) rfl rfl rfl (Nat.le_of_ble_eq_true rfl) ⟨Nat.le_of_ble_eq_true rfl, Nat.le_of_ble_eq_true rfl⟩ dX3_buy_42 (fun r10 v9 H locs hw Z => ?_)
      refine lv_if_ne (tgt := 50) hx hb dX3_buy_45 (by decide) (fun c11 => ?_) (fun c11 => ?_)
      · replace hw := hw.1 c11
        refine lv_aload_n hx hb dX3_buy_50 rfl (lv_at hl 0 rfl) ?_
        refine z_get C0 Z in_X3 rfl 7 (by decide) rfl tm_1_145 (cx_lt C0 (by decide)) rfl rfl dX3_buy_51 ?_
        refine lv_iload_n hx hb dX3_buy_54 rfl (lv_at hl 1 rfl) ?_
        refine lv_iload_n hx hb dX3_buy_55 rfl (lv_at hl 2 rfl) ?_
        refine z_callVv C0 Z hl.1 (As := [.int a1, .int a2]) (rest := []) (k_X0_makeBuyout l (cx_g C0) hw) (gv_X0_makeBuyout tm_3_144) rfl ds_X0_makeBuyout ⟨Nat.le_of_ble_eq_true rfl, Nat.le_of_ble_eq_true rfl⟩ (ci := 0) rfl (cx_lt C0 (by decide)) rfl rfl rfl (Nat.le_of_ble_eq_true rfl) ⟨Nat.le_of_ble_eq_true rfl, Nat.le_of_ble_eq_true rfl⟩ dX3_buy_56 (fun v12 H locs hw Z => ?_)
        refine lv_aload_n hx hb dX3_buy_59 rfl (lv_at hl 0 rfl) ?_
        refine z_get C0 Z in_X3 rfl 4 (by decide) rfl tm_1_142 (cx_lt C0 (by decide)) rfl rfl dX3_buy_60 ?_
        refine z_callVv C0 Z hl.1 (As := []) (rest := []) (k_X1_placeWaiting l (cx_g C0) (isL8 (cx_g C0)) hw) (gv_X1_placeWaiting tm_3_28) rfl ds_X1_placeWaiting ⟨Nat.le_of_ble_eq_true rfl, Nat.le_of_ble_eq_true rfl⟩ (ci := 1) rfl (isL_lt0 (isL8 (cx_g C0))) (ent_L (isL8 (cx_g C0))) rfl rfl (Nat.le_of_ble_eq_true rfl) ⟨Nat.le_of_ble_eq_true rfl, Nat.le_of_ble_eq_true rfl⟩ dX3_buy_63 (fun v13 H locs hw Z => ?_)
        refine lv_iconst (v := 0) hx hb dX3_buy_66 (by decide) ?_
        exact z_iret C0 Z hw dX3_buy_67
      · replace hw := hw.2 c11
        refine lv_iconst (v := 4) hx hb dX3_buy_48 (by decide) ?_
        exact z_iret C0 Z hw dX3_buy_49
    · replace hw := hw.2 c8
      exact b_X3_buy_34 l C0 _ _ _ _ hw Z (lv_sub hl [] rfl)
-- X3_bargain: room (6, 140)
theorem dX3_bargain_0 : decode cX3_bargain 0 = .ok (.aload_n 0, 1) := by decide +kernel
theorem dX3_bargain_1 : decode cX3_bargain 1 = .ok (.getfield 42, 3) := by decide +kernel
theorem dX3_bargain_4 : decode cX3_bargain 4 = .ok (.invokevirtual 230, 3) := by decide +kernel
theorem dX3_bargain_7 : decode cX3_bargain 7 = .ok (.ifCond .ne 5, 3) := by decide +kernel
theorem dX3_bargain_10 : decode cX3_bargain 10 = .ok (.iconst 5, 1) := by decide +kernel
theorem dX3_bargain_11 : decode cX3_bargain 11 = .ok (.ireturn, 1) := by decide +kernel
theorem dX3_bargain_12 : decode cX3_bargain 12 = .ok (.aload_n 0, 1) := by decide +kernel
theorem dX3_bargain_13 : decode cX3_bargain 13 = .ok (.getfield 42, 3) := by decide +kernel
theorem dX3_bargain_16 : decode cX3_bargain 16 = .ok (.invokevirtual 234, 3) := by decide +kernel
theorem dX3_bargain_19 : decode cX3_bargain 19 = .ok (.aload_n 0, 1) := by decide +kernel
theorem dX3_bargain_20 : decode cX3_bargain 20 = .ok (.getfield 26, 3) := by decide +kernel
theorem dX3_bargain_23 : decode cX3_bargain 23 = .ok (.invokevirtual 205, 3) := by decide +kernel
theorem dX3_bargain_26 : decode cX3_bargain 26 = .ok (.iconst 0, 1) := by decide +kernel
theorem dX3_bargain_27 : decode cX3_bargain 27 = .ok (.ireturn, 1) := by decide +kernel
def w_X3_bargain  (v : V3) (Q : Int32 → V3 → Prop) : Prop := w_X0_findBest v (fun r2 v1 => ((¬ r2 = 0 → w_X0_makeFound v1 (fun v4 => w_X1_placeWaiting 8 v4 (fun v5 => Q 0 v5))) ∧ (r2 = 0 → Q 5 v1)))
set_option maxRecDepth 100000 in
set_option maxHeartbeats 4000000 in
theorem k_X3_bargain (l : Launch) {G : zG} (hg : 116 ≤ gn G)  {v : V3} {Q : Int32 → V3 → Prop} (hw : w_X3_bargain v Q) : Mz l yX3_bargain cX3_bargain 1 (some .int) 6 140 G [.ref (gad G 0)] v (QiZ G Q) := by
  rw [w_X3_bargain] at hw
  refine z_ofW hg (by decide) (Nat.le_of_ble_eq_true rfl) ?_
  intro p e s m args below meth c ls C0 Z hl
  have hx := C0.1
  have hb := C0.2.1
  replace hl : lv_has ls 1 [(0, .ref (gad G 0))] := hl
  generalize s.heap = H at Z ⊢
  generalize ([] : List Loc) = locs at Z ⊢
  refine lv_aload_n hx hb dX3_bargain_0 rfl (lv_at hl 0 rfl) ?_
  refine z_get C0 Z in_X3 rfl 7 (by decide) rfl tm_1_145 (cx_lt C0 (by decide)) rfl rfl dX3_bargain_1 ?_
  refine z_callVi C0 Z hl.1 (As := []) (rest := []) (k_X0_findBest l (cx_g C0) hw) (gv_X0_findBest tm_3_102) rfl ds_X0_findBest ⟨Nat.le_of_ble_eq_true rfl, Nat.le_of_ble_eq_true rfl⟩ (ci := 0) rfl (cx_lt C0 (by decide)) rfl rfl rfl (Nat.le_of_ble_eq_true rfl) ⟨Nat.le_of_ble_eq_true rfl, Nat.le_of_ble_eq_true rfl⟩ dX3_bargain_4 (fun r2 v1 H locs hw Z => ?_)
  refine lv_if_ne (tgt := 12) hx hb dX3_bargain_7 (by decide) (fun c3 => ?_) (fun c3 => ?_)
  · replace hw := hw.1 c3
    refine lv_aload_n hx hb dX3_bargain_12 rfl (lv_at hl 0 rfl) ?_
    refine z_get C0 Z in_X3 rfl 7 (by decide) rfl tm_1_145 (cx_lt C0 (by decide)) rfl rfl dX3_bargain_13 ?_
    refine z_callVv C0 Z hl.1 (As := []) (rest := []) (k_X0_makeFound l (cx_g C0) hw) (gv_X0_makeFound tm_3_154) rfl ds_X0_makeFound ⟨Nat.le_of_ble_eq_true rfl, Nat.le_of_ble_eq_true rfl⟩ (ci := 0) rfl (cx_lt C0 (by decide)) rfl rfl rfl (Nat.le_of_ble_eq_true rfl) ⟨Nat.le_of_ble_eq_true rfl, Nat.le_of_ble_eq_true rfl⟩ dX3_bargain_16 (fun v4 H locs hw Z => ?_)
    refine lv_aload_n hx hb dX3_bargain_19 rfl (lv_at hl 0 rfl) ?_
    refine z_get C0 Z in_X3 rfl 4 (by decide) rfl tm_1_142 (cx_lt C0 (by decide)) rfl rfl dX3_bargain_20 ?_
    refine z_callVv C0 Z hl.1 (As := []) (rest := []) (k_X1_placeWaiting l (cx_g C0) (isL8 (cx_g C0)) hw) (gv_X1_placeWaiting tm_3_28) rfl ds_X1_placeWaiting ⟨Nat.le_of_ble_eq_true rfl, Nat.le_of_ble_eq_true rfl⟩ (ci := 1) rfl (isL_lt0 (isL8 (cx_g C0))) (ent_L (isL8 (cx_g C0))) rfl rfl (Nat.le_of_ble_eq_true rfl) ⟨Nat.le_of_ble_eq_true rfl, Nat.le_of_ble_eq_true rfl⟩ dX3_bargain_23 (fun v5 H locs hw Z => ?_)
    refine lv_iconst (v := 0) hx hb dX3_bargain_26 (by decide) ?_
    exact z_iret C0 Z hw dX3_bargain_27
  · replace hw := hw.2 c3
    refine lv_iconst (v := 5) hx hb dX3_bargain_10 (by decide) ?_
    exact z_iret C0 Z hw dX3_bargain_11
-- X3_pass: room (6, 148)
theorem dX3_pass_0 : decode cX3_pass 0 = .ok (.iload_n 1, 1) := by decide +kernel
theorem dX3_pass_1 : decode cX3_pass 1 = .ok (.iconst 1, 1) := by decide +kernel
theorem dX3_pass_2 : decode cX3_pass 2 = .ok (.sipush 200, 3) := by decide +kernel
theorem dX3_pass_5 : decode cX3_pass 5 = .ok (.invokestatic 77, 3) := by decide +kernel
theorem dX3_pass_8 : decode cX3_pass 8 = .ok (.aload_n 0, 1) := by decide +kernel
theorem dX3_pass_9 : decode cX3_pass 9 = .ok (.getfield 26, 3) := by decide +kernel
theorem dX3_pass_12 : decode cX3_pass 12 = .ok (.getfield 122, 3) := by decide +kernel
theorem dX3_pass_15 : decode cX3_pass 15 = .ok (.sipush 20000, 3) := by decide +kernel
theorem dX3_pass_18 : decode cX3_pass 18 = .ok (.iload_n 1, 1) := by decide +kernel
theorem dX3_pass_19 : decode cX3_pass 19 = .ok (.isub, 1) := by decide +kernel
theorem dX3_pass_20 : decode cX3_pass 20 = .ok (.if_icmp .le 13, 3) := by decide +kernel
theorem dX3_pass_23 : decode cX3_pass 23 = .ok (.new 70, 3) := by decide +kernel
theorem dX3_pass_26 : decode cX3_pass 26 = .ok (.dup, 1) := by decide +kernel
theorem dX3_pass_27 : decode cX3_pass 27 = .ok (.ldc 237, 2) := by decide +kernel
theorem dX3_pass_29 : decode cX3_pass 29 = .ok (.invokespecial 74, 3) := by decide +kernel
theorem dX3_pass_32 : decode cX3_pass 32 = .ok (.athrow, 1) := by decide +kernel
theorem dX3_pass_33 : decode cX3_pass 33 = .ok (.aload_n 0, 1) := by decide +kernel
theorem dX3_pass_34 : decode cX3_pass 34 = .ok (.getfield 26, 3) := by decide +kernel
theorem dX3_pass_37 : decode cX3_pass 37 = .ok (.iload_n 1, 1) := by decide +kernel
theorem dX3_pass_38 : decode cX3_pass 38 = .ok (.iconst 0, 1) := by decide +kernel
theorem dX3_pass_39 : decode cX3_pass 39 = .ok (.invokestatic 239, 3) := by decide +kernel
theorem dX3_pass_42 : decode cX3_pass 42 = .ok (.ireturn, 1) := by decide +kernel
def w_X3_pass (a1 : Int32) (v : V3) (Q : Int32 → V3 → Prop) : Prop := w_X3_needWithin a1 1 200 v (fun v1 => (((v1 8 6) ≤ (20000 - a1) → w_X3_tallyOf 8 a1 0 v1 (fun r4 v3 => Q r4 v3)) ∧ (¬ (v1 8 6) ≤ (20000 - a1) → False)))
set_option maxRecDepth 100000 in
set_option maxHeartbeats 4000000 in
theorem k_X3_pass (l : Launch) {G : zG} (hg : 116 ≤ gn G) {a1 : Int32}  {v : V3} {Q : Int32 → V3 → Prop} (hw : w_X3_pass a1 v Q) : Mz l yX3_pass cX3_pass 2 (some .int) 6 148 G [.ref (gad G 0), .int a1] v (QiZ G Q) := by
  rw [w_X3_pass] at hw
  refine z_ofW hg (by decide) (Nat.le_of_ble_eq_true rfl) ?_
  intro p e s m args below meth c ls C0 Z hl
  have hx := C0.1
  have hb := C0.2.1
  replace hl : lv_has ls 2 [(0, .ref (gad G 0)), (1, .int a1)] := hl
  generalize s.heap = H at Z ⊢
  generalize ([] : List Loc) = locs at Z ⊢
  refine lv_iload_n hx hb dX3_pass_0 rfl (lv_at hl 1 rfl) ?_
  refine lv_iconst (v := 1) hx hb dX3_pass_1 (by decide) ?_
  refine lv_sipush (v := 200) hx hb dX3_pass_2 (by decide) ?_
  refine z_callSv C0 Z hl.1 (As := [.int a1, .int 1, .int 200]) (rest := []) (k_X3_needWithin l (cx_g C0) hw) (gv_X3_needWithin tm_1_228) ds_X3_needWithin ⟨Nat.le_of_ble_eq_true rfl, Nat.le_of_ble_eq_true rfl⟩ rfl rfl (Nat.le_of_ble_eq_true rfl) ⟨Nat.le_of_ble_eq_true rfl, Nat.le_of_ble_eq_true rfl⟩ dX3_pass_5 (fun v1 H locs hw Z => ?_)
  refine lv_aload_n hx hb dX3_pass_8 rfl (lv_at hl 0 rfl) ?_
  refine z_get C0 Z in_X3 rfl 4 (by decide) rfl tm_1_142 (cx_lt C0 (by decide)) rfl rfl dX3_pass_9 ?_
  refine z_get C0 Z in_X1 rfl 6 (by decide) rfl tm_1_59 (isL_lt0 (isL8 (cx_g C0))) (ent_L (isL8 (cx_g C0))) rfl dX3_pass_12 ?_
  refine lv_sipush (v := 20000) hx hb dX3_pass_15 (by decide) ?_
  refine lv_iload_n hx hb dX3_pass_18 rfl (lv_at hl 1 rfl) ?_
  refine lv_isub hx hb dX3_pass_19 ?_
  refine lv_icmp_le (tgt := 33) hx hb dX3_pass_20 (by decide) (fun c2 => ?_) (fun c2 => ?_)
  · replace hw := hw.1 c2
    refine lv_aload_n hx hb dX3_pass_33 rfl (lv_at hl 0 rfl) ?_
    refine z_get C0 Z in_X3 rfl 4 (by decide) rfl tm_1_142 (cx_lt C0 (by decide)) rfl rfl dX3_pass_34 ?_
    refine lv_iload_n hx hb dX3_pass_37 rfl (lv_at hl 1 rfl) ?_
    refine lv_iconst (v := 0) hx hb dX3_pass_38 (by decide) ?_
    refine z_callSi C0 Z hl.1 (As := [.ref (gad G 8), .int a1, .int 0]) (rest := []) (k_X3_tallyOf l (cx_g C0) (isL8 (cx_g C0)) hw) (gv_X3_tallyOf tm_3_179) ds_X3_tallyOf ⟨Nat.le_of_ble_eq_true rfl, Nat.le_of_ble_eq_true rfl⟩ rfl rfl (Nat.le_of_ble_eq_true rfl) ⟨Nat.le_of_ble_eq_true rfl, Nat.le_of_ble_eq_true rfl⟩ dX3_pass_39 (fun r4 v3 H locs hw Z => ?_)
    exact z_iret C0 Z hw dX3_pass_42
  · replace hw := hw.2 c2
    exact hw.elim
-- X3_gain: room (4, 98)
theorem dX3_gain_0 : decode cX3_gain 0 = .ok (.aload_n 0, 1) := by decide +kernel
theorem dX3_gain_1 : decode cX3_gain 1 = .ok (.iload_n 1, 1) := by decide +kernel
theorem dX3_gain_2 : decode cX3_gain 2 = .ok (.invokevirtual 177, 3) := by decide +kernel
theorem dX3_gain_5 : decode cX3_gain 5 = .ok (.aload_n 0, 1) := by decide +kernel
theorem dX3_gain_6 : decode cX3_gain 6 = .ok (.iload_n 2, 1) := by decide +kernel
theorem dX3_gain_7 : decode cX3_gain 7 = .ok (.invokevirtual 177, 3) := by decide +kernel
theorem dX3_gain_10 : decode cX3_gain 10 = .ok (.iload_n 1, 1) := by decide +kernel
theorem dX3_gain_11 : decode cX3_gain 11 = .ok (.iload_n 2, 1) := by decide +kernel
theorem dX3_gain_12 : decode cX3_gain 12 = .ok (.if_icmp .eq 15, 3) := by decide +kernel
theorem dX3_gain_15 : decode cX3_gain 15 = .ok (.aload_n 0, 1) := by decide +kernel
theorem dX3_gain_16 : decode cX3_gain 16 = .ok (.getfield 26, 3) := by decide +kernel
theorem dX3_gain_19 : decode cX3_gain 19 = .ok (.iload_n 2, 1) := by decide +kernel
theorem dX3_gain_20 : decode cX3_gain 20 = .ok (.iconst 1, 1) := by decide +kernel
theorem dX3_gain_21 : decode cX3_gain 21 = .ok (.invokevirtual 183, 3) := by decide +kernel
theorem dX3_gain_24 : decode cX3_gain 24 = .ok (.ifCond .ne 5, 3) := by decide +kernel
theorem dX3_gain_27 : decode cX3_gain 27 = .ok (.iconst 0, 1) := by decide +kernel
theorem dX3_gain_28 : decode cX3_gain 28 = .ok (.ireturn, 1) := by decide +kernel
theorem dX3_gain_29 : decode cX3_gain 29 = .ok (.aload_n 0, 1) := by decide +kernel
theorem dX3_gain_30 : decode cX3_gain 30 = .ok (.getfield 26, 3) := by decide +kernel
theorem dX3_gain_33 : decode cX3_gain 33 = .ok (.iload_n 1, 1) := by decide +kernel
theorem dX3_gain_34 : decode cX3_gain 34 = .ok (.iconst 1, 1) := by decide +kernel
theorem dX3_gain_35 : decode cX3_gain 35 = .ok (.invokevirtual 183, 3) := by decide +kernel
theorem dX3_gain_38 : decode cX3_gain 38 = .ok (.ifCond .eq 13, 3) := by decide +kernel
theorem dX3_gain_41 : decode cX3_gain 41 = .ok (.aload_n 0, 1) := by decide +kernel
theorem dX3_gain_42 : decode cX3_gain 42 = .ok (.getfield 42, 3) := by decide +kernel
theorem dX3_gain_45 : decode cX3_gain 45 = .ok (.iload_n 1, 1) := by decide +kernel
theorem dX3_gain_46 : decode cX3_gain 46 = .ok (.iload_n 2, 1) := by decide +kernel
theorem dX3_gain_47 : decode cX3_gain 47 = .ok (.invokevirtual 217, 3) := by decide +kernel
theorem dX3_gain_50 : decode cX3_gain 50 = .ok (.ireturn, 1) := by decide +kernel
theorem dX3_gain_51 : decode cX3_gain 51 = .ok (.aload_n 0, 1) := by decide +kernel
theorem dX3_gain_52 : decode cX3_gain 52 = .ok (.getfield 26, 3) := by decide +kernel
theorem dX3_gain_55 : decode cX3_gain 55 = .ok (.iload_n 1, 1) := by decide +kernel
theorem dX3_gain_56 : decode cX3_gain 56 = .ok (.iconst 0, 1) := by decide +kernel
theorem dX3_gain_57 : decode cX3_gain 57 = .ok (.invokevirtual 183, 3) := by decide +kernel
theorem dX3_gain_60 : decode cX3_gain 60 = .ok (.ifCond .eq 15, 3) := by decide +kernel
theorem dX3_gain_63 : decode cX3_gain 63 = .ok (.aload_n 0, 1) := by decide +kernel
theorem dX3_gain_64 : decode cX3_gain 64 = .ok (.getfield 42, 3) := by decide +kernel
theorem dX3_gain_67 : decode cX3_gain 67 = .ok (.iload_n 1, 1) := by decide +kernel
theorem dX3_gain_68 : decode cX3_gain 68 = .ok (.iload_n 2, 1) := by decide +kernel
theorem dX3_gain_69 : decode cX3_gain 69 = .ok (.invokevirtual 224, 3) := by decide +kernel
theorem dX3_gain_72 : decode cX3_gain 72 = .ok (.goto 4, 3) := by decide +kernel
theorem dX3_gain_75 : decode cX3_gain 75 = .ok (.iconst 0, 1) := by decide +kernel
theorem dX3_gain_76 : decode cX3_gain 76 = .ok (.ireturn, 1) := by decide +kernel
def w_X3_gain_27  (Q : Int32 → V3 → Prop) (v : V3) : Prop := Q 0 v
def w_X3_gain_76  (Q : Int32 → V3 → Prop) (s0 : Int32) (v : V3) : Prop := Q s0 v
def w_X3_gain (a1 : Int32) (a2 : Int32) (v : V3) (Q : Int32 → V3 → Prop) : Prop := w_X3_needBooking a1 v (fun v1 => w_X3_needBooking a2 v1 (fun v2 => ((a1 = a2 → w_X3_gain_27 Q v2) ∧ (¬ a1 = a2 → w_X1_isIn 8 a2 1 v2 (fun r5 v4 => ((¬ r5 = 0 → w_X1_isIn 8 a1 1 v4 (fun r8 v7 => ((r8 = 0 → w_X1_isIn 8 a1 0 v7 (fun r11 v10 => ((r11 = 0 → w_X3_gain_76 Q 0 v10) ∧ (¬ r11 = 0 → w_X0_buyoutGain a1 a2 v10 (fun r14 v13 => w_X3_gain_76 Q r14 v13))))) ∧ (¬ r8 = 0 → w_X0_swapGain a1 a2 v7 (fun r16 v15 => Q r16 v15))))) ∧ (r5 = 0 → w_X3_gain_27 Q v4)))))))
set_option maxRecDepth 100000 in
set_option maxHeartbeats 4000000 in
theorem b_X3_gain_27 {p : Program} (l : Launch) {e : Env} {s : State} {m : MethodId} {args : Array Value} {below : List Frame} {meth : Method} {c : Code} {G : zG}   (C0 : Cx G RX3 cX3_gain 3 (some .int) p s m args meth c) {Q : Int32 → V3 → Prop} : ∀ (v : V3) (H : Heap) (locs : List Loc) (ls : Array Slot), w_X3_gain_27 Q v → Zs G s v H locs → lv_has ls 3 [] → W p l e { frames := 4, cells := 0, slots := 0, locals := 98 } s m args below meth c H locs 0 0 (MQ below (QiZ G Q) args s 0 0 (zA G)) (F0 m 27 ls []) := by
  have hx := C0.1
  have hb := C0.2.1
  intro v H locs ls hw Z hl
  rw [w_X3_gain_27] at hw
  refine lv_iconst (v := 0) hx hb dX3_gain_27 (by decide) ?_
  exact z_iret C0 Z hw dX3_gain_28
set_option maxRecDepth 100000 in
set_option maxHeartbeats 4000000 in
theorem b_X3_gain_76 {p : Program} (l : Launch) {e : Env} {s : State} {m : MethodId} {args : Array Value} {below : List Frame} {meth : Method} {c : Code} {G : zG}   (C0 : Cx G RX3 cX3_gain 3 (some .int) p s m args meth c) {Q : Int32 → V3 → Prop} : ∀ (s0 : Int32) (v : V3) (H : Heap) (locs : List Loc) (ls : Array Slot), w_X3_gain_76 Q s0 v → Zs G s v H locs → lv_has ls 3 [] → W p l e { frames := 4, cells := 0, slots := 0, locals := 98 } s m args below meth c H locs 0 0 (MQ below (QiZ G Q) args s 0 0 (zA G)) (F0 m 76 ls [.int s0]) := by
  have hx := C0.1
  have hb := C0.2.1
  intro s0 v H locs ls hw Z hl
  rw [w_X3_gain_76] at hw
  exact z_iret C0 Z hw dX3_gain_76
set_option maxRecDepth 100000 in
set_option maxHeartbeats 4000000 in
theorem k_X3_gain (l : Launch) {G : zG} (hg : 116 ≤ gn G) {a1 : Int32} {a2 : Int32}  {v : V3} {Q : Int32 → V3 → Prop} (hw : w_X3_gain a1 a2 v Q) : Mz l yX3_gain cX3_gain 3 (some .int) 4 98 G [.ref (gad G 0), .int a1, .int a2] v (QiZ G Q) := by
  rw [w_X3_gain] at hw
  refine z_ofW hg (by decide) (Nat.le_of_ble_eq_true rfl) ?_
  intro p e s m args below meth c ls C0 Z hl
  have hx := C0.1
  have hb := C0.2.1
  replace hl : lv_has ls 3 [(0, .ref (gad G 0)), (1, .int a1), (2, .int a2)] := hl
  generalize s.heap = H at Z ⊢
  generalize ([] : List Loc) = locs at Z ⊢
  refine lv_aload_n hx hb dX3_gain_0 rfl (lv_at hl 0 rfl) ?_
  refine lv_iload_n hx hb dX3_gain_1 rfl (lv_at hl 1 rfl) ?_
  refine z_callVv C0 Z hl.1 (As := [.int a1]) (rest := []) (k_X3_needBooking l (cx_g C0) hw) (gv_X3_needBooking tm_3_5) rfl ds_X3_needBooking ⟨Nat.le_of_ble_eq_true rfl, Nat.le_of_ble_eq_true rfl⟩ (ci := 3) rfl (cx_lt C0 (by decide)) rfl rfl rfl (Nat.le_of_ble_eq_true rfl) ⟨Nat.le_of_ble_eq_true rfl, Nat.le_of_ble_eq_true rfl⟩ dX3_gain_2 (fun v1 H locs hw Z => ?_)
  refine lv_aload_n hx hb dX3_gain_5 rfl (lv_at hl 0 rfl) ?_
  refine lv_iload_n hx hb dX3_gain_6 rfl (lv_at hl 2 rfl) ?_
  refine z_callVv C0 Z hl.1 (As := [.int a2]) (rest := []) (k_X3_needBooking l (cx_g C0) hw) (gv_X3_needBooking tm_3_5) rfl ds_X3_needBooking ⟨Nat.le_of_ble_eq_true rfl, Nat.le_of_ble_eq_true rfl⟩ (ci := 3) rfl (cx_lt C0 (by decide)) rfl rfl rfl (Nat.le_of_ble_eq_true rfl) ⟨Nat.le_of_ble_eq_true rfl, Nat.le_of_ble_eq_true rfl⟩ dX3_gain_7 (fun v2 H locs hw Z => ?_)
  refine lv_iload_n hx hb dX3_gain_10 rfl (lv_at hl 1 rfl) ?_
  refine lv_iload_n hx hb dX3_gain_11 rfl (lv_at hl 2 rfl) ?_
  refine lv_icmp_eq (tgt := 27) hx hb dX3_gain_12 (by decide) (fun c3 => ?_) (fun c3 => ?_)
  · replace hw := hw.1 c3
    exact b_X3_gain_27 l C0 _ _ _ _ hw Z (lv_sub hl [] rfl)
  · replace hw := hw.2 c3
    refine lv_aload_n hx hb dX3_gain_15 rfl (lv_at hl 0 rfl) ?_
    refine z_get C0 Z in_X3 rfl 4 (by decide) rfl tm_1_142 (cx_lt C0 (by decide)) rfl rfl dX3_gain_16 ?_
    refine lv_iload_n hx hb dX3_gain_19 rfl (lv_at hl 2 rfl) ?_
    refine lv_iconst (v := 1) hx hb dX3_gain_20 (by decide) ?_
    refine z_callVi C0 Z hl.1 (As := [.int a2, .int 1]) (rest := []) (k_X1_isIn l (cx_g C0) (isL8 (cx_g C0)) hw) (gv_X1_isIn tm_3_11) rfl ds_X1_isIn ⟨Nat.le_of_ble_eq_true rfl, Nat.le_of_ble_eq_true rfl⟩ (ci := 1) rfl (isL_lt0 (isL8 (cx_g C0))) (ent_L (isL8 (cx_g C0))) rfl rfl (Nat.le_of_ble_eq_true rfl) ⟨Nat.le_of_ble_eq_true rfl, Nat.le_of_ble_eq_true rfl⟩ dX3_gain_21 (fun r5 v4 H locs hw Z => ?_)
    refine lv_if_ne (tgt := 29) hx hb dX3_gain_24 (by decide) (fun c6 => ?_) (fun c6 => ?_)
    · replace hw := hw.1 c6
      refine lv_aload_n hx hb dX3_gain_29 rfl (lv_at hl 0 rfl) ?_
      refine z_get C0 Z in_X3 rfl 4 (by decide) rfl tm_1_142 (cx_lt C0 (by decide)) rfl rfl dX3_gain_30 ?_
      refine lv_iload_n hx hb dX3_gain_33 rfl (lv_at hl 1 rfl) ?_
      refine lv_iconst (v := 1) hx hb dX3_gain_34 (by decide) ?_
      refine z_callVi C0 Z hl.1 (As := [.int a1, .int 1]) (rest := []) (k_X1_isIn l (cx_g C0) (isL8 (cx_g C0)) hw) (gv_X1_isIn tm_3_11) rfl ds_X1_isIn ⟨Nat.le_of_ble_eq_true rfl, Nat.le_of_ble_eq_true rfl⟩ (ci := 1) rfl (isL_lt0 (isL8 (cx_g C0))) (ent_L (isL8 (cx_g C0))) rfl rfl (Nat.le_of_ble_eq_true rfl) ⟨Nat.le_of_ble_eq_true rfl, Nat.le_of_ble_eq_true rfl⟩ dX3_gain_35 (fun r8 v7 H locs hw Z => ?_)
      refine lv_if_eq (tgt := 51) hx hb dX3_gain_38 (by decide) (fun c9 => ?_) (fun c9 => ?_)
      · replace hw := hw.1 c9
        refine lv_aload_n hx hb dX3_gain_51 rfl (lv_at hl 0 rfl) ?_
        refine z_get C0 Z in_X3 rfl 4 (by decide) rfl tm_1_142 (cx_lt C0 (by decide)) rfl rfl dX3_gain_52 ?_
        refine lv_iload_n hx hb dX3_gain_55 rfl (lv_at hl 1 rfl) ?_
        refine lv_iconst (v := 0) hx hb dX3_gain_56 (by decide) ?_
        refine z_callVi C0 Z hl.1 (As := [.int a1, .int 0]) (rest := []) (k_X1_isIn l (cx_g C0) (isL8 (cx_g C0)) hw) (gv_X1_isIn tm_3_11) rfl ds_X1_isIn ⟨Nat.le_of_ble_eq_true rfl, Nat.le_of_ble_eq_true rfl⟩ (ci := 1) rfl (isL_lt0 (isL8 (cx_g C0))) (ent_L (isL8 (cx_g C0))) rfl rfl (Nat.le_of_ble_eq_true rfl) ⟨Nat.le_of_ble_eq_true rfl, Nat.le_of_ble_eq_true rfl⟩ dX3_gain_57 (fun r11 v10 H locs hw Z => ?_)
        refine lv_if_eq (tgt := 75) hx hb dX3_gain_60 (by decide) (fun c12 => ?_) (fun c12 => ?_)
        · replace hw := hw.1 c12
          refine lv_iconst (v := 0) hx hb dX3_gain_75 (by decide) ?_
          exact b_X3_gain_76 l C0 _ _ _ _ _ hw Z (lv_sub hl [] rfl)
        · replace hw := hw.2 c12
          refine lv_aload_n hx hb dX3_gain_63 rfl (lv_at hl 0 rfl) ?_
          refine z_get C0 Z in_X3 rfl 7 (by decide) rfl tm_1_145 (cx_lt C0 (by decide)) rfl rfl dX3_gain_64 ?_
          refine lv_iload_n hx hb dX3_gain_67 rfl (lv_at hl 1 rfl) ?_
          refine lv_iload_n hx hb dX3_gain_68 rfl (lv_at hl 2 rfl) ?_
          refine z_callVi C0 Z hl.1 (As := [.int a1, .int a2]) (rest := []) (k_X0_buyoutGain l (cx_g C0) hw) (gv_X0_buyoutGain tm_3_86) rfl ds_X0_buyoutGain ⟨Nat.le_of_ble_eq_true rfl, Nat.le_of_ble_eq_true rfl⟩ (ci := 0) rfl (cx_lt C0 (by decide)) rfl rfl rfl (Nat.le_of_ble_eq_true rfl) ⟨Nat.le_of_ble_eq_true rfl, Nat.le_of_ble_eq_true rfl⟩ dX3_gain_69 (fun r14 v13 H locs hw Z => ?_)
          refine lv_goto (tgt := 76) hx hb dX3_gain_72 (by decide) ?_
          exact b_X3_gain_76 l C0 _ _ _ _ _ hw Z (lv_sub hl [] rfl)
      · replace hw := hw.2 c9
        refine lv_aload_n hx hb dX3_gain_41 rfl (lv_at hl 0 rfl) ?_
        refine z_get C0 Z in_X3 rfl 7 (by decide) rfl tm_1_145 (cx_lt C0 (by decide)) rfl rfl dX3_gain_42 ?_
        refine lv_iload_n hx hb dX3_gain_45 rfl (lv_at hl 1 rfl) ?_
        refine lv_iload_n hx hb dX3_gain_46 rfl (lv_at hl 2 rfl) ?_
        refine z_callVi C0 Z hl.1 (As := [.int a1, .int a2]) (rest := []) (k_X0_swapGain l (cx_g C0) hw) (gv_X0_swapGain tm_3_80) rfl ds_X0_swapGain ⟨Nat.le_of_ble_eq_true rfl, Nat.le_of_ble_eq_true rfl⟩ (ci := 0) rfl (cx_lt C0 (by decide)) rfl rfl rfl (Nat.le_of_ble_eq_true rfl) ⟨Nat.le_of_ble_eq_true rfl, Nat.le_of_ble_eq_true rfl⟩ dX3_gain_47 (fun r16 v15 H locs hw Z => ?_)
        exact z_iret C0 Z hw dX3_gain_50
    · replace hw := hw.2 c6
      exact b_X3_gain_27 l C0 _ _ _ _ hw Z (lv_sub hl [] rfl)
-- X3_best: room (6, 140)
theorem dX3_best_0 : decode cX3_best 0 = .ok (.iload_n 1, 1) := by decide +kernel
theorem dX3_best_1 : decode cX3_best 1 = .ok (.iconst 0, 1) := by decide +kernel
theorem dX3_best_2 : decode cX3_best 2 = .ok (.iconst 4, 1) := by decide +kernel
theorem dX3_best_3 : decode cX3_best 3 = .ok (.invokestatic 77, 3) := by decide +kernel
theorem dX3_best_6 : decode cX3_best 6 = .ok (.aload_n 0, 1) := by decide +kernel
theorem dX3_best_7 : decode cX3_best 7 = .ok (.getfield 42, 3) := by decide +kernel
theorem dX3_best_10 : decode cX3_best 10 = .ok (.invokevirtual 230, 3) := by decide +kernel
theorem dX3_best_13 : decode cX3_best 13 = .ok (.ifCond .eq 15, 3) := by decide +kernel
theorem dX3_best_16 : decode cX3_best 16 = .ok (.aload_n 0, 1) := by decide +kernel
theorem dX3_best_17 : decode cX3_best 17 = .ok (.getfield 42, 3) := by decide +kernel
theorem dX3_best_20 : decode cX3_best 20 = .ok (.getfield 243, 3) := by decide +kernel
theorem dX3_best_23 : decode cX3_best 23 = .ok (.iload_n 1, 1) := by decide +kernel
theorem dX3_best_24 : decode cX3_best 24 = .ok (.iaload, 1) := by decide +kernel
theorem dX3_best_25 : decode cX3_best 25 = .ok (.goto 4, 3) := by decide +kernel
theorem dX3_best_28 : decode cX3_best 28 = .ok (.iconst (-1), 1) := by decide +kernel
theorem dX3_best_29 : decode cX3_best 29 = .ok (.ireturn, 1) := by decide +kernel
def w_X3_best_29  (Q : Int32 → V3 → Prop) (s0 : Int32) (v : V3) : Prop := Q s0 v
def w_X3_best (a1 : Int32) (v : V3) (Q : Int32 → V3 → Prop) : Prop := w_X3_needWithin a1 0 4 v (fun v1 => w_X0_findBest v1 (fun r3 v2 => ((r3 = 0 → w_X3_best_29 Q (-1) v2) ∧ (¬ r3 = 0 → vp_in a1 5 ∧ w_X3_best_29 Q (v2 5 (ix a1)) v2))))
set_option maxRecDepth 100000 in
set_option maxHeartbeats 4000000 in
theorem b_X3_best_29 {p : Program} (l : Launch) {e : Env} {s : State} {m : MethodId} {args : Array Value} {below : List Frame} {meth : Method} {c : Code} {G : zG}   (C0 : Cx G RX3 cX3_best 2 (some .int) p s m args meth c) {Q : Int32 → V3 → Prop} : ∀ (s0 : Int32) (v : V3) (H : Heap) (locs : List Loc) (ls : Array Slot), w_X3_best_29 Q s0 v → Zs G s v H locs → lv_has ls 2 [] → W p l e { frames := 6, cells := 0, slots := 0, locals := 140 } s m args below meth c H locs 0 0 (MQ below (QiZ G Q) args s 0 0 (zA G)) (F0 m 29 ls [.int s0]) := by
  have hx := C0.1
  have hb := C0.2.1
  intro s0 v H locs ls hw Z hl
  rw [w_X3_best_29] at hw
  exact z_iret C0 Z hw dX3_best_29
set_option maxRecDepth 100000 in
set_option maxHeartbeats 4000000 in
theorem k_X3_best (l : Launch) {G : zG} (hg : 116 ≤ gn G) {a1 : Int32}  {v : V3} {Q : Int32 → V3 → Prop} (hw : w_X3_best a1 v Q) : Mz l yX3_best cX3_best 2 (some .int) 6 140 G [.ref (gad G 0), .int a1] v (QiZ G Q) := by
  rw [w_X3_best] at hw
  refine z_ofW hg (by decide) (Nat.le_of_ble_eq_true rfl) ?_
  intro p e s m args below meth c ls C0 Z hl
  have hx := C0.1
  have hb := C0.2.1
  replace hl : lv_has ls 2 [(0, .ref (gad G 0)), (1, .int a1)] := hl
  generalize s.heap = H at Z ⊢
  generalize ([] : List Loc) = locs at Z ⊢
  refine lv_iload_n hx hb dX3_best_0 rfl (lv_at hl 1 rfl) ?_
  refine lv_iconst (v := 0) hx hb dX3_best_1 (by decide) ?_
  refine lv_iconst (v := 4) hx hb dX3_best_2 (by decide) ?_
  refine z_callSv C0 Z hl.1 (As := [.int a1, .int 0, .int 4]) (rest := []) (k_X3_needWithin l (cx_g C0) hw) (gv_X3_needWithin tm_1_228) ds_X3_needWithin ⟨Nat.le_of_ble_eq_true rfl, Nat.le_of_ble_eq_true rfl⟩ rfl rfl (Nat.le_of_ble_eq_true rfl) ⟨Nat.le_of_ble_eq_true rfl, Nat.le_of_ble_eq_true rfl⟩ dX3_best_3 (fun v1 H locs hw Z => ?_)
  refine lv_aload_n hx hb dX3_best_6 rfl (lv_at hl 0 rfl) ?_
  refine z_get C0 Z in_X3 rfl 7 (by decide) rfl tm_1_145 (cx_lt C0 (by decide)) rfl rfl dX3_best_7 ?_
  refine z_callVi C0 Z hl.1 (As := []) (rest := []) (k_X0_findBest l (cx_g C0) hw) (gv_X0_findBest tm_3_102) rfl ds_X0_findBest ⟨Nat.le_of_ble_eq_true rfl, Nat.le_of_ble_eq_true rfl⟩ (ci := 0) rfl (cx_lt C0 (by decide)) rfl rfl rfl (Nat.le_of_ble_eq_true rfl) ⟨Nat.le_of_ble_eq_true rfl, Nat.le_of_ble_eq_true rfl⟩ dX3_best_10 (fun r3 v2 H locs hw Z => ?_)
  refine lv_if_eq (tgt := 28) hx hb dX3_best_13 (by decide) (fun c4 => ?_) (fun c4 => ?_)
  · replace hw := hw.1 c4
    refine lv_iconst (v := (-1)) hx hb dX3_best_28 (by decide) ?_
    exact b_X3_best_29 l C0 _ _ _ _ _ hw Z (lv_sub hl [] rfl)
  · replace hw := hw.2 c4
    refine lv_aload_n hx hb dX3_best_16 rfl (lv_at hl 0 rfl) ?_
    refine z_get C0 Z in_X3 rfl 7 (by decide) rfl tm_1_145 (cx_lt C0 (by decide)) rfl rfl dX3_best_17 ?_
    refine z_get C0 Z in_X0 rfl 1 (by decide) rfl tm_1_105 (cx_lt C0 (by decide)) rfl rfl dX3_best_20 ?_
    refine lv_iload_n hx hb dX3_best_23 rfl (lv_at hl 1 rfl) ?_
    obtain ⟨h5, hw⟩ := hw
    refine z_iald C0 Z (cx_lt C0 (by decide)) rfl h5 dX3_best_24 ?_
    refine lv_goto (tgt := 29) hx hb dX3_best_25 (by decide) ?_
    exact b_X3_best_29 l C0 _ _ _ _ _ hw Z (lv_sub hl [] rfl)
-- X3_holder: room (2, 50)
theorem dX3_holder_0 : decode cX3_holder 0 = .ok (.aload_n 0, 1) := by decide +kernel
theorem dX3_holder_1 : decode cX3_holder 1 = .ok (.iload_n 1, 1) := by decide +kernel
theorem dX3_holder_2 : decode cX3_holder 2 = .ok (.invokevirtual 246, 3) := by decide +kernel
theorem dX3_holder_5 : decode cX3_holder 5 = .ok (.iload_n 2, 1) := by decide +kernel
theorem dX3_holder_6 : decode cX3_holder 6 = .ok (.iconst 0, 1) := by decide +kernel
theorem dX3_holder_7 : decode cX3_holder 7 = .ok (.sipush 20100, 3) := by decide +kernel
theorem dX3_holder_10 : decode cX3_holder 10 = .ok (.invokestatic 77, 3) := by decide +kernel
theorem dX3_holder_13 : decode cX3_holder 13 = .ok (.aload_n 0, 1) := by decide +kernel
theorem dX3_holder_14 : decode cX3_holder 14 = .ok (.getfield 26, 3) := by decide +kernel
theorem dX3_holder_17 : decode cX3_holder 17 = .ok (.iload_n 1, 1) := by decide +kernel
theorem dX3_holder_18 : decode cX3_holder 18 = .ok (.iload_n 2, 1) := by decide +kernel
theorem dX3_holder_19 : decode cX3_holder 19 = .ok (.invokevirtual 249, 3) := by decide +kernel
theorem dX3_holder_22 : decode cX3_holder 22 = .ok (.ireturn, 1) := by decide +kernel
def w_X3_holder (a1 : Int32) (a2 : Int32) (v : V3) (Q : Int32 → V3 → Prop) : Prop := w_X3_needByte a1 v (fun v1 => w_X3_needWithin a2 0 20100 v1 (fun v2 => w_X1_holderAt 8 a1 a2 v2 (fun r4 v3 => Q r4 v3)))
set_option maxRecDepth 100000 in
set_option maxHeartbeats 4000000 in
theorem k_X3_holder (l : Launch) {G : zG} (hg : 116 ≤ gn G) {a1 : Int32} {a2 : Int32}  {v : V3} {Q : Int32 → V3 → Prop} (hw : w_X3_holder a1 a2 v Q) : Mz l yX3_holder cX3_holder 3 (some .int) 2 50 G [.ref (gad G 0), .int a1, .int a2] v (QiZ G Q) := by
  rw [w_X3_holder] at hw
  refine z_ofW hg (by decide) (Nat.le_of_ble_eq_true rfl) ?_
  intro p e s m args below meth c ls C0 Z hl
  have hx := C0.1
  have hb := C0.2.1
  replace hl : lv_has ls 3 [(0, .ref (gad G 0)), (1, .int a1), (2, .int a2)] := hl
  generalize s.heap = H at Z ⊢
  generalize ([] : List Loc) = locs at Z ⊢
  refine lv_aload_n hx hb dX3_holder_0 rfl (lv_at hl 0 rfl) ?_
  refine lv_iload_n hx hb dX3_holder_1 rfl (lv_at hl 1 rfl) ?_
  refine z_callVv C0 Z hl.1 (As := [.int a1]) (rest := []) (k_X3_needByte l (cx_g C0) hw) (gv_X3_needByte tm_2_125) rfl ds_X3_needByte ⟨Nat.le_of_ble_eq_true rfl, Nat.le_of_ble_eq_true rfl⟩ (ci := 3) rfl (cx_lt C0 (by decide)) rfl rfl rfl (Nat.le_of_ble_eq_true rfl) ⟨Nat.le_of_ble_eq_true rfl, Nat.le_of_ble_eq_true rfl⟩ dX3_holder_2 (fun v1 H locs hw Z => ?_)
  refine lv_iload_n hx hb dX3_holder_5 rfl (lv_at hl 2 rfl) ?_
  refine lv_iconst (v := 0) hx hb dX3_holder_6 (by decide) ?_
  refine lv_sipush (v := 20100) hx hb dX3_holder_7 (by decide) ?_
  refine z_callSv C0 Z hl.1 (As := [.int a2, .int 0, .int 20100]) (rest := []) (k_X3_needWithin l (cx_g C0) hw) (gv_X3_needWithin tm_1_228) ds_X3_needWithin ⟨Nat.le_of_ble_eq_true rfl, Nat.le_of_ble_eq_true rfl⟩ rfl rfl (Nat.le_of_ble_eq_true rfl) ⟨Nat.le_of_ble_eq_true rfl, Nat.le_of_ble_eq_true rfl⟩ dX3_holder_10 (fun v2 H locs hw Z => ?_)
  refine lv_aload_n hx hb dX3_holder_13 rfl (lv_at hl 0 rfl) ?_
  refine z_get C0 Z in_X3 rfl 4 (by decide) rfl tm_1_142 (cx_lt C0 (by decide)) rfl rfl dX3_holder_14 ?_
  refine lv_iload_n hx hb dX3_holder_17 rfl (lv_at hl 1 rfl) ?_
  refine lv_iload_n hx hb dX3_holder_18 rfl (lv_at hl 2 rfl) ?_
  refine z_callVi C0 Z hl.1 (As := [.int a1, .int a2]) (rest := []) (k_X1_holderAt l (cx_g C0) (isL8 (cx_g C0)) hw) (gv_X1_holderAt tm_4_7) rfl ds_X1_holderAt ⟨Nat.le_of_ble_eq_true rfl, Nat.le_of_ble_eq_true rfl⟩ (ci := 1) rfl (isL_lt0 (isL8 (cx_g C0))) (ent_L (isL8 (cx_g C0))) rfl rfl (Nat.le_of_ble_eq_true rfl) ⟨Nat.le_of_ble_eq_true rfl, Nat.le_of_ble_eq_true rfl⟩ dX3_holder_19 (fun r4 v3 H locs hw Z => ?_)
  exact z_iret C0 Z hw dX3_holder_22
-- X3_nextFree: room (2, 56)
theorem dX3_nextFree_0 : decode cX3_nextFree 0 = .ok (.iload_n 1, 1) := by decide +kernel
theorem dX3_nextFree_1 : decode cX3_nextFree 1 = .ok (.aload_n 0, 1) := by decide +kernel
theorem dX3_nextFree_2 : decode cX3_nextFree 2 = .ok (.getfield 26, 3) := by decide +kernel
theorem dX3_nextFree_5 : decode cX3_nextFree 5 = .ok (.getfield 122, 3) := by decide +kernel
theorem dX3_nextFree_8 : decode cX3_nextFree 8 = .ok (.sipush 20000, 3) := by decide +kernel
theorem dX3_nextFree_11 : decode cX3_nextFree 11 = .ok (.invokestatic 77, 3) := by decide +kernel
theorem dX3_nextFree_14 : decode cX3_nextFree 14 = .ok (.aload_n 0, 1) := by decide +kernel
theorem dX3_nextFree_15 : decode cX3_nextFree 15 = .ok (.getfield 26, 3) := by decide +kernel
theorem dX3_nextFree_18 : decode cX3_nextFree 18 = .ok (.aload_n 0, 1) := by decide +kernel
theorem dX3_nextFree_19 : decode cX3_nextFree 19 = .ok (.getfield 55, 3) := by decide +kernel
theorem dX3_nextFree_22 : decode cX3_nextFree 22 = .ok (.aload_n 0, 1) := by decide +kernel
theorem dX3_nextFree_23 : decode cX3_nextFree 23 = .ok (.getfield 58, 3) := by decide +kernel
theorem dX3_nextFree_26 : decode cX3_nextFree 26 = .ok (.aload_n 0, 1) := by decide +kernel
theorem dX3_nextFree_27 : decode cX3_nextFree 27 = .ok (.getfield 61, 3) := by decide +kernel
theorem dX3_nextFree_30 : decode cX3_nextFree 30 = .ok (.iload_n 1, 1) := by decide +kernel
theorem dX3_nextFree_31 : decode cX3_nextFree 31 = .ok (.iload_n 1, 1) := by decide +kernel
theorem dX3_nextFree_32 : decode cX3_nextFree 32 = .ok (.sipush 300, 3) := by decide +kernel
theorem dX3_nextFree_35 : decode cX3_nextFree 35 = .ok (.iadd, 1) := by decide +kernel
theorem dX3_nextFree_36 : decode cX3_nextFree 36 = .ok (.invokevirtual 252, 3) := by decide +kernel
theorem dX3_nextFree_39 : decode cX3_nextFree 39 = .ok (.ireturn, 1) := by decide +kernel
def w_X3_nextFree (a1 : Int32) (v : V3) (Q : Int32 → V3 → Prop) : Prop := w_X3_needWithin a1 (v 8 6) 20000 v (fun v1 => w_X1_earliestFit 8 (v1 0 9) (v1 0 10) (v1 0 11) a1 (a1 + 300) v1 (fun r3 v2 => Q r3 v2))
set_option maxRecDepth 100000 in
set_option maxHeartbeats 4000000 in
theorem k_X3_nextFree (l : Launch) {G : zG} (hg : 116 ≤ gn G) {a1 : Int32}  {v : V3} {Q : Int32 → V3 → Prop} (hw : w_X3_nextFree a1 v Q) : Mz l yX3_nextFree cX3_nextFree 2 (some .int) 2 56 G [.ref (gad G 0), .int a1] v (QiZ G Q) := by
  rw [w_X3_nextFree] at hw
  refine z_ofW hg (by decide) (Nat.le_of_ble_eq_true rfl) ?_
  intro p e s m args below meth c ls C0 Z hl
  have hx := C0.1
  have hb := C0.2.1
  replace hl : lv_has ls 2 [(0, .ref (gad G 0)), (1, .int a1)] := hl
  generalize s.heap = H at Z ⊢
  generalize ([] : List Loc) = locs at Z ⊢
  refine lv_iload_n hx hb dX3_nextFree_0 rfl (lv_at hl 1 rfl) ?_
  refine lv_aload_n hx hb dX3_nextFree_1 rfl (lv_at hl 0 rfl) ?_
  refine z_get C0 Z in_X3 rfl 4 (by decide) rfl tm_1_142 (cx_lt C0 (by decide)) rfl rfl dX3_nextFree_2 ?_
  refine z_get C0 Z in_X1 rfl 6 (by decide) rfl tm_1_59 (isL_lt0 (isL8 (cx_g C0))) (ent_L (isL8 (cx_g C0))) rfl dX3_nextFree_5 ?_
  refine lv_sipush (v := 20000) hx hb dX3_nextFree_8 (by decide) ?_
  refine z_callSv C0 Z hl.1 (As := [.int a1, .int (v 8 6), .int 20000]) (rest := []) (k_X3_needWithin l (cx_g C0) hw) (gv_X3_needWithin tm_1_228) ds_X3_needWithin ⟨Nat.le_of_ble_eq_true rfl, Nat.le_of_ble_eq_true rfl⟩ rfl rfl (Nat.le_of_ble_eq_true rfl) ⟨Nat.le_of_ble_eq_true rfl, Nat.le_of_ble_eq_true rfl⟩ dX3_nextFree_11 (fun v1 H locs hw Z => ?_)
  refine lv_aload_n hx hb dX3_nextFree_14 rfl (lv_at hl 0 rfl) ?_
  refine z_get C0 Z in_X3 rfl 4 (by decide) rfl tm_1_142 (cx_lt C0 (by decide)) rfl rfl dX3_nextFree_15 ?_
  refine lv_aload_n hx hb dX3_nextFree_18 rfl (lv_at hl 0 rfl) ?_
  refine z_get C0 Z in_X3 rfl 9 (by decide) rfl tm_1_147 (cx_lt C0 (by decide)) rfl rfl dX3_nextFree_19 ?_
  refine lv_aload_n hx hb dX3_nextFree_22 rfl (lv_at hl 0 rfl) ?_
  refine z_get C0 Z in_X3 rfl 10 (by decide) rfl tm_1_148 (cx_lt C0 (by decide)) rfl rfl dX3_nextFree_23 ?_
  refine lv_aload_n hx hb dX3_nextFree_26 rfl (lv_at hl 0 rfl) ?_
  refine z_get C0 Z in_X3 rfl 11 (by decide) rfl tm_1_149 (cx_lt C0 (by decide)) rfl rfl dX3_nextFree_27 ?_
  refine lv_iload_n hx hb dX3_nextFree_30 rfl (lv_at hl 1 rfl) ?_
  refine lv_iload_n hx hb dX3_nextFree_31 rfl (lv_at hl 1 rfl) ?_
  refine lv_sipush (v := 300) hx hb dX3_nextFree_32 (by decide) ?_
  refine lv_iadd hx hb dX3_nextFree_35 ?_
  refine z_callVi C0 Z hl.1 (As := [.int (v1 0 9), .int (v1 0 10), .int (v1 0 11), .int a1, .int (a1 + 300)]) (rest := []) (k_X1_earliestFit l (cx_g C0) (isL8 (cx_g C0)) hw) (gv_X1_earliestFit tm_2_194) rfl ds_X1_earliestFit ⟨Nat.le_of_ble_eq_true rfl, Nat.le_of_ble_eq_true rfl⟩ (ci := 1) rfl (isL_lt0 (isL8 (cx_g C0))) (ent_L (isL8 (cx_g C0))) rfl rfl (Nat.le_of_ble_eq_true rfl) ⟨Nat.le_of_ble_eq_true rfl, Nat.le_of_ble_eq_true rfl⟩ dX3_nextFree_36 (fun r3 v2 H locs hw Z => ?_)
  exact z_iret C0 Z hw dX3_nextFree_39
-- X3_waitsFor: room (5, 125)
theorem dX3_waitsFor_0 : decode cX3_waitsFor 0 = .ok (.aload_n 0, 1) := by decide +kernel
theorem dX3_waitsFor_1 : decode cX3_waitsFor 1 = .ok (.iload_n 1, 1) := by decide +kernel
theorem dX3_waitsFor_2 : decode cX3_waitsFor 2 = .ok (.invokevirtual 177, 3) := by decide +kernel
theorem dX3_waitsFor_5 : decode cX3_waitsFor 5 = .ok (.iload_n 2, 1) := by decide +kernel
theorem dX3_waitsFor_6 : decode cX3_waitsFor 6 = .ok (.iconst 1, 1) := by decide +kernel
theorem dX3_waitsFor_7 : decode cX3_waitsFor 7 = .ok (.sipush 200, 3) := by decide +kernel
theorem dX3_waitsFor_10 : decode cX3_waitsFor 10 = .ok (.invokestatic 77, 3) := by decide +kernel
theorem dX3_waitsFor_13 : decode cX3_waitsFor 13 = .ok (.aload_n 0, 1) := by decide +kernel
theorem dX3_waitsFor_14 : decode cX3_waitsFor 14 = .ok (.getfield 26, 3) := by decide +kernel
theorem dX3_waitsFor_17 : decode cX3_waitsFor 17 = .ok (.iload_n 1, 1) := by decide +kernel
theorem dX3_waitsFor_18 : decode cX3_waitsFor 18 = .ok (.iconst 0, 1) := by decide +kernel
theorem dX3_waitsFor_19 : decode cX3_waitsFor 19 = .ok (.invokevirtual 183, 3) := by decide +kernel
theorem dX3_waitsFor_22 : decode cX3_waitsFor 22 = .ok (.ifCond .ne 5, 3) := by decide +kernel
theorem dX3_waitsFor_25 : decode cX3_waitsFor 25 = .ok (.iconst 0, 1) := by decide +kernel
theorem dX3_waitsFor_26 : decode cX3_waitsFor 26 = .ok (.ireturn, 1) := by decide +kernel
theorem dX3_waitsFor_27 : decode cX3_waitsFor 27 = .ok (.aload_n 0, 1) := by decide +kernel
theorem dX3_waitsFor_28 : decode cX3_waitsFor 28 = .ok (.getfield 30, 3) := by decide +kernel
theorem dX3_waitsFor_31 : decode cX3_waitsFor 31 = .ok (.aload_n 0, 1) := by decide +kernel
theorem dX3_waitsFor_32 : decode cX3_waitsFor 32 = .ok (.getfield 26, 3) := by decide +kernel
theorem dX3_waitsFor_35 : decode cX3_waitsFor 35 = .ok (.invokevirtual 91, 3) := by decide +kernel
theorem dX3_waitsFor_38 : decode cX3_waitsFor 38 = .ok (.iconst 1, 1) := by decide +kernel
theorem dX3_waitsFor_39 : decode cX3_waitsFor 39 = .ok (.istore_n 3, 1) := by decide +kernel
theorem dX3_waitsFor_40 : decode cX3_waitsFor 40 = .ok (.iload_n 3, 1) := by decide +kernel
theorem dX3_waitsFor_41 : decode cX3_waitsFor 41 = .ok (.iload_n 2, 1) := by decide +kernel
theorem dX3_waitsFor_42 : decode cX3_waitsFor 42 = .ok (.if_icmp .gt 30, 3) := by decide +kernel
theorem dX3_waitsFor_45 : decode cX3_waitsFor 45 = .ok (.aload_n 0, 1) := by decide +kernel
theorem dX3_waitsFor_46 : decode cX3_waitsFor 46 = .ok (.getfield 30, 3) := by decide +kernel
theorem dX3_waitsFor_49 : decode cX3_waitsFor 49 = .ok (.invokevirtual 259, 3) := by decide +kernel
theorem dX3_waitsFor_52 : decode cX3_waitsFor 52 = .ok (.aload_n 0, 1) := by decide +kernel
theorem dX3_waitsFor_53 : decode cX3_waitsFor 53 = .ok (.getfield 30, 3) := by decide +kernel
theorem dX3_waitsFor_56 : decode cX3_waitsFor 56 = .ok (.iload_n 1, 1) := by decide +kernel
theorem dX3_waitsFor_57 : decode cX3_waitsFor 57 = .ok (.iconst 0, 1) := by decide +kernel
theorem dX3_waitsFor_58 : decode cX3_waitsFor 58 = .ok (.invokevirtual 183, 3) := by decide +kernel
theorem dX3_waitsFor_61 : decode cX3_waitsFor 61 = .ok (.ifCond .ne 5, 3) := by decide +kernel
theorem dX3_waitsFor_64 : decode cX3_waitsFor 64 = .ok (.iload_n 3, 1) := by decide +kernel
theorem dX3_waitsFor_65 : decode cX3_waitsFor 65 = .ok (.ireturn, 1) := by decide +kernel
theorem dX3_waitsFor_66 : decode cX3_waitsFor 66 = .ok (.iinc 3 1, 3) := by decide +kernel
theorem dX3_waitsFor_69 : decode cX3_waitsFor 69 = .ok (.goto (-29), 3) := by decide +kernel
theorem dX3_waitsFor_72 : decode cX3_waitsFor 72 = .ok (.iconst (-1), 1) := by decide +kernel
theorem dX3_waitsFor_73 : decode cX3_waitsFor 73 = .ok (.ireturn, 1) := by decide +kernel
def w_X3_waitsFor_40  (Q : Int32 → V3 → Prop) : Nat → Int32 → Int32 → Int32 → V3 → Prop
  | 0, _, _, _, _ => False
  | n40 + 1, x1, x2, x3, v => ((x2 < x3 → Q (-1) v) ∧ (¬ x2 < x3 → w_X1_tick 62 v (fun v8 => w_X1_isIn 62 x1 0 v8 (fun r10 v9 => ((¬ r10 = 0 → (w_X3_waitsFor_40 Q n40) x1 x2 (x3 + 1) v9) ∧ (r10 = 0 → Q x3 v9))))))
def w_X3_waitsFor (a1 : Int32) (a2 : Int32) (v : V3) (Q : Int32 → V3 → Prop) : Prop := w_X3_needBooking a1 v (fun v1 => w_X3_needWithin a2 1 200 v1 (fun v2 => w_X1_isIn 8 a1 0 v2 (fun r4 v3 => ((¬ r4 = 0 → w_X1_copyFrom 62 8 v3 (fun v6 => ∃ m40 : Nat, w_X3_waitsFor_40 Q m40 a1 a2 1 v6)) ∧ (r4 = 0 → Q 0 v3)))))
set_option maxRecDepth 100000 in
set_option maxHeartbeats 4000000 in
theorem b_X3_waitsFor_40 {p : Program} (l : Launch) {e : Env} {s : State} {m : MethodId} {args : Array Value} {below : List Frame} {meth : Method} {c : Code} {G : zG}   (C0 : Cx G RX3 cX3_waitsFor 4 (some .int) p s m args meth c) {Q : Int32 → V3 → Prop} : ∀ (n : Nat) (x1 : Int32) (x2 : Int32) (x3 : Int32) (v : V3) (H : Heap) (locs : List Loc) (ls : Array Slot), w_X3_waitsFor_40 Q n x1 x2 x3 v → Zs G s v H locs → lv_has ls 4 [(0, .ref (gad G 0)), (1, .int x1), (2, .int x2), (3, .int x3)] → W p l e { frames := 5, cells := 0, slots := 0, locals := 125 } s m args below meth c H locs 0 0 (MQ below (QiZ G Q) args s 0 0 (zA G)) (F0 m 40 ls []) := by
  have hx := C0.1
  have hb := C0.2.1
  intro n
  induction n with
  | zero =>
    intro x1 x2 x3 v H locs ls hw Z hl
    exact hw.elim
  | succ n hK40 =>
    intro x1 x2 x3 v H locs ls hw Z hl
    rw [w_X3_waitsFor_40] at hw
    refine lv_iload_n hx hb dX3_waitsFor_40 rfl (lv_at hl 3 rfl) ?_
    refine lv_iload_n hx hb dX3_waitsFor_41 rfl (lv_at hl 2 rfl) ?_
    refine lv_icmp_gt (tgt := 72) hx hb dX3_waitsFor_42 (by decide) (fun c7 => ?_) (fun c7 => ?_)
    · replace hw := hw.1 c7
      refine lv_iconst (v := (-1)) hx hb dX3_waitsFor_72 (by decide) ?_
      exact z_iret C0 Z hw dX3_waitsFor_73
    · replace hw := hw.2 c7
      refine lv_aload_n hx hb dX3_waitsFor_45 rfl (lv_at hl 0 rfl) ?_
      refine z_get C0 Z in_X3 rfl 5 (by decide) rfl tm_1_143 (cx_lt C0 (by decide)) rfl rfl dX3_waitsFor_46 ?_
      refine z_callVv C0 Z hl.1 (As := []) (rest := []) (k_X1_tick l (cx_g C0) (isL62 (cx_g C0)) hw) (gv_X1_tick tm_3_186) rfl ds_X1_tick ⟨Nat.le_of_ble_eq_true rfl, Nat.le_of_ble_eq_true rfl⟩ (ci := 1) rfl (isL_lt0 (isL62 (cx_g C0))) (ent_L (isL62 (cx_g C0))) rfl rfl (Nat.le_of_ble_eq_true rfl) ⟨Nat.le_of_ble_eq_true rfl, Nat.le_of_ble_eq_true rfl⟩ dX3_waitsFor_49 (fun v8 H locs hw Z => ?_)
      refine lv_aload_n hx hb dX3_waitsFor_52 rfl (lv_at hl 0 rfl) ?_
      refine z_get C0 Z in_X3 rfl 5 (by decide) rfl tm_1_143 (cx_lt C0 (by decide)) rfl rfl dX3_waitsFor_53 ?_
      refine lv_iload_n hx hb dX3_waitsFor_56 rfl (lv_at hl 1 rfl) ?_
      refine lv_iconst (v := 0) hx hb dX3_waitsFor_57 (by decide) ?_
      refine z_callVi C0 Z hl.1 (As := [.int x1, .int 0]) (rest := []) (k_X1_isIn l (cx_g C0) (isL62 (cx_g C0)) hw) (gv_X1_isIn tm_3_11) rfl ds_X1_isIn ⟨Nat.le_of_ble_eq_true rfl, Nat.le_of_ble_eq_true rfl⟩ (ci := 1) rfl (isL_lt0 (isL62 (cx_g C0))) (ent_L (isL62 (cx_g C0))) rfl rfl (Nat.le_of_ble_eq_true rfl) ⟨Nat.le_of_ble_eq_true rfl, Nat.le_of_ble_eq_true rfl⟩ dX3_waitsFor_58 (fun r10 v9 H locs hw Z => ?_)
      refine lv_if_ne (tgt := 66) hx hb dX3_waitsFor_61 (by decide) (fun c11 => ?_) (fun c11 => ?_)
      · replace hw := hw.1 c11
        refine lv_iinc (v := x3 + 1) (lv' := [(3, .int (x3 + 1)), (0, .ref (gad G 0)), (1, .int x1), (2, .int x2)]) hx hb dX3_waitsFor_66 hl (k := 3) rfl rfl (by decide) rfl (fun ls hl => ?_)
        refine lv_goto (tgt := 40) hx hb dX3_waitsFor_69 (by decide) ?_
        exact hK40 _ _ _ _ _ _ _ hw Z (lv_sub hl [1, 2, 3, 0] rfl)
      · replace hw := hw.2 c11
        refine lv_iload_n hx hb dX3_waitsFor_64 rfl (lv_at hl 3 rfl) ?_
        exact z_iret C0 Z hw dX3_waitsFor_65
set_option maxRecDepth 100000 in
set_option maxHeartbeats 4000000 in
theorem k_X3_waitsFor (l : Launch) {G : zG} (hg : 116 ≤ gn G) {a1 : Int32} {a2 : Int32}  {v : V3} {Q : Int32 → V3 → Prop} (hw : w_X3_waitsFor a1 a2 v Q) : Mz l yX3_waitsFor cX3_waitsFor 4 (some .int) 5 125 G [.ref (gad G 0), .int a1, .int a2] v (QiZ G Q) := by
  rw [w_X3_waitsFor] at hw
  refine z_ofW hg (by decide) (Nat.le_of_ble_eq_true rfl) ?_
  intro p e s m args below meth c ls C0 Z hl
  have hx := C0.1
  have hb := C0.2.1
  replace hl : lv_has ls 4 [(0, .ref (gad G 0)), (1, .int a1), (2, .int a2)] := hl
  generalize s.heap = H at Z ⊢
  generalize ([] : List Loc) = locs at Z ⊢
  refine lv_aload_n hx hb dX3_waitsFor_0 rfl (lv_at hl 0 rfl) ?_
  refine lv_iload_n hx hb dX3_waitsFor_1 rfl (lv_at hl 1 rfl) ?_
  refine z_callVv C0 Z hl.1 (As := [.int a1]) (rest := []) (k_X3_needBooking l (cx_g C0) hw) (gv_X3_needBooking tm_3_5) rfl ds_X3_needBooking ⟨Nat.le_of_ble_eq_true rfl, Nat.le_of_ble_eq_true rfl⟩ (ci := 3) rfl (cx_lt C0 (by decide)) rfl rfl rfl (Nat.le_of_ble_eq_true rfl) ⟨Nat.le_of_ble_eq_true rfl, Nat.le_of_ble_eq_true rfl⟩ dX3_waitsFor_2 (fun v1 H locs hw Z => ?_)
  refine lv_iload_n hx hb dX3_waitsFor_5 rfl (lv_at hl 2 rfl) ?_
  refine lv_iconst (v := 1) hx hb dX3_waitsFor_6 (by decide) ?_
  refine lv_sipush (v := 200) hx hb dX3_waitsFor_7 (by decide) ?_
  refine z_callSv C0 Z hl.1 (As := [.int a2, .int 1, .int 200]) (rest := []) (k_X3_needWithin l (cx_g C0) hw) (gv_X3_needWithin tm_1_228) ds_X3_needWithin ⟨Nat.le_of_ble_eq_true rfl, Nat.le_of_ble_eq_true rfl⟩ rfl rfl (Nat.le_of_ble_eq_true rfl) ⟨Nat.le_of_ble_eq_true rfl, Nat.le_of_ble_eq_true rfl⟩ dX3_waitsFor_10 (fun v2 H locs hw Z => ?_)
  refine lv_aload_n hx hb dX3_waitsFor_13 rfl (lv_at hl 0 rfl) ?_
  refine z_get C0 Z in_X3 rfl 4 (by decide) rfl tm_1_142 (cx_lt C0 (by decide)) rfl rfl dX3_waitsFor_14 ?_
  refine lv_iload_n hx hb dX3_waitsFor_17 rfl (lv_at hl 1 rfl) ?_
  refine lv_iconst (v := 0) hx hb dX3_waitsFor_18 (by decide) ?_
  refine z_callVi C0 Z hl.1 (As := [.int a1, .int 0]) (rest := []) (k_X1_isIn l (cx_g C0) (isL8 (cx_g C0)) hw) (gv_X1_isIn tm_3_11) rfl ds_X1_isIn ⟨Nat.le_of_ble_eq_true rfl, Nat.le_of_ble_eq_true rfl⟩ (ci := 1) rfl (isL_lt0 (isL8 (cx_g C0))) (ent_L (isL8 (cx_g C0))) rfl rfl (Nat.le_of_ble_eq_true rfl) ⟨Nat.le_of_ble_eq_true rfl, Nat.le_of_ble_eq_true rfl⟩ dX3_waitsFor_19 (fun r4 v3 H locs hw Z => ?_)
  refine lv_if_ne (tgt := 27) hx hb dX3_waitsFor_22 (by decide) (fun c5 => ?_) (fun c5 => ?_)
  · replace hw := hw.1 c5
    refine lv_aload_n hx hb dX3_waitsFor_27 rfl (lv_at hl 0 rfl) ?_
    refine z_get C0 Z in_X3 rfl 5 (by decide) rfl tm_1_143 (cx_lt C0 (by decide)) rfl rfl dX3_waitsFor_28 ?_
    refine lv_aload_n hx hb dX3_waitsFor_31 rfl (lv_at hl 0 rfl) ?_
    refine z_get C0 Z in_X3 rfl 4 (by decide) rfl tm_1_142 (cx_lt C0 (by decide)) rfl rfl dX3_waitsFor_32 ?_
    refine z_callVv C0 Z hl.1 (As := [.ref (gad G 8)]) (rest := []) (k_X1_copyFrom l (cx_g C0) (isL62 (cx_g C0)) (isL8 (cx_g C0)) hw) (gv_X1_copyFrom tm_3_175) rfl ds_X1_copyFrom ⟨Nat.le_of_ble_eq_true rfl, Nat.le_of_ble_eq_true rfl⟩ (ci := 1) rfl (isL_lt0 (isL62 (cx_g C0))) (ent_L (isL62 (cx_g C0))) rfl rfl (Nat.le_of_ble_eq_true rfl) ⟨Nat.le_of_ble_eq_true rfl, Nat.le_of_ble_eq_true rfl⟩ dX3_waitsFor_35 (fun v6 H locs hw Z => ?_)
    refine lv_iconst (v := 1) hx hb dX3_waitsFor_38 (by decide) ?_
    refine lv_istore_n (lv' := [(3, .int 1), (0, .ref (gad G 0)), (1, .int a1), (2, .int a2)]) hx hb dX3_waitsFor_39 rfl hl (by decide) rfl (fun ls hl => ?_)
    obtain ⟨m40, hw⟩ := hw
    exact b_X3_waitsFor_40 l C0 m40 _ _ _ _ _ _ _ hw Z (lv_sub hl [1, 2, 3, 0] rfl)
  · replace hw := hw.2 c5
    refine lv_iconst (v := 0) hx hb dX3_waitsFor_25 (by decide) ?_
    exact z_iret C0 Z hw dX3_waitsFor_26
-- X3_ahead: room (6, 148)
theorem dX3_ahead_0 : decode cX3_ahead 0 = .ok (.iload_n 1, 1) := by decide +kernel
theorem dX3_ahead_1 : decode cX3_ahead 1 = .ok (.iconst 1, 1) := by decide +kernel
theorem dX3_ahead_2 : decode cX3_ahead 2 = .ok (.sipush 200, 3) := by decide +kernel
theorem dX3_ahead_5 : decode cX3_ahead 5 = .ok (.invokestatic 77, 3) := by decide +kernel
theorem dX3_ahead_8 : decode cX3_ahead 8 = .ok (.iload_n 2, 1) := by decide +kernel
theorem dX3_ahead_9 : decode cX3_ahead 9 = .ok (.iconst 0, 1) := by decide +kernel
theorem dX3_ahead_10 : decode cX3_ahead 10 = .ok (.iconst 3, 1) := by decide +kernel
theorem dX3_ahead_11 : decode cX3_ahead 11 = .ok (.invokestatic 77, 3) := by decide +kernel
theorem dX3_ahead_14 : decode cX3_ahead 14 = .ok (.aload_n 0, 1) := by decide +kernel
theorem dX3_ahead_15 : decode cX3_ahead 15 = .ok (.getfield 30, 3) := by decide +kernel
theorem dX3_ahead_18 : decode cX3_ahead 18 = .ok (.aload_n 0, 1) := by decide +kernel
theorem dX3_ahead_19 : decode cX3_ahead 19 = .ok (.getfield 26, 3) := by decide +kernel
theorem dX3_ahead_22 : decode cX3_ahead 22 = .ok (.invokevirtual 91, 3) := by decide +kernel
theorem dX3_ahead_25 : decode cX3_ahead 25 = .ok (.aload_n 0, 1) := by decide +kernel
theorem dX3_ahead_26 : decode cX3_ahead 26 = .ok (.getfield 30, 3) := by decide +kernel
theorem dX3_ahead_29 : decode cX3_ahead 29 = .ok (.iload_n 1, 1) := by decide +kernel
theorem dX3_ahead_30 : decode cX3_ahead 30 = .ok (.iload_n 2, 1) := by decide +kernel
theorem dX3_ahead_31 : decode cX3_ahead 31 = .ok (.invokestatic 239, 3) := by decide +kernel
theorem dX3_ahead_34 : decode cX3_ahead 34 = .ok (.ireturn, 1) := by decide +kernel
def w_X3_ahead (a1 : Int32) (a2 : Int32) (v : V3) (Q : Int32 → V3 → Prop) : Prop := w_X3_needWithin a1 1 200 v (fun v1 => w_X3_needWithin a2 0 3 v1 (fun v2 => w_X1_copyFrom 62 8 v2 (fun v3 => w_X3_tallyOf 62 a1 a2 v3 (fun r5 v4 => Q r5 v4))))
set_option maxRecDepth 100000 in
set_option maxHeartbeats 4000000 in
theorem k_X3_ahead (l : Launch) {G : zG} (hg : 116 ≤ gn G) {a1 : Int32} {a2 : Int32}  {v : V3} {Q : Int32 → V3 → Prop} (hw : w_X3_ahead a1 a2 v Q) : Mz l yX3_ahead cX3_ahead 3 (some .int) 6 148 G [.ref (gad G 0), .int a1, .int a2] v (QiZ G Q) := by
  rw [w_X3_ahead] at hw
  refine z_ofW hg (by decide) (Nat.le_of_ble_eq_true rfl) ?_
  intro p e s m args below meth c ls C0 Z hl
  have hx := C0.1
  have hb := C0.2.1
  replace hl : lv_has ls 3 [(0, .ref (gad G 0)), (1, .int a1), (2, .int a2)] := hl
  generalize s.heap = H at Z ⊢
  generalize ([] : List Loc) = locs at Z ⊢
  refine lv_iload_n hx hb dX3_ahead_0 rfl (lv_at hl 1 rfl) ?_
  refine lv_iconst (v := 1) hx hb dX3_ahead_1 (by decide) ?_
  refine lv_sipush (v := 200) hx hb dX3_ahead_2 (by decide) ?_
  refine z_callSv C0 Z hl.1 (As := [.int a1, .int 1, .int 200]) (rest := []) (k_X3_needWithin l (cx_g C0) hw) (gv_X3_needWithin tm_1_228) ds_X3_needWithin ⟨Nat.le_of_ble_eq_true rfl, Nat.le_of_ble_eq_true rfl⟩ rfl rfl (Nat.le_of_ble_eq_true rfl) ⟨Nat.le_of_ble_eq_true rfl, Nat.le_of_ble_eq_true rfl⟩ dX3_ahead_5 (fun v1 H locs hw Z => ?_)
  refine lv_iload_n hx hb dX3_ahead_8 rfl (lv_at hl 2 rfl) ?_
  refine lv_iconst (v := 0) hx hb dX3_ahead_9 (by decide) ?_
  refine lv_iconst (v := 3) hx hb dX3_ahead_10 (by decide) ?_
  refine z_callSv C0 Z hl.1 (As := [.int a2, .int 0, .int 3]) (rest := []) (k_X3_needWithin l (cx_g C0) hw) (gv_X3_needWithin tm_1_228) ds_X3_needWithin ⟨Nat.le_of_ble_eq_true rfl, Nat.le_of_ble_eq_true rfl⟩ rfl rfl (Nat.le_of_ble_eq_true rfl) ⟨Nat.le_of_ble_eq_true rfl, Nat.le_of_ble_eq_true rfl⟩ dX3_ahead_11 (fun v2 H locs hw Z => ?_)
  refine lv_aload_n hx hb dX3_ahead_14 rfl (lv_at hl 0 rfl) ?_
  refine z_get C0 Z in_X3 rfl 5 (by decide) rfl tm_1_143 (cx_lt C0 (by decide)) rfl rfl dX3_ahead_15 ?_
  refine lv_aload_n hx hb dX3_ahead_18 rfl (lv_at hl 0 rfl) ?_
  refine z_get C0 Z in_X3 rfl 4 (by decide) rfl tm_1_142 (cx_lt C0 (by decide)) rfl rfl dX3_ahead_19 ?_
  refine z_callVv C0 Z hl.1 (As := [.ref (gad G 8)]) (rest := []) (k_X1_copyFrom l (cx_g C0) (isL62 (cx_g C0)) (isL8 (cx_g C0)) hw) (gv_X1_copyFrom tm_3_175) rfl ds_X1_copyFrom ⟨Nat.le_of_ble_eq_true rfl, Nat.le_of_ble_eq_true rfl⟩ (ci := 1) rfl (isL_lt0 (isL62 (cx_g C0))) (ent_L (isL62 (cx_g C0))) rfl rfl (Nat.le_of_ble_eq_true rfl) ⟨Nat.le_of_ble_eq_true rfl, Nat.le_of_ble_eq_true rfl⟩ dX3_ahead_22 (fun v3 H locs hw Z => ?_)
  refine lv_aload_n hx hb dX3_ahead_25 rfl (lv_at hl 0 rfl) ?_
  refine z_get C0 Z in_X3 rfl 5 (by decide) rfl tm_1_143 (cx_lt C0 (by decide)) rfl rfl dX3_ahead_26 ?_
  refine lv_iload_n hx hb dX3_ahead_29 rfl (lv_at hl 1 rfl) ?_
  refine lv_iload_n hx hb dX3_ahead_30 rfl (lv_at hl 2 rfl) ?_
  refine z_callSi C0 Z hl.1 (As := [.ref (gad G 62), .int a1, .int a2]) (rest := []) (k_X3_tallyOf l (cx_g C0) (isL62 (cx_g C0)) hw) (gv_X3_tallyOf tm_3_179) ds_X3_tallyOf ⟨Nat.le_of_ble_eq_true rfl, Nat.le_of_ble_eq_true rfl⟩ rfl rfl (Nat.le_of_ble_eq_true rfl) ⟨Nat.le_of_ble_eq_true rfl, Nat.le_of_ble_eq_true rfl⟩ dX3_ahead_31 (fun r5 v4 H locs hw Z => ?_)
  exact z_iret C0 Z hw dX3_ahead_34
-- X3_show: room (2, 50)
theorem dX3_show_0 : decode cX3_show 0 = .ok (.iload_n 1, 1) := by decide +kernel
theorem dX3_show_1 : decode cX3_show 1 = .ok (.iconst 0, 1) := by decide +kernel
theorem dX3_show_2 : decode cX3_show 2 = .ok (.sipush 20100, 3) := by decide +kernel
theorem dX3_show_5 : decode cX3_show 5 = .ok (.invokestatic 77, 3) := by decide +kernel
theorem dX3_show_8 : decode cX3_show 8 = .ok (.iconst 0, 1) := by decide +kernel
theorem dX3_show_9 : decode cX3_show 9 = .ok (.istore_n 2, 1) := by decide +kernel
theorem dX3_show_10 : decode cX3_show 10 = .ok (.iload_n 2, 1) := by decide +kernel
theorem dX3_show_11 : decode cX3_show 11 = .ok (.aload_n 0, 1) := by decide +kernel
theorem dX3_show_12 : decode cX3_show 12 = .ok (.getfield 26, 3) := by decide +kernel
theorem dX3_show_15 : decode cX3_show 15 = .ok (.getfield 119, 3) := by decide +kernel
theorem dX3_show_18 : decode cX3_show 18 = .ok (.if_icmp .ge 50, 3) := by decide +kernel
theorem dX3_show_21 : decode cX3_show 21 = .ok (.aload_n 0, 1) := by decide +kernel
theorem dX3_show_22 : decode cX3_show 22 = .ok (.getfield 26, 3) := by decide +kernel
theorem dX3_show_25 : decode cX3_show 25 = .ok (.iload_n 2, 1) := by decide +kernel
theorem dX3_show_26 : decode cX3_show 26 = .ok (.iload_n 1, 1) := by decide +kernel
theorem dX3_show_27 : decode cX3_show 27 = .ok (.invokevirtual 249, 3) := by decide +kernel
theorem dX3_show_30 : decode cX3_show 30 = .ok (.istore_n 3, 1) := by decide +kernel
theorem dX3_show_31 : decode cX3_show 31 = .ok (.aload_n 0, 1) := by decide +kernel
theorem dX3_show_32 : decode cX3_show 32 = .ok (.getfield 64, 3) := by decide +kernel
theorem dX3_show_35 : decode cX3_show 35 = .ok (.iload_n 2, 1) := by decide +kernel
theorem dX3_show_36 : decode cX3_show 36 = .ok (.iload_n 3, 1) := by decide +kernel
theorem dX3_show_37 : decode cX3_show 37 = .ok (.iconst (-1), 1) := by decide +kernel
theorem dX3_show_38 : decode cX3_show 38 = .ok (.if_icmp .ne 8, 3) := by decide +kernel
theorem dX3_show_41 : decode cX3_show 41 = .ok (.bipush 46, 2) := by decide +kernel
theorem dX3_show_43 : decode cX3_show 43 = .ok (.goto 17, 3) := by decide +kernel
theorem dX3_show_46 : decode cX3_show 46 = .ok (.bipush 48, 2) := by decide +kernel
theorem dX3_show_48 : decode cX3_show 48 = .ok (.aload_n 0, 1) := by decide +kernel
theorem dX3_show_49 : decode cX3_show 49 = .ok (.getfield 26, 3) := by decide +kernel
theorem dX3_show_52 : decode cX3_show 52 = .ok (.getfield 190, 3) := by decide +kernel
theorem dX3_show_55 : decode cX3_show 55 = .ok (.iload_n 3, 1) := by decide +kernel
theorem dX3_show_56 : decode cX3_show 56 = .ok (.aaload, 1) := by decide +kernel
theorem dX3_show_57 : decode cX3_show 57 = .ok (.iconst 0, 1) := by decide +kernel
theorem dX3_show_58 : decode cX3_show 58 = .ok (.iaload, 1) := by decide +kernel
theorem dX3_show_59 : decode cX3_show 59 = .ok (.iadd, 1) := by decide +kernel
theorem dX3_show_60 : decode cX3_show 60 = .ok (.i2b, 1) := by decide +kernel
theorem dX3_show_61 : decode cX3_show 61 = .ok (.bastore, 1) := by decide +kernel
theorem dX3_show_62 : decode cX3_show 62 = .ok (.iinc 2 1, 3) := by decide +kernel
theorem dX3_show_65 : decode cX3_show 65 = .ok (.goto (-55), 3) := by decide +kernel
theorem dX3_show_68 : decode cX3_show 68 = .ok (.aload_n 0, 1) := by decide +kernel
theorem dX3_show_69 : decode cX3_show 69 = .ok (.aload_n 0, 1) := by decide +kernel
theorem dX3_show_70 : decode cX3_show 70 = .ok (.getfield 26, 3) := by decide +kernel
theorem dX3_show_73 : decode cX3_show 73 = .ok (.getfield 119, 3) := by decide +kernel
theorem dX3_show_76 : decode cX3_show 76 = .ok (.putfield 67, 3) := by decide +kernel
theorem dX3_show_79 : decode cX3_show 79 = .ok (.aload_n 0, 1) := by decide +kernel
theorem dX3_show_80 : decode cX3_show 80 = .ok (.getfield 67, 3) := by decide +kernel
theorem dX3_show_83 : decode cX3_show 83 = .ok (.ireturn, 1) := by decide +kernel
def w_X3_show_60  (Q : Int32 → V3 → Prop) (K10 : Int32 → Int32 → V3 → Prop) (x1 : Int32) (x2 : Int32) (s1 : Int32) (s2 : Int32) (v : V3) : Prop := vp_in s1 64 ∧ ∀ v10 : V3, v10 = up2 v 2 (ix s1) (vp_nar .byte ((s2).toInt8.toInt32)) → K10 x1 (x2 + 1) v10
def w_X3_show_10  (Q : Int32 → V3 → Prop) : Nat → Int32 → Int32 → V3 → Prop
  | 0, _, _, _ => False
  | n10 + 1, x1, x2, v => (((v 8 5) ≤ x2 → ∀ v3 : V3, v3 = up2 v 0 13 (v 8 5) → Q (v3 0 13) v3) ∧ (¬ (v 8 5) ≤ x2 → w_X1_holderAt 8 x2 x1 v (fun r5 v4 => ((¬ r5 = (-1) → vp_in r5 40 ∧ w_X3_show_60 Q (w_X3_show_10 Q n10) x1 x2 x2 (48 + (v4 (8 + 14 + (ix r5)) 0)) v4) ∧ (r5 = (-1) → w_X3_show_60 Q (w_X3_show_10 Q n10) x1 x2 x2 46 v4)))))
def w_X3_show (a1 : Int32) (v : V3) (Q : Int32 → V3 → Prop) : Prop := w_X3_needWithin a1 0 20100 v (fun v1 => ∃ m10 : Nat, w_X3_show_10 Q m10 a1 0 v1)
set_option maxRecDepth 100000 in
set_option maxHeartbeats 4000000 in
theorem b_X3_show_60 {p : Program} (l : Launch) {e : Env} {s : State} {m : MethodId} {args : Array Value} {below : List Frame} {meth : Method} {c : Code} {G : zG}   (C0 : Cx G RX3 cX3_show 4 (some .int) p s m args meth c) {Q : Int32 → V3 → Prop} {K10 : Int32 → Int32 → V3 → Prop} (hK10 : ∀ (x1 : Int32) (x2 : Int32) (v : V3) (H : Heap) (locs : List Loc) (ls : Array Slot), K10 x1 x2 v → Zs G s v H locs → lv_has ls 4 [(0, .ref (gad G 0)), (1, .int x1), (2, .int x2)] → W p l e { frames := 2, cells := 0, slots := 0, locals := 50 } s m args below meth c H locs 0 0 (MQ below (QiZ G Q) args s 0 0 (zA G)) (F0 m 10 ls [])) : ∀ (x1 : Int32) (x2 : Int32) (s1 : Int32) (s2 : Int32) (v : V3) (H : Heap) (locs : List Loc) (ls : Array Slot), w_X3_show_60 Q K10 x1 x2 s1 s2 v → Zs G s v H locs → lv_has ls 4 [(0, .ref (gad G 0)), (1, .int x1), (2, .int x2)] → W p l e { frames := 2, cells := 0, slots := 0, locals := 50 } s m args below meth c H locs 0 0 (MQ below (QiZ G Q) args s 0 0 (zA G)) (F0 m 60 ls [.int s2, .int s1, .ref (gad G 2)]) := by
  have hx := C0.1
  have hb := C0.2.1
  intro x1 x2 s1 s2 v H locs ls hw Z hl
  rw [w_X3_show_60] at hw
  refine lv_i2b (v := (s2).toInt8.toInt32) hx hb dX3_show_60 rfl ?_
  obtain ⟨h9, hw⟩ := hw
  refine z_bast C0 Z (cx_lt C0 (by decide)) (fun _ => rfl) h9 dX3_show_61 (fun H locs Z => ?_)
  obtain ⟨v10, ev10⟩ : ∃ z : V3, z = up2 v 2 (ix s1) (vp_nar .byte ((s2).toInt8.toInt32)) := ⟨_, rfl⟩
  rw [← ev10] at Z
  replace hw := hw v10 ev10
  refine lv_iinc (v := x2 + 1) (lv' := [(2, .int (x2 + 1)), (0, .ref (gad G 0)), (1, .int x1)]) hx hb dX3_show_62 hl (k := 2) rfl rfl (by decide) rfl (fun ls hl => ?_)
  refine lv_goto (tgt := 10) hx hb dX3_show_65 (by decide) ?_
  exact hK10 _ _ _ _ _ _ hw Z (lv_sub hl [1, 2, 0] rfl)
set_option maxRecDepth 100000 in
set_option maxHeartbeats 4000000 in
theorem b_X3_show_10 {p : Program} (l : Launch) {e : Env} {s : State} {m : MethodId} {args : Array Value} {below : List Frame} {meth : Method} {c : Code} {G : zG}   (C0 : Cx G RX3 cX3_show 4 (some .int) p s m args meth c) {Q : Int32 → V3 → Prop} : ∀ (n : Nat) (x1 : Int32) (x2 : Int32) (v : V3) (H : Heap) (locs : List Loc) (ls : Array Slot), w_X3_show_10 Q n x1 x2 v → Zs G s v H locs → lv_has ls 4 [(0, .ref (gad G 0)), (1, .int x1), (2, .int x2)] → W p l e { frames := 2, cells := 0, slots := 0, locals := 50 } s m args below meth c H locs 0 0 (MQ below (QiZ G Q) args s 0 0 (zA G)) (F0 m 10 ls []) := by
  have hx := C0.1
  have hb := C0.2.1
  intro n
  induction n with
  | zero =>
    intro x1 x2 v H locs ls hw Z hl
    exact hw.elim
  | succ n hK10 =>
    intro x1 x2 v H locs ls hw Z hl
    rw [w_X3_show_10] at hw
    refine lv_iload_n hx hb dX3_show_10 rfl (lv_at hl 2 rfl) ?_
    refine lv_aload_n hx hb dX3_show_11 rfl (lv_at hl 0 rfl) ?_
    refine z_get C0 Z in_X3 rfl 4 (by decide) rfl tm_1_142 (cx_lt C0 (by decide)) rfl rfl dX3_show_12 ?_
    refine z_get C0 Z in_X1 rfl 5 (by decide) rfl tm_1_56 (isL_lt0 (isL8 (cx_g C0))) (ent_L (isL8 (cx_g C0))) rfl dX3_show_15 ?_
    refine lv_icmp_ge (tgt := 68) hx hb dX3_show_18 (by decide) (fun c2 => ?_) (fun c2 => ?_)
    · replace hw := hw.1 c2
      refine lv_aload_n hx hb dX3_show_68 rfl (lv_at hl 0 rfl) ?_
      refine lv_aload_n hx hb dX3_show_69 rfl (lv_at hl 0 rfl) ?_
      refine z_get C0 Z in_X3 rfl 4 (by decide) rfl tm_1_142 (cx_lt C0 (by decide)) rfl rfl dX3_show_70 ?_
      refine z_get C0 Z in_X1 rfl 5 (by decide) rfl tm_1_56 (isL_lt0 (isL8 (cx_g C0))) (ent_L (isL8 (cx_g C0))) rfl dX3_show_73 ?_
      refine z_put C0 Z in_X3 tyX3_ok nmX3 rfl 13 (by decide) rfl rfl tm_1_151 (cx_lt C0 (by decide)) rfl p_X3_13 (fun c' h => up2_off _ _ _ h) rfl rfl (Nat.le_of_ble_eq_true rfl) dX3_show_76 (fun H locs Z => ?_)
      obtain ⟨v3, ev3⟩ : ∃ z : V3, z = up2 v 0 13 (v 8 5) := ⟨_, rfl⟩
      rw [← ev3] at Z
      replace hw := hw v3 ev3
      refine lv_aload_n hx hb dX3_show_79 rfl (lv_at hl 0 rfl) ?_
      refine z_get C0 Z in_X3 rfl 13 (by decide) rfl tm_1_151 (cx_lt C0 (by decide)) rfl rfl dX3_show_80 ?_
      exact z_iret C0 Z hw dX3_show_83
    · replace hw := hw.2 c2
      refine lv_aload_n hx hb dX3_show_21 rfl (lv_at hl 0 rfl) ?_
      refine z_get C0 Z in_X3 rfl 4 (by decide) rfl tm_1_142 (cx_lt C0 (by decide)) rfl rfl dX3_show_22 ?_
      refine lv_iload_n hx hb dX3_show_25 rfl (lv_at hl 2 rfl) ?_
      refine lv_iload_n hx hb dX3_show_26 rfl (lv_at hl 1 rfl) ?_
      refine z_callVi C0 Z hl.1 (As := [.int x2, .int x1]) (rest := []) (k_X1_holderAt l (cx_g C0) (isL8 (cx_g C0)) hw) (gv_X1_holderAt tm_4_7) rfl ds_X1_holderAt ⟨Nat.le_of_ble_eq_true rfl, Nat.le_of_ble_eq_true rfl⟩ (ci := 1) rfl (isL_lt0 (isL8 (cx_g C0))) (ent_L (isL8 (cx_g C0))) rfl rfl (Nat.le_of_ble_eq_true rfl) ⟨Nat.le_of_ble_eq_true rfl, Nat.le_of_ble_eq_true rfl⟩ dX3_show_27 (fun r5 v4 H locs hw Z => ?_)
      refine lv_istore_n (lv' := [(3, .int r5), (0, .ref (gad G 0)), (1, .int x1), (2, .int x2)]) hx hb dX3_show_30 rfl hl (by decide) rfl (fun ls hl => ?_)
      refine lv_aload_n hx hb dX3_show_31 rfl (lv_at hl 1 rfl) ?_
      refine z_get C0 Z in_X3 rfl 12 (by decide) rfl tm_1_150 (cx_lt C0 (by decide)) rfl rfl dX3_show_32 ?_
      refine lv_iload_n hx hb dX3_show_35 rfl (lv_at hl 3 rfl) ?_
      refine lv_iload_n hx hb dX3_show_36 rfl (lv_at hl 0 rfl) ?_
      refine lv_iconst (v := (-1)) hx hb dX3_show_37 (by decide) ?_
      refine lv_icmp_ne (tgt := 46) hx hb dX3_show_38 (by decide) (fun c6 => ?_) (fun c6 => ?_)
      · replace hw := hw.1 c6
        refine lv_bipush (v := 48) hx hb dX3_show_46 (by decide) ?_
        refine lv_aload_n hx hb dX3_show_48 rfl (lv_at hl 1 rfl) ?_
        refine z_get C0 Z in_X3 rfl 4 (by decide) rfl tm_1_142 (cx_lt C0 (by decide)) rfl rfl dX3_show_49 ?_
        refine z_get C0 Z in_X1 rfl 2 (by decide) rfl tm_1_51 (isL_lt0 (isL8 (cx_g C0))) (ent_L (isL8 (cx_g C0))) rfl dX3_show_52 ?_
        refine lv_iload_n hx hb dX3_show_55 rfl (lv_at hl 0 rfl) ?_
        obtain ⟨h7, hw⟩ := hw
        have h8 := vp_lt h7
        refine z_aald C0 Z (isL_lt (isL8 (cx_g C0)) 3 (by decide)) (ent_L3 (isL8 (cx_g C0))) h7 dX3_show_56 ?_
        refine lv_iconst (v := 0) hx hb dX3_show_57 (by decide) ?_
        refine z_ialdk C0 Z (isL_B (isL8 (cx_g C0)) h8) (ent_B (isL8 (cx_g C0)) h8) in_0_10 nc_0 dX3_show_58 ?_
        refine lv_iadd hx hb dX3_show_59 ?_
        exact b_X3_show_60 l C0 hK10 _ _ _ _ _ _ _ _ hw Z (lv_sub hl [1, 2, 3] rfl)
      · replace hw := hw.2 c6
        refine lv_bipush (v := 46) hx hb dX3_show_41 (by decide) ?_
        refine lv_goto (tgt := 60) hx hb dX3_show_43 (by decide) ?_
        exact b_X3_show_60 l C0 hK10 _ _ _ _ _ _ _ _ hw Z (lv_sub hl [1, 2, 3] rfl)
set_option maxRecDepth 100000 in
set_option maxHeartbeats 4000000 in
theorem k_X3_show (l : Launch) {G : zG} (hg : 116 ≤ gn G) {a1 : Int32}  {v : V3} {Q : Int32 → V3 → Prop} (hw : w_X3_show a1 v Q) : Mz l yX3_show cX3_show 4 (some .int) 2 50 G [.ref (gad G 0), .int a1] v (QiZ G Q) := by
  rw [w_X3_show] at hw
  refine z_ofW hg (by decide) (Nat.le_of_ble_eq_true rfl) ?_
  intro p e s m args below meth c ls C0 Z hl
  have hx := C0.1
  have hb := C0.2.1
  replace hl : lv_has ls 4 [(0, .ref (gad G 0)), (1, .int a1)] := hl
  generalize s.heap = H at Z ⊢
  generalize ([] : List Loc) = locs at Z ⊢
  refine lv_iload_n hx hb dX3_show_0 rfl (lv_at hl 1 rfl) ?_
  refine lv_iconst (v := 0) hx hb dX3_show_1 (by decide) ?_
  refine lv_sipush (v := 20100) hx hb dX3_show_2 (by decide) ?_
  refine z_callSv C0 Z hl.1 (As := [.int a1, .int 0, .int 20100]) (rest := []) (k_X3_needWithin l (cx_g C0) hw) (gv_X3_needWithin tm_1_228) ds_X3_needWithin ⟨Nat.le_of_ble_eq_true rfl, Nat.le_of_ble_eq_true rfl⟩ rfl rfl (Nat.le_of_ble_eq_true rfl) ⟨Nat.le_of_ble_eq_true rfl, Nat.le_of_ble_eq_true rfl⟩ dX3_show_5 (fun v1 H locs hw Z => ?_)
  refine lv_iconst (v := 0) hx hb dX3_show_8 (by decide) ?_
  refine lv_istore_n (lv' := [(2, .int 0), (0, .ref (gad G 0)), (1, .int a1)]) hx hb dX3_show_9 rfl hl (by decide) rfl (fun ls hl => ?_)
  obtain ⟨m10, hw⟩ := hw
  exact b_X3_show_10 l C0 m10 _ _ _ _ _ _ hw Z (lv_sub hl [1, 2, 0] rfl)
-- X3_shown: room (0, 0)
theorem dX3_shown_0 : decode cX3_shown 0 = .ok (.iload_n 1, 1) := by decide +kernel
theorem dX3_shown_1 : decode cX3_shown 1 = .ok (.ifCond .lt 20, 3) := by decide +kernel
theorem dX3_shown_4 : decode cX3_shown 4 = .ok (.iload_n 1, 1) := by decide +kernel
theorem dX3_shown_5 : decode cX3_shown 5 = .ok (.aload_n 0, 1) := by decide +kernel
theorem dX3_shown_6 : decode cX3_shown 6 = .ok (.getfield 67, 3) := by decide +kernel
theorem dX3_shown_9 : decode cX3_shown 9 = .ok (.if_icmp .ge 12, 3) := by decide +kernel
theorem dX3_shown_12 : decode cX3_shown 12 = .ok (.aload_n 0, 1) := by decide +kernel
theorem dX3_shown_13 : decode cX3_shown 13 = .ok (.getfield 64, 3) := by decide +kernel
theorem dX3_shown_16 : decode cX3_shown 16 = .ok (.iload_n 1, 1) := by decide +kernel
theorem dX3_shown_17 : decode cX3_shown 17 = .ok (.baload, 1) := by decide +kernel
theorem dX3_shown_18 : decode cX3_shown 18 = .ok (.goto 4, 3) := by decide +kernel
theorem dX3_shown_21 : decode cX3_shown 21 = .ok (.iconst (-1), 1) := by decide +kernel
theorem dX3_shown_22 : decode cX3_shown 22 = .ok (.ireturn, 1) := by decide +kernel
def w_X3_shown_22  (Q : Int32 → V3 → Prop) (s0 : Int32) (v : V3) : Prop := Q s0 v
def w_X3_shown_21  (Q : Int32 → V3 → Prop) (v : V3) : Prop := w_X3_shown_22 Q (-1) v
def w_X3_shown (a1 : Int32) (v : V3) (Q : Int32 → V3 → Prop) : Prop := ((a1 < 0 → w_X3_shown_21 Q v) ∧ (¬ a1 < 0 → (((v 0 13) ≤ a1 → w_X3_shown_21 Q v) ∧ (¬ (v 0 13) ≤ a1 → vp_in a1 64 ∧ w_X3_shown_22 Q (v 2 (ix a1)) v))))
set_option maxRecDepth 100000 in
set_option maxHeartbeats 4000000 in
theorem b_X3_shown_22 {p : Program} (l : Launch) {e : Env} {s : State} {m : MethodId} {args : Array Value} {below : List Frame} {meth : Method} {c : Code} {G : zG}   (C0 : Cx G RX3 cX3_shown 2 (some .int) p s m args meth c) {Q : Int32 → V3 → Prop} : ∀ (s0 : Int32) (v : V3) (H : Heap) (locs : List Loc) (ls : Array Slot), w_X3_shown_22 Q s0 v → Zs G s v H locs → lv_has ls 2 [] → W p l e { frames := 0, cells := 0, slots := 0, locals := 0 } s m args below meth c H locs 0 0 (MQ below (QiZ G Q) args s 0 0 (zA G)) (F0 m 22 ls [.int s0]) := by
  have hx := C0.1
  have hb := C0.2.1
  intro s0 v H locs ls hw Z hl
  rw [w_X3_shown_22] at hw
  exact z_iret C0 Z hw dX3_shown_22
set_option maxRecDepth 100000 in
set_option maxHeartbeats 4000000 in
theorem b_X3_shown_21 {p : Program} (l : Launch) {e : Env} {s : State} {m : MethodId} {args : Array Value} {below : List Frame} {meth : Method} {c : Code} {G : zG}   (C0 : Cx G RX3 cX3_shown 2 (some .int) p s m args meth c) {Q : Int32 → V3 → Prop} : ∀ (v : V3) (H : Heap) (locs : List Loc) (ls : Array Slot), w_X3_shown_21 Q v → Zs G s v H locs → lv_has ls 2 [] → W p l e { frames := 0, cells := 0, slots := 0, locals := 0 } s m args below meth c H locs 0 0 (MQ below (QiZ G Q) args s 0 0 (zA G)) (F0 m 21 ls []) := by
  have hx := C0.1
  have hb := C0.2.1
  intro v H locs ls hw Z hl
  rw [w_X3_shown_21] at hw
  refine lv_iconst (v := (-1)) hx hb dX3_shown_21 (by decide) ?_
  exact b_X3_shown_22 l C0 _ _ _ _ _ hw Z (lv_sub hl [] rfl)
set_option maxRecDepth 100000 in
set_option maxHeartbeats 4000000 in
theorem k_X3_shown (l : Launch) {G : zG} (hg : 116 ≤ gn G) {a1 : Int32}  {v : V3} {Q : Int32 → V3 → Prop} (hw : w_X3_shown a1 v Q) : Mz l yX3_shown cX3_shown 2 (some .int) 0 0 G [.ref (gad G 0), .int a1] v (QiZ G Q) := by
  rw [w_X3_shown] at hw
  refine z_ofW hg (by decide) (Nat.le_of_ble_eq_true rfl) ?_
  intro p e s m args below meth c ls C0 Z hl
  have hx := C0.1
  have hb := C0.2.1
  replace hl : lv_has ls 2 [(0, .ref (gad G 0)), (1, .int a1)] := hl
  generalize s.heap = H at Z ⊢
  generalize ([] : List Loc) = locs at Z ⊢
  refine lv_iload_n hx hb dX3_shown_0 rfl (lv_at hl 1 rfl) ?_
  refine lv_if_lt (tgt := 21) hx hb dX3_shown_1 (by decide) (fun c1 => ?_) (fun c1 => ?_)
  · replace hw := hw.1 c1
    exact b_X3_shown_21 l C0 _ _ _ _ hw Z (lv_sub hl [] rfl)
  · replace hw := hw.2 c1
    refine lv_iload_n hx hb dX3_shown_4 rfl (lv_at hl 1 rfl) ?_
    refine lv_aload_n hx hb dX3_shown_5 rfl (lv_at hl 0 rfl) ?_
    refine z_get C0 Z in_X3 rfl 13 (by decide) rfl tm_1_151 (cx_lt C0 (by decide)) rfl rfl dX3_shown_6 ?_
    refine lv_icmp_ge (tgt := 21) hx hb dX3_shown_9 (by decide) (fun c2 => ?_) (fun c2 => ?_)
    · replace hw := hw.1 c2
      exact b_X3_shown_21 l C0 _ _ _ _ hw Z (lv_sub hl [] rfl)
    · replace hw := hw.2 c2
      refine lv_aload_n hx hb dX3_shown_12 rfl (lv_at hl 0 rfl) ?_
      refine z_get C0 Z in_X3 rfl 12 (by decide) rfl tm_1_150 (cx_lt C0 (by decide)) rfl rfl dX3_shown_13 ?_
      refine lv_iload_n hx hb dX3_shown_16 rfl (lv_at hl 1 rfl) ?_
      obtain ⟨h3, hw⟩ := hw
      refine z_bald C0 Z (cx_lt C0 (by decide)) rfl h3 dX3_shown_17 ?_
      refine lv_goto (tgt := 22) hx hb dX3_shown_18 (by decide) ?_
      exact b_X3_shown_22 l C0 _ _ _ _ _ hw Z (lv_sub hl [] rfl)
