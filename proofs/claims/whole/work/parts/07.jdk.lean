theorem dJ0_checkIndex_df160_0 : decode cJ0_checkIndex_df160 0 = .ok (.iload_n 0, 1) := by decide +kernel
theorem dJ0_checkIndex_df160_1 : decode cJ0_checkIndex_df160 1 = .ok (.iload_n 1, 1) := by decide +kernel
theorem dJ0_checkIndex_df160_2 : decode cJ0_checkIndex_df160 2 = .ok (.getstatic 1053, 3) := by decide +kernel
theorem dJ0_checkIndex_df160_5 : decode cJ0_checkIndex_df160 5 = .ok (.invokestatic 1059, 3) := by decide +kernel
theorem dJ0_checkIndex_df160_8 : decode cJ0_checkIndex_df160 8 = .ok (.pop, 1) := by decide +kernel
theorem dJ0_checkIndex_df160_9 : decode cJ0_checkIndex_df160 9 = .ok (.return_, 1) := by decide +kernel
theorem dJ3_checkIndex_8e157_0 : decode cJ3_checkIndex_8e157 0 = .ok (.iload_n 0, 1) := by decide +kernel
theorem dJ3_checkIndex_8e157_1 : decode cJ3_checkIndex_8e157 1 = .ok (.ifCond .lt 8, 3) := by decide +kernel
theorem dJ3_checkIndex_8e157_4 : decode cJ3_checkIndex_8e157 4 = .ok (.iload_n 0, 1) := by decide +kernel
theorem dJ3_checkIndex_8e157_5 : decode cJ3_checkIndex_8e157 5 = .ok (.iload_n 1, 1) := by decide +kernel
theorem dJ3_checkIndex_8e157_6 : decode cJ3_checkIndex_8e157 6 = .ok (.if_icmp .lt 10, 3) := by decide +kernel
theorem dJ3_checkIndex_8e157_9 : decode cJ3_checkIndex_8e157 9 = .ok (.aload_n 2, 1) := by decide +kernel
theorem dJ3_checkIndex_8e157_10 : decode cJ3_checkIndex_8e157 10 = .ok (.iload_n 0, 1) := by decide +kernel
theorem dJ3_checkIndex_8e157_11 : decode cJ3_checkIndex_8e157 11 = .ok (.iload_n 1, 1) := by decide +kernel
theorem dJ3_checkIndex_8e157_12 : decode cJ3_checkIndex_8e157 12 = .ok (.invokestatic 95, 3) := by decide +kernel
theorem dJ3_checkIndex_8e157_15 : decode cJ3_checkIndex_8e157 15 = .ok (.athrow, 1) := by decide +kernel
theorem dJ3_checkIndex_8e157_16 : decode cJ3_checkIndex_8e157 16 = .ok (.iload_n 0, 1) := by decide +kernel
theorem dJ3_checkIndex_8e157_17 : decode cJ3_checkIndex_8e157 17 = .ok (.ireturn, 1) := by decide +kernel
set_option maxRecDepth 100000 in
set_option maxHeartbeats 4000000 in
theorem k_J3_checkIndex_8e157 (l : Launch) {G : zG} (hg : 129 ≤ gn G) {a n : Int32} {z : Value} (hz : z = .null ∨ ∃ t, z = .ref t) {v : V3} {Q : Int32 → V3 → Prop} (h0 : ¬ a < 0) (h1 : a < n) (hw : Q a v) : Mz l yJ3_checkIndex_8e157 cJ3_checkIndex_8e157 3 (some .int) 0 0 G [.int a, .int n, z] v (QiZ G Q) := by
  refine z_ofW hg (by decide) (by rcases hz with h | ⟨t, h⟩ <;> subst h <;> exact Nat.le_of_ble_eq_true rfl) ?_
  intro p e s m args below meth c ls C0 Z hl
  have hx := C0.1
  have hb := C0.2.1
  replace hl : lv_has ls 3 [(0, .int a), (1, .int n)] := by
    rcases hz with h | ⟨t, h⟩ <;> subst h <;> exact lv_sub hl [0, 1] rfl
  generalize s.heap = H at Z ⊢
  generalize ([] : List Loc) = locs at Z ⊢
  refine lv_iload_n hx hb dJ3_checkIndex_8e157_0 rfl (lv_at hl 0 rfl) ?_
  refine lv_if_lt (tgt := 9) hx hb dJ3_checkIndex_8e157_1 (by decide) (fun c1 => absurd c1 h0) (fun c1 => ?_)
  refine lv_iload_n hx hb dJ3_checkIndex_8e157_4 rfl (lv_at hl 0 rfl) ?_
  refine lv_iload_n hx hb dJ3_checkIndex_8e157_5 rfl (lv_at hl 1 rfl) ?_
  refine lv_icmp_lt (tgt := 16) hx hb dJ3_checkIndex_8e157_6 (by decide) (fun c2 => ?_) (fun c2 => absurd h1 c2)
  refine lv_iload_n hx hb dJ3_checkIndex_8e157_16 rfl (lv_at hl 0 rfl) ?_
  exact z_iret C0 Z hw dJ3_checkIndex_8e157_17
def w_J0_checkIndex_df160 (a n : Int32) (v : V3) (Q : V3 → Prop) : Prop := ¬ a < 0 ∧ a < n ∧ Q v
set_option maxRecDepth 100000 in
set_option maxHeartbeats 4000000 in
theorem k_J0_checkIndex_df160 (l : Launch) {G : zG} (hg : 129 ≤ gn G) {a n : Int32} {v : V3} {Q : V3 → Prop} (hw : w_J0_checkIndex_df160 a n v Q) : Mz l yJ0_checkIndex_df160 cJ0_checkIndex_df160 2 none 1 60 G [.int a, .int n] v (QvZ G Q) := by
  obtain ⟨h0, h1, hw⟩ := hw
  refine z_ofW hg (by decide) (Nat.le_of_ble_eq_true rfl) ?_
  intro p e s m args below meth c ls C0 Z hl
  have hx := C0.1
  have hb := C0.2.1
  replace hl : lv_has ls 2 [(0, .int a), (1, .int n)] := hl
  generalize s.heap = H at Z ⊢
  generalize ([] : List Loc) = locs at Z ⊢
  refine lv_iload_n hx hb dJ0_checkIndex_df160_0 rfl (lv_at hl 0 rfl) ?_
  refine lv_iload_n hx hb dJ0_checkIndex_df160_1 rfl (lv_at hl 1 rfl) ?_
  refine z_sioobe C0 Z tm_2_16 dJ0_checkIndex_df160_2 (fun x hz => ?_)
  refine z_callSi C0 Z hl.1 (As := [.int a, .int n, x]) (rest := []) (k_J3_checkIndex_8e157 l (cx_g C0) hz (Q := fun r u => Q u) h0 h1 hw) (gv_J3_checkIndex_8e157 tm_2_18) ds_J3_checkIndex_8e157 ⟨Nat.le_of_ble_eq_true rfl, Nat.le_of_ble_eq_true rfl⟩ rfl rfl (Nat.le_of_ble_eq_true rfl) ⟨Nat.zero_le _, Nat.zero_le _⟩ dJ0_checkIndex_df160_5 (fun r u H locs hu Z => ?_)
  refine lv_pop hx hb dJ0_checkIndex_df160_8 rfl ?_
  exact z_vret C0 Z hu dJ0_checkIndex_df160_9
