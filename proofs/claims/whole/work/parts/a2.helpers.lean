/-! THE METHODS OF THE LAW THAT CATCH: 0 and the answer in the law's cell, or the number of the exception; then the reference -/
def HP (g : Nat) (B : Int) (wm : V3 → (Int32 → V3 → Prop) → Prop) (k : Int32) (u : V3) : Prop := (k = 0 ∧ ∃ r : Int32, mk64 (u 19 0) (u 19 1) = r.toInt64 ∧ wm u (fun b v2 => v2 7 11 = 0 ∧ b = r ∧ IVo u v2 g B)) ∨ (¬ k = 0 ∧ wm u (fun _ v2 => v2 7 11 = k ∧ IVo u v2 g B))
def HPz (g : Nat) (B : Int) (wm : V3 → (Int32 → V3 → Prop) → Prop) (k : Int32) (u : V3) : Prop := (k = 0 ∧ ∃ r : Int32, mk64 (u 19 0) (u 19 1) = (if r = 0 then 0 else 1) ∧ wm u (fun b v2 => v2 7 11 = 0 ∧ b = r ∧ IVo u v2 g B)) ∨ (¬ k = 0 ∧ wm u (fun _ v2 => v2 7 11 = k ∧ IVo u v2 g B))
def HPd (g : Nat) (B : Int) (wm : V3 → (UInt64 → V3 → Prop) → Prop) (k : Int32) (u : V3) : Prop := (k = 0 ∧ ∃ r : UInt64, (mk64 (u 20 0) (u 20 1)).toUInt64 = r ∧ wm u (fun b v2 => v2 7 11 = 0 ∧ b = r ∧ vf_n64 r ∧ IVo u v2 g B)) ∨ (¬ k = 0 ∧ wm u (fun _ v2 => v2 7 11 = k ∧ IVo u v2 g B))
def HPf (g : Nat) (B : Int) (wm : V3 → (UInt32 → V3 → Prop) → Prop) (k : Int32) (u : V3) : Prop := (k = 0 ∧ ∃ r : UInt32, (mk64 (u 20 0) (u 20 1)).toUInt64 = FP.f2d r ∧ vf_n32 r ∧ wm u (fun b v2 => v2 7 11 = 0 ∧ b = r ∧ vf_n32 r ∧ IVo u v2 g B)) ∨ (¬ k = 0 ∧ wm u (fun _ v2 => v2 7 11 = k ∧ IVo u v2 g B))
def HPv (g : Nat) (B : Int) (wm : V3 → (V3 → Prop) → Prop) (k : Int32) (u : V3) : Prop := (k = 0 ∧ wm u (fun v2 => v2 7 11 = 0 ∧ IVo u v2 g B)) ∨ (¬ k = 0 ∧ wm u (fun v2 => v2 7 11 = k ∧ IVo u v2 g B))
theorem dL_appendText_0 : decode cL_appendText 0 = .ok (.aload_n 2, 1) := by decide +kernel
theorem dL_appendText_1 : decode cL_appendText 1 = .ok (.iconst 0, 1) := by decide +kernel
theorem dL_appendText_2 : decode cL_appendText 2 = .ok (.aload_n 0, 1) := by decide +kernel
theorem dL_appendText_3 : decode cL_appendText 3 = .ok (.iload_n 1, 1) := by decide +kernel
theorem dL_appendText_4 : decode cL_appendText 4 = .ok (.invokevirtual 7, 3) := by decide +kernel
theorem dL_appendText_7 : decode cL_appendText 7 = .ok (.i2l, 1) := by decide +kernel
theorem dL_appendText_8 : decode cL_appendText 8 = .ok (.lastore, 1) := by decide +kernel
theorem dL_appendText_9 : decode cL_appendText 9 = .ok (.goto 6, 3) := by decide +kernel
theorem dL_appendText_12 : decode cL_appendText 12 = .ok (.astore_n 3, 1) := by decide +kernel
theorem dL_appendText_13 : decode cL_appendText 13 = .ok (.iconst 1, 1) := by decide +kernel
theorem dL_appendText_14 : decode cL_appendText 14 = .ok (.ireturn, 1) := by decide +kernel
theorem dL_appendText_15 : decode cL_appendText 15 = .ok (.iconst 0, 1) := by decide +kernel
theorem dL_appendText_16 : decode cL_appendText 16 = .ok (.ireturn, 1) := by decide +kernel
set_option maxRecDepth 100000 in
set_option maxHeartbeats 4000000 in
theorem k_L_appendText (l : Launch) (hst : l.stackTraces = false) {G : zG} (hg : 129 ≤ gn G) {a1 : Int32} {v : V3} {g : Nat} {B : Int} (hw : w_X3_appendText a1 v (exI g B (w_X4_appendText a1) [(eIS, 1)]) (okI g B (w_X4_appendText a1))) : Mh l yL_appendText cL_appendText 4 [(0, 9, 12, 13)] 7 112 1 6 G [.ref (gad G 0), .int a1, .ref (gad G 19)] v (QiZ G (HP g B (w_X4_appendText a1))) := by
  refine z_hofW hg (by decide) (Nat.le_of_ble_eq_true rfl) ?_
  intro p e s m args below meth c ls C0 hT Z hl
  have hx := C0.1
  have hb := C0.2.1
  replace hl : lv_has ls 4 [(0, .ref (gad G 0)), (1, .int a1), (2, .ref (gad G 19))] := hl
  generalize s.heap = H at Z ⊢
  generalize ([] : List Loc) = locs at Z ⊢
  refine lv_aload_n hx hb dL_appendText_0 rfl (lv_at hl 2 rfl) ?_
  refine lv_iconst (v := 0) hx hb dL_appendText_1 (by decide) ?_
  refine lv_aload_n hx hb dL_appendText_2 rfl (lv_at hl 0 rfl) ?_
  refine lv_iload_n hx hb dL_appendText_3 rfl (lv_at hl 1 rfl) ?_
  refine z_hcallVi C0 Z hl.1 (As := [.int a1]) (rest := [.int 0, .ref (gad G 19)]) (k_X3_appendText l hst hg hw) (gv_X3_appendText tm_3_7) rfl ds_X3_appendText ⟨Nat.le_of_ble_eq_true rfl, Nat.le_of_ble_eq_true rfl⟩ (ci := 3) rfl (cx_lt C0 (by decide)) rfl rfl rfl (Nat.le_of_ble_eq_true rfl) ⟨Nat.le_of_ble_eq_true rfl, Nat.le_of_ble_eq_true rfl⟩ dL_appendText_4 (fun E u H locs ce q hX Z h9 hv9 hc9 => ?_) (fun r u H locs hw Z => ?_)
  · obtain ⟨k, hk, hP⟩ := hX
    obtain ⟨rfl, rfl⟩ := Prod.mk.inj (List.mem_singleton.mp hk)
    refine vx_catch (E := eIS) (name := eIS) (cx_own C0) [] ⟨0, 9, 12, 13⟩ [] (by rw [hT]; rfl) (fun z hz => absurd hz List.not_mem_nil) rfl (by decide) (cx_w C0 tm_3_6) (cx_w2 C0 (.inr (by decide +kernel))) h9 hv9 hc9 ?_
    refine lv_astore_n (lv' := [(3, .ref q), (0, .ref (gad G 0)), (1, .int a1), (2, .ref (gad G 19))]) hx hb dL_appendText_12 rfl hl (by decide) rfl (fun ls hl => ?_)
    refine lv_iconst (v := 1) hx hb dL_appendText_13 (by decide) ?_
    refine z_wide (mc := 1) (ms := 6) (by decide) (by decide) ?_
    exact z_iret C0 Z (Q := HP g B (w_X4_appendText a1)) (.inr ⟨by decide, hP u (fun _ _ _ => rfl)⟩) dL_appendText_14
  · refine lv_i2l (v := r.toInt64) hx hb dL_appendText_7 rfl ?_
    refine z_last C0 Z dL_appendText_8 (fun H locs Z => ?_)
    refine lv_goto (tgt := 15) hx hb dL_appendText_9 (by decide) ?_
    refine lv_iconst (v := 0) hx hb dL_appendText_15 (by decide) ?_
    refine z_wide (mc := 1) (ms := 6) (by decide) (by decide) ?_
    exact z_iret C0 Z (Q := HP g B (w_X4_appendText a1)) (.inl ⟨rfl, r, o19_e, hw _ (Eq9_19 u _)⟩) dL_appendText_16
theorem dL_truncateText_0 : decode cL_truncateText 0 = .ok (.aload_n 2, 1) := by decide +kernel
theorem dL_truncateText_1 : decode cL_truncateText 1 = .ok (.iconst 0, 1) := by decide +kernel
theorem dL_truncateText_2 : decode cL_truncateText 2 = .ok (.aload_n 0, 1) := by decide +kernel
theorem dL_truncateText_3 : decode cL_truncateText 3 = .ok (.iload_n 1, 1) := by decide +kernel
theorem dL_truncateText_4 : decode cL_truncateText 4 = .ok (.invokevirtual 15, 3) := by decide +kernel
theorem dL_truncateText_7 : decode cL_truncateText 7 = .ok (.i2l, 1) := by decide +kernel
theorem dL_truncateText_8 : decode cL_truncateText 8 = .ok (.lastore, 1) := by decide +kernel
theorem dL_truncateText_9 : decode cL_truncateText 9 = .ok (.goto 6, 3) := by decide +kernel
theorem dL_truncateText_12 : decode cL_truncateText 12 = .ok (.astore_n 3, 1) := by decide +kernel
theorem dL_truncateText_13 : decode cL_truncateText 13 = .ok (.iconst 1, 1) := by decide +kernel
theorem dL_truncateText_14 : decode cL_truncateText 14 = .ok (.ireturn, 1) := by decide +kernel
theorem dL_truncateText_15 : decode cL_truncateText 15 = .ok (.iconst 0, 1) := by decide +kernel
theorem dL_truncateText_16 : decode cL_truncateText 16 = .ok (.ireturn, 1) := by decide +kernel
set_option maxRecDepth 100000 in
set_option maxHeartbeats 4000000 in
theorem k_L_truncateText (l : Launch) (hst : l.stackTraces = false) {G : zG} (hg : 129 ≤ gn G) {a1 : Int32} {v : V3} {g : Nat} {B : Int} (hw : w_X3_truncateText a1 v (exI g B (w_X4_truncateText a1) [(eIA, 1)]) (okI g B (w_X4_truncateText a1))) : Mh l yL_truncateText cL_truncateText 4 [(0, 9, 12, 18)] 8 133 1 6 G [.ref (gad G 0), .int a1, .ref (gad G 19)] v (QiZ G (HP g B (w_X4_truncateText a1))) := by
  refine z_hofW hg (by decide) (Nat.le_of_ble_eq_true rfl) ?_
  intro p e s m args below meth c ls C0 hT Z hl
  have hx := C0.1
  have hb := C0.2.1
  replace hl : lv_has ls 4 [(0, .ref (gad G 0)), (1, .int a1), (2, .ref (gad G 19))] := hl
  generalize s.heap = H at Z ⊢
  generalize ([] : List Loc) = locs at Z ⊢
  refine lv_aload_n hx hb dL_truncateText_0 rfl (lv_at hl 2 rfl) ?_
  refine lv_iconst (v := 0) hx hb dL_truncateText_1 (by decide) ?_
  refine lv_aload_n hx hb dL_truncateText_2 rfl (lv_at hl 0 rfl) ?_
  refine lv_iload_n hx hb dL_truncateText_3 rfl (lv_at hl 1 rfl) ?_
  refine z_hcallVi C0 Z hl.1 (As := [.int a1]) (rest := [.int 0, .ref (gad G 19)]) (k_X3_truncateText l hst hg hw) (gv_X3_truncateText tm_3_82) rfl ds_X3_truncateText ⟨Nat.le_of_ble_eq_true rfl, Nat.le_of_ble_eq_true rfl⟩ (ci := 3) rfl (cx_lt C0 (by decide)) rfl rfl rfl (Nat.le_of_ble_eq_true rfl) ⟨Nat.le_of_ble_eq_true rfl, Nat.le_of_ble_eq_true rfl⟩ dL_truncateText_4 (fun E u H locs ce q hX Z h9 hv9 hc9 => ?_) (fun r u H locs hw Z => ?_)
  · obtain ⟨k, hk, hP⟩ := hX
    obtain ⟨rfl, rfl⟩ := Prod.mk.inj (List.mem_singleton.mp hk)
    refine vx_catch (E := eIA) (name := eIA) (cx_own C0) [] ⟨0, 9, 12, 18⟩ [] (by rw [hT]; rfl) (fun z hz => absurd hz List.not_mem_nil) rfl (by decide) (cx_w C0 tm_3_81) (cx_w2 C0 (.inr (by decide +kernel))) h9 hv9 hc9 ?_
    refine lv_astore_n (lv' := [(3, .ref q), (0, .ref (gad G 0)), (1, .int a1), (2, .ref (gad G 19))]) hx hb dL_truncateText_12 rfl hl (by decide) rfl (fun ls hl => ?_)
    refine lv_iconst (v := 1) hx hb dL_truncateText_13 (by decide) ?_
    refine z_wide (mc := 1) (ms := 6) (by decide) (by decide) ?_
    exact z_iret C0 Z (Q := HP g B (w_X4_truncateText a1)) (.inr ⟨by decide, hP u (fun _ _ _ => rfl)⟩) dL_truncateText_14
  · refine lv_i2l (v := r.toInt64) hx hb dL_truncateText_7 rfl ?_
    refine z_last C0 Z dL_truncateText_8 (fun H locs Z => ?_)
    refine lv_goto (tgt := 15) hx hb dL_truncateText_9 (by decide) ?_
    refine lv_iconst (v := 0) hx hb dL_truncateText_15 (by decide) ?_
    refine z_wide (mc := 1) (ms := 6) (by decide) (by decide) ?_
    exact z_iret C0 Z (Q := HP g B (w_X4_truncateText a1)) (.inl ⟨rfl, r, o19_e, hw _ (Eq9_19 u _)⟩) dL_truncateText_16
theorem dL_addOwner_0 : decode cL_addOwner 0 = .ok (.aload_n 2, 1) := by decide +kernel
theorem dL_addOwner_1 : decode cL_addOwner 1 = .ok (.iconst 0, 1) := by decide +kernel
theorem dL_addOwner_2 : decode cL_addOwner 2 = .ok (.aload_n 0, 1) := by decide +kernel
theorem dL_addOwner_3 : decode cL_addOwner 3 = .ok (.iload_n 1, 1) := by decide +kernel
theorem dL_addOwner_4 : decode cL_addOwner 4 = .ok (.invokevirtual 20, 3) := by decide +kernel
theorem dL_addOwner_7 : decode cL_addOwner 7 = .ok (.i2l, 1) := by decide +kernel
theorem dL_addOwner_8 : decode cL_addOwner 8 = .ok (.lastore, 1) := by decide +kernel
theorem dL_addOwner_9 : decode cL_addOwner 9 = .ok (.goto 9, 3) := by decide +kernel
theorem dL_addOwner_12 : decode cL_addOwner 12 = .ok (.astore_n 3, 1) := by decide +kernel
theorem dL_addOwner_13 : decode cL_addOwner 13 = .ok (.iconst 1, 1) := by decide +kernel
theorem dL_addOwner_14 : decode cL_addOwner 14 = .ok (.ireturn, 1) := by decide +kernel
theorem dL_addOwner_15 : decode cL_addOwner 15 = .ok (.astore_n 3, 1) := by decide +kernel
theorem dL_addOwner_16 : decode cL_addOwner 16 = .ok (.iconst 2, 1) := by decide +kernel
theorem dL_addOwner_17 : decode cL_addOwner 17 = .ok (.ireturn, 1) := by decide +kernel
theorem dL_addOwner_18 : decode cL_addOwner 18 = .ok (.iconst 0, 1) := by decide +kernel
theorem dL_addOwner_19 : decode cL_addOwner 19 = .ok (.ireturn, 1) := by decide +kernel
set_option maxRecDepth 100000 in
set_option maxHeartbeats 4000000 in
theorem k_L_addOwner (l : Launch) (hst : l.stackTraces = false) {G : zG} (hg : 129 ≤ gn G) {a1 : Int32} {v : V3} {g : Nat} {B : Int} (hw : w_X3_addOwner a1 v (exI g B (w_X4_addOwner a1) [(eIA, 1), (eIS, 2)]) (okI g B (w_X4_addOwner a1))) : Mh l yL_addOwner cL_addOwner 4 [(0, 9, 12, 18), (0, 9, 15, 13)] 8 133 2 12 G [.ref (gad G 0), .int a1, .ref (gad G 19)] v (QiZ G (HP g B (w_X4_addOwner a1))) := by
  refine z_hofW hg (by decide) (Nat.le_of_ble_eq_true rfl) ?_
  intro p e s m args below meth c ls C0 hT Z hl
  have hx := C0.1
  have hb := C0.2.1
  replace hl : lv_has ls 4 [(0, .ref (gad G 0)), (1, .int a1), (2, .ref (gad G 19))] := hl
  generalize s.heap = H at Z ⊢
  generalize ([] : List Loc) = locs at Z ⊢
  refine lv_aload_n hx hb dL_addOwner_0 rfl (lv_at hl 2 rfl) ?_
  refine lv_iconst (v := 0) hx hb dL_addOwner_1 (by decide) ?_
  refine lv_aload_n hx hb dL_addOwner_2 rfl (lv_at hl 0 rfl) ?_
  refine lv_iload_n hx hb dL_addOwner_3 rfl (lv_at hl 1 rfl) ?_
  refine z_hcallVi C0 Z hl.1 (As := [.int a1]) (rest := [.int 0, .ref (gad G 19)]) (k_X3_addOwner l hst hg hw) (gv_X3_addOwner tm_3_108) rfl ds_X3_addOwner ⟨Nat.le_of_ble_eq_true rfl, Nat.le_of_ble_eq_true rfl⟩ (ci := 3) rfl (cx_lt C0 (by decide)) rfl rfl rfl (Nat.le_of_ble_eq_true rfl) ⟨Nat.le_of_ble_eq_true rfl, Nat.le_of_ble_eq_true rfl⟩ dL_addOwner_4 (fun E u H locs ce q hX Z h9 hv9 hc9 => ?_) (fun r u H locs hw Z => ?_)
  · obtain ⟨k, hk, hP⟩ := hX
    simp only [List.mem_cons, Prod.mk.injEq, List.not_mem_nil, or_false] at hk
    rcases hk with ⟨rfl, rfl⟩ | ⟨rfl, rfl⟩
    · refine vx_catch (E := eIA) (name := eIA) (cx_own C0) [] ⟨0, 9, 12, 18⟩ [⟨0, 9, 15, 13⟩] (by rw [hT]; rfl) (fun z hz => absurd hz List.not_mem_nil) rfl (by decide) (cx_w C0 tm_3_81) (cx_w2 C0 (.inr (by decide +kernel))) h9 hv9 hc9 ?_
      refine lv_astore_n (lv' := [(3, .ref q), (0, .ref (gad G 0)), (1, .int a1), (2, .ref (gad G 19))]) hx hb dL_addOwner_12 rfl hl (by decide) rfl (fun ls hl => ?_)
      refine lv_iconst (v := 1) hx hb dL_addOwner_13 (by decide) ?_
      refine z_wide (mc := 2) (ms := 12) (by decide) (by decide) ?_
      exact z_iret C0 Z (Q := HP g B (w_X4_addOwner a1)) (.inr ⟨by decide, hP u (fun _ _ _ => rfl)⟩) dL_addOwner_14
    · refine vx_catch (E := eIS) (name := eIS) (cx_own C0) [⟨0, 9, 12, 18⟩] ⟨0, 9, 15, 13⟩ [] (by rw [hT]; rfl) (fun z hz => by
      obtain rfl := List.mem_singleton.mp hz
      exact .inr ⟨by decide, eIA, cx_w C0 tm_3_81, (cx_K C0).2.2.2.2.2.2.2.1 (eIS, eIA) (by decide +kernel)⟩) rfl (by decide) (cx_w C0 tm_3_6) (cx_w2 C0 (.inr (by decide +kernel))) h9 hv9 hc9 ?_
      refine lv_astore_n (lv' := [(3, .ref q), (0, .ref (gad G 0)), (1, .int a1), (2, .ref (gad G 19))]) hx hb dL_addOwner_15 rfl hl (by decide) rfl (fun ls hl => ?_)
      refine lv_iconst (v := 2) hx hb dL_addOwner_16 (by decide) ?_
      refine z_wide (mc := 2) (ms := 12) (by decide) (by decide) ?_
      exact z_iret C0 Z (Q := HP g B (w_X4_addOwner a1)) (.inr ⟨by decide, hP u (fun _ _ _ => rfl)⟩) dL_addOwner_17
  · refine lv_i2l (v := r.toInt64) hx hb dL_addOwner_7 rfl ?_
    refine z_last C0 Z dL_addOwner_8 (fun H locs Z => ?_)
    refine lv_goto (tgt := 18) hx hb dL_addOwner_9 (by decide) ?_
    refine lv_iconst (v := 0) hx hb dL_addOwner_18 (by decide) ?_
    refine z_wide (mc := 2) (ms := 12) (by decide) (by decide) ?_
    exact z_iret C0 Z (Q := HP g B (w_X4_addOwner a1)) (.inl ⟨rfl, r, o19_e, hw _ (Eq9_19 u _)⟩) dL_addOwner_19
theorem dL_set_0 : decode cL_set 0 = .ok (.aload_n 3, 1) := by decide +kernel
theorem dL_set_1 : decode cL_set 1 = .ok (.iconst 0, 1) := by decide +kernel
theorem dL_set_2 : decode cL_set 2 = .ok (.aload_n 0, 1) := by decide +kernel
theorem dL_set_3 : decode cL_set 3 = .ok (.iload_n 1, 1) := by decide +kernel
theorem dL_set_4 : decode cL_set 4 = .ok (.iload_n 2, 1) := by decide +kernel
theorem dL_set_5 : decode cL_set 5 = .ok (.invokevirtual 23, 3) := by decide +kernel
theorem dL_set_8 : decode cL_set 8 = .ok (.i2l, 1) := by decide +kernel
theorem dL_set_9 : decode cL_set 9 = .ok (.lastore, 1) := by decide +kernel
theorem dL_set_10 : decode cL_set 10 = .ok (.goto 7, 3) := by decide +kernel
theorem dL_set_13 : decode cL_set 13 = .ok (.astore 4, 2) := by decide +kernel
theorem dL_set_15 : decode cL_set 15 = .ok (.iconst 1, 1) := by decide +kernel
theorem dL_set_16 : decode cL_set 16 = .ok (.ireturn, 1) := by decide +kernel
theorem dL_set_17 : decode cL_set 17 = .ok (.iconst 0, 1) := by decide +kernel
theorem dL_set_18 : decode cL_set 18 = .ok (.ireturn, 1) := by decide +kernel
set_option maxRecDepth 100000 in
set_option maxHeartbeats 4000000 in
theorem k_L_set (l : Launch) (hst : l.stackTraces = false) {G : zG} (hg : 129 ≤ gn G) {a1 a2 : Int32} {v : V3} {g : Nat} {B : Int} (hw : w_X3_set a1 a2 v (exI g B (w_X4_set a1 a2) [(eIA, 1)]) (okI g B (w_X4_set a1 a2))) : Mh l yL_set cL_set 5 [(0, 10, 13, 18)] 8 135 2 12 G [.ref (gad G 0), .int a1, .int a2, .ref (gad G 19)] v (QiZ G (HP g B (w_X4_set a1 a2))) := by
  refine z_hofW hg (by decide) (Nat.le_of_ble_eq_true rfl) ?_
  intro p e s m args below meth c ls C0 hT Z hl
  have hx := C0.1
  have hb := C0.2.1
  replace hl : lv_has ls 5 [(0, .ref (gad G 0)), (1, .int a1), (2, .int a2), (3, .ref (gad G 19))] := hl
  generalize s.heap = H at Z ⊢
  generalize ([] : List Loc) = locs at Z ⊢
  refine lv_aload_n hx hb dL_set_0 rfl (lv_at hl 3 rfl) ?_
  refine lv_iconst (v := 0) hx hb dL_set_1 (by decide) ?_
  refine lv_aload_n hx hb dL_set_2 rfl (lv_at hl 0 rfl) ?_
  refine lv_iload_n hx hb dL_set_3 rfl (lv_at hl 1 rfl) ?_
  refine lv_iload_n hx hb dL_set_4 rfl (lv_at hl 2 rfl) ?_
  refine z_hcallVi C0 Z hl.1 (As := [.int a1, .int a2]) (rest := [.int 0, .ref (gad G 19)]) (k_X3_set l hst hg hw) (gv_X3_set tm_3_117) rfl ds_X3_set ⟨Nat.le_of_ble_eq_true rfl, Nat.le_of_ble_eq_true rfl⟩ (ci := 3) rfl (cx_lt C0 (by decide)) rfl rfl rfl (Nat.le_of_ble_eq_true rfl) ⟨Nat.le_of_ble_eq_true rfl, Nat.le_of_ble_eq_true rfl⟩ dL_set_5 (fun E u H locs ce q hX Z h9 hv9 hc9 => ?_) (fun r u H locs hw Z => ?_)
  · obtain ⟨k, hk, hP⟩ := hX
    obtain ⟨rfl, rfl⟩ := Prod.mk.inj (List.mem_singleton.mp hk)
    refine vx_catch (E := eIA) (name := eIA) (cx_own C0) [] ⟨0, 10, 13, 18⟩ [] (by rw [hT]; rfl) (fun z hz => absurd hz List.not_mem_nil) rfl (by decide) (cx_w C0 tm_3_81) (cx_w2 C0 (.inr (by decide +kernel))) h9 hv9 hc9 ?_
    refine lv_astore (lv' := [(4, .ref q), (0, .ref (gad G 0)), (1, .int a1), (2, .int a2), (3, .ref (gad G 19))]) hx hb dL_set_13 hl (by decide) rfl (fun ls hl => ?_)
    refine lv_iconst (v := 1) hx hb dL_set_15 (by decide) ?_
    refine z_wide (mc := 2) (ms := 12) (by decide) (by decide) ?_
    exact z_iret C0 Z (Q := HP g B (w_X4_set a1 a2)) (.inr ⟨by decide, hP u (fun _ _ _ => rfl)⟩) dL_set_16
  · refine lv_i2l (v := r.toInt64) hx hb dL_set_8 rfl ?_
    refine z_last C0 Z dL_set_9 (fun H locs Z => ?_)
    refine lv_goto (tgt := 17) hx hb dL_set_10 (by decide) ?_
    refine lv_iconst (v := 0) hx hb dL_set_17 (by decide) ?_
    refine z_wide (mc := 2) (ms := 12) (by decide) (by decide) ?_
    exact z_iret C0 Z (Q := HP g B (w_X4_set a1 a2)) (.inl ⟨rfl, r, o19_e, hw _ (Eq9_19 u _)⟩) dL_set_18
theorem dL_count_0 : decode cL_count 0 = .ok (.aload_n 2, 1) := by decide +kernel
theorem dL_count_1 : decode cL_count 1 = .ok (.iconst 0, 1) := by decide +kernel
theorem dL_count_2 : decode cL_count 2 = .ok (.aload_n 0, 1) := by decide +kernel
theorem dL_count_3 : decode cL_count 3 = .ok (.iload_n 1, 1) := by decide +kernel
theorem dL_count_4 : decode cL_count 4 = .ok (.invokevirtual 27, 3) := by decide +kernel
theorem dL_count_7 : decode cL_count 7 = .ok (.i2l, 1) := by decide +kernel
theorem dL_count_8 : decode cL_count 8 = .ok (.lastore, 1) := by decide +kernel
theorem dL_count_9 : decode cL_count 9 = .ok (.goto 6, 3) := by decide +kernel
theorem dL_count_12 : decode cL_count 12 = .ok (.astore_n 3, 1) := by decide +kernel
theorem dL_count_13 : decode cL_count 13 = .ok (.iconst 1, 1) := by decide +kernel
theorem dL_count_14 : decode cL_count 14 = .ok (.ireturn, 1) := by decide +kernel
theorem dL_count_15 : decode cL_count 15 = .ok (.iconst 0, 1) := by decide +kernel
theorem dL_count_16 : decode cL_count 16 = .ok (.ireturn, 1) := by decide +kernel
set_option maxRecDepth 100000 in
set_option maxHeartbeats 4000000 in
theorem k_L_count (l : Launch) (hst : l.stackTraces = false) {G : zG} (hg : 129 ≤ gn G) {a1 : Int32} {v : V3} {g : Nat} {B : Int} (hw : w_X3_count a1 v (exI g B (w_X4_count a1) [(eIA, 1)]) (okI g B (w_X4_count a1))) : Mh l yL_count cL_count 4 [(0, 9, 12, 18)] 8 133 1 6 G [.ref (gad G 0), .int a1, .ref (gad G 19)] v (QiZ G (HP g B (w_X4_count a1))) := by
  refine z_hofW hg (by decide) (Nat.le_of_ble_eq_true rfl) ?_
  intro p e s m args below meth c ls C0 hT Z hl
  have hx := C0.1
  have hb := C0.2.1
  replace hl : lv_has ls 4 [(0, .ref (gad G 0)), (1, .int a1), (2, .ref (gad G 19))] := hl
  generalize s.heap = H at Z ⊢
  generalize ([] : List Loc) = locs at Z ⊢
  refine lv_aload_n hx hb dL_count_0 rfl (lv_at hl 2 rfl) ?_
  refine lv_iconst (v := 0) hx hb dL_count_1 (by decide) ?_
  refine lv_aload_n hx hb dL_count_2 rfl (lv_at hl 0 rfl) ?_
  refine lv_iload_n hx hb dL_count_3 rfl (lv_at hl 1 rfl) ?_
  refine z_hcallVi C0 Z hl.1 (As := [.int a1]) (rest := [.int 0, .ref (gad G 19)]) (k_X3_count l hst hg hw) (gv_X3_count tm_3_126) rfl ds_X3_count ⟨Nat.le_of_ble_eq_true rfl, Nat.le_of_ble_eq_true rfl⟩ (ci := 3) rfl (cx_lt C0 (by decide)) rfl rfl rfl (Nat.le_of_ble_eq_true rfl) ⟨Nat.le_of_ble_eq_true rfl, Nat.le_of_ble_eq_true rfl⟩ dL_count_4 (fun E u H locs ce q hX Z h9 hv9 hc9 => ?_) (fun r u H locs hw Z => ?_)
  · obtain ⟨k, hk, hP⟩ := hX
    obtain ⟨rfl, rfl⟩ := Prod.mk.inj (List.mem_singleton.mp hk)
    refine vx_catch (E := eIA) (name := eIA) (cx_own C0) [] ⟨0, 9, 12, 18⟩ [] (by rw [hT]; rfl) (fun z hz => absurd hz List.not_mem_nil) rfl (by decide) (cx_w C0 tm_3_81) (cx_w2 C0 (.inr (by decide +kernel))) h9 hv9 hc9 ?_
    refine lv_astore_n (lv' := [(3, .ref q), (0, .ref (gad G 0)), (1, .int a1), (2, .ref (gad G 19))]) hx hb dL_count_12 rfl hl (by decide) rfl (fun ls hl => ?_)
    refine lv_iconst (v := 1) hx hb dL_count_13 (by decide) ?_
    refine z_wide (mc := 1) (ms := 6) (by decide) (by decide) ?_
    exact z_iret C0 Z (Q := HP g B (w_X4_count a1)) (.inr ⟨by decide, hP u (fun _ _ _ => rfl)⟩) dL_count_14
  · refine lv_i2l (v := r.toInt64) hx hb dL_count_7 rfl ?_
    refine z_last C0 Z dL_count_8 (fun H locs Z => ?_)
    refine lv_goto (tgt := 15) hx hb dL_count_9 (by decide) ?_
    refine lv_iconst (v := 0) hx hb dL_count_15 (by decide) ?_
    refine z_wide (mc := 1) (ms := 6) (by decide) (by decide) ?_
    exact z_iret C0 Z (Q := HP g B (w_X4_count a1)) (.inl ⟨rfl, r, o19_e, hw _ (Eq9_19 u _)⟩) dL_count_16
theorem dL_owner_0 : decode cL_owner 0 = .ok (.aload_n 3, 1) := by decide +kernel
theorem dL_owner_1 : decode cL_owner 1 = .ok (.iconst 0, 1) := by decide +kernel
theorem dL_owner_2 : decode cL_owner 2 = .ok (.aload_n 0, 1) := by decide +kernel
theorem dL_owner_3 : decode cL_owner 3 = .ok (.iload_n 1, 1) := by decide +kernel
theorem dL_owner_4 : decode cL_owner 4 = .ok (.iload_n 2, 1) := by decide +kernel
theorem dL_owner_5 : decode cL_owner 5 = .ok (.invokevirtual 30, 3) := by decide +kernel
theorem dL_owner_8 : decode cL_owner 8 = .ok (.i2l, 1) := by decide +kernel
theorem dL_owner_9 : decode cL_owner 9 = .ok (.lastore, 1) := by decide +kernel
theorem dL_owner_10 : decode cL_owner 10 = .ok (.goto 11, 3) := by decide +kernel
theorem dL_owner_13 : decode cL_owner 13 = .ok (.astore 4, 2) := by decide +kernel
theorem dL_owner_15 : decode cL_owner 15 = .ok (.iconst 1, 1) := by decide +kernel
theorem dL_owner_16 : decode cL_owner 16 = .ok (.ireturn, 1) := by decide +kernel
theorem dL_owner_17 : decode cL_owner 17 = .ok (.astore 4, 2) := by decide +kernel
theorem dL_owner_19 : decode cL_owner 19 = .ok (.iconst 2, 1) := by decide +kernel
theorem dL_owner_20 : decode cL_owner 20 = .ok (.ireturn, 1) := by decide +kernel
theorem dL_owner_21 : decode cL_owner 21 = .ok (.iconst 0, 1) := by decide +kernel
theorem dL_owner_22 : decode cL_owner 22 = .ok (.ireturn, 1) := by decide +kernel
set_option maxRecDepth 100000 in
set_option maxHeartbeats 4000000 in
theorem k_L_owner (l : Launch) (hst : l.stackTraces = false) {G : zG} (hg : 129 ≤ gn G) {a1 a2 : Int32} {v : V3} {g : Nat} {B : Int} (hw : w_X3_owner a1 a2 v (exI g B (w_X4_owner a1 a2) [(eIO, 1), (eIA, 2)]) (okI g B (w_X4_owner a1 a2))) : Mh l yL_owner cL_owner 5 [(0, 10, 13, 33), (0, 10, 17, 18)] 8 134 2 12 G [.ref (gad G 0), .int a1, .int a2, .ref (gad G 19)] v (QiZ G (HP g B (w_X4_owner a1 a2))) := by
  refine z_hofW hg (by decide) (Nat.le_of_ble_eq_true rfl) ?_
  intro p e s m args below meth c ls C0 hT Z hl
  have hx := C0.1
  have hb := C0.2.1
  replace hl : lv_has ls 5 [(0, .ref (gad G 0)), (1, .int a1), (2, .int a2), (3, .ref (gad G 19))] := hl
  generalize s.heap = H at Z ⊢
  generalize ([] : List Loc) = locs at Z ⊢
  refine lv_aload_n hx hb dL_owner_0 rfl (lv_at hl 3 rfl) ?_
  refine lv_iconst (v := 0) hx hb dL_owner_1 (by decide) ?_
  refine lv_aload_n hx hb dL_owner_2 rfl (lv_at hl 0 rfl) ?_
  refine lv_iload_n hx hb dL_owner_3 rfl (lv_at hl 1 rfl) ?_
  refine lv_iload_n hx hb dL_owner_4 rfl (lv_at hl 2 rfl) ?_
  refine z_hcallVi C0 Z hl.1 (As := [.int a1, .int a2]) (rest := [.int 0, .ref (gad G 19)]) (k_X3_owner l hst hg hw) (gv_X3_owner tm_3_143) rfl ds_X3_owner ⟨Nat.le_of_ble_eq_true rfl, Nat.le_of_ble_eq_true rfl⟩ (ci := 3) rfl (cx_lt C0 (by decide)) rfl rfl rfl (Nat.le_of_ble_eq_true rfl) ⟨Nat.le_of_ble_eq_true rfl, Nat.le_of_ble_eq_true rfl⟩ dL_owner_5 (fun E u H locs ce q hX Z h9 hv9 hc9 => ?_) (fun r u H locs hw Z => ?_)
  · obtain ⟨k, hk, hP⟩ := hX
    simp only [List.mem_cons, Prod.mk.injEq, List.not_mem_nil, or_false] at hk
    rcases hk with ⟨rfl, rfl⟩ | ⟨rfl, rfl⟩
    · refine vx_catch (E := eIO) (name := eIO) (cx_own C0) [] ⟨0, 10, 13, 33⟩ [⟨0, 10, 17, 18⟩] (by rw [hT]; rfl) (fun z hz => absurd hz List.not_mem_nil) rfl (by decide) (cx_w C0 tm_3_142) (cx_w2 C0 (.inr (by decide +kernel))) h9 hv9 hc9 ?_
      refine lv_astore (lv' := [(4, .ref q), (0, .ref (gad G 0)), (1, .int a1), (2, .int a2), (3, .ref (gad G 19))]) hx hb dL_owner_13 hl (by decide) rfl (fun ls hl => ?_)
      refine lv_iconst (v := 1) hx hb dL_owner_15 (by decide) ?_
      refine z_wide (mc := 2) (ms := 12) (by decide) (by decide) ?_
      exact z_iret C0 Z (Q := HP g B (w_X4_owner a1 a2)) (.inr ⟨by decide, hP u (fun _ _ _ => rfl)⟩) dL_owner_16
    · refine vx_catch (E := eIA) (name := eIA) (cx_own C0) [⟨0, 10, 13, 33⟩] ⟨0, 10, 17, 18⟩ [] (by rw [hT]; rfl) (fun z hz => by
      obtain rfl := List.mem_singleton.mp hz
      exact .inr ⟨by decide, eIO, cx_w C0 tm_3_142, (cx_K C0).2.2.2.2.2.2.2.1 (eIA, eIO) (by decide +kernel)⟩) rfl (by decide) (cx_w C0 tm_3_81) (cx_w2 C0 (.inr (by decide +kernel))) h9 hv9 hc9 ?_
      refine lv_astore (lv' := [(4, .ref q), (0, .ref (gad G 0)), (1, .int a1), (2, .int a2), (3, .ref (gad G 19))]) hx hb dL_owner_17 hl (by decide) rfl (fun ls hl => ?_)
      refine lv_iconst (v := 2) hx hb dL_owner_19 (by decide) ?_
      refine z_wide (mc := 2) (ms := 12) (by decide) (by decide) ?_
      exact z_iret C0 Z (Q := HP g B (w_X4_owner a1 a2)) (.inr ⟨by decide, hP u (fun _ _ _ => rfl)⟩) dL_owner_20
  · refine lv_i2l (v := r.toInt64) hx hb dL_owner_8 rfl ?_
    refine z_last C0 Z dL_owner_9 (fun H locs Z => ?_)
    refine lv_goto (tgt := 21) hx hb dL_owner_10 (by decide) ?_
    refine lv_iconst (v := 0) hx hb dL_owner_21 (by decide) ?_
    refine z_wide (mc := 2) (ms := 12) (by decide) (by decide) ?_
    exact z_iret C0 Z (Q := HP g B (w_X4_owner a1 a2)) (.inl ⟨rfl, r, o19_e, hw _ (Eq9_19 u _)⟩) dL_owner_22
theorem dL_trust_0 : decode cL_trust 0 = .ok (.aload_n 2, 1) := by decide +kernel
theorem dL_trust_1 : decode cL_trust 1 = .ok (.iconst 0, 1) := by decide +kernel
theorem dL_trust_2 : decode cL_trust 2 = .ok (.aload_n 0, 1) := by decide +kernel
theorem dL_trust_3 : decode cL_trust 3 = .ok (.iload_n 1, 1) := by decide +kernel
theorem dL_trust_4 : decode cL_trust 4 = .ok (.invokevirtual 35, 3) := by decide +kernel
theorem dL_trust_7 : decode cL_trust 7 = .ok (.dastore, 1) := by decide +kernel
theorem dL_trust_8 : decode cL_trust 8 = .ok (.goto 6, 3) := by decide +kernel
theorem dL_trust_11 : decode cL_trust 11 = .ok (.astore_n 3, 1) := by decide +kernel
theorem dL_trust_12 : decode cL_trust 12 = .ok (.iconst 1, 1) := by decide +kernel
theorem dL_trust_13 : decode cL_trust 13 = .ok (.ireturn, 1) := by decide +kernel
theorem dL_trust_14 : decode cL_trust 14 = .ok (.iconst 0, 1) := by decide +kernel
theorem dL_trust_15 : decode cL_trust 15 = .ok (.ireturn, 1) := by decide +kernel
set_option maxRecDepth 100000 in
set_option maxHeartbeats 4000000 in
theorem k_L_trust (l : Launch) (hst : l.stackTraces = false) {G : zG} (hg : 129 ≤ gn G) {a1 : Int32} {v : V3} {g : Nat} {B : Int} (hw : w_X3_trust a1 v (exI g B (w_X4_trust a1) [(eIO, 1)]) (okD g B (w_X4_trust a1))) : Mh l yL_trust cL_trust 4 [(0, 8, 11, 33)] 8 134 1 6 G [.ref (gad G 0), .int a1, .ref (gad G 20)] v (QiZ G (HPd g B (w_X4_trust a1))) := by
  refine z_hofW hg (by decide) (Nat.le_of_ble_eq_true rfl) ?_
  intro p e s m args below meth c ls C0 hT Z hl
  have hx := C0.1
  have hb := C0.2.1
  replace hl : lv_has ls 4 [(0, .ref (gad G 0)), (1, .int a1), (2, .ref (gad G 20))] := hl
  generalize s.heap = H at Z ⊢
  generalize ([] : List Loc) = locs at Z ⊢
  refine lv_aload_n hx hb dL_trust_0 rfl (lv_at hl 2 rfl) ?_
  refine lv_iconst (v := 0) hx hb dL_trust_1 (by decide) ?_
  refine lv_aload_n hx hb dL_trust_2 rfl (lv_at hl 0 rfl) ?_
  refine lv_iload_n hx hb dL_trust_3 rfl (lv_at hl 1 rfl) ?_
  refine z_hcallVd C0 Z hl.1 (As := [.int a1]) (rest := [.int 0, .ref (gad G 20)]) (k_X3_trust l hst hg hw) (gv_X3_trust tm_3_184) rfl ds_X3_trust ⟨Nat.le_of_ble_eq_true rfl, Nat.le_of_ble_eq_true rfl⟩ (ci := 3) rfl (cx_lt C0 (by decide)) rfl rfl rfl (Nat.le_of_ble_eq_true rfl) ⟨Nat.le_of_ble_eq_true rfl, Nat.le_of_ble_eq_true rfl⟩ dL_trust_4 (fun E u H locs ce q hX Z h9 hv9 hc9 => ?_) (fun r u H locs hw Z => ?_)
  · obtain ⟨k, hk, hP⟩ := hX
    obtain ⟨rfl, rfl⟩ := Prod.mk.inj (List.mem_singleton.mp hk)
    refine vx_catch (E := eIO) (name := eIO) (cx_own C0) [] ⟨0, 8, 11, 33⟩ [] (by rw [hT]; rfl) (fun z hz => absurd hz List.not_mem_nil) rfl (by decide) (cx_w C0 tm_3_142) (cx_w2 C0 (.inr (by decide +kernel))) h9 hv9 hc9 ?_
    refine lv_astore_n (lv' := [(3, .ref q), (0, .ref (gad G 0)), (1, .int a1), (2, .ref (gad G 20))]) hx hb dL_trust_11 rfl hl (by decide) rfl (fun ls hl => ?_)
    refine lv_iconst (v := 1) hx hb dL_trust_12 (by decide) ?_
    refine z_wide (mc := 1) (ms := 6) (by decide) (by decide) ?_
    exact z_iret C0 Z (Q := HPd g B (w_X4_trust a1)) (.inr ⟨by decide, hP u (fun _ _ _ => rfl)⟩) dL_trust_13
  · refine z_dast C0 Z dL_trust_7 (fun H locs Z => ?_)
    refine lv_goto (tgt := 14) hx hb dL_trust_8 (by decide) ?_
    refine lv_iconst (v := 0) hx hb dL_trust_14 (by decide) ?_
    refine z_wide (mc := 1) (ms := 6) (by decide) (by decide) ?_
    exact z_iret C0 Z (Q := HPd g B (w_X4_trust a1)) (.inl ⟨rfl, r, o20_e, hw _ (Eq9_20 u _)⟩) dL_trust_15
theorem dL_forgive_0 : decode cL_forgive 0 = .ok (.aload_n 2, 1) := by decide +kernel
theorem dL_forgive_1 : decode cL_forgive 1 = .ok (.iconst 0, 1) := by decide +kernel
theorem dL_forgive_2 : decode cL_forgive 2 = .ok (.aload_n 0, 1) := by decide +kernel
theorem dL_forgive_3 : decode cL_forgive 3 = .ok (.iload_n 1, 1) := by decide +kernel
theorem dL_forgive_4 : decode cL_forgive 4 = .ok (.invokevirtual 39, 3) := by decide +kernel
theorem dL_forgive_7 : decode cL_forgive 7 = .ok (.i2l, 1) := by decide +kernel
theorem dL_forgive_8 : decode cL_forgive 8 = .ok (.lastore, 1) := by decide +kernel
theorem dL_forgive_9 : decode cL_forgive 9 = .ok (.goto 6, 3) := by decide +kernel
theorem dL_forgive_12 : decode cL_forgive 12 = .ok (.astore_n 3, 1) := by decide +kernel
theorem dL_forgive_13 : decode cL_forgive 13 = .ok (.iconst 1, 1) := by decide +kernel
theorem dL_forgive_14 : decode cL_forgive 14 = .ok (.ireturn, 1) := by decide +kernel
theorem dL_forgive_15 : decode cL_forgive 15 = .ok (.iconst 0, 1) := by decide +kernel
theorem dL_forgive_16 : decode cL_forgive 16 = .ok (.ireturn, 1) := by decide +kernel
set_option maxRecDepth 100000 in
set_option maxHeartbeats 4000000 in
theorem k_L_forgive (l : Launch) (hst : l.stackTraces = false) {G : zG} (hg : 129 ≤ gn G) {a1 : Int32} {v : V3} {g : Nat} {B : Int} (hw : w_X3_forgive a1 v (exI g B (w_X4_forgive a1) [(eIO, 1)]) (okI g B (w_X4_forgive a1))) : Mh l yL_forgive cL_forgive 4 [(0, 9, 12, 33)] 8 133 1 6 G [.ref (gad G 0), .int a1, .ref (gad G 19)] v (QiZ G (HP g B (w_X4_forgive a1))) := by
  refine z_hofW hg (by decide) (Nat.le_of_ble_eq_true rfl) ?_
  intro p e s m args below meth c ls C0 hT Z hl
  have hx := C0.1
  have hb := C0.2.1
  replace hl : lv_has ls 4 [(0, .ref (gad G 0)), (1, .int a1), (2, .ref (gad G 19))] := hl
  generalize s.heap = H at Z ⊢
  generalize ([] : List Loc) = locs at Z ⊢
  refine lv_aload_n hx hb dL_forgive_0 rfl (lv_at hl 2 rfl) ?_
  refine lv_iconst (v := 0) hx hb dL_forgive_1 (by decide) ?_
  refine lv_aload_n hx hb dL_forgive_2 rfl (lv_at hl 0 rfl) ?_
  refine lv_iload_n hx hb dL_forgive_3 rfl (lv_at hl 1 rfl) ?_
  refine z_hcallVi C0 Z hl.1 (As := [.int a1]) (rest := [.int 0, .ref (gad G 19)]) (k_X3_forgive l hst hg hw) (gv_X3_forgive tm_3_192) rfl ds_X3_forgive ⟨Nat.le_of_ble_eq_true rfl, Nat.le_of_ble_eq_true rfl⟩ (ci := 3) rfl (cx_lt C0 (by decide)) rfl rfl rfl (Nat.le_of_ble_eq_true rfl) ⟨Nat.le_of_ble_eq_true rfl, Nat.le_of_ble_eq_true rfl⟩ dL_forgive_4 (fun E u H locs ce q hX Z h9 hv9 hc9 => ?_) (fun r u H locs hw Z => ?_)
  · obtain ⟨k, hk, hP⟩ := hX
    obtain ⟨rfl, rfl⟩ := Prod.mk.inj (List.mem_singleton.mp hk)
    refine vx_catch (E := eIO) (name := eIO) (cx_own C0) [] ⟨0, 9, 12, 33⟩ [] (by rw [hT]; rfl) (fun z hz => absurd hz List.not_mem_nil) rfl (by decide) (cx_w C0 tm_3_142) (cx_w2 C0 (.inr (by decide +kernel))) h9 hv9 hc9 ?_
    refine lv_astore_n (lv' := [(3, .ref q), (0, .ref (gad G 0)), (1, .int a1), (2, .ref (gad G 19))]) hx hb dL_forgive_12 rfl hl (by decide) rfl (fun ls hl => ?_)
    refine lv_iconst (v := 1) hx hb dL_forgive_13 (by decide) ?_
    refine z_wide (mc := 1) (ms := 6) (by decide) (by decide) ?_
    exact z_iret C0 Z (Q := HP g B (w_X4_forgive a1)) (.inr ⟨by decide, hP u (fun _ _ _ => rfl)⟩) dL_forgive_14
  · refine lv_i2l (v := r.toInt64) hx hb dL_forgive_7 rfl ?_
    refine z_last C0 Z dL_forgive_8 (fun H locs Z => ?_)
    refine lv_goto (tgt := 15) hx hb dL_forgive_9 (by decide) ?_
    refine lv_iconst (v := 0) hx hb dL_forgive_15 (by decide) ?_
    refine z_wide (mc := 1) (ms := 6) (by decide) (by decide) ?_
    exact z_iret C0 Z (Q := HP g B (w_X4_forgive a1)) (.inl ⟨rfl, r, o19_e, hw _ (Eq9_19 u _)⟩) dL_forgive_16
theorem dL_draft_0 : decode cL_draft 0 = .ok (.aload_n 0, 1) := by decide +kernel
theorem dL_draft_1 : decode cL_draft 1 = .ok (.iload_n 1, 1) := by decide +kernel
theorem dL_draft_2 : decode cL_draft 2 = .ok (.iload_n 2, 1) := by decide +kernel
theorem dL_draft_3 : decode cL_draft 3 = .ok (.iload_n 3, 1) := by decide +kernel
theorem dL_draft_4 : decode cL_draft 4 = .ok (.invokevirtual 42, 3) := by decide +kernel
theorem dL_draft_7 : decode cL_draft 7 = .ok (.goto 11, 3) := by decide +kernel
theorem dL_draft_10 : decode cL_draft 10 = .ok (.astore 4, 2) := by decide +kernel
theorem dL_draft_12 : decode cL_draft 12 = .ok (.iconst 1, 1) := by decide +kernel
theorem dL_draft_13 : decode cL_draft 13 = .ok (.ireturn, 1) := by decide +kernel
theorem dL_draft_14 : decode cL_draft 14 = .ok (.astore 4, 2) := by decide +kernel
theorem dL_draft_16 : decode cL_draft 16 = .ok (.iconst 2, 1) := by decide +kernel
theorem dL_draft_17 : decode cL_draft 17 = .ok (.ireturn, 1) := by decide +kernel
theorem dL_draft_18 : decode cL_draft 18 = .ok (.iconst 0, 1) := by decide +kernel
theorem dL_draft_19 : decode cL_draft 19 = .ok (.ireturn, 1) := by decide +kernel
set_option maxRecDepth 100000 in
set_option maxHeartbeats 4000000 in
theorem k_L_draft (l : Launch) (hst : l.stackTraces = false) {G : zG} (hg : 129 ≤ gn G) {a1 a2 a3 : Int32} {v : V3} {g : Nat} {B : Int} (hw : w_X3_draft a1 a2 a3 v (exV g B (w_X4_draft a1 a2 a3) [(eIO, 1), (eIA, 2)]) (okV g B (w_X4_draft a1 a2 a3))) : Mh l yL_draft cL_draft 5 [(0, 7, 10, 33), (0, 7, 14, 18)] 9 156 3 18 G [.ref (gad G 0), .int a1, .int a2, .int a3] v (QiZ G (HPv g B (w_X4_draft a1 a2 a3))) := by
  refine z_hofW hg (by decide) (Nat.le_of_ble_eq_true rfl) ?_
  intro p e s m args below meth c ls C0 hT Z hl
  have hx := C0.1
  have hb := C0.2.1
  replace hl : lv_has ls 5 [(0, .ref (gad G 0)), (1, .int a1), (2, .int a2), (3, .int a3)] := hl
  generalize s.heap = H at Z ⊢
  generalize ([] : List Loc) = locs at Z ⊢
  refine lv_aload_n hx hb dL_draft_0 rfl (lv_at hl 0 rfl) ?_
  refine lv_iload_n hx hb dL_draft_1 rfl (lv_at hl 1 rfl) ?_
  refine lv_iload_n hx hb dL_draft_2 rfl (lv_at hl 2 rfl) ?_
  refine lv_iload_n hx hb dL_draft_3 rfl (lv_at hl 3 rfl) ?_
  refine z_hcallVv C0 Z hl.1 (As := [.int a1, .int a2, .int a3]) (rest := []) (k_X3_draft l hst hg hw) (gv_X3_draft tm_3_199) rfl ds_X3_draft ⟨Nat.le_of_ble_eq_true rfl, Nat.le_of_ble_eq_true rfl⟩ (ci := 3) rfl (cx_lt C0 (by decide)) rfl rfl rfl (Nat.le_of_ble_eq_true rfl) ⟨Nat.le_of_ble_eq_true rfl, Nat.le_of_ble_eq_true rfl⟩ dL_draft_4 (fun E u H locs ce q hX Z h9 hv9 hc9 => ?_) (fun u H locs hw Z => ?_)
  · obtain ⟨k, hk, hP⟩ := hX
    simp only [List.mem_cons, Prod.mk.injEq, List.not_mem_nil, or_false] at hk
    rcases hk with ⟨rfl, rfl⟩ | ⟨rfl, rfl⟩
    · refine vx_catch (E := eIO) (name := eIO) (cx_own C0) [] ⟨0, 7, 10, 33⟩ [⟨0, 7, 14, 18⟩] (by rw [hT]; rfl) (fun z hz => absurd hz List.not_mem_nil) rfl (by decide) (cx_w C0 tm_3_142) (cx_w2 C0 (.inr (by decide +kernel))) h9 hv9 hc9 ?_
      refine lv_astore (lv' := [(4, .ref q), (0, .ref (gad G 0)), (1, .int a1), (2, .int a2), (3, .int a3)]) hx hb dL_draft_10 hl (by decide) rfl (fun ls hl => ?_)
      refine lv_iconst (v := 1) hx hb dL_draft_12 (by decide) ?_
      refine z_wide (mc := 3) (ms := 18) (by decide) (by decide) ?_
      exact z_iret C0 Z (Q := HPv g B (w_X4_draft a1 a2 a3)) (.inr ⟨by decide, hP u (fun _ _ _ => rfl)⟩) dL_draft_13
    · refine vx_catch (E := eIA) (name := eIA) (cx_own C0) [⟨0, 7, 10, 33⟩] ⟨0, 7, 14, 18⟩ [] (by rw [hT]; rfl) (fun z hz => by
      obtain rfl := List.mem_singleton.mp hz
      exact .inr ⟨by decide, eIO, cx_w C0 tm_3_142, (cx_K C0).2.2.2.2.2.2.2.1 (eIA, eIO) (by decide +kernel)⟩) rfl (by decide) (cx_w C0 tm_3_81) (cx_w2 C0 (.inr (by decide +kernel))) h9 hv9 hc9 ?_
      refine lv_astore (lv' := [(4, .ref q), (0, .ref (gad G 0)), (1, .int a1), (2, .int a2), (3, .int a3)]) hx hb dL_draft_14 hl (by decide) rfl (fun ls hl => ?_)
      refine lv_iconst (v := 2) hx hb dL_draft_16 (by decide) ?_
      refine z_wide (mc := 3) (ms := 18) (by decide) (by decide) ?_
      exact z_iret C0 Z (Q := HPv g B (w_X4_draft a1 a2 a3)) (.inr ⟨by decide, hP u (fun _ _ _ => rfl)⟩) dL_draft_17
  · refine lv_goto (tgt := 18) hx hb dL_draft_7 (by decide) ?_
    refine lv_iconst (v := 0) hx hb dL_draft_18 (by decide) ?_
    refine z_wide (mc := 3) (ms := 18) (by decide) (by decide) ?_
    exact z_iret C0 Z (Q := HPv g B (w_X4_draft a1 a2 a3)) (.inl ⟨rfl, hw u (fun _ _ _ => rfl)⟩) dL_draft_19
theorem dL_book_0 : decode cL_book 0 = .ok (.aload 5, 2) := by decide +kernel
theorem dL_book_2 : decode cL_book 2 = .ok (.iconst 0, 1) := by decide +kernel
theorem dL_book_3 : decode cL_book 3 = .ok (.aload_n 0, 1) := by decide +kernel
theorem dL_book_4 : decode cL_book 4 = .ok (.iload_n 1, 1) := by decide +kernel
theorem dL_book_5 : decode cL_book 5 = .ok (.iload_n 2, 1) := by decide +kernel
theorem dL_book_6 : decode cL_book 6 = .ok (.iload_n 3, 1) := by decide +kernel
theorem dL_book_7 : decode cL_book 7 = .ok (.iload 4, 2) := by decide +kernel
theorem dL_book_9 : decode cL_book 9 = .ok (.invokevirtual 46, 3) := by decide +kernel
theorem dL_book_12 : decode cL_book 12 = .ok (.i2l, 1) := by decide +kernel
theorem dL_book_13 : decode cL_book 13 = .ok (.lastore, 1) := by decide +kernel
theorem dL_book_14 : decode cL_book 14 = .ok (.goto 15, 3) := by decide +kernel
theorem dL_book_17 : decode cL_book 17 = .ok (.astore 6, 2) := by decide +kernel
theorem dL_book_19 : decode cL_book 19 = .ok (.iconst 1, 1) := by decide +kernel
theorem dL_book_20 : decode cL_book 20 = .ok (.ireturn, 1) := by decide +kernel
theorem dL_book_21 : decode cL_book 21 = .ok (.astore 6, 2) := by decide +kernel
theorem dL_book_23 : decode cL_book 23 = .ok (.iconst 2, 1) := by decide +kernel
theorem dL_book_24 : decode cL_book 24 = .ok (.ireturn, 1) := by decide +kernel
theorem dL_book_25 : decode cL_book 25 = .ok (.astore 6, 2) := by decide +kernel
theorem dL_book_27 : decode cL_book 27 = .ok (.iconst 3, 1) := by decide +kernel
theorem dL_book_28 : decode cL_book 28 = .ok (.ireturn, 1) := by decide +kernel
theorem dL_book_29 : decode cL_book 29 = .ok (.iconst 0, 1) := by decide +kernel
theorem dL_book_30 : decode cL_book 30 = .ok (.ireturn, 1) := by decide +kernel
set_option maxRecDepth 100000 in
set_option maxHeartbeats 4000000 in
theorem k_L_book (l : Launch) (hst : l.stackTraces = false) {G : zG} (hg : 129 ≤ gn G) {a1 a2 a3 a4 : Int32} {v : V3} {g : Nat} {B : Int} (hw : w_X3_book a1 a2 a3 a4 v (exI g B (w_X4_book a1 a2 a3 a4) [(eIO, 1), (eIA, 2), (eIS, 3)]) (okI g B (w_X4_book a1 a2 a3 a4))) : Mh l yL_book cL_book 7 [(0, 14, 17, 33), (0, 14, 21, 18), (0, 14, 25, 13)] 8 136 5 30 G [.ref (gad G 0), .int a1, .int a2, .int a3, .int a4, .ref (gad G 19)] v (QiZ G (HP g B (w_X4_book a1 a2 a3 a4))) := by
  refine z_hofW hg (by decide) (Nat.le_of_ble_eq_true rfl) ?_
  intro p e s m args below meth c ls C0 hT Z hl
  have hx := C0.1
  have hb := C0.2.1
  replace hl : lv_has ls 7 [(0, .ref (gad G 0)), (1, .int a1), (2, .int a2), (3, .int a3), (4, .int a4), (5, .ref (gad G 19))] := hl
  generalize s.heap = H at Z ⊢
  generalize ([] : List Loc) = locs at Z ⊢
  refine lv_aload hx hb dL_book_0 (lv_at hl 5 rfl) ?_
  refine lv_iconst (v := 0) hx hb dL_book_2 (by decide) ?_
  refine lv_aload_n hx hb dL_book_3 rfl (lv_at hl 0 rfl) ?_
  refine lv_iload_n hx hb dL_book_4 rfl (lv_at hl 1 rfl) ?_
  refine lv_iload_n hx hb dL_book_5 rfl (lv_at hl 2 rfl) ?_
  refine lv_iload_n hx hb dL_book_6 rfl (lv_at hl 3 rfl) ?_
  refine lv_iload hx hb dL_book_7 (lv_at hl 4 rfl) ?_
  refine z_hcallVi C0 Z hl.1 (As := [.int a1, .int a2, .int a3, .int a4]) (rest := [.int 0, .ref (gad G 19)]) (k_X3_book l hst hg hw) (gv_X3_book tm_3_217) rfl ds_X3_book ⟨Nat.le_of_ble_eq_true rfl, Nat.le_of_ble_eq_true rfl⟩ (ci := 3) rfl (cx_lt C0 (by decide)) rfl rfl rfl (Nat.le_of_ble_eq_true rfl) ⟨Nat.le_of_ble_eq_true rfl, Nat.le_of_ble_eq_true rfl⟩ dL_book_9 (fun E u H locs ce q hX Z h9 hv9 hc9 => ?_) (fun r u H locs hw Z => ?_)
  · obtain ⟨k, hk, hP⟩ := hX
    simp only [List.mem_cons, Prod.mk.injEq, List.not_mem_nil, or_false] at hk
    rcases hk with ⟨rfl, rfl⟩ | ⟨rfl, rfl⟩ | ⟨rfl, rfl⟩
    · refine vx_catch (E := eIO) (name := eIO) (cx_own C0) [] ⟨0, 14, 17, 33⟩ [⟨0, 14, 21, 18⟩, ⟨0, 14, 25, 13⟩] (by rw [hT]; rfl) (fun z hz => absurd hz List.not_mem_nil) rfl (by decide) (cx_w C0 tm_3_142) (cx_w2 C0 (.inr (by decide +kernel))) h9 hv9 hc9 ?_
      refine lv_astore (lv' := [(6, .ref q), (0, .ref (gad G 0)), (1, .int a1), (2, .int a2), (3, .int a3), (4, .int a4), (5, .ref (gad G 19))]) hx hb dL_book_17 hl (by decide) rfl (fun ls hl => ?_)
      refine lv_iconst (v := 1) hx hb dL_book_19 (by decide) ?_
      refine z_wide (mc := 5) (ms := 30) (by decide) (by decide) ?_
      exact z_iret C0 Z (Q := HP g B (w_X4_book a1 a2 a3 a4)) (.inr ⟨by decide, hP u (fun _ _ _ => rfl)⟩) dL_book_20
    · refine vx_catch (E := eIA) (name := eIA) (cx_own C0) [⟨0, 14, 17, 33⟩] ⟨0, 14, 21, 18⟩ [⟨0, 14, 25, 13⟩] (by rw [hT]; rfl) (fun z hz => by
      obtain rfl := List.mem_singleton.mp hz
      exact .inr ⟨by decide, eIO, cx_w C0 tm_3_142, (cx_K C0).2.2.2.2.2.2.2.1 (eIA, eIO) (by decide +kernel)⟩) rfl (by decide) (cx_w C0 tm_3_81) (cx_w2 C0 (.inr (by decide +kernel))) h9 hv9 hc9 ?_
      refine lv_astore (lv' := [(6, .ref q), (0, .ref (gad G 0)), (1, .int a1), (2, .int a2), (3, .int a3), (4, .int a4), (5, .ref (gad G 19))]) hx hb dL_book_21 hl (by decide) rfl (fun ls hl => ?_)
      refine lv_iconst (v := 2) hx hb dL_book_23 (by decide) ?_
      refine z_wide (mc := 5) (ms := 30) (by decide) (by decide) ?_
      exact z_iret C0 Z (Q := HP g B (w_X4_book a1 a2 a3 a4)) (.inr ⟨by decide, hP u (fun _ _ _ => rfl)⟩) dL_book_24
    · refine vx_catch (E := eIS) (name := eIS) (cx_own C0) [⟨0, 14, 17, 33⟩, ⟨0, 14, 21, 18⟩] ⟨0, 14, 25, 13⟩ [] (by rw [hT]; rfl) (fun z hz => by
      simp only [List.mem_cons, List.not_mem_nil, or_false] at hz
      rcases hz with rfl | rfl
      · exact .inr ⟨by decide, eIO, cx_w C0 tm_3_142, (cx_K C0).2.2.2.2.2.2.2.1 (eIS, eIO) (by decide +kernel)⟩
      · exact .inr ⟨by decide, eIA, cx_w C0 tm_3_81, (cx_K C0).2.2.2.2.2.2.2.1 (eIS, eIA) (by decide +kernel)⟩) rfl (by decide) (cx_w C0 tm_3_6) (cx_w2 C0 (.inr (by decide +kernel))) h9 hv9 hc9 ?_
      refine lv_astore (lv' := [(6, .ref q), (0, .ref (gad G 0)), (1, .int a1), (2, .int a2), (3, .int a3), (4, .int a4), (5, .ref (gad G 19))]) hx hb dL_book_25 hl (by decide) rfl (fun ls hl => ?_)
      refine lv_iconst (v := 3) hx hb dL_book_27 (by decide) ?_
      refine z_wide (mc := 5) (ms := 30) (by decide) (by decide) ?_
      exact z_iret C0 Z (Q := HP g B (w_X4_book a1 a2 a3 a4)) (.inr ⟨by decide, hP u (fun _ _ _ => rfl)⟩) dL_book_28
  · refine lv_i2l (v := r.toInt64) hx hb dL_book_12 rfl ?_
    refine z_last C0 Z dL_book_13 (fun H locs Z => ?_)
    refine lv_goto (tgt := 29) hx hb dL_book_14 (by decide) ?_
    refine lv_iconst (v := 0) hx hb dL_book_29 (by decide) ?_
    refine z_wide (mc := 5) (ms := 30) (by decide) (by decide) ?_
    exact z_iret C0 Z (Q := HP g B (w_X4_book a1 a2 a3 a4)) (.inl ⟨rfl, r, o19_e, hw _ (Eq9_19 u _)⟩) dL_book_30
theorem dL_booking_0 : decode cL_booking 0 = .ok (.aload_n 3, 1) := by decide +kernel
theorem dL_booking_1 : decode cL_booking 1 = .ok (.iconst 0, 1) := by decide +kernel
theorem dL_booking_2 : decode cL_booking 2 = .ok (.aload_n 0, 1) := by decide +kernel
theorem dL_booking_3 : decode cL_booking 3 = .ok (.iload_n 1, 1) := by decide +kernel
theorem dL_booking_4 : decode cL_booking 4 = .ok (.iload_n 2, 1) := by decide +kernel
theorem dL_booking_5 : decode cL_booking 5 = .ok (.invokevirtual 50, 3) := by decide +kernel
theorem dL_booking_8 : decode cL_booking 8 = .ok (.i2l, 1) := by decide +kernel
theorem dL_booking_9 : decode cL_booking 9 = .ok (.lastore, 1) := by decide +kernel
theorem dL_booking_10 : decode cL_booking 10 = .ok (.goto 11, 3) := by decide +kernel
theorem dL_booking_13 : decode cL_booking 13 = .ok (.astore 4, 2) := by decide +kernel
theorem dL_booking_15 : decode cL_booking 15 = .ok (.iconst 1, 1) := by decide +kernel
theorem dL_booking_16 : decode cL_booking 16 = .ok (.ireturn, 1) := by decide +kernel
theorem dL_booking_17 : decode cL_booking 17 = .ok (.astore 4, 2) := by decide +kernel
theorem dL_booking_19 : decode cL_booking 19 = .ok (.iconst 2, 1) := by decide +kernel
theorem dL_booking_20 : decode cL_booking 20 = .ok (.ireturn, 1) := by decide +kernel
theorem dL_booking_21 : decode cL_booking 21 = .ok (.iconst 0, 1) := by decide +kernel
theorem dL_booking_22 : decode cL_booking 22 = .ok (.ireturn, 1) := by decide +kernel
set_option maxRecDepth 100000 in
set_option maxHeartbeats 4000000 in
theorem k_L_booking (l : Launch) (hst : l.stackTraces = false) {G : zG} (hg : 129 ≤ gn G) {a1 a2 : Int32} {v : V3} {g : Nat} {B : Int} (hw : w_X3_booking a1 a2 v (exI g B (w_X4_booking a1 a2) [(eIO, 1), (eIA, 2)]) (okI g B (w_X4_booking a1 a2))) : Mh l yL_booking cL_booking 5 [(0, 10, 13, 33), (0, 10, 17, 18)] 8 134 2 12 G [.ref (gad G 0), .int a1, .int a2, .ref (gad G 19)] v (QiZ G (HP g B (w_X4_booking a1 a2))) := by
  refine z_hofW hg (by decide) (Nat.le_of_ble_eq_true rfl) ?_
  intro p e s m args below meth c ls C0 hT Z hl
  have hx := C0.1
  have hb := C0.2.1
  replace hl : lv_has ls 5 [(0, .ref (gad G 0)), (1, .int a1), (2, .int a2), (3, .ref (gad G 19))] := hl
  generalize s.heap = H at Z ⊢
  generalize ([] : List Loc) = locs at Z ⊢
  refine lv_aload_n hx hb dL_booking_0 rfl (lv_at hl 3 rfl) ?_
  refine lv_iconst (v := 0) hx hb dL_booking_1 (by decide) ?_
  refine lv_aload_n hx hb dL_booking_2 rfl (lv_at hl 0 rfl) ?_
  refine lv_iload_n hx hb dL_booking_3 rfl (lv_at hl 1 rfl) ?_
  refine lv_iload_n hx hb dL_booking_4 rfl (lv_at hl 2 rfl) ?_
  refine z_hcallVi C0 Z hl.1 (As := [.int a1, .int a2]) (rest := [.int 0, .ref (gad G 19)]) (k_X3_booking l hst hg hw) (gv_X3_booking tm_3_229) rfl ds_X3_booking ⟨Nat.le_of_ble_eq_true rfl, Nat.le_of_ble_eq_true rfl⟩ (ci := 3) rfl (cx_lt C0 (by decide)) rfl rfl rfl (Nat.le_of_ble_eq_true rfl) ⟨Nat.le_of_ble_eq_true rfl, Nat.le_of_ble_eq_true rfl⟩ dL_booking_5 (fun E u H locs ce q hX Z h9 hv9 hc9 => ?_) (fun r u H locs hw Z => ?_)
  · obtain ⟨k, hk, hP⟩ := hX
    simp only [List.mem_cons, Prod.mk.injEq, List.not_mem_nil, or_false] at hk
    rcases hk with ⟨rfl, rfl⟩ | ⟨rfl, rfl⟩
    · refine vx_catch (E := eIO) (name := eIO) (cx_own C0) [] ⟨0, 10, 13, 33⟩ [⟨0, 10, 17, 18⟩] (by rw [hT]; rfl) (fun z hz => absurd hz List.not_mem_nil) rfl (by decide) (cx_w C0 tm_3_142) (cx_w2 C0 (.inr (by decide +kernel))) h9 hv9 hc9 ?_
      refine lv_astore (lv' := [(4, .ref q), (0, .ref (gad G 0)), (1, .int a1), (2, .int a2), (3, .ref (gad G 19))]) hx hb dL_booking_13 hl (by decide) rfl (fun ls hl => ?_)
      refine lv_iconst (v := 1) hx hb dL_booking_15 (by decide) ?_
      refine z_wide (mc := 2) (ms := 12) (by decide) (by decide) ?_
      exact z_iret C0 Z (Q := HP g B (w_X4_booking a1 a2)) (.inr ⟨by decide, hP u (fun _ _ _ => rfl)⟩) dL_booking_16
    · refine vx_catch (E := eIA) (name := eIA) (cx_own C0) [⟨0, 10, 13, 33⟩] ⟨0, 10, 17, 18⟩ [] (by rw [hT]; rfl) (fun z hz => by
      obtain rfl := List.mem_singleton.mp hz
      exact .inr ⟨by decide, eIO, cx_w C0 tm_3_142, (cx_K C0).2.2.2.2.2.2.2.1 (eIA, eIO) (by decide +kernel)⟩) rfl (by decide) (cx_w C0 tm_3_81) (cx_w2 C0 (.inr (by decide +kernel))) h9 hv9 hc9 ?_
      refine lv_astore (lv' := [(4, .ref q), (0, .ref (gad G 0)), (1, .int a1), (2, .int a2), (3, .ref (gad G 19))]) hx hb dL_booking_17 hl (by decide) rfl (fun ls hl => ?_)
      refine lv_iconst (v := 2) hx hb dL_booking_19 (by decide) ?_
      refine z_wide (mc := 2) (ms := 12) (by decide) (by decide) ?_
      exact z_iret C0 Z (Q := HP g B (w_X4_booking a1 a2)) (.inr ⟨by decide, hP u (fun _ _ _ => rfl)⟩) dL_booking_20
  · refine lv_i2l (v := r.toInt64) hx hb dL_booking_8 rfl ?_
    refine z_last C0 Z dL_booking_9 (fun H locs Z => ?_)
    refine lv_goto (tgt := 21) hx hb dL_booking_10 (by decide) ?_
    refine lv_iconst (v := 0) hx hb dL_booking_21 (by decide) ?_
    refine z_wide (mc := 2) (ms := 12) (by decide) (by decide) ?_
    exact z_iret C0 Z (Q := HP g B (w_X4_booking a1 a2)) (.inl ⟨rfl, r, o19_e, hw _ (Eq9_19 u _)⟩) dL_booking_22
theorem dL_waiter_0 : decode cL_waiter 0 = .ok (.aload_n 2, 1) := by decide +kernel
theorem dL_waiter_1 : decode cL_waiter 1 = .ok (.iconst 0, 1) := by decide +kernel
theorem dL_waiter_2 : decode cL_waiter 2 = .ok (.aload_n 0, 1) := by decide +kernel
theorem dL_waiter_3 : decode cL_waiter 3 = .ok (.iload_n 1, 1) := by decide +kernel
theorem dL_waiter_4 : decode cL_waiter 4 = .ok (.invokevirtual 53, 3) := by decide +kernel
theorem dL_waiter_7 : decode cL_waiter 7 = .ok (.i2l, 1) := by decide +kernel
theorem dL_waiter_8 : decode cL_waiter 8 = .ok (.lastore, 1) := by decide +kernel
theorem dL_waiter_9 : decode cL_waiter 9 = .ok (.goto 6, 3) := by decide +kernel
theorem dL_waiter_12 : decode cL_waiter 12 = .ok (.astore_n 3, 1) := by decide +kernel
theorem dL_waiter_13 : decode cL_waiter 13 = .ok (.iconst 1, 1) := by decide +kernel
theorem dL_waiter_14 : decode cL_waiter 14 = .ok (.ireturn, 1) := by decide +kernel
theorem dL_waiter_15 : decode cL_waiter 15 = .ok (.iconst 0, 1) := by decide +kernel
theorem dL_waiter_16 : decode cL_waiter 16 = .ok (.ireturn, 1) := by decide +kernel
set_option maxRecDepth 100000 in
set_option maxHeartbeats 4000000 in
theorem k_L_waiter (l : Launch) (hst : l.stackTraces = false) {G : zG} (hg : 129 ≤ gn G) {a1 : Int32} {v : V3} {g : Nat} {B : Int} (hw : w_X3_waiter a1 v (exI g B (w_X4_waiter a1) [(eIO, 1)]) (okI g B (w_X4_waiter a1))) : Mh l yL_waiter cL_waiter 4 [(0, 9, 12, 33)] 7 111 1 6 G [.ref (gad G 0), .int a1, .ref (gad G 19)] v (QiZ G (HP g B (w_X4_waiter a1))) := by
  refine z_hofW hg (by decide) (Nat.le_of_ble_eq_true rfl) ?_
  intro p e s m args below meth c ls C0 hT Z hl
  have hx := C0.1
  have hb := C0.2.1
  replace hl : lv_has ls 4 [(0, .ref (gad G 0)), (1, .int a1), (2, .ref (gad G 19))] := hl
  generalize s.heap = H at Z ⊢
  generalize ([] : List Loc) = locs at Z ⊢
  refine lv_aload_n hx hb dL_waiter_0 rfl (lv_at hl 2 rfl) ?_
  refine lv_iconst (v := 0) hx hb dL_waiter_1 (by decide) ?_
  refine lv_aload_n hx hb dL_waiter_2 rfl (lv_at hl 0 rfl) ?_
  refine lv_iload_n hx hb dL_waiter_3 rfl (lv_at hl 1 rfl) ?_
  refine z_hcallVi C0 Z hl.1 (As := [.int a1]) (rest := [.int 0, .ref (gad G 19)]) (k_X3_waiter l hst hg hw) (gv_X3_waiter tm_4_4) rfl ds_X3_waiter ⟨Nat.le_of_ble_eq_true rfl, Nat.le_of_ble_eq_true rfl⟩ (ci := 3) rfl (cx_lt C0 (by decide)) rfl rfl rfl (Nat.le_of_ble_eq_true rfl) ⟨Nat.le_of_ble_eq_true rfl, Nat.le_of_ble_eq_true rfl⟩ dL_waiter_4 (fun E u H locs ce q hX Z h9 hv9 hc9 => ?_) (fun r u H locs hw Z => ?_)
  · obtain ⟨k, hk, hP⟩ := hX
    obtain ⟨rfl, rfl⟩ := Prod.mk.inj (List.mem_singleton.mp hk)
    refine vx_catch (E := eIO) (name := eIO) (cx_own C0) [] ⟨0, 9, 12, 33⟩ [] (by rw [hT]; rfl) (fun z hz => absurd hz List.not_mem_nil) rfl (by decide) (cx_w C0 tm_3_142) (cx_w2 C0 (.inr (by decide +kernel))) h9 hv9 hc9 ?_
    refine lv_astore_n (lv' := [(3, .ref q), (0, .ref (gad G 0)), (1, .int a1), (2, .ref (gad G 19))]) hx hb dL_waiter_12 rfl hl (by decide) rfl (fun ls hl => ?_)
    refine lv_iconst (v := 1) hx hb dL_waiter_13 (by decide) ?_
    refine z_wide (mc := 1) (ms := 6) (by decide) (by decide) ?_
    exact z_iret C0 Z (Q := HP g B (w_X4_waiter a1)) (.inr ⟨by decide, hP u (fun _ _ _ => rfl)⟩) dL_waiter_14
  · refine lv_i2l (v := r.toInt64) hx hb dL_waiter_7 rfl ?_
    refine z_last C0 Z dL_waiter_8 (fun H locs Z => ?_)
    refine lv_goto (tgt := 15) hx hb dL_waiter_9 (by decide) ?_
    refine lv_iconst (v := 0) hx hb dL_waiter_15 (by decide) ?_
    refine z_wide (mc := 1) (ms := 6) (by decide) (by decide) ?_
    exact z_iret C0 Z (Q := HP g B (w_X4_waiter a1)) (.inl ⟨rfl, r, o19_e, hw _ (Eq9_19 u _)⟩) dL_waiter_16
theorem dL_arrive_0 : decode cL_arrive 0 = .ok (.aload_n 2, 1) := by decide +kernel
theorem dL_arrive_1 : decode cL_arrive 1 = .ok (.iconst 0, 1) := by decide +kernel
theorem dL_arrive_2 : decode cL_arrive 2 = .ok (.aload_n 0, 1) := by decide +kernel
theorem dL_arrive_3 : decode cL_arrive 3 = .ok (.iload_n 1, 1) := by decide +kernel
theorem dL_arrive_4 : decode cL_arrive 4 = .ok (.invokevirtual 56, 3) := by decide +kernel
theorem dL_arrive_7 : decode cL_arrive 7 = .ok (.i2l, 1) := by decide +kernel
theorem dL_arrive_8 : decode cL_arrive 8 = .ok (.lastore, 1) := by decide +kernel
theorem dL_arrive_9 : decode cL_arrive 9 = .ok (.goto 6, 3) := by decide +kernel
theorem dL_arrive_12 : decode cL_arrive 12 = .ok (.astore_n 3, 1) := by decide +kernel
theorem dL_arrive_13 : decode cL_arrive 13 = .ok (.iconst 1, 1) := by decide +kernel
theorem dL_arrive_14 : decode cL_arrive 14 = .ok (.ireturn, 1) := by decide +kernel
theorem dL_arrive_15 : decode cL_arrive 15 = .ok (.iconst 0, 1) := by decide +kernel
theorem dL_arrive_16 : decode cL_arrive 16 = .ok (.ireturn, 1) := by decide +kernel
set_option maxRecDepth 100000 in
set_option maxHeartbeats 4000000 in
theorem k_L_arrive (l : Launch) (hst : l.stackTraces = false) {G : zG} (hg : 129 ≤ gn G) {a1 : Int32} {v : V3} {g : Nat} {B : Int} (hw : w_X3_arrive a1 v (exI g B (w_X4_arrive a1) [(eIO, 1)]) (okI g B (w_X4_arrive a1))) : Mh l yL_arrive cL_arrive 4 [(0, 9, 12, 33)] 8 133 1 6 G [.ref (gad G 0), .int a1, .ref (gad G 19)] v (QiZ G (HP g B (w_X4_arrive a1))) := by
  refine z_hofW hg (by decide) (Nat.le_of_ble_eq_true rfl) ?_
  intro p e s m args below meth c ls C0 hT Z hl
  have hx := C0.1
  have hb := C0.2.1
  replace hl : lv_has ls 4 [(0, .ref (gad G 0)), (1, .int a1), (2, .ref (gad G 19))] := hl
  generalize s.heap = H at Z ⊢
  generalize ([] : List Loc) = locs at Z ⊢
  refine lv_aload_n hx hb dL_arrive_0 rfl (lv_at hl 2 rfl) ?_
  refine lv_iconst (v := 0) hx hb dL_arrive_1 (by decide) ?_
  refine lv_aload_n hx hb dL_arrive_2 rfl (lv_at hl 0 rfl) ?_
  refine lv_iload_n hx hb dL_arrive_3 rfl (lv_at hl 1 rfl) ?_
  refine z_hcallVi C0 Z hl.1 (As := [.int a1]) (rest := [.int 0, .ref (gad G 19)]) (k_X3_arrive l hst hg hw) (gv_X3_arrive tm_4_16) rfl ds_X3_arrive ⟨Nat.le_of_ble_eq_true rfl, Nat.le_of_ble_eq_true rfl⟩ (ci := 3) rfl (cx_lt C0 (by decide)) rfl rfl rfl (Nat.le_of_ble_eq_true rfl) ⟨Nat.le_of_ble_eq_true rfl, Nat.le_of_ble_eq_true rfl⟩ dL_arrive_4 (fun E u H locs ce q hX Z h9 hv9 hc9 => ?_) (fun r u H locs hw Z => ?_)
  · obtain ⟨k, hk, hP⟩ := hX
    obtain ⟨rfl, rfl⟩ := Prod.mk.inj (List.mem_singleton.mp hk)
    refine vx_catch (E := eIO) (name := eIO) (cx_own C0) [] ⟨0, 9, 12, 33⟩ [] (by rw [hT]; rfl) (fun z hz => absurd hz List.not_mem_nil) rfl (by decide) (cx_w C0 tm_3_142) (cx_w2 C0 (.inr (by decide +kernel))) h9 hv9 hc9 ?_
    refine lv_astore_n (lv' := [(3, .ref q), (0, .ref (gad G 0)), (1, .int a1), (2, .ref (gad G 19))]) hx hb dL_arrive_12 rfl hl (by decide) rfl (fun ls hl => ?_)
    refine lv_iconst (v := 1) hx hb dL_arrive_13 (by decide) ?_
    refine z_wide (mc := 1) (ms := 6) (by decide) (by decide) ?_
    exact z_iret C0 Z (Q := HP g B (w_X4_arrive a1)) (.inr ⟨by decide, hP u (fun _ _ _ => rfl)⟩) dL_arrive_14
  · refine lv_i2l (v := r.toInt64) hx hb dL_arrive_7 rfl ?_
    refine z_last C0 Z dL_arrive_8 (fun H locs Z => ?_)
    refine lv_goto (tgt := 15) hx hb dL_arrive_9 (by decide) ?_
    refine lv_iconst (v := 0) hx hb dL_arrive_15 (by decide) ?_
    refine z_wide (mc := 1) (ms := 6) (by decide) (by decide) ?_
    exact z_iret C0 Z (Q := HP g B (w_X4_arrive a1)) (.inl ⟨rfl, r, o19_e, hw _ (Eq9_19 u _)⟩) dL_arrive_16
theorem dL_leave_0 : decode cL_leave 0 = .ok (.aload_n 2, 1) := by decide +kernel
theorem dL_leave_1 : decode cL_leave 1 = .ok (.iconst 0, 1) := by decide +kernel
theorem dL_leave_2 : decode cL_leave 2 = .ok (.aload_n 0, 1) := by decide +kernel
theorem dL_leave_3 : decode cL_leave 3 = .ok (.iload_n 1, 1) := by decide +kernel
theorem dL_leave_4 : decode cL_leave 4 = .ok (.invokevirtual 59, 3) := by decide +kernel
theorem dL_leave_7 : decode cL_leave 7 = .ok (.i2l, 1) := by decide +kernel
theorem dL_leave_8 : decode cL_leave 8 = .ok (.lastore, 1) := by decide +kernel
theorem dL_leave_9 : decode cL_leave 9 = .ok (.goto 6, 3) := by decide +kernel
theorem dL_leave_12 : decode cL_leave 12 = .ok (.astore_n 3, 1) := by decide +kernel
theorem dL_leave_13 : decode cL_leave 13 = .ok (.iconst 1, 1) := by decide +kernel
theorem dL_leave_14 : decode cL_leave 14 = .ok (.ireturn, 1) := by decide +kernel
theorem dL_leave_15 : decode cL_leave 15 = .ok (.iconst 0, 1) := by decide +kernel
theorem dL_leave_16 : decode cL_leave 16 = .ok (.ireturn, 1) := by decide +kernel
set_option maxRecDepth 100000 in
set_option maxHeartbeats 4000000 in
theorem k_L_leave (l : Launch) (hst : l.stackTraces = false) {G : zG} (hg : 129 ≤ gn G) {a1 : Int32} {v : V3} {g : Nat} {B : Int} (hw : w_X3_leave a1 v (exI g B (w_X4_leave a1) [(eIO, 1)]) (okI g B (w_X4_leave a1))) : Mh l yL_leave cL_leave 4 [(0, 9, 12, 33)] 8 133 1 6 G [.ref (gad G 0), .int a1, .ref (gad G 19)] v (QiZ G (HP g B (w_X4_leave a1))) := by
  refine z_hofW hg (by decide) (Nat.le_of_ble_eq_true rfl) ?_
  intro p e s m args below meth c ls C0 hT Z hl
  have hx := C0.1
  have hb := C0.2.1
  replace hl : lv_has ls 4 [(0, .ref (gad G 0)), (1, .int a1), (2, .ref (gad G 19))] := hl
  generalize s.heap = H at Z ⊢
  generalize ([] : List Loc) = locs at Z ⊢
  refine lv_aload_n hx hb dL_leave_0 rfl (lv_at hl 2 rfl) ?_
  refine lv_iconst (v := 0) hx hb dL_leave_1 (by decide) ?_
  refine lv_aload_n hx hb dL_leave_2 rfl (lv_at hl 0 rfl) ?_
  refine lv_iload_n hx hb dL_leave_3 rfl (lv_at hl 1 rfl) ?_
  refine z_hcallVi C0 Z hl.1 (As := [.int a1]) (rest := [.int 0, .ref (gad G 19)]) (k_X3_leave l hst hg hw) (gv_X3_leave tm_4_23) rfl ds_X3_leave ⟨Nat.le_of_ble_eq_true rfl, Nat.le_of_ble_eq_true rfl⟩ (ci := 3) rfl (cx_lt C0 (by decide)) rfl rfl rfl (Nat.le_of_ble_eq_true rfl) ⟨Nat.le_of_ble_eq_true rfl, Nat.le_of_ble_eq_true rfl⟩ dL_leave_4 (fun E u H locs ce q hX Z h9 hv9 hc9 => ?_) (fun r u H locs hw Z => ?_)
  · obtain ⟨k, hk, hP⟩ := hX
    obtain ⟨rfl, rfl⟩ := Prod.mk.inj (List.mem_singleton.mp hk)
    refine vx_catch (E := eIO) (name := eIO) (cx_own C0) [] ⟨0, 9, 12, 33⟩ [] (by rw [hT]; rfl) (fun z hz => absurd hz List.not_mem_nil) rfl (by decide) (cx_w C0 tm_3_142) (cx_w2 C0 (.inr (by decide +kernel))) h9 hv9 hc9 ?_
    refine lv_astore_n (lv' := [(3, .ref q), (0, .ref (gad G 0)), (1, .int a1), (2, .ref (gad G 19))]) hx hb dL_leave_12 rfl hl (by decide) rfl (fun ls hl => ?_)
    refine lv_iconst (v := 1) hx hb dL_leave_13 (by decide) ?_
    refine z_wide (mc := 1) (ms := 6) (by decide) (by decide) ?_
    exact z_iret C0 Z (Q := HP g B (w_X4_leave a1)) (.inr ⟨by decide, hP u (fun _ _ _ => rfl)⟩) dL_leave_14
  · refine lv_i2l (v := r.toInt64) hx hb dL_leave_7 rfl ?_
    refine z_last C0 Z dL_leave_8 (fun H locs Z => ?_)
    refine lv_goto (tgt := 15) hx hb dL_leave_9 (by decide) ?_
    refine lv_iconst (v := 0) hx hb dL_leave_15 (by decide) ?_
    refine z_wide (mc := 1) (ms := 6) (by decide) (by decide) ?_
    exact z_iret C0 Z (Q := HP g B (w_X4_leave a1)) (.inl ⟨rfl, r, o19_e, hw _ (Eq9_19 u _)⟩) dL_leave_16
theorem dL_extend_0 : decode cL_extend 0 = .ok (.aload_n 3, 1) := by decide +kernel
theorem dL_extend_1 : decode cL_extend 1 = .ok (.iconst 0, 1) := by decide +kernel
theorem dL_extend_2 : decode cL_extend 2 = .ok (.aload_n 0, 1) := by decide +kernel
theorem dL_extend_3 : decode cL_extend 3 = .ok (.iload_n 1, 1) := by decide +kernel
theorem dL_extend_4 : decode cL_extend 4 = .ok (.iload_n 2, 1) := by decide +kernel
theorem dL_extend_5 : decode cL_extend 5 = .ok (.invokevirtual 62, 3) := by decide +kernel
theorem dL_extend_8 : decode cL_extend 8 = .ok (.i2l, 1) := by decide +kernel
theorem dL_extend_9 : decode cL_extend 9 = .ok (.lastore, 1) := by decide +kernel
theorem dL_extend_10 : decode cL_extend 10 = .ok (.goto 11, 3) := by decide +kernel
theorem dL_extend_13 : decode cL_extend 13 = .ok (.astore 4, 2) := by decide +kernel
theorem dL_extend_15 : decode cL_extend 15 = .ok (.iconst 1, 1) := by decide +kernel
theorem dL_extend_16 : decode cL_extend 16 = .ok (.ireturn, 1) := by decide +kernel
theorem dL_extend_17 : decode cL_extend 17 = .ok (.astore 4, 2) := by decide +kernel
theorem dL_extend_19 : decode cL_extend 19 = .ok (.iconst 2, 1) := by decide +kernel
theorem dL_extend_20 : decode cL_extend 20 = .ok (.ireturn, 1) := by decide +kernel
theorem dL_extend_21 : decode cL_extend 21 = .ok (.iconst 0, 1) := by decide +kernel
theorem dL_extend_22 : decode cL_extend 22 = .ok (.ireturn, 1) := by decide +kernel
set_option maxRecDepth 100000 in
set_option maxHeartbeats 4000000 in
theorem k_L_extend (l : Launch) (hst : l.stackTraces = false) {G : zG} (hg : 129 ≤ gn G) {a1 a2 : Int32} {v : V3} {g : Nat} {B : Int} (hw : w_X3_extend a1 a2 v (exI g B (w_X4_extend a1 a2) [(eIO, 1), (eIA, 2)]) (okI g B (w_X4_extend a1 a2))) : Mh l yL_extend cL_extend 5 [(0, 10, 13, 33), (0, 10, 17, 18)] 8 135 2 12 G [.ref (gad G 0), .int a1, .int a2, .ref (gad G 19)] v (QiZ G (HP g B (w_X4_extend a1 a2))) := by
  refine z_hofW hg (by decide) (Nat.le_of_ble_eq_true rfl) ?_
  intro p e s m args below meth c ls C0 hT Z hl
  have hx := C0.1
  have hb := C0.2.1
  replace hl : lv_has ls 5 [(0, .ref (gad G 0)), (1, .int a1), (2, .int a2), (3, .ref (gad G 19))] := hl
  generalize s.heap = H at Z ⊢
  generalize ([] : List Loc) = locs at Z ⊢
  refine lv_aload_n hx hb dL_extend_0 rfl (lv_at hl 3 rfl) ?_
  refine lv_iconst (v := 0) hx hb dL_extend_1 (by decide) ?_
  refine lv_aload_n hx hb dL_extend_2 rfl (lv_at hl 0 rfl) ?_
  refine lv_iload_n hx hb dL_extend_3 rfl (lv_at hl 1 rfl) ?_
  refine lv_iload_n hx hb dL_extend_4 rfl (lv_at hl 2 rfl) ?_
  refine z_hcallVi C0 Z hl.1 (As := [.int a1, .int a2]) (rest := [.int 0, .ref (gad G 19)]) (k_X3_extend l hst hg hw) (gv_X3_extend tm_4_30) rfl ds_X3_extend ⟨Nat.le_of_ble_eq_true rfl, Nat.le_of_ble_eq_true rfl⟩ (ci := 3) rfl (cx_lt C0 (by decide)) rfl rfl rfl (Nat.le_of_ble_eq_true rfl) ⟨Nat.le_of_ble_eq_true rfl, Nat.le_of_ble_eq_true rfl⟩ dL_extend_5 (fun E u H locs ce q hX Z h9 hv9 hc9 => ?_) (fun r u H locs hw Z => ?_)
  · obtain ⟨k, hk, hP⟩ := hX
    simp only [List.mem_cons, Prod.mk.injEq, List.not_mem_nil, or_false] at hk
    rcases hk with ⟨rfl, rfl⟩ | ⟨rfl, rfl⟩
    · refine vx_catch (E := eIO) (name := eIO) (cx_own C0) [] ⟨0, 10, 13, 33⟩ [⟨0, 10, 17, 18⟩] (by rw [hT]; rfl) (fun z hz => absurd hz List.not_mem_nil) rfl (by decide) (cx_w C0 tm_3_142) (cx_w2 C0 (.inr (by decide +kernel))) h9 hv9 hc9 ?_
      refine lv_astore (lv' := [(4, .ref q), (0, .ref (gad G 0)), (1, .int a1), (2, .int a2), (3, .ref (gad G 19))]) hx hb dL_extend_13 hl (by decide) rfl (fun ls hl => ?_)
      refine lv_iconst (v := 1) hx hb dL_extend_15 (by decide) ?_
      refine z_wide (mc := 2) (ms := 12) (by decide) (by decide) ?_
      exact z_iret C0 Z (Q := HP g B (w_X4_extend a1 a2)) (.inr ⟨by decide, hP u (fun _ _ _ => rfl)⟩) dL_extend_16
    · refine vx_catch (E := eIA) (name := eIA) (cx_own C0) [⟨0, 10, 13, 33⟩] ⟨0, 10, 17, 18⟩ [] (by rw [hT]; rfl) (fun z hz => by
      obtain rfl := List.mem_singleton.mp hz
      exact .inr ⟨by decide, eIO, cx_w C0 tm_3_142, (cx_K C0).2.2.2.2.2.2.2.1 (eIA, eIO) (by decide +kernel)⟩) rfl (by decide) (cx_w C0 tm_3_81) (cx_w2 C0 (.inr (by decide +kernel))) h9 hv9 hc9 ?_
      refine lv_astore (lv' := [(4, .ref q), (0, .ref (gad G 0)), (1, .int a1), (2, .int a2), (3, .ref (gad G 19))]) hx hb dL_extend_17 hl (by decide) rfl (fun ls hl => ?_)
      refine lv_iconst (v := 2) hx hb dL_extend_19 (by decide) ?_
      refine z_wide (mc := 2) (ms := 12) (by decide) (by decide) ?_
      exact z_iret C0 Z (Q := HP g B (w_X4_extend a1 a2)) (.inr ⟨by decide, hP u (fun _ _ _ => rfl)⟩) dL_extend_20
  · refine lv_i2l (v := r.toInt64) hx hb dL_extend_8 rfl ?_
    refine z_last C0 Z dL_extend_9 (fun H locs Z => ?_)
    refine lv_goto (tgt := 21) hx hb dL_extend_10 (by decide) ?_
    refine lv_iconst (v := 0) hx hb dL_extend_21 (by decide) ?_
    refine z_wide (mc := 2) (ms := 12) (by decide) (by decide) ?_
    exact z_iret C0 Z (Q := HP g B (w_X4_extend a1 a2)) (.inl ⟨rfl, r, o19_e, hw _ (Eq9_19 u _)⟩) dL_extend_22
theorem dL_cancel_0 : decode cL_cancel 0 = .ok (.aload_n 2, 1) := by decide +kernel
theorem dL_cancel_1 : decode cL_cancel 1 = .ok (.iconst 0, 1) := by decide +kernel
theorem dL_cancel_2 : decode cL_cancel 2 = .ok (.aload_n 0, 1) := by decide +kernel
theorem dL_cancel_3 : decode cL_cancel 3 = .ok (.iload_n 1, 1) := by decide +kernel
theorem dL_cancel_4 : decode cL_cancel 4 = .ok (.invokevirtual 65, 3) := by decide +kernel
theorem dL_cancel_7 : decode cL_cancel 7 = .ok (.i2l, 1) := by decide +kernel
theorem dL_cancel_8 : decode cL_cancel 8 = .ok (.lastore, 1) := by decide +kernel
theorem dL_cancel_9 : decode cL_cancel 9 = .ok (.goto 6, 3) := by decide +kernel
theorem dL_cancel_12 : decode cL_cancel 12 = .ok (.astore_n 3, 1) := by decide +kernel
theorem dL_cancel_13 : decode cL_cancel 13 = .ok (.iconst 1, 1) := by decide +kernel
theorem dL_cancel_14 : decode cL_cancel 14 = .ok (.ireturn, 1) := by decide +kernel
theorem dL_cancel_15 : decode cL_cancel 15 = .ok (.iconst 0, 1) := by decide +kernel
theorem dL_cancel_16 : decode cL_cancel 16 = .ok (.ireturn, 1) := by decide +kernel
set_option maxRecDepth 100000 in
set_option maxHeartbeats 4000000 in
theorem k_L_cancel (l : Launch) (hst : l.stackTraces = false) {G : zG} (hg : 129 ≤ gn G) {a1 : Int32} {v : V3} {g : Nat} {B : Int} (hw : w_X3_cancel a1 v (exI g B (w_X4_cancel a1) [(eIO, 1)]) (okI g B (w_X4_cancel a1))) : Mh l yL_cancel cL_cancel 4 [(0, 9, 12, 33)] 8 133 1 6 G [.ref (gad G 0), .int a1, .ref (gad G 19)] v (QiZ G (HP g B (w_X4_cancel a1))) := by
  refine z_hofW hg (by decide) (Nat.le_of_ble_eq_true rfl) ?_
  intro p e s m args below meth c ls C0 hT Z hl
  have hx := C0.1
  have hb := C0.2.1
  replace hl : lv_has ls 4 [(0, .ref (gad G 0)), (1, .int a1), (2, .ref (gad G 19))] := hl
  generalize s.heap = H at Z ⊢
  generalize ([] : List Loc) = locs at Z ⊢
  refine lv_aload_n hx hb dL_cancel_0 rfl (lv_at hl 2 rfl) ?_
  refine lv_iconst (v := 0) hx hb dL_cancel_1 (by decide) ?_
  refine lv_aload_n hx hb dL_cancel_2 rfl (lv_at hl 0 rfl) ?_
  refine lv_iload_n hx hb dL_cancel_3 rfl (lv_at hl 1 rfl) ?_
  refine z_hcallVi C0 Z hl.1 (As := [.int a1]) (rest := [.int 0, .ref (gad G 19)]) (k_X3_cancel l hst hg hw) (gv_X3_cancel tm_4_38) rfl ds_X3_cancel ⟨Nat.le_of_ble_eq_true rfl, Nat.le_of_ble_eq_true rfl⟩ (ci := 3) rfl (cx_lt C0 (by decide)) rfl rfl rfl (Nat.le_of_ble_eq_true rfl) ⟨Nat.le_of_ble_eq_true rfl, Nat.le_of_ble_eq_true rfl⟩ dL_cancel_4 (fun E u H locs ce q hX Z h9 hv9 hc9 => ?_) (fun r u H locs hw Z => ?_)
  · obtain ⟨k, hk, hP⟩ := hX
    obtain ⟨rfl, rfl⟩ := Prod.mk.inj (List.mem_singleton.mp hk)
    refine vx_catch (E := eIO) (name := eIO) (cx_own C0) [] ⟨0, 9, 12, 33⟩ [] (by rw [hT]; rfl) (fun z hz => absurd hz List.not_mem_nil) rfl (by decide) (cx_w C0 tm_3_142) (cx_w2 C0 (.inr (by decide +kernel))) h9 hv9 hc9 ?_
    refine lv_astore_n (lv' := [(3, .ref q), (0, .ref (gad G 0)), (1, .int a1), (2, .ref (gad G 19))]) hx hb dL_cancel_12 rfl hl (by decide) rfl (fun ls hl => ?_)
    refine lv_iconst (v := 1) hx hb dL_cancel_13 (by decide) ?_
    refine z_wide (mc := 1) (ms := 6) (by decide) (by decide) ?_
    exact z_iret C0 Z (Q := HP g B (w_X4_cancel a1)) (.inr ⟨by decide, hP u (fun _ _ _ => rfl)⟩) dL_cancel_14
  · refine lv_i2l (v := r.toInt64) hx hb dL_cancel_7 rfl ?_
    refine z_last C0 Z dL_cancel_8 (fun H locs Z => ?_)
    refine lv_goto (tgt := 15) hx hb dL_cancel_9 (by decide) ?_
    refine lv_iconst (v := 0) hx hb dL_cancel_15 (by decide) ?_
    refine z_wide (mc := 1) (ms := 6) (by decide) (by decide) ?_
    exact z_iret C0 Z (Q := HP g B (w_X4_cancel a1)) (.inl ⟨rfl, r, o19_e, hw _ (Eq9_19 u _)⟩) dL_cancel_16
theorem dL_evict_0 : decode cL_evict 0 = .ok (.aload_n 2, 1) := by decide +kernel
theorem dL_evict_1 : decode cL_evict 1 = .ok (.iconst 0, 1) := by decide +kernel
theorem dL_evict_2 : decode cL_evict 2 = .ok (.aload_n 0, 1) := by decide +kernel
theorem dL_evict_3 : decode cL_evict 3 = .ok (.iload_n 1, 1) := by decide +kernel
theorem dL_evict_4 : decode cL_evict 4 = .ok (.invokevirtual 68, 3) := by decide +kernel
theorem dL_evict_7 : decode cL_evict 7 = .ok (.i2l, 1) := by decide +kernel
theorem dL_evict_8 : decode cL_evict 8 = .ok (.lastore, 1) := by decide +kernel
theorem dL_evict_9 : decode cL_evict 9 = .ok (.goto 6, 3) := by decide +kernel
theorem dL_evict_12 : decode cL_evict 12 = .ok (.astore_n 3, 1) := by decide +kernel
theorem dL_evict_13 : decode cL_evict 13 = .ok (.iconst 1, 1) := by decide +kernel
theorem dL_evict_14 : decode cL_evict 14 = .ok (.ireturn, 1) := by decide +kernel
theorem dL_evict_15 : decode cL_evict 15 = .ok (.iconst 0, 1) := by decide +kernel
theorem dL_evict_16 : decode cL_evict 16 = .ok (.ireturn, 1) := by decide +kernel
set_option maxRecDepth 100000 in
set_option maxHeartbeats 4000000 in
theorem k_L_evict (l : Launch) (hst : l.stackTraces = false) {G : zG} (hg : 129 ≤ gn G) {a1 : Int32} {v : V3} {g : Nat} {B : Int} (hw : w_X3_evict a1 v (exI g B (w_X4_evict a1) [(eIO, 1)]) (okI g B (w_X4_evict a1))) : Mh l yL_evict cL_evict 4 [(0, 9, 12, 33)] 8 133 1 6 G [.ref (gad G 0), .int a1, .ref (gad G 19)] v (QiZ G (HP g B (w_X4_evict a1))) := by
  refine z_hofW hg (by decide) (Nat.le_of_ble_eq_true rfl) ?_
  intro p e s m args below meth c ls C0 hT Z hl
  have hx := C0.1
  have hb := C0.2.1
  replace hl : lv_has ls 4 [(0, .ref (gad G 0)), (1, .int a1), (2, .ref (gad G 19))] := hl
  generalize s.heap = H at Z ⊢
  generalize ([] : List Loc) = locs at Z ⊢
  refine lv_aload_n hx hb dL_evict_0 rfl (lv_at hl 2 rfl) ?_
  refine lv_iconst (v := 0) hx hb dL_evict_1 (by decide) ?_
  refine lv_aload_n hx hb dL_evict_2 rfl (lv_at hl 0 rfl) ?_
  refine lv_iload_n hx hb dL_evict_3 rfl (lv_at hl 1 rfl) ?_
  refine z_hcallVi C0 Z hl.1 (As := [.int a1]) (rest := [.int 0, .ref (gad G 19)]) (k_X3_evict l hst hg hw) (gv_X3_evict tm_4_45) rfl ds_X3_evict ⟨Nat.le_of_ble_eq_true rfl, Nat.le_of_ble_eq_true rfl⟩ (ci := 3) rfl (cx_lt C0 (by decide)) rfl rfl rfl (Nat.le_of_ble_eq_true rfl) ⟨Nat.le_of_ble_eq_true rfl, Nat.le_of_ble_eq_true rfl⟩ dL_evict_4 (fun E u H locs ce q hX Z h9 hv9 hc9 => ?_) (fun r u H locs hw Z => ?_)
  · obtain ⟨k, hk, hP⟩ := hX
    obtain ⟨rfl, rfl⟩ := Prod.mk.inj (List.mem_singleton.mp hk)
    refine vx_catch (E := eIO) (name := eIO) (cx_own C0) [] ⟨0, 9, 12, 33⟩ [] (by rw [hT]; rfl) (fun z hz => absurd hz List.not_mem_nil) rfl (by decide) (cx_w C0 tm_3_142) (cx_w2 C0 (.inr (by decide +kernel))) h9 hv9 hc9 ?_
    refine lv_astore_n (lv' := [(3, .ref q), (0, .ref (gad G 0)), (1, .int a1), (2, .ref (gad G 19))]) hx hb dL_evict_12 rfl hl (by decide) rfl (fun ls hl => ?_)
    refine lv_iconst (v := 1) hx hb dL_evict_13 (by decide) ?_
    refine z_wide (mc := 1) (ms := 6) (by decide) (by decide) ?_
    exact z_iret C0 Z (Q := HP g B (w_X4_evict a1)) (.inr ⟨by decide, hP u (fun _ _ _ => rfl)⟩) dL_evict_14
  · refine lv_i2l (v := r.toInt64) hx hb dL_evict_7 rfl ?_
    refine z_last C0 Z dL_evict_8 (fun H locs Z => ?_)
    refine lv_goto (tgt := 15) hx hb dL_evict_9 (by decide) ?_
    refine lv_iconst (v := 0) hx hb dL_evict_15 (by decide) ?_
    refine z_wide (mc := 1) (ms := 6) (by decide) (by decide) ?_
    exact z_iret C0 Z (Q := HP g B (w_X4_evict a1)) (.inl ⟨rfl, r, o19_e, hw _ (Eq9_19 u _)⟩) dL_evict_16
theorem dL_swap_0 : decode cL_swap 0 = .ok (.aload_n 3, 1) := by decide +kernel
theorem dL_swap_1 : decode cL_swap 1 = .ok (.iconst 0, 1) := by decide +kernel
theorem dL_swap_2 : decode cL_swap 2 = .ok (.aload_n 0, 1) := by decide +kernel
theorem dL_swap_3 : decode cL_swap 3 = .ok (.iload_n 1, 1) := by decide +kernel
theorem dL_swap_4 : decode cL_swap 4 = .ok (.iload_n 2, 1) := by decide +kernel
theorem dL_swap_5 : decode cL_swap 5 = .ok (.invokevirtual 71, 3) := by decide +kernel
theorem dL_swap_8 : decode cL_swap 8 = .ok (.i2l, 1) := by decide +kernel
theorem dL_swap_9 : decode cL_swap 9 = .ok (.lastore, 1) := by decide +kernel
theorem dL_swap_10 : decode cL_swap 10 = .ok (.goto 11, 3) := by decide +kernel
theorem dL_swap_13 : decode cL_swap 13 = .ok (.astore 4, 2) := by decide +kernel
theorem dL_swap_15 : decode cL_swap 15 = .ok (.iconst 1, 1) := by decide +kernel
theorem dL_swap_16 : decode cL_swap 16 = .ok (.ireturn, 1) := by decide +kernel
theorem dL_swap_17 : decode cL_swap 17 = .ok (.astore 4, 2) := by decide +kernel
theorem dL_swap_19 : decode cL_swap 19 = .ok (.iconst 2, 1) := by decide +kernel
theorem dL_swap_20 : decode cL_swap 20 = .ok (.ireturn, 1) := by decide +kernel
theorem dL_swap_21 : decode cL_swap 21 = .ok (.iconst 0, 1) := by decide +kernel
theorem dL_swap_22 : decode cL_swap 22 = .ok (.ireturn, 1) := by decide +kernel
set_option maxRecDepth 100000 in
set_option maxHeartbeats 4000000 in
theorem k_L_swap (l : Launch) (hst : l.stackTraces = false) {G : zG} (hg : 129 ≤ gn G) {a1 a2 : Int32} {v : V3} {g : Nat} {B : Int} (hw : w_X3_swap a1 a2 v (exI g B (w_X4_swap a1 a2) [(eIO, 1), (eIA, 2)]) (okI g B (w_X4_swap a1 a2))) : Mh l yL_swap cL_swap 5 [(0, 10, 13, 33), (0, 10, 17, 18)] 8 133 3 18 G [.ref (gad G 0), .int a1, .int a2, .ref (gad G 19)] v (QiZ G (HP g B (w_X4_swap a1 a2))) := by
  refine z_hofW hg (by decide) (Nat.le_of_ble_eq_true rfl) ?_
  intro p e s m args below meth c ls C0 hT Z hl
  have hx := C0.1
  have hb := C0.2.1
  replace hl : lv_has ls 5 [(0, .ref (gad G 0)), (1, .int a1), (2, .int a2), (3, .ref (gad G 19))] := hl
  generalize s.heap = H at Z ⊢
  generalize ([] : List Loc) = locs at Z ⊢
  refine lv_aload_n hx hb dL_swap_0 rfl (lv_at hl 3 rfl) ?_
  refine lv_iconst (v := 0) hx hb dL_swap_1 (by decide) ?_
  refine lv_aload_n hx hb dL_swap_2 rfl (lv_at hl 0 rfl) ?_
  refine lv_iload_n hx hb dL_swap_3 rfl (lv_at hl 1 rfl) ?_
  refine lv_iload_n hx hb dL_swap_4 rfl (lv_at hl 2 rfl) ?_
  refine z_hcallVi C0 Z hl.1 (As := [.int a1, .int a2]) (rest := [.int 0, .ref (gad G 19)]) (k_X3_swap l hst hg hw) (gv_X3_swap tm_4_53) rfl ds_X3_swap ⟨Nat.le_of_ble_eq_true rfl, Nat.le_of_ble_eq_true rfl⟩ (ci := 3) rfl (cx_lt C0 (by decide)) rfl rfl rfl (Nat.le_of_ble_eq_true rfl) ⟨Nat.le_of_ble_eq_true rfl, Nat.le_of_ble_eq_true rfl⟩ dL_swap_5 (fun E u H locs ce q hX Z h9 hv9 hc9 => ?_) (fun r u H locs hw Z => ?_)
  · obtain ⟨k, hk, hP⟩ := hX
    simp only [List.mem_cons, Prod.mk.injEq, List.not_mem_nil, or_false] at hk
    rcases hk with ⟨rfl, rfl⟩ | ⟨rfl, rfl⟩
    · refine vx_catch (E := eIO) (name := eIO) (cx_own C0) [] ⟨0, 10, 13, 33⟩ [⟨0, 10, 17, 18⟩] (by rw [hT]; rfl) (fun z hz => absurd hz List.not_mem_nil) rfl (by decide) (cx_w C0 tm_3_142) (cx_w2 C0 (.inr (by decide +kernel))) h9 hv9 hc9 ?_
      refine lv_astore (lv' := [(4, .ref q), (0, .ref (gad G 0)), (1, .int a1), (2, .int a2), (3, .ref (gad G 19))]) hx hb dL_swap_13 hl (by decide) rfl (fun ls hl => ?_)
      refine lv_iconst (v := 1) hx hb dL_swap_15 (by decide) ?_
      refine z_wide (mc := 3) (ms := 18) (by decide) (by decide) ?_
      exact z_iret C0 Z (Q := HP g B (w_X4_swap a1 a2)) (.inr ⟨by decide, hP u (fun _ _ _ => rfl)⟩) dL_swap_16
    · refine vx_catch (E := eIA) (name := eIA) (cx_own C0) [⟨0, 10, 13, 33⟩] ⟨0, 10, 17, 18⟩ [] (by rw [hT]; rfl) (fun z hz => by
      obtain rfl := List.mem_singleton.mp hz
      exact .inr ⟨by decide, eIO, cx_w C0 tm_3_142, (cx_K C0).2.2.2.2.2.2.2.1 (eIA, eIO) (by decide +kernel)⟩) rfl (by decide) (cx_w C0 tm_3_81) (cx_w2 C0 (.inr (by decide +kernel))) h9 hv9 hc9 ?_
      refine lv_astore (lv' := [(4, .ref q), (0, .ref (gad G 0)), (1, .int a1), (2, .int a2), (3, .ref (gad G 19))]) hx hb dL_swap_17 hl (by decide) rfl (fun ls hl => ?_)
      refine lv_iconst (v := 2) hx hb dL_swap_19 (by decide) ?_
      refine z_wide (mc := 3) (ms := 18) (by decide) (by decide) ?_
      exact z_iret C0 Z (Q := HP g B (w_X4_swap a1 a2)) (.inr ⟨by decide, hP u (fun _ _ _ => rfl)⟩) dL_swap_20
  · refine lv_i2l (v := r.toInt64) hx hb dL_swap_8 rfl ?_
    refine z_last C0 Z dL_swap_9 (fun H locs Z => ?_)
    refine lv_goto (tgt := 21) hx hb dL_swap_10 (by decide) ?_
    refine lv_iconst (v := 0) hx hb dL_swap_21 (by decide) ?_
    refine z_wide (mc := 3) (ms := 18) (by decide) (by decide) ?_
    exact z_iret C0 Z (Q := HP g B (w_X4_swap a1 a2)) (.inl ⟨rfl, r, o19_e, hw _ (Eq9_19 u _)⟩) dL_swap_22
theorem dL_buy_0 : decode cL_buy 0 = .ok (.aload_n 3, 1) := by decide +kernel
theorem dL_buy_1 : decode cL_buy 1 = .ok (.iconst 0, 1) := by decide +kernel
theorem dL_buy_2 : decode cL_buy 2 = .ok (.aload_n 0, 1) := by decide +kernel
theorem dL_buy_3 : decode cL_buy 3 = .ok (.iload_n 1, 1) := by decide +kernel
theorem dL_buy_4 : decode cL_buy 4 = .ok (.iload_n 2, 1) := by decide +kernel
theorem dL_buy_5 : decode cL_buy 5 = .ok (.invokevirtual 74, 3) := by decide +kernel
theorem dL_buy_8 : decode cL_buy 8 = .ok (.i2l, 1) := by decide +kernel
theorem dL_buy_9 : decode cL_buy 9 = .ok (.lastore, 1) := by decide +kernel
theorem dL_buy_10 : decode cL_buy 10 = .ok (.goto 7, 3) := by decide +kernel
theorem dL_buy_13 : decode cL_buy 13 = .ok (.astore 4, 2) := by decide +kernel
theorem dL_buy_15 : decode cL_buy 15 = .ok (.iconst 1, 1) := by decide +kernel
theorem dL_buy_16 : decode cL_buy 16 = .ok (.ireturn, 1) := by decide +kernel
theorem dL_buy_17 : decode cL_buy 17 = .ok (.iconst 0, 1) := by decide +kernel
theorem dL_buy_18 : decode cL_buy 18 = .ok (.ireturn, 1) := by decide +kernel
set_option maxRecDepth 100000 in
set_option maxHeartbeats 4000000 in
theorem k_L_buy (l : Launch) (hst : l.stackTraces = false) {G : zG} (hg : 129 ≤ gn G) {a1 a2 : Int32} {v : V3} {g : Nat} {B : Int} (hw : w_X3_buy a1 a2 v (exI g B (w_X4_buy a1 a2) [(eIO, 1)]) (okI g B (w_X4_buy a1 a2))) : Mh l yL_buy cL_buy 5 [(0, 10, 13, 33)] 8 133 2 12 G [.ref (gad G 0), .int a1, .int a2, .ref (gad G 19)] v (QiZ G (HP g B (w_X4_buy a1 a2))) := by
  refine z_hofW hg (by decide) (Nat.le_of_ble_eq_true rfl) ?_
  intro p e s m args below meth c ls C0 hT Z hl
  have hx := C0.1
  have hb := C0.2.1
  replace hl : lv_has ls 5 [(0, .ref (gad G 0)), (1, .int a1), (2, .int a2), (3, .ref (gad G 19))] := hl
  generalize s.heap = H at Z ⊢
  generalize ([] : List Loc) = locs at Z ⊢
  refine lv_aload_n hx hb dL_buy_0 rfl (lv_at hl 3 rfl) ?_
  refine lv_iconst (v := 0) hx hb dL_buy_1 (by decide) ?_
  refine lv_aload_n hx hb dL_buy_2 rfl (lv_at hl 0 rfl) ?_
  refine lv_iload_n hx hb dL_buy_3 rfl (lv_at hl 1 rfl) ?_
  refine lv_iload_n hx hb dL_buy_4 rfl (lv_at hl 2 rfl) ?_
  refine z_hcallVi C0 Z hl.1 (As := [.int a1, .int a2]) (rest := [.int 0, .ref (gad G 19)]) (k_X3_buy l hst hg hw) (gv_X3_buy tm_4_63) rfl ds_X3_buy ⟨Nat.le_of_ble_eq_true rfl, Nat.le_of_ble_eq_true rfl⟩ (ci := 3) rfl (cx_lt C0 (by decide)) rfl rfl rfl (Nat.le_of_ble_eq_true rfl) ⟨Nat.le_of_ble_eq_true rfl, Nat.le_of_ble_eq_true rfl⟩ dL_buy_5 (fun E u H locs ce q hX Z h9 hv9 hc9 => ?_) (fun r u H locs hw Z => ?_)
  · obtain ⟨k, hk, hP⟩ := hX
    obtain ⟨rfl, rfl⟩ := Prod.mk.inj (List.mem_singleton.mp hk)
    refine vx_catch (E := eIO) (name := eIO) (cx_own C0) [] ⟨0, 10, 13, 33⟩ [] (by rw [hT]; rfl) (fun z hz => absurd hz List.not_mem_nil) rfl (by decide) (cx_w C0 tm_3_142) (cx_w2 C0 (.inr (by decide +kernel))) h9 hv9 hc9 ?_
    refine lv_astore (lv' := [(4, .ref q), (0, .ref (gad G 0)), (1, .int a1), (2, .int a2), (3, .ref (gad G 19))]) hx hb dL_buy_13 hl (by decide) rfl (fun ls hl => ?_)
    refine lv_iconst (v := 1) hx hb dL_buy_15 (by decide) ?_
    refine z_wide (mc := 2) (ms := 12) (by decide) (by decide) ?_
    exact z_iret C0 Z (Q := HP g B (w_X4_buy a1 a2)) (.inr ⟨by decide, hP u (fun _ _ _ => rfl)⟩) dL_buy_16
  · refine lv_i2l (v := r.toInt64) hx hb dL_buy_8 rfl ?_
    refine z_last C0 Z dL_buy_9 (fun H locs Z => ?_)
    refine lv_goto (tgt := 17) hx hb dL_buy_10 (by decide) ?_
    refine lv_iconst (v := 0) hx hb dL_buy_17 (by decide) ?_
    refine z_wide (mc := 2) (ms := 12) (by decide) (by decide) ?_
    exact z_iret C0 Z (Q := HP g B (w_X4_buy a1 a2)) (.inl ⟨rfl, r, o19_e, hw _ (Eq9_19 u _)⟩) dL_buy_18
theorem dL_pass_0 : decode cL_pass 0 = .ok (.aload_n 2, 1) := by decide +kernel
theorem dL_pass_1 : decode cL_pass 1 = .ok (.iconst 0, 1) := by decide +kernel
theorem dL_pass_2 : decode cL_pass 2 = .ok (.aload_n 0, 1) := by decide +kernel
theorem dL_pass_3 : decode cL_pass 3 = .ok (.iload_n 1, 1) := by decide +kernel
theorem dL_pass_4 : decode cL_pass 4 = .ok (.invokevirtual 77, 3) := by decide +kernel
theorem dL_pass_7 : decode cL_pass 7 = .ok (.i2l, 1) := by decide +kernel
theorem dL_pass_8 : decode cL_pass 8 = .ok (.lastore, 1) := by decide +kernel
theorem dL_pass_9 : decode cL_pass 9 = .ok (.goto 9, 3) := by decide +kernel
theorem dL_pass_12 : decode cL_pass 12 = .ok (.astore_n 3, 1) := by decide +kernel
theorem dL_pass_13 : decode cL_pass 13 = .ok (.iconst 1, 1) := by decide +kernel
theorem dL_pass_14 : decode cL_pass 14 = .ok (.ireturn, 1) := by decide +kernel
theorem dL_pass_15 : decode cL_pass 15 = .ok (.astore_n 3, 1) := by decide +kernel
theorem dL_pass_16 : decode cL_pass 16 = .ok (.iconst 2, 1) := by decide +kernel
theorem dL_pass_17 : decode cL_pass 17 = .ok (.ireturn, 1) := by decide +kernel
theorem dL_pass_18 : decode cL_pass 18 = .ok (.iconst 0, 1) := by decide +kernel
theorem dL_pass_19 : decode cL_pass 19 = .ok (.ireturn, 1) := by decide +kernel
set_option maxRecDepth 100000 in
set_option maxHeartbeats 4000000 in
theorem k_L_pass (l : Launch) (hst : l.stackTraces = false) {G : zG} (hg : 129 ≤ gn G) {a1 : Int32} {v : V3} {g : Nat} {B : Int} (hw : w_X3_pass a1 v (exI g B (w_X4_pass a1) [(eIA, 1), (eIS, 2)]) (okI g B (w_X4_pass a1))) : Mh l yL_pass cL_pass 4 [(0, 9, 12, 18), (0, 9, 15, 13)] 8 169 2 12 G [.ref (gad G 0), .int a1, .ref (gad G 19)] v (QiZ G (HP g B (w_X4_pass a1))) := by
  refine z_hofW hg (by decide) (Nat.le_of_ble_eq_true rfl) ?_
  intro p e s m args below meth c ls C0 hT Z hl
  have hx := C0.1
  have hb := C0.2.1
  replace hl : lv_has ls 4 [(0, .ref (gad G 0)), (1, .int a1), (2, .ref (gad G 19))] := hl
  generalize s.heap = H at Z ⊢
  generalize ([] : List Loc) = locs at Z ⊢
  refine lv_aload_n hx hb dL_pass_0 rfl (lv_at hl 2 rfl) ?_
  refine lv_iconst (v := 0) hx hb dL_pass_1 (by decide) ?_
  refine lv_aload_n hx hb dL_pass_2 rfl (lv_at hl 0 rfl) ?_
  refine lv_iload_n hx hb dL_pass_3 rfl (lv_at hl 1 rfl) ?_
  refine z_hcallVi C0 Z hl.1 (As := [.int a1]) (rest := [.int 0, .ref (gad G 19)]) (k_X3_pass l hst hg hw) (gv_X3_pass tm_4_72) rfl ds_X3_pass ⟨Nat.le_of_ble_eq_true rfl, Nat.le_of_ble_eq_true rfl⟩ (ci := 3) rfl (cx_lt C0 (by decide)) rfl rfl rfl (Nat.le_of_ble_eq_true rfl) ⟨Nat.le_of_ble_eq_true rfl, Nat.le_of_ble_eq_true rfl⟩ dL_pass_4 (fun E u H locs ce q hX Z h9 hv9 hc9 => ?_) (fun r u H locs hw Z => ?_)
  · obtain ⟨k, hk, hP⟩ := hX
    simp only [List.mem_cons, Prod.mk.injEq, List.not_mem_nil, or_false] at hk
    rcases hk with ⟨rfl, rfl⟩ | ⟨rfl, rfl⟩
    · refine vx_catch (E := eIA) (name := eIA) (cx_own C0) [] ⟨0, 9, 12, 18⟩ [⟨0, 9, 15, 13⟩] (by rw [hT]; rfl) (fun z hz => absurd hz List.not_mem_nil) rfl (by decide) (cx_w C0 tm_3_81) (cx_w2 C0 (.inr (by decide +kernel))) h9 hv9 hc9 ?_
      refine lv_astore_n (lv' := [(3, .ref q), (0, .ref (gad G 0)), (1, .int a1), (2, .ref (gad G 19))]) hx hb dL_pass_12 rfl hl (by decide) rfl (fun ls hl => ?_)
      refine lv_iconst (v := 1) hx hb dL_pass_13 (by decide) ?_
      refine z_wide (mc := 2) (ms := 12) (by decide) (by decide) ?_
      exact z_iret C0 Z (Q := HP g B (w_X4_pass a1)) (.inr ⟨by decide, hP u (fun _ _ _ => rfl)⟩) dL_pass_14
    · refine vx_catch (E := eIS) (name := eIS) (cx_own C0) [⟨0, 9, 12, 18⟩] ⟨0, 9, 15, 13⟩ [] (by rw [hT]; rfl) (fun z hz => by
      obtain rfl := List.mem_singleton.mp hz
      exact .inr ⟨by decide, eIA, cx_w C0 tm_3_81, (cx_K C0).2.2.2.2.2.2.2.1 (eIS, eIA) (by decide +kernel)⟩) rfl (by decide) (cx_w C0 tm_3_6) (cx_w2 C0 (.inr (by decide +kernel))) h9 hv9 hc9 ?_
      refine lv_astore_n (lv' := [(3, .ref q), (0, .ref (gad G 0)), (1, .int a1), (2, .ref (gad G 19))]) hx hb dL_pass_15 rfl hl (by decide) rfl (fun ls hl => ?_)
      refine lv_iconst (v := 2) hx hb dL_pass_16 (by decide) ?_
      refine z_wide (mc := 2) (ms := 12) (by decide) (by decide) ?_
      exact z_iret C0 Z (Q := HP g B (w_X4_pass a1)) (.inr ⟨by decide, hP u (fun _ _ _ => rfl)⟩) dL_pass_17
  · refine lv_i2l (v := r.toInt64) hx hb dL_pass_7 rfl ?_
    refine z_last C0 Z dL_pass_8 (fun H locs Z => ?_)
    refine lv_goto (tgt := 18) hx hb dL_pass_9 (by decide) ?_
    refine lv_iconst (v := 0) hx hb dL_pass_18 (by decide) ?_
    refine z_wide (mc := 2) (ms := 12) (by decide) (by decide) ?_
    exact z_iret C0 Z (Q := HP g B (w_X4_pass a1)) (.inl ⟨rfl, r, o19_e, hw _ (Eq9_19 u _)⟩) dL_pass_19
theorem dL_gain_0 : decode cL_gain 0 = .ok (.aload_n 3, 1) := by decide +kernel
theorem dL_gain_1 : decode cL_gain 1 = .ok (.iconst 0, 1) := by decide +kernel
theorem dL_gain_2 : decode cL_gain 2 = .ok (.aload_n 0, 1) := by decide +kernel
theorem dL_gain_3 : decode cL_gain 3 = .ok (.iload_n 1, 1) := by decide +kernel
theorem dL_gain_4 : decode cL_gain 4 = .ok (.iload_n 2, 1) := by decide +kernel
theorem dL_gain_5 : decode cL_gain 5 = .ok (.invokevirtual 80, 3) := by decide +kernel
theorem dL_gain_8 : decode cL_gain 8 = .ok (.i2l, 1) := by decide +kernel
theorem dL_gain_9 : decode cL_gain 9 = .ok (.lastore, 1) := by decide +kernel
theorem dL_gain_10 : decode cL_gain 10 = .ok (.goto 7, 3) := by decide +kernel
theorem dL_gain_13 : decode cL_gain 13 = .ok (.astore 4, 2) := by decide +kernel
theorem dL_gain_15 : decode cL_gain 15 = .ok (.iconst 1, 1) := by decide +kernel
theorem dL_gain_16 : decode cL_gain 16 = .ok (.ireturn, 1) := by decide +kernel
theorem dL_gain_17 : decode cL_gain 17 = .ok (.iconst 0, 1) := by decide +kernel
theorem dL_gain_18 : decode cL_gain 18 = .ok (.ireturn, 1) := by decide +kernel
set_option maxRecDepth 100000 in
set_option maxHeartbeats 4000000 in
theorem k_L_gain (l : Launch) (hst : l.stackTraces = false) {G : zG} (hg : 129 ≤ gn G) {a1 a2 : Int32} {v : V3} {g : Nat} {B : Int} (hw : w_X3_gain a1 a2 v (exI g B (w_X4_gain a1 a2) [(eIO, 1)]) (okI g B (w_X4_gain a1 a2))) : Mh l yL_gain cL_gain 5 [(0, 10, 13, 33)] 8 133 2 12 G [.ref (gad G 0), .int a1, .int a2, .ref (gad G 19)] v (QiZ G (HP g B (w_X4_gain a1 a2))) := by
  refine z_hofW hg (by decide) (Nat.le_of_ble_eq_true rfl) ?_
  intro p e s m args below meth c ls C0 hT Z hl
  have hx := C0.1
  have hb := C0.2.1
  replace hl : lv_has ls 5 [(0, .ref (gad G 0)), (1, .int a1), (2, .int a2), (3, .ref (gad G 19))] := hl
  generalize s.heap = H at Z ⊢
  generalize ([] : List Loc) = locs at Z ⊢
  refine lv_aload_n hx hb dL_gain_0 rfl (lv_at hl 3 rfl) ?_
  refine lv_iconst (v := 0) hx hb dL_gain_1 (by decide) ?_
  refine lv_aload_n hx hb dL_gain_2 rfl (lv_at hl 0 rfl) ?_
  refine lv_iload_n hx hb dL_gain_3 rfl (lv_at hl 1 rfl) ?_
  refine lv_iload_n hx hb dL_gain_4 rfl (lv_at hl 2 rfl) ?_
  refine z_hcallVi C0 Z hl.1 (As := [.int a1, .int a2]) (rest := [.int 0, .ref (gad G 19)]) (k_X3_gain l hst hg hw) (gv_X3_gain tm_4_104) rfl ds_X3_gain ⟨Nat.le_of_ble_eq_true rfl, Nat.le_of_ble_eq_true rfl⟩ (ci := 3) rfl (cx_lt C0 (by decide)) rfl rfl rfl (Nat.le_of_ble_eq_true rfl) ⟨Nat.le_of_ble_eq_true rfl, Nat.le_of_ble_eq_true rfl⟩ dL_gain_5 (fun E u H locs ce q hX Z h9 hv9 hc9 => ?_) (fun r u H locs hw Z => ?_)
  · obtain ⟨k, hk, hP⟩ := hX
    obtain ⟨rfl, rfl⟩ := Prod.mk.inj (List.mem_singleton.mp hk)
    refine vx_catch (E := eIO) (name := eIO) (cx_own C0) [] ⟨0, 10, 13, 33⟩ [] (by rw [hT]; rfl) (fun z hz => absurd hz List.not_mem_nil) rfl (by decide) (cx_w C0 tm_3_142) (cx_w2 C0 (.inr (by decide +kernel))) h9 hv9 hc9 ?_
    refine lv_astore (lv' := [(4, .ref q), (0, .ref (gad G 0)), (1, .int a1), (2, .int a2), (3, .ref (gad G 19))]) hx hb dL_gain_13 hl (by decide) rfl (fun ls hl => ?_)
    refine lv_iconst (v := 1) hx hb dL_gain_15 (by decide) ?_
    refine z_wide (mc := 2) (ms := 12) (by decide) (by decide) ?_
    exact z_iret C0 Z (Q := HP g B (w_X4_gain a1 a2)) (.inr ⟨by decide, hP u (fun _ _ _ => rfl)⟩) dL_gain_16
  · refine lv_i2l (v := r.toInt64) hx hb dL_gain_8 rfl ?_
    refine z_last C0 Z dL_gain_9 (fun H locs Z => ?_)
    refine lv_goto (tgt := 17) hx hb dL_gain_10 (by decide) ?_
    refine lv_iconst (v := 0) hx hb dL_gain_17 (by decide) ?_
    refine z_wide (mc := 2) (ms := 12) (by decide) (by decide) ?_
    exact z_iret C0 Z (Q := HP g B (w_X4_gain a1 a2)) (.inl ⟨rfl, r, o19_e, hw _ (Eq9_19 u _)⟩) dL_gain_18
theorem dL_best_0 : decode cL_best 0 = .ok (.aload_n 2, 1) := by decide +kernel
theorem dL_best_1 : decode cL_best 1 = .ok (.iconst 0, 1) := by decide +kernel
theorem dL_best_2 : decode cL_best 2 = .ok (.aload_n 0, 1) := by decide +kernel
theorem dL_best_3 : decode cL_best 3 = .ok (.iload_n 1, 1) := by decide +kernel
theorem dL_best_4 : decode cL_best 4 = .ok (.invokevirtual 83, 3) := by decide +kernel
theorem dL_best_7 : decode cL_best 7 = .ok (.i2l, 1) := by decide +kernel
theorem dL_best_8 : decode cL_best 8 = .ok (.lastore, 1) := by decide +kernel
theorem dL_best_9 : decode cL_best 9 = .ok (.goto 6, 3) := by decide +kernel
theorem dL_best_12 : decode cL_best 12 = .ok (.astore_n 3, 1) := by decide +kernel
theorem dL_best_13 : decode cL_best 13 = .ok (.iconst 1, 1) := by decide +kernel
theorem dL_best_14 : decode cL_best 14 = .ok (.ireturn, 1) := by decide +kernel
theorem dL_best_15 : decode cL_best 15 = .ok (.iconst 0, 1) := by decide +kernel
theorem dL_best_16 : decode cL_best 16 = .ok (.ireturn, 1) := by decide +kernel
set_option maxRecDepth 100000 in
set_option maxHeartbeats 4000000 in
theorem k_L_best (l : Launch) (hst : l.stackTraces = false) {G : zG} (hg : 129 ≤ gn G) {a1 : Int32} {v : V3} {g : Nat} {B : Int} (hw : w_X3_best a1 v (exI g B (w_X4_best a1) [(eIA, 1)]) (okI g B (w_X4_best a1))) : Mh l yL_best cL_best 4 [(0, 9, 12, 18)] 8 161 1 6 G [.ref (gad G 0), .int a1, .ref (gad G 19)] v (QiZ G (HP g B (w_X4_best a1))) := by
  refine z_hofW hg (by decide) (Nat.le_of_ble_eq_true rfl) ?_
  intro p e s m args below meth c ls C0 hT Z hl
  have hx := C0.1
  have hb := C0.2.1
  replace hl : lv_has ls 4 [(0, .ref (gad G 0)), (1, .int a1), (2, .ref (gad G 19))] := hl
  generalize s.heap = H at Z ⊢
  generalize ([] : List Loc) = locs at Z ⊢
  refine lv_aload_n hx hb dL_best_0 rfl (lv_at hl 2 rfl) ?_
  refine lv_iconst (v := 0) hx hb dL_best_1 (by decide) ?_
  refine lv_aload_n hx hb dL_best_2 rfl (lv_at hl 0 rfl) ?_
  refine lv_iload_n hx hb dL_best_3 rfl (lv_at hl 1 rfl) ?_
  refine z_hcallVi C0 Z hl.1 (As := [.int a1]) (rest := [.int 0, .ref (gad G 19)]) (k_X3_best l hst hg hw) (gv_X3_best tm_4_111) rfl ds_X3_best ⟨Nat.le_of_ble_eq_true rfl, Nat.le_of_ble_eq_true rfl⟩ (ci := 3) rfl (cx_lt C0 (by decide)) rfl rfl rfl (Nat.le_of_ble_eq_true rfl) ⟨Nat.le_of_ble_eq_true rfl, Nat.le_of_ble_eq_true rfl⟩ dL_best_4 (fun E u H locs ce q hX Z h9 hv9 hc9 => ?_) (fun r u H locs hw Z => ?_)
  · obtain ⟨k, hk, hP⟩ := hX
    obtain ⟨rfl, rfl⟩ := Prod.mk.inj (List.mem_singleton.mp hk)
    refine vx_catch (E := eIA) (name := eIA) (cx_own C0) [] ⟨0, 9, 12, 18⟩ [] (by rw [hT]; rfl) (fun z hz => absurd hz List.not_mem_nil) rfl (by decide) (cx_w C0 tm_3_81) (cx_w2 C0 (.inr (by decide +kernel))) h9 hv9 hc9 ?_
    refine lv_astore_n (lv' := [(3, .ref q), (0, .ref (gad G 0)), (1, .int a1), (2, .ref (gad G 19))]) hx hb dL_best_12 rfl hl (by decide) rfl (fun ls hl => ?_)
    refine lv_iconst (v := 1) hx hb dL_best_13 (by decide) ?_
    refine z_wide (mc := 1) (ms := 6) (by decide) (by decide) ?_
    exact z_iret C0 Z (Q := HP g B (w_X4_best a1)) (.inr ⟨by decide, hP u (fun _ _ _ => rfl)⟩) dL_best_14
  · refine lv_i2l (v := r.toInt64) hx hb dL_best_7 rfl ?_
    refine z_last C0 Z dL_best_8 (fun H locs Z => ?_)
    refine lv_goto (tgt := 15) hx hb dL_best_9 (by decide) ?_
    refine lv_iconst (v := 0) hx hb dL_best_15 (by decide) ?_
    refine z_wide (mc := 1) (ms := 6) (by decide) (by decide) ?_
    exact z_iret C0 Z (Q := HP g B (w_X4_best a1)) (.inl ⟨rfl, r, o19_e, hw _ (Eq9_19 u _)⟩) dL_best_16
theorem dL_holder_0 : decode cL_holder 0 = .ok (.aload_n 3, 1) := by decide +kernel
theorem dL_holder_1 : decode cL_holder 1 = .ok (.iconst 0, 1) := by decide +kernel
theorem dL_holder_2 : decode cL_holder 2 = .ok (.aload_n 0, 1) := by decide +kernel
theorem dL_holder_3 : decode cL_holder 3 = .ok (.iload_n 1, 1) := by decide +kernel
theorem dL_holder_4 : decode cL_holder 4 = .ok (.iload_n 2, 1) := by decide +kernel
theorem dL_holder_5 : decode cL_holder 5 = .ok (.invokevirtual 86, 3) := by decide +kernel
theorem dL_holder_8 : decode cL_holder 8 = .ok (.i2l, 1) := by decide +kernel
theorem dL_holder_9 : decode cL_holder 9 = .ok (.lastore, 1) := by decide +kernel
theorem dL_holder_10 : decode cL_holder 10 = .ok (.goto 11, 3) := by decide +kernel
theorem dL_holder_13 : decode cL_holder 13 = .ok (.astore 4, 2) := by decide +kernel
theorem dL_holder_15 : decode cL_holder 15 = .ok (.iconst 1, 1) := by decide +kernel
theorem dL_holder_16 : decode cL_holder 16 = .ok (.ireturn, 1) := by decide +kernel
theorem dL_holder_17 : decode cL_holder 17 = .ok (.astore 4, 2) := by decide +kernel
theorem dL_holder_19 : decode cL_holder 19 = .ok (.iconst 2, 1) := by decide +kernel
theorem dL_holder_20 : decode cL_holder 20 = .ok (.ireturn, 1) := by decide +kernel
theorem dL_holder_21 : decode cL_holder 21 = .ok (.iconst 0, 1) := by decide +kernel
theorem dL_holder_22 : decode cL_holder 22 = .ok (.ireturn, 1) := by decide +kernel
set_option maxRecDepth 100000 in
set_option maxHeartbeats 4000000 in
theorem k_L_holder (l : Launch) (hst : l.stackTraces = false) {G : zG} (hg : 129 ≤ gn G) {a1 a2 : Int32} {v : V3} {g : Nat} {B : Int} (hw : w_X3_holder a1 a2 v (exI g B (w_X4_holder a1 a2) [(eIO, 1), (eIA, 2)]) (okI g B (w_X4_holder a1 a2))) : Mh l yL_holder cL_holder 5 [(0, 10, 13, 33), (0, 10, 17, 18)] 8 134 2 12 G [.ref (gad G 0), .int a1, .int a2, .ref (gad G 19)] v (QiZ G (HP g B (w_X4_holder a1 a2))) := by
  refine z_hofW hg (by decide) (Nat.le_of_ble_eq_true rfl) ?_
  intro p e s m args below meth c ls C0 hT Z hl
  have hx := C0.1
  have hb := C0.2.1
  replace hl : lv_has ls 5 [(0, .ref (gad G 0)), (1, .int a1), (2, .int a2), (3, .ref (gad G 19))] := hl
  generalize s.heap = H at Z ⊢
  generalize ([] : List Loc) = locs at Z ⊢
  refine lv_aload_n hx hb dL_holder_0 rfl (lv_at hl 3 rfl) ?_
  refine lv_iconst (v := 0) hx hb dL_holder_1 (by decide) ?_
  refine lv_aload_n hx hb dL_holder_2 rfl (lv_at hl 0 rfl) ?_
  refine lv_iload_n hx hb dL_holder_3 rfl (lv_at hl 1 rfl) ?_
  refine lv_iload_n hx hb dL_holder_4 rfl (lv_at hl 2 rfl) ?_
  refine z_hcallVi C0 Z hl.1 (As := [.int a1, .int a2]) (rest := [.int 0, .ref (gad G 19)]) (k_X3_holder l hst hg hw) (gv_X3_holder tm_4_118) rfl ds_X3_holder ⟨Nat.le_of_ble_eq_true rfl, Nat.le_of_ble_eq_true rfl⟩ (ci := 3) rfl (cx_lt C0 (by decide)) rfl rfl rfl (Nat.le_of_ble_eq_true rfl) ⟨Nat.le_of_ble_eq_true rfl, Nat.le_of_ble_eq_true rfl⟩ dL_holder_5 (fun E u H locs ce q hX Z h9 hv9 hc9 => ?_) (fun r u H locs hw Z => ?_)
  · obtain ⟨k, hk, hP⟩ := hX
    simp only [List.mem_cons, Prod.mk.injEq, List.not_mem_nil, or_false] at hk
    rcases hk with ⟨rfl, rfl⟩ | ⟨rfl, rfl⟩
    · refine vx_catch (E := eIO) (name := eIO) (cx_own C0) [] ⟨0, 10, 13, 33⟩ [⟨0, 10, 17, 18⟩] (by rw [hT]; rfl) (fun z hz => absurd hz List.not_mem_nil) rfl (by decide) (cx_w C0 tm_3_142) (cx_w2 C0 (.inr (by decide +kernel))) h9 hv9 hc9 ?_
      refine lv_astore (lv' := [(4, .ref q), (0, .ref (gad G 0)), (1, .int a1), (2, .int a2), (3, .ref (gad G 19))]) hx hb dL_holder_13 hl (by decide) rfl (fun ls hl => ?_)
      refine lv_iconst (v := 1) hx hb dL_holder_15 (by decide) ?_
      refine z_wide (mc := 2) (ms := 12) (by decide) (by decide) ?_
      exact z_iret C0 Z (Q := HP g B (w_X4_holder a1 a2)) (.inr ⟨by decide, hP u (fun _ _ _ => rfl)⟩) dL_holder_16
    · refine vx_catch (E := eIA) (name := eIA) (cx_own C0) [⟨0, 10, 13, 33⟩] ⟨0, 10, 17, 18⟩ [] (by rw [hT]; rfl) (fun z hz => by
      obtain rfl := List.mem_singleton.mp hz
      exact .inr ⟨by decide, eIO, cx_w C0 tm_3_142, (cx_K C0).2.2.2.2.2.2.2.1 (eIA, eIO) (by decide +kernel)⟩) rfl (by decide) (cx_w C0 tm_3_81) (cx_w2 C0 (.inr (by decide +kernel))) h9 hv9 hc9 ?_
      refine lv_astore (lv' := [(4, .ref q), (0, .ref (gad G 0)), (1, .int a1), (2, .int a2), (3, .ref (gad G 19))]) hx hb dL_holder_17 hl (by decide) rfl (fun ls hl => ?_)
      refine lv_iconst (v := 2) hx hb dL_holder_19 (by decide) ?_
      refine z_wide (mc := 2) (ms := 12) (by decide) (by decide) ?_
      exact z_iret C0 Z (Q := HP g B (w_X4_holder a1 a2)) (.inr ⟨by decide, hP u (fun _ _ _ => rfl)⟩) dL_holder_20
  · refine lv_i2l (v := r.toInt64) hx hb dL_holder_8 rfl ?_
    refine z_last C0 Z dL_holder_9 (fun H locs Z => ?_)
    refine lv_goto (tgt := 21) hx hb dL_holder_10 (by decide) ?_
    refine lv_iconst (v := 0) hx hb dL_holder_21 (by decide) ?_
    refine z_wide (mc := 2) (ms := 12) (by decide) (by decide) ?_
    exact z_iret C0 Z (Q := HP g B (w_X4_holder a1 a2)) (.inl ⟨rfl, r, o19_e, hw _ (Eq9_19 u _)⟩) dL_holder_22
theorem dL_nextFree_0 : decode cL_nextFree 0 = .ok (.aload_n 2, 1) := by decide +kernel
theorem dL_nextFree_1 : decode cL_nextFree 1 = .ok (.iconst 0, 1) := by decide +kernel
theorem dL_nextFree_2 : decode cL_nextFree 2 = .ok (.aload_n 0, 1) := by decide +kernel
theorem dL_nextFree_3 : decode cL_nextFree 3 = .ok (.iload_n 1, 1) := by decide +kernel
theorem dL_nextFree_4 : decode cL_nextFree 4 = .ok (.invokevirtual 89, 3) := by decide +kernel
theorem dL_nextFree_7 : decode cL_nextFree 7 = .ok (.i2l, 1) := by decide +kernel
theorem dL_nextFree_8 : decode cL_nextFree 8 = .ok (.lastore, 1) := by decide +kernel
theorem dL_nextFree_9 : decode cL_nextFree 9 = .ok (.goto 6, 3) := by decide +kernel
theorem dL_nextFree_12 : decode cL_nextFree 12 = .ok (.astore_n 3, 1) := by decide +kernel
theorem dL_nextFree_13 : decode cL_nextFree 13 = .ok (.iconst 1, 1) := by decide +kernel
theorem dL_nextFree_14 : decode cL_nextFree 14 = .ok (.ireturn, 1) := by decide +kernel
theorem dL_nextFree_15 : decode cL_nextFree 15 = .ok (.iconst 0, 1) := by decide +kernel
theorem dL_nextFree_16 : decode cL_nextFree 16 = .ok (.ireturn, 1) := by decide +kernel
set_option maxRecDepth 100000 in
set_option maxHeartbeats 4000000 in
theorem k_L_nextFree (l : Launch) (hst : l.stackTraces = false) {G : zG} (hg : 129 ≤ gn G) {a1 : Int32} {v : V3} {g : Nat} {B : Int} (hw : w_X3_nextFree a1 v (exI g B (w_X4_nextFree a1) [(eIA, 1)]) (okI g B (w_X4_nextFree a1))) : Mh l yL_nextFree cL_nextFree 4 [(0, 9, 12, 18)] 8 133 1 6 G [.ref (gad G 0), .int a1, .ref (gad G 19)] v (QiZ G (HP g B (w_X4_nextFree a1))) := by
  refine z_hofW hg (by decide) (Nat.le_of_ble_eq_true rfl) ?_
  intro p e s m args below meth c ls C0 hT Z hl
  have hx := C0.1
  have hb := C0.2.1
  replace hl : lv_has ls 4 [(0, .ref (gad G 0)), (1, .int a1), (2, .ref (gad G 19))] := hl
  generalize s.heap = H at Z ⊢
  generalize ([] : List Loc) = locs at Z ⊢
  refine lv_aload_n hx hb dL_nextFree_0 rfl (lv_at hl 2 rfl) ?_
  refine lv_iconst (v := 0) hx hb dL_nextFree_1 (by decide) ?_
  refine lv_aload_n hx hb dL_nextFree_2 rfl (lv_at hl 0 rfl) ?_
  refine lv_iload_n hx hb dL_nextFree_3 rfl (lv_at hl 1 rfl) ?_
  refine z_hcallVi C0 Z hl.1 (As := [.int a1]) (rest := [.int 0, .ref (gad G 19)]) (k_X3_nextFree l hst hg hw) (gv_X3_nextFree tm_4_129) rfl ds_X3_nextFree ⟨Nat.le_of_ble_eq_true rfl, Nat.le_of_ble_eq_true rfl⟩ (ci := 3) rfl (cx_lt C0 (by decide)) rfl rfl rfl (Nat.le_of_ble_eq_true rfl) ⟨Nat.le_of_ble_eq_true rfl, Nat.le_of_ble_eq_true rfl⟩ dL_nextFree_4 (fun E u H locs ce q hX Z h9 hv9 hc9 => ?_) (fun r u H locs hw Z => ?_)
  · obtain ⟨k, hk, hP⟩ := hX
    obtain ⟨rfl, rfl⟩ := Prod.mk.inj (List.mem_singleton.mp hk)
    refine vx_catch (E := eIA) (name := eIA) (cx_own C0) [] ⟨0, 9, 12, 18⟩ [] (by rw [hT]; rfl) (fun z hz => absurd hz List.not_mem_nil) rfl (by decide) (cx_w C0 tm_3_81) (cx_w2 C0 (.inr (by decide +kernel))) h9 hv9 hc9 ?_
    refine lv_astore_n (lv' := [(3, .ref q), (0, .ref (gad G 0)), (1, .int a1), (2, .ref (gad G 19))]) hx hb dL_nextFree_12 rfl hl (by decide) rfl (fun ls hl => ?_)
    refine lv_iconst (v := 1) hx hb dL_nextFree_13 (by decide) ?_
    refine z_wide (mc := 1) (ms := 6) (by decide) (by decide) ?_
    exact z_iret C0 Z (Q := HP g B (w_X4_nextFree a1)) (.inr ⟨by decide, hP u (fun _ _ _ => rfl)⟩) dL_nextFree_14
  · refine lv_i2l (v := r.toInt64) hx hb dL_nextFree_7 rfl ?_
    refine z_last C0 Z dL_nextFree_8 (fun H locs Z => ?_)
    refine lv_goto (tgt := 15) hx hb dL_nextFree_9 (by decide) ?_
    refine lv_iconst (v := 0) hx hb dL_nextFree_15 (by decide) ?_
    refine z_wide (mc := 1) (ms := 6) (by decide) (by decide) ?_
    exact z_iret C0 Z (Q := HP g B (w_X4_nextFree a1)) (.inl ⟨rfl, r, o19_e, hw _ (Eq9_19 u _)⟩) dL_nextFree_16
theorem dL_mayWrite_0 : decode cL_mayWrite 0 = .ok (.aload 4, 2) := by decide +kernel
theorem dL_mayWrite_2 : decode cL_mayWrite 2 = .ok (.iconst 0, 1) := by decide +kernel
theorem dL_mayWrite_3 : decode cL_mayWrite 3 = .ok (.aload_n 0, 1) := by decide +kernel
theorem dL_mayWrite_4 : decode cL_mayWrite 4 = .ok (.iload_n 1, 1) := by decide +kernel
theorem dL_mayWrite_5 : decode cL_mayWrite 5 = .ok (.iload_n 2, 1) := by decide +kernel
theorem dL_mayWrite_6 : decode cL_mayWrite 6 = .ok (.iload_n 3, 1) := by decide +kernel
theorem dL_mayWrite_7 : decode cL_mayWrite 7 = .ok (.invokevirtual 92, 3) := by decide +kernel
theorem dL_mayWrite_10 : decode cL_mayWrite 10 = .ok (.ifCond .eq 7, 3) := by decide +kernel
theorem dL_mayWrite_13 : decode cL_mayWrite 13 = .ok (.lconst 1, 1) := by decide +kernel
theorem dL_mayWrite_14 : decode cL_mayWrite 14 = .ok (.goto 4, 3) := by decide +kernel
theorem dL_mayWrite_17 : decode cL_mayWrite 17 = .ok (.lconst 0, 1) := by decide +kernel
theorem dL_mayWrite_18 : decode cL_mayWrite 18 = .ok (.lastore, 1) := by decide +kernel
theorem dL_mayWrite_19 : decode cL_mayWrite 19 = .ok (.goto 11, 3) := by decide +kernel
theorem dL_mayWrite_22 : decode cL_mayWrite 22 = .ok (.astore 5, 2) := by decide +kernel
theorem dL_mayWrite_24 : decode cL_mayWrite 24 = .ok (.iconst 1, 1) := by decide +kernel
theorem dL_mayWrite_25 : decode cL_mayWrite 25 = .ok (.ireturn, 1) := by decide +kernel
theorem dL_mayWrite_26 : decode cL_mayWrite 26 = .ok (.astore 5, 2) := by decide +kernel
theorem dL_mayWrite_28 : decode cL_mayWrite 28 = .ok (.iconst 2, 1) := by decide +kernel
theorem dL_mayWrite_29 : decode cL_mayWrite 29 = .ok (.ireturn, 1) := by decide +kernel
theorem dL_mayWrite_30 : decode cL_mayWrite 30 = .ok (.iconst 0, 1) := by decide +kernel
theorem dL_mayWrite_31 : decode cL_mayWrite 31 = .ok (.ireturn, 1) := by decide +kernel
set_option maxRecDepth 100000 in
set_option maxHeartbeats 4000000 in
theorem k_L_mayWrite (l : Launch) (hst : l.stackTraces = false) {G : zG} (hg : 129 ≤ gn G) {a1 a2 a3 : Int32} {v : V3} {g : Nat} {B : Int} (hw : w_X3_mayWrite a1 a2 a3 v (exI g B (w_X4_mayWrite a1 a2 a3) [(eIO, 1), (eIA, 2)]) (okI g B (w_X4_mayWrite a1 a2 a3))) : Mh l yL_mayWrite cL_mayWrite 6 [(0, 19, 22, 33), (0, 19, 26, 18)] 9 157 3 18 G [.ref (gad G 0), .int a1, .int a2, .int a3, .ref (gad G 19)] v (QiZ G (HPz g B (w_X4_mayWrite a1 a2 a3))) := by
  refine z_hofW hg (by decide) (Nat.le_of_ble_eq_true rfl) ?_
  intro p e s m args below meth c ls C0 hT Z hl
  have hx := C0.1
  have hb := C0.2.1
  replace hl : lv_has ls 6 [(0, .ref (gad G 0)), (1, .int a1), (2, .int a2), (3, .int a3), (4, .ref (gad G 19))] := hl
  generalize s.heap = H at Z ⊢
  generalize ([] : List Loc) = locs at Z ⊢
  refine lv_aload hx hb dL_mayWrite_0 (lv_at hl 4 rfl) ?_
  refine lv_iconst (v := 0) hx hb dL_mayWrite_2 (by decide) ?_
  refine lv_aload_n hx hb dL_mayWrite_3 rfl (lv_at hl 0 rfl) ?_
  refine lv_iload_n hx hb dL_mayWrite_4 rfl (lv_at hl 1 rfl) ?_
  refine lv_iload_n hx hb dL_mayWrite_5 rfl (lv_at hl 2 rfl) ?_
  refine lv_iload_n hx hb dL_mayWrite_6 rfl (lv_at hl 3 rfl) ?_
  refine z_hcallVi C0 Z hl.1 (As := [.int a1, .int a2, .int a3]) (rest := [.int 0, .ref (gad G 19)]) (k_X3_mayWrite l hst hg hw) (gv_X3_mayWrite tm_4_137) rfl ds_X3_mayWrite ⟨Nat.le_of_ble_eq_true rfl, Nat.le_of_ble_eq_true rfl⟩ (ci := 3) rfl (cx_lt C0 (by decide)) rfl rfl rfl (Nat.le_of_ble_eq_true rfl) ⟨Nat.le_of_ble_eq_true rfl, Nat.le_of_ble_eq_true rfl⟩ dL_mayWrite_7 (fun E u H locs ce q hX Z h9 hv9 hc9 => ?_) (fun r u H locs hw Z => ?_)
  · obtain ⟨k, hk, hP⟩ := hX
    simp only [List.mem_cons, Prod.mk.injEq, List.not_mem_nil, or_false] at hk
    rcases hk with ⟨rfl, rfl⟩ | ⟨rfl, rfl⟩
    · refine vx_catch (E := eIO) (name := eIO) (cx_own C0) [] ⟨0, 19, 22, 33⟩ [⟨0, 19, 26, 18⟩] (by rw [hT]; rfl) (fun z hz => absurd hz List.not_mem_nil) rfl (by decide) (cx_w C0 tm_3_142) (cx_w2 C0 (.inr (by decide +kernel))) h9 hv9 hc9 ?_
      refine lv_astore (lv' := [(5, .ref q), (0, .ref (gad G 0)), (1, .int a1), (2, .int a2), (3, .int a3), (4, .ref (gad G 19))]) hx hb dL_mayWrite_22 hl (by decide) rfl (fun ls hl => ?_)
      refine lv_iconst (v := 1) hx hb dL_mayWrite_24 (by decide) ?_
      refine z_wide (mc := 3) (ms := 18) (by decide) (by decide) ?_
      exact z_iret C0 Z (Q := HPz g B (w_X4_mayWrite a1 a2 a3)) (.inr ⟨by decide, hP u (fun _ _ _ => rfl)⟩) dL_mayWrite_25
    · refine vx_catch (E := eIA) (name := eIA) (cx_own C0) [⟨0, 19, 22, 33⟩] ⟨0, 19, 26, 18⟩ [] (by rw [hT]; rfl) (fun z hz => by
      obtain rfl := List.mem_singleton.mp hz
      exact .inr ⟨by decide, eIO, cx_w C0 tm_3_142, (cx_K C0).2.2.2.2.2.2.2.1 (eIA, eIO) (by decide +kernel)⟩) rfl (by decide) (cx_w C0 tm_3_81) (cx_w2 C0 (.inr (by decide +kernel))) h9 hv9 hc9 ?_
      refine lv_astore (lv' := [(5, .ref q), (0, .ref (gad G 0)), (1, .int a1), (2, .int a2), (3, .int a3), (4, .ref (gad G 19))]) hx hb dL_mayWrite_26 hl (by decide) rfl (fun ls hl => ?_)
      refine lv_iconst (v := 2) hx hb dL_mayWrite_28 (by decide) ?_
      refine z_wide (mc := 3) (ms := 18) (by decide) (by decide) ?_
      exact z_iret C0 Z (Q := HPz g B (w_X4_mayWrite a1 a2 a3)) (.inr ⟨by decide, hP u (fun _ _ _ => rfl)⟩) dL_mayWrite_29
  · refine lv_if_eq (tgt := 17) hx hb dL_mayWrite_10 (by decide) (fun c1 => ?_) (fun c1 => ?_)
    · refine lv_lconst (v := 0) hx hb dL_mayWrite_17 (by decide) ?_
      refine z_last C0 Z dL_mayWrite_18 (fun H locs Z => ?_)
      refine lv_goto (tgt := 30) hx hb dL_mayWrite_19 (by decide) ?_
      refine lv_iconst (v := 0) hx hb dL_mayWrite_30 (by decide) ?_
      refine z_wide (mc := 3) (ms := 18) (by decide) (by decide) ?_
      exact z_iret C0 Z (Q := HPz g B (w_X4_mayWrite a1 a2 a3)) (.inl ⟨rfl, r, o19_e.trans (if_pos c1).symm, hw _ (Eq9_19 u _)⟩) dL_mayWrite_31
    · refine lv_lconst (v := 1) hx hb dL_mayWrite_13 (by decide) ?_
      refine lv_goto (tgt := 18) hx hb dL_mayWrite_14 (by decide) ?_
      refine z_last C0 Z dL_mayWrite_18 (fun H locs Z => ?_)
      refine lv_goto (tgt := 30) hx hb dL_mayWrite_19 (by decide) ?_
      refine lv_iconst (v := 0) hx hb dL_mayWrite_30 (by decide) ?_
      refine z_wide (mc := 3) (ms := 18) (by decide) (by decide) ?_
      exact z_iret C0 Z (Q := HPz g B (w_X4_mayWrite a1 a2 a3)) (.inl ⟨rfl, r, o19_e.trans (if_neg c1).symm, hw _ (Eq9_19 u _)⟩) dL_mayWrite_31
theorem dL_usage_0 : decode cL_usage 0 = .ok (.aload_n 2, 1) := by decide +kernel
theorem dL_usage_1 : decode cL_usage 1 = .ok (.iconst 0, 1) := by decide +kernel
theorem dL_usage_2 : decode cL_usage 2 = .ok (.aload_n 0, 1) := by decide +kernel
theorem dL_usage_3 : decode cL_usage 3 = .ok (.iload_n 1, 1) := by decide +kernel
theorem dL_usage_4 : decode cL_usage 4 = .ok (.invokevirtual 96, 3) := by decide +kernel
theorem dL_usage_7 : decode cL_usage 7 = .ok (.f2d, 1) := by decide +kernel
theorem dL_usage_8 : decode cL_usage 8 = .ok (.dastore, 1) := by decide +kernel
theorem dL_usage_9 : decode cL_usage 9 = .ok (.goto 6, 3) := by decide +kernel
theorem dL_usage_12 : decode cL_usage 12 = .ok (.astore_n 3, 1) := by decide +kernel
theorem dL_usage_13 : decode cL_usage 13 = .ok (.iconst 1, 1) := by decide +kernel
theorem dL_usage_14 : decode cL_usage 14 = .ok (.ireturn, 1) := by decide +kernel
theorem dL_usage_15 : decode cL_usage 15 = .ok (.iconst 0, 1) := by decide +kernel
theorem dL_usage_16 : decode cL_usage 16 = .ok (.ireturn, 1) := by decide +kernel
set_option maxRecDepth 100000 in
set_option maxHeartbeats 4000000 in
theorem k_L_usage (l : Launch) (hst : l.stackTraces = false) {G : zG} (hg : 129 ≤ gn G) {a1 : Int32} {v : V3} {g : Nat} {B : Int} (hw : w_X3_usage a1 v (exI g B (w_X4_usage a1) [(eIA, 1)]) (okF g B (w_X4_usage a1))) : Mh l yL_usage cL_usage 4 [(0, 9, 12, 18)] 8 134 1 6 G [.ref (gad G 0), .int a1, .ref (gad G 20)] v (QiZ G (HPf g B (w_X4_usage a1))) := by
  refine z_hofW hg (by decide) (Nat.le_of_ble_eq_true rfl) ?_
  intro p e s m args below meth c ls C0 hT Z hl
  have hx := C0.1
  have hb := C0.2.1
  replace hl : lv_has ls 4 [(0, .ref (gad G 0)), (1, .int a1), (2, .ref (gad G 20))] := hl
  generalize s.heap = H at Z ⊢
  generalize ([] : List Loc) = locs at Z ⊢
  refine lv_aload_n hx hb dL_usage_0 rfl (lv_at hl 2 rfl) ?_
  refine lv_iconst (v := 0) hx hb dL_usage_1 (by decide) ?_
  refine lv_aload_n hx hb dL_usage_2 rfl (lv_at hl 0 rfl) ?_
  refine lv_iload_n hx hb dL_usage_3 rfl (lv_at hl 1 rfl) ?_
  refine z_hcallVf C0 Z hl.1 (As := [.int a1]) (rest := [.int 0, .ref (gad G 20)]) (k_X3_usage l hst hg hw) (gv_X3_usage tm_4_149) rfl ds_X3_usage ⟨Nat.le_of_ble_eq_true rfl, Nat.le_of_ble_eq_true rfl⟩ (ci := 3) rfl (cx_lt C0 (by decide)) rfl rfl rfl (Nat.le_of_ble_eq_true rfl) ⟨Nat.le_of_ble_eq_true rfl, Nat.le_of_ble_eq_true rfl⟩ dL_usage_4 (fun E u H locs ce q hX Z h9 hv9 hc9 => ?_) (fun r u H locs hw Z => ?_)
  · obtain ⟨k, hk, hP⟩ := hX
    obtain ⟨rfl, rfl⟩ := Prod.mk.inj (List.mem_singleton.mp hk)
    refine vx_catch (E := eIA) (name := eIA) (cx_own C0) [] ⟨0, 9, 12, 18⟩ [] (by rw [hT]; rfl) (fun z hz => absurd hz List.not_mem_nil) rfl (by decide) (cx_w C0 tm_3_81) (cx_w2 C0 (.inr (by decide +kernel))) h9 hv9 hc9 ?_
    refine lv_astore_n (lv' := [(3, .ref q), (0, .ref (gad G 0)), (1, .int a1), (2, .ref (gad G 20))]) hx hb dL_usage_12 rfl hl (by decide) rfl (fun ls hl => ?_)
    refine lv_iconst (v := 1) hx hb dL_usage_13 (by decide) ?_
    refine z_wide (mc := 1) (ms := 6) (by decide) (by decide) ?_
    exact z_iret C0 Z (Q := HPf g B (w_X4_usage a1)) (.inr ⟨by decide, hP u (fun _ _ _ => rfl)⟩) dL_usage_14
  · refine lv_f2d hx hb dL_usage_7 (fp_f2d hw.1) ?_
    refine z_dast C0 Z dL_usage_8 (fun H locs Z => ?_)
    refine lv_goto (tgt := 15) hx hb dL_usage_9 (by decide) ?_
    refine lv_iconst (v := 0) hx hb dL_usage_15 (by decide) ?_
    refine z_wide (mc := 1) (ms := 6) (by decide) (by decide) ?_
    exact z_iret C0 Z (Q := HPf g B (w_X4_usage a1)) (.inl ⟨rfl, r, o20_e, hw.1, hw.2 _ (Eq9_20 u _)⟩) dL_usage_16
theorem dL_waitsFor_0 : decode cL_waitsFor 0 = .ok (.aload_n 3, 1) := by decide +kernel
theorem dL_waitsFor_1 : decode cL_waitsFor 1 = .ok (.iconst 0, 1) := by decide +kernel
theorem dL_waitsFor_2 : decode cL_waitsFor 2 = .ok (.aload_n 0, 1) := by decide +kernel
theorem dL_waitsFor_3 : decode cL_waitsFor 3 = .ok (.iload_n 1, 1) := by decide +kernel
theorem dL_waitsFor_4 : decode cL_waitsFor 4 = .ok (.iload_n 2, 1) := by decide +kernel
theorem dL_waitsFor_5 : decode cL_waitsFor 5 = .ok (.invokevirtual 100, 3) := by decide +kernel
theorem dL_waitsFor_8 : decode cL_waitsFor 8 = .ok (.i2l, 1) := by decide +kernel
theorem dL_waitsFor_9 : decode cL_waitsFor 9 = .ok (.lastore, 1) := by decide +kernel
theorem dL_waitsFor_10 : decode cL_waitsFor 10 = .ok (.goto 11, 3) := by decide +kernel
theorem dL_waitsFor_13 : decode cL_waitsFor 13 = .ok (.astore 4, 2) := by decide +kernel
theorem dL_waitsFor_15 : decode cL_waitsFor 15 = .ok (.iconst 1, 1) := by decide +kernel
theorem dL_waitsFor_16 : decode cL_waitsFor 16 = .ok (.ireturn, 1) := by decide +kernel
theorem dL_waitsFor_17 : decode cL_waitsFor 17 = .ok (.astore 4, 2) := by decide +kernel
theorem dL_waitsFor_19 : decode cL_waitsFor 19 = .ok (.iconst 2, 1) := by decide +kernel
theorem dL_waitsFor_20 : decode cL_waitsFor 20 = .ok (.ireturn, 1) := by decide +kernel
theorem dL_waitsFor_21 : decode cL_waitsFor 21 = .ok (.iconst 0, 1) := by decide +kernel
theorem dL_waitsFor_22 : decode cL_waitsFor 22 = .ok (.ireturn, 1) := by decide +kernel
set_option maxRecDepth 100000 in
set_option maxHeartbeats 4000000 in
theorem k_L_waitsFor (l : Launch) (hst : l.stackTraces = false) {G : zG} (hg : 129 ≤ gn G) {a1 a2 : Int32} {v : V3} {g : Nat} {B : Int} (hw : w_X3_waitsFor a1 a2 v (exI g B (w_X4_waitsFor a1 a2) [(eIO, 1), (eIA, 2)]) (okI g B (w_X4_waitsFor a1 a2))) : Mh l yL_waitsFor cL_waitsFor 5 [(0, 10, 13, 33), (0, 10, 17, 18)] 8 148 2 12 G [.ref (gad G 0), .int a1, .int a2, .ref (gad G 19)] v (QiZ G (HP g B (w_X4_waitsFor a1 a2))) := by
  refine z_hofW hg (by decide) (Nat.le_of_ble_eq_true rfl) ?_
  intro p e s m args below meth c ls C0 hT Z hl
  have hx := C0.1
  have hb := C0.2.1
  replace hl : lv_has ls 5 [(0, .ref (gad G 0)), (1, .int a1), (2, .int a2), (3, .ref (gad G 19))] := hl
  generalize s.heap = H at Z ⊢
  generalize ([] : List Loc) = locs at Z ⊢
  refine lv_aload_n hx hb dL_waitsFor_0 rfl (lv_at hl 3 rfl) ?_
  refine lv_iconst (v := 0) hx hb dL_waitsFor_1 (by decide) ?_
  refine lv_aload_n hx hb dL_waitsFor_2 rfl (lv_at hl 0 rfl) ?_
  refine lv_iload_n hx hb dL_waitsFor_3 rfl (lv_at hl 1 rfl) ?_
  refine lv_iload_n hx hb dL_waitsFor_4 rfl (lv_at hl 2 rfl) ?_
  refine z_hcallVi C0 Z hl.1 (As := [.int a1, .int a2]) (rest := [.int 0, .ref (gad G 19)]) (k_X3_waitsFor l hst hg hw) (gv_X3_waitsFor tm_4_156) rfl ds_X3_waitsFor ⟨Nat.le_of_ble_eq_true rfl, Nat.le_of_ble_eq_true rfl⟩ (ci := 3) rfl (cx_lt C0 (by decide)) rfl rfl rfl (Nat.le_of_ble_eq_true rfl) ⟨Nat.le_of_ble_eq_true rfl, Nat.le_of_ble_eq_true rfl⟩ dL_waitsFor_5 (fun E u H locs ce q hX Z h9 hv9 hc9 => ?_) (fun r u H locs hw Z => ?_)
  · obtain ⟨k, hk, hP⟩ := hX
    simp only [List.mem_cons, Prod.mk.injEq, List.not_mem_nil, or_false] at hk
    rcases hk with ⟨rfl, rfl⟩ | ⟨rfl, rfl⟩
    · refine vx_catch (E := eIO) (name := eIO) (cx_own C0) [] ⟨0, 10, 13, 33⟩ [⟨0, 10, 17, 18⟩] (by rw [hT]; rfl) (fun z hz => absurd hz List.not_mem_nil) rfl (by decide) (cx_w C0 tm_3_142) (cx_w2 C0 (.inr (by decide +kernel))) h9 hv9 hc9 ?_
      refine lv_astore (lv' := [(4, .ref q), (0, .ref (gad G 0)), (1, .int a1), (2, .int a2), (3, .ref (gad G 19))]) hx hb dL_waitsFor_13 hl (by decide) rfl (fun ls hl => ?_)
      refine lv_iconst (v := 1) hx hb dL_waitsFor_15 (by decide) ?_
      refine z_wide (mc := 2) (ms := 12) (by decide) (by decide) ?_
      exact z_iret C0 Z (Q := HP g B (w_X4_waitsFor a1 a2)) (.inr ⟨by decide, hP u (fun _ _ _ => rfl)⟩) dL_waitsFor_16
    · refine vx_catch (E := eIA) (name := eIA) (cx_own C0) [⟨0, 10, 13, 33⟩] ⟨0, 10, 17, 18⟩ [] (by rw [hT]; rfl) (fun z hz => by
      obtain rfl := List.mem_singleton.mp hz
      exact .inr ⟨by decide, eIO, cx_w C0 tm_3_142, (cx_K C0).2.2.2.2.2.2.2.1 (eIA, eIO) (by decide +kernel)⟩) rfl (by decide) (cx_w C0 tm_3_81) (cx_w2 C0 (.inr (by decide +kernel))) h9 hv9 hc9 ?_
      refine lv_astore (lv' := [(4, .ref q), (0, .ref (gad G 0)), (1, .int a1), (2, .int a2), (3, .ref (gad G 19))]) hx hb dL_waitsFor_17 hl (by decide) rfl (fun ls hl => ?_)
      refine lv_iconst (v := 2) hx hb dL_waitsFor_19 (by decide) ?_
      refine z_wide (mc := 2) (ms := 12) (by decide) (by decide) ?_
      exact z_iret C0 Z (Q := HP g B (w_X4_waitsFor a1 a2)) (.inr ⟨by decide, hP u (fun _ _ _ => rfl)⟩) dL_waitsFor_20
  · refine lv_i2l (v := r.toInt64) hx hb dL_waitsFor_8 rfl ?_
    refine z_last C0 Z dL_waitsFor_9 (fun H locs Z => ?_)
    refine lv_goto (tgt := 21) hx hb dL_waitsFor_10 (by decide) ?_
    refine lv_iconst (v := 0) hx hb dL_waitsFor_21 (by decide) ?_
    refine z_wide (mc := 2) (ms := 12) (by decide) (by decide) ?_
    exact z_iret C0 Z (Q := HP g B (w_X4_waitsFor a1 a2)) (.inl ⟨rfl, r, o19_e, hw _ (Eq9_19 u _)⟩) dL_waitsFor_22
theorem dL_ahead_0 : decode cL_ahead 0 = .ok (.aload_n 3, 1) := by decide +kernel
theorem dL_ahead_1 : decode cL_ahead 1 = .ok (.iconst 0, 1) := by decide +kernel
theorem dL_ahead_2 : decode cL_ahead 2 = .ok (.aload_n 0, 1) := by decide +kernel
theorem dL_ahead_3 : decode cL_ahead 3 = .ok (.iload_n 1, 1) := by decide +kernel
theorem dL_ahead_4 : decode cL_ahead 4 = .ok (.iload_n 2, 1) := by decide +kernel
theorem dL_ahead_5 : decode cL_ahead 5 = .ok (.invokevirtual 103, 3) := by decide +kernel
theorem dL_ahead_8 : decode cL_ahead 8 = .ok (.i2l, 1) := by decide +kernel
theorem dL_ahead_9 : decode cL_ahead 9 = .ok (.lastore, 1) := by decide +kernel
theorem dL_ahead_10 : decode cL_ahead 10 = .ok (.goto 7, 3) := by decide +kernel
theorem dL_ahead_13 : decode cL_ahead 13 = .ok (.astore 4, 2) := by decide +kernel
theorem dL_ahead_15 : decode cL_ahead 15 = .ok (.iconst 1, 1) := by decide +kernel
theorem dL_ahead_16 : decode cL_ahead 16 = .ok (.ireturn, 1) := by decide +kernel
theorem dL_ahead_17 : decode cL_ahead 17 = .ok (.iconst 0, 1) := by decide +kernel
theorem dL_ahead_18 : decode cL_ahead 18 = .ok (.ireturn, 1) := by decide +kernel
set_option maxRecDepth 100000 in
set_option maxHeartbeats 4000000 in
theorem k_L_ahead (l : Launch) (hst : l.stackTraces = false) {G : zG} (hg : 129 ≤ gn G) {a1 a2 : Int32} {v : V3} {g : Nat} {B : Int} (hw : w_X3_ahead a1 a2 v (exI g B (w_X4_ahead a1 a2) [(eIA, 1)]) (okI g B (w_X4_ahead a1 a2))) : Mh l yL_ahead cL_ahead 5 [(0, 10, 13, 18)] 8 170 2 12 G [.ref (gad G 0), .int a1, .int a2, .ref (gad G 19)] v (QiZ G (HP g B (w_X4_ahead a1 a2))) := by
  refine z_hofW hg (by decide) (Nat.le_of_ble_eq_true rfl) ?_
  intro p e s m args below meth c ls C0 hT Z hl
  have hx := C0.1
  have hb := C0.2.1
  replace hl : lv_has ls 5 [(0, .ref (gad G 0)), (1, .int a1), (2, .int a2), (3, .ref (gad G 19))] := hl
  generalize s.heap = H at Z ⊢
  generalize ([] : List Loc) = locs at Z ⊢
  refine lv_aload_n hx hb dL_ahead_0 rfl (lv_at hl 3 rfl) ?_
  refine lv_iconst (v := 0) hx hb dL_ahead_1 (by decide) ?_
  refine lv_aload_n hx hb dL_ahead_2 rfl (lv_at hl 0 rfl) ?_
  refine lv_iload_n hx hb dL_ahead_3 rfl (lv_at hl 1 rfl) ?_
  refine lv_iload_n hx hb dL_ahead_4 rfl (lv_at hl 2 rfl) ?_
  refine z_hcallVi C0 Z hl.1 (As := [.int a1, .int a2]) (rest := [.int 0, .ref (gad G 19)]) (k_X3_ahead l hst hg hw) (gv_X3_ahead tm_4_163) rfl ds_X3_ahead ⟨Nat.le_of_ble_eq_true rfl, Nat.le_of_ble_eq_true rfl⟩ (ci := 3) rfl (cx_lt C0 (by decide)) rfl rfl rfl (Nat.le_of_ble_eq_true rfl) ⟨Nat.le_of_ble_eq_true rfl, Nat.le_of_ble_eq_true rfl⟩ dL_ahead_5 (fun E u H locs ce q hX Z h9 hv9 hc9 => ?_) (fun r u H locs hw Z => ?_)
  · obtain ⟨k, hk, hP⟩ := hX
    obtain ⟨rfl, rfl⟩ := Prod.mk.inj (List.mem_singleton.mp hk)
    refine vx_catch (E := eIA) (name := eIA) (cx_own C0) [] ⟨0, 10, 13, 18⟩ [] (by rw [hT]; rfl) (fun z hz => absurd hz List.not_mem_nil) rfl (by decide) (cx_w C0 tm_3_81) (cx_w2 C0 (.inr (by decide +kernel))) h9 hv9 hc9 ?_
    refine lv_astore (lv' := [(4, .ref q), (0, .ref (gad G 0)), (1, .int a1), (2, .int a2), (3, .ref (gad G 19))]) hx hb dL_ahead_13 hl (by decide) rfl (fun ls hl => ?_)
    refine lv_iconst (v := 1) hx hb dL_ahead_15 (by decide) ?_
    refine z_wide (mc := 2) (ms := 12) (by decide) (by decide) ?_
    exact z_iret C0 Z (Q := HP g B (w_X4_ahead a1 a2)) (.inr ⟨by decide, hP u (fun _ _ _ => rfl)⟩) dL_ahead_16
  · refine lv_i2l (v := r.toInt64) hx hb dL_ahead_8 rfl ?_
    refine z_last C0 Z dL_ahead_9 (fun H locs Z => ?_)
    refine lv_goto (tgt := 17) hx hb dL_ahead_10 (by decide) ?_
    refine lv_iconst (v := 0) hx hb dL_ahead_17 (by decide) ?_
    refine z_wide (mc := 2) (ms := 12) (by decide) (by decide) ?_
    exact z_iret C0 Z (Q := HP g B (w_X4_ahead a1 a2)) (.inl ⟨rfl, r, o19_e, hw _ (Eq9_19 u _)⟩) dL_ahead_18
theorem dL_show_0 : decode cL_show 0 = .ok (.aload_n 2, 1) := by decide +kernel
theorem dL_show_1 : decode cL_show 1 = .ok (.iconst 0, 1) := by decide +kernel
theorem dL_show_2 : decode cL_show 2 = .ok (.aload_n 0, 1) := by decide +kernel
theorem dL_show_3 : decode cL_show 3 = .ok (.iload_n 1, 1) := by decide +kernel
theorem dL_show_4 : decode cL_show 4 = .ok (.invokevirtual 106, 3) := by decide +kernel
theorem dL_show_7 : decode cL_show 7 = .ok (.i2l, 1) := by decide +kernel
theorem dL_show_8 : decode cL_show 8 = .ok (.lastore, 1) := by decide +kernel
theorem dL_show_9 : decode cL_show 9 = .ok (.goto 6, 3) := by decide +kernel
theorem dL_show_12 : decode cL_show 12 = .ok (.astore_n 3, 1) := by decide +kernel
theorem dL_show_13 : decode cL_show 13 = .ok (.iconst 1, 1) := by decide +kernel
theorem dL_show_14 : decode cL_show 14 = .ok (.ireturn, 1) := by decide +kernel
theorem dL_show_15 : decode cL_show 15 = .ok (.iconst 0, 1) := by decide +kernel
theorem dL_show_16 : decode cL_show 16 = .ok (.ireturn, 1) := by decide +kernel
set_option maxRecDepth 100000 in
set_option maxHeartbeats 4000000 in
theorem k_L_show (l : Launch) (hst : l.stackTraces = false) {G : zG} (hg : 129 ≤ gn G) {a1 : Int32} {v : V3} {g : Nat} {B : Int} (hw : w_X3_show a1 v (exI g B (w_X4_show a1) [(eIA, 1)]) (okI g B (w_X4_show a1))) : Mh l yL_show cL_show 4 [(0, 9, 12, 18)] 8 135 1 6 G [.ref (gad G 0), .int a1, .ref (gad G 19)] v (QiZ G (HP g B (w_X4_show a1))) := by
  refine z_hofW hg (by decide) (Nat.le_of_ble_eq_true rfl) ?_
  intro p e s m args below meth c ls C0 hT Z hl
  have hx := C0.1
  have hb := C0.2.1
  replace hl : lv_has ls 4 [(0, .ref (gad G 0)), (1, .int a1), (2, .ref (gad G 19))] := hl
  generalize s.heap = H at Z ⊢
  generalize ([] : List Loc) = locs at Z ⊢
  refine lv_aload_n hx hb dL_show_0 rfl (lv_at hl 2 rfl) ?_
  refine lv_iconst (v := 0) hx hb dL_show_1 (by decide) ?_
  refine lv_aload_n hx hb dL_show_2 rfl (lv_at hl 0 rfl) ?_
  refine lv_iload_n hx hb dL_show_3 rfl (lv_at hl 1 rfl) ?_
  refine z_hcallVi C0 Z hl.1 (As := [.int a1]) (rest := [.int 0, .ref (gad G 19)]) (k_X3_show l hst hg hw) (gv_X3_show tm_4_170) rfl ds_X3_show ⟨Nat.le_of_ble_eq_true rfl, Nat.le_of_ble_eq_true rfl⟩ (ci := 3) rfl (cx_lt C0 (by decide)) rfl rfl rfl (Nat.le_of_ble_eq_true rfl) ⟨Nat.le_of_ble_eq_true rfl, Nat.le_of_ble_eq_true rfl⟩ dL_show_4 (fun E u H locs ce q hX Z h9 hv9 hc9 => ?_) (fun r u H locs hw Z => ?_)
  · obtain ⟨k, hk, hP⟩ := hX
    obtain ⟨rfl, rfl⟩ := Prod.mk.inj (List.mem_singleton.mp hk)
    refine vx_catch (E := eIA) (name := eIA) (cx_own C0) [] ⟨0, 9, 12, 18⟩ [] (by rw [hT]; rfl) (fun z hz => absurd hz List.not_mem_nil) rfl (by decide) (cx_w C0 tm_3_81) (cx_w2 C0 (.inr (by decide +kernel))) h9 hv9 hc9 ?_
    refine lv_astore_n (lv' := [(3, .ref q), (0, .ref (gad G 0)), (1, .int a1), (2, .ref (gad G 19))]) hx hb dL_show_12 rfl hl (by decide) rfl (fun ls hl => ?_)
    refine lv_iconst (v := 1) hx hb dL_show_13 (by decide) ?_
    refine z_wide (mc := 1) (ms := 6) (by decide) (by decide) ?_
    exact z_iret C0 Z (Q := HP g B (w_X4_show a1)) (.inr ⟨by decide, hP u (fun _ _ _ => rfl)⟩) dL_show_14
  · refine lv_i2l (v := r.toInt64) hx hb dL_show_7 rfl ?_
    refine z_last C0 Z dL_show_8 (fun H locs Z => ?_)
    refine lv_goto (tgt := 15) hx hb dL_show_9 (by decide) ?_
    refine lv_iconst (v := 0) hx hb dL_show_15 (by decide) ?_
    refine z_wide (mc := 1) (ms := 6) (by decide) (by decide) ?_
    exact z_iret C0 Z (Q := HP g B (w_X4_show a1)) (.inl ⟨rfl, r, o19_e, hw _ (Eq9_19 u _)⟩) dL_show_16
