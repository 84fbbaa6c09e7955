theorem dL_addOwner_0 : decode cL_addOwner 0 = .ok (.aload_n 0, 1) := by decide +kernel
theorem dL_addOwner_1 : decode cL_addOwner 1 = .ok (.iload_n 1, 1) := by decide +kernel
theorem dL_addOwner_2 : decode cL_addOwner 2 = .ok (.invokevirtual 39, 3) := by decide +kernel
theorem dL_addOwner_5 : decode cL_addOwner 5 = .ok (.ireturn, 1) := by decide +kernel
theorem dL_addOwner_6 : decode cL_addOwner 6 = .ok (.astore_n 2, 1) := by decide +kernel
theorem dL_addOwner_7 : decode cL_addOwner 7 = .ok (.bipush (-102), 2) := by decide +kernel
theorem dL_addOwner_9 : decode cL_addOwner 9 = .ok (.ireturn, 1) := by decide +kernel
theorem dL_addOwner_10 : decode cL_addOwner 10 = .ok (.astore_n 2, 1) := by decide +kernel
theorem dL_addOwner_11 : decode cL_addOwner 11 = .ok (.bipush (-103), 2) := by decide +kernel
theorem dL_addOwner_13 : decode cL_addOwner 13 = .ok (.ireturn, 1) := by decide +kernel
def w_L_addOwner (a1 : Int32) (v : V3) (Q : Int32 → V3 → Prop) : Prop := w_X3_addOwner a1 v Q
set_option maxRecDepth 100000 in
set_option maxHeartbeats 4000000 in
theorem k_L_addOwner (l : Launch) {G : zG} (hg : 116 ≤ gn G) {a1 : Int32} {v : V3} {Q : Int32 → V3 → Prop} (hw : w_L_addOwner a1 v Q) : Mh l yL_addOwner cL_addOwner 3 (some .int) [(0, 5, 6, 43), (0, 5, 10, 45)] 2 44 0 0 G [.ref (gad G 0), .int a1] v (QiZ G Q) := by
  rw [w_L_addOwner] at hw
  refine z_hofW hg (by decide) (Nat.le_of_ble_eq_true rfl) ?_
  intro p e s m args below meth c ls C0 hT Z hl
  have hx := C0.1
  have hb := C0.2.1
  replace hl : lv_has ls 3 [(0, .ref (gad G 0)), (1, .int a1)] := hl
  generalize s.heap = H at Z ⊢
  generalize ([] : List Loc) = locs at Z ⊢
  refine lv_aload_n hx hb dL_addOwner_0 rfl (lv_at hl 0 rfl) ?_
  refine lv_iload_n hx hb dL_addOwner_1 rfl (lv_at hl 1 rfl) ?_
  refine z_callVi C0 Z hl.1 (As := [.int a1]) (rest := []) (k_X3_addOwner l hg hw) (gv_X3_addOwner tm_1_224) rfl ds_X3_addOwner ⟨Nat.le_of_ble_eq_true rfl, Nat.le_of_ble_eq_true rfl⟩ (ci := 3) rfl (cx_lt C0 (by decide)) rfl rfl rfl (Nat.le_of_ble_eq_true rfl) ⟨Nat.le_of_ble_eq_true rfl, Nat.le_of_ble_eq_true rfl⟩ dL_addOwner_2 (fun r u H locs hw Z => ?_)
  exact z_iret C0 Z (Q := Q) hw dL_addOwner_5
theorem dL_set_0 : decode cL_set 0 = .ok (.aload_n 0, 1) := by decide +kernel
theorem dL_set_1 : decode cL_set 1 = .ok (.iload_n 1, 1) := by decide +kernel
theorem dL_set_2 : decode cL_set 2 = .ok (.iload_n 2, 1) := by decide +kernel
theorem dL_set_3 : decode cL_set 3 = .ok (.invokevirtual 47, 3) := by decide +kernel
theorem dL_set_6 : decode cL_set 6 = .ok (.ireturn, 1) := by decide +kernel
theorem dL_set_7 : decode cL_set 7 = .ok (.astore_n 3, 1) := by decide +kernel
theorem dL_set_8 : decode cL_set 8 = .ok (.bipush (-102), 2) := by decide +kernel
theorem dL_set_10 : decode cL_set 10 = .ok (.ireturn, 1) := by decide +kernel
def w_L_set (a1 a2 : Int32) (v : V3) (Q : Int32 → V3 → Prop) : Prop := w_X3_set a1 a2 v Q
set_option maxRecDepth 100000 in
set_option maxHeartbeats 4000000 in
theorem k_L_set (l : Launch) {G : zG} (hg : 116 ≤ gn G) {a1 a2 : Int32} {v : V3} {Q : Int32 → V3 → Prop} (hw : w_L_set a1 a2 v Q) : Mh l yL_set cL_set 4 (some .int) [(0, 6, 7, 43)] 2 45 0 0 G [.ref (gad G 0), .int a1, .int a2] v (QiZ G Q) := by
  rw [w_L_set] at hw
  refine z_hofW hg (by decide) (Nat.le_of_ble_eq_true rfl) ?_
  intro p e s m args below meth c ls C0 hT Z hl
  have hx := C0.1
  have hb := C0.2.1
  replace hl : lv_has ls 4 [(0, .ref (gad G 0)), (1, .int a1), (2, .int a2)] := hl
  generalize s.heap = H at Z ⊢
  generalize ([] : List Loc) = locs at Z ⊢
  refine lv_aload_n hx hb dL_set_0 rfl (lv_at hl 0 rfl) ?_
  refine lv_iload_n hx hb dL_set_1 rfl (lv_at hl 1 rfl) ?_
  refine lv_iload_n hx hb dL_set_2 rfl (lv_at hl 2 rfl) ?_
  refine z_callVi C0 Z hl.1 (As := [.int a1, .int a2]) (rest := []) (k_X3_set l hg hw) (gv_X3_set tm_2_81) rfl ds_X3_set ⟨Nat.le_of_ble_eq_true rfl, Nat.le_of_ble_eq_true rfl⟩ (ci := 3) rfl (cx_lt C0 (by decide)) rfl rfl rfl (Nat.le_of_ble_eq_true rfl) ⟨Nat.le_of_ble_eq_true rfl, Nat.le_of_ble_eq_true rfl⟩ dL_set_3 (fun r u H locs hw Z => ?_)
  exact z_iret C0 Z (Q := Q) hw dL_set_6
theorem dL_count_0 : decode cL_count 0 = .ok (.aload_n 0, 1) := by decide +kernel
theorem dL_count_1 : decode cL_count 1 = .ok (.iload_n 1, 1) := by decide +kernel
theorem dL_count_2 : decode cL_count 2 = .ok (.invokevirtual 50, 3) := by decide +kernel
theorem dL_count_5 : decode cL_count 5 = .ok (.ireturn, 1) := by decide +kernel
theorem dL_count_6 : decode cL_count 6 = .ok (.astore_n 2, 1) := by decide +kernel
theorem dL_count_7 : decode cL_count 7 = .ok (.bipush (-102), 2) := by decide +kernel
theorem dL_count_9 : decode cL_count 9 = .ok (.ireturn, 1) := by decide +kernel
def w_L_count (a1 : Int32) (v : V3) (Q : Int32 → V3 → Prop) : Prop := w_X3_count a1 v Q
set_option maxRecDepth 100000 in
set_option maxHeartbeats 4000000 in
theorem k_L_count (l : Launch) {G : zG} (hg : 116 ≤ gn G) {a1 : Int32} {v : V3} {Q : Int32 → V3 → Prop} (hw : w_L_count a1 v Q) : Mh l yL_count cL_count 3 (some .int) [(0, 5, 6, 43)] 3 70 0 0 G [.ref (gad G 0), .int a1] v (QiZ G Q) := by
  rw [w_L_count] at hw
  refine z_hofW hg (by decide) (Nat.le_of_ble_eq_true rfl) ?_
  intro p e s m args below meth c ls C0 hT Z hl
  have hx := C0.1
  have hb := C0.2.1
  replace hl : lv_has ls 3 [(0, .ref (gad G 0)), (1, .int a1)] := hl
  generalize s.heap = H at Z ⊢
  generalize ([] : List Loc) = locs at Z ⊢
  refine lv_aload_n hx hb dL_count_0 rfl (lv_at hl 0 rfl) ?_
  refine lv_iload_n hx hb dL_count_1 rfl (lv_at hl 1 rfl) ?_
  refine z_callVi C0 Z hl.1 (As := [.int a1]) (rest := []) (k_X3_count l hg hw) (gv_X3_count tm_2_96) rfl ds_X3_count ⟨Nat.le_of_ble_eq_true rfl, Nat.le_of_ble_eq_true rfl⟩ (ci := 3) rfl (cx_lt C0 (by decide)) rfl rfl rfl (Nat.le_of_ble_eq_true rfl) ⟨Nat.le_of_ble_eq_true rfl, Nat.le_of_ble_eq_true rfl⟩ dL_count_2 (fun r u H locs hw Z => ?_)
  exact z_iret C0 Z (Q := Q) hw dL_count_5
theorem dL_owner_0 : decode cL_owner 0 = .ok (.aload_n 0, 1) := by decide +kernel
theorem dL_owner_1 : decode cL_owner 1 = .ok (.iload_n 1, 1) := by decide +kernel
theorem dL_owner_2 : decode cL_owner 2 = .ok (.iload_n 2, 1) := by decide +kernel
theorem dL_owner_3 : decode cL_owner 3 = .ok (.invokevirtual 53, 3) := by decide +kernel
theorem dL_owner_6 : decode cL_owner 6 = .ok (.ireturn, 1) := by decide +kernel
theorem dL_owner_7 : decode cL_owner 7 = .ok (.astore_n 3, 1) := by decide +kernel
theorem dL_owner_8 : decode cL_owner 8 = .ok (.bipush (-101), 2) := by decide +kernel
theorem dL_owner_10 : decode cL_owner 10 = .ok (.ireturn, 1) := by decide +kernel
theorem dL_owner_11 : decode cL_owner 11 = .ok (.astore_n 3, 1) := by decide +kernel
theorem dL_owner_12 : decode cL_owner 12 = .ok (.bipush (-102), 2) := by decide +kernel
theorem dL_owner_14 : decode cL_owner 14 = .ok (.ireturn, 1) := by decide +kernel
def w_L_owner (a1 a2 : Int32) (v : V3) (Q : Int32 → V3 → Prop) : Prop := w_X3_owner a1 a2 v Q
set_option maxRecDepth 100000 in
set_option maxHeartbeats 4000000 in
theorem k_L_owner (l : Launch) {G : zG} (hg : 116 ≤ gn G) {a1 a2 : Int32} {v : V3} {Q : Int32 → V3 → Prop} (hw : w_L_owner a1 a2 v Q) : Mh l yL_owner cL_owner 4 (some .int) [(0, 6, 7, 56), (0, 6, 11, 43)] 5 115 0 0 G [.ref (gad G 0), .int a1, .int a2] v (QiZ G Q) := by
  rw [w_L_owner] at hw
  refine z_hofW hg (by decide) (Nat.le_of_ble_eq_true rfl) ?_
  intro p e s m args below meth c ls C0 hT Z hl
  have hx := C0.1
  have hb := C0.2.1
  replace hl : lv_has ls 4 [(0, .ref (gad G 0)), (1, .int a1), (2, .int a2)] := hl
  generalize s.heap = H at Z ⊢
  generalize ([] : List Loc) = locs at Z ⊢
  refine lv_aload_n hx hb dL_owner_0 rfl (lv_at hl 0 rfl) ?_
  refine lv_iload_n hx hb dL_owner_1 rfl (lv_at hl 1 rfl) ?_
  refine lv_iload_n hx hb dL_owner_2 rfl (lv_at hl 2 rfl) ?_
  refine z_callVi C0 Z hl.1 (As := [.int a1, .int a2]) (rest := []) (k_X3_owner l hg hw) (gv_X3_owner tm_2_150) rfl ds_X3_owner ⟨Nat.le_of_ble_eq_true rfl, Nat.le_of_ble_eq_true rfl⟩ (ci := 3) rfl (cx_lt C0 (by decide)) rfl rfl rfl (Nat.le_of_ble_eq_true rfl) ⟨Nat.le_of_ble_eq_true rfl, Nat.le_of_ble_eq_true rfl⟩ dL_owner_3 (fun r u H locs hw Z => ?_)
  exact z_iret C0 Z (Q := Q) hw dL_owner_6
theorem dL_trust_0 : decode cL_trust 0 = .ok (.aload_n 0, 1) := by decide +kernel
theorem dL_trust_1 : decode cL_trust 1 = .ok (.iload_n 1, 1) := by decide +kernel
theorem dL_trust_2 : decode cL_trust 2 = .ok (.invokevirtual 58, 3) := by decide +kernel
theorem dL_trust_5 : decode cL_trust 5 = .ok (.dreturn, 1) := by decide +kernel
theorem dL_trust_6 : decode cL_trust 6 = .ok (.astore_n 2, 1) := by decide +kernel
theorem dL_trust_7 : decode cL_trust 7 = .ok (.ldc2_w 62, 3) := by decide +kernel
theorem dL_trust_10 : decode cL_trust 10 = .ok (.dreturn, 1) := by decide +kernel
def w_L_trust (a1 : Int32) (v : V3) (Q : UInt64 → V3 → Prop) : Prop := w_X3_trust a1 v Q
set_option maxRecDepth 100000 in
set_option maxHeartbeats 4000000 in
theorem k_L_trust (l : Launch) {G : zG} (hg : 116 ≤ gn G) {a1 : Int32} {v : V3} {Q : UInt64 → V3 → Prop} (hw : w_L_trust a1 v Q) : Mh l yL_trust cL_trust 3 (some .double) [(0, 5, 6, 56)] 2 44 0 0 G [.ref (gad G 0), .int a1] v (QdZ G Q) := by
  rw [w_L_trust] at hw
  refine z_hofW hg (by decide) (Nat.le_of_ble_eq_true rfl) ?_
  intro p e s m args below meth c ls C0 hT Z hl
  have hx := C0.1
  have hb := C0.2.1
  replace hl : lv_has ls 3 [(0, .ref (gad G 0)), (1, .int a1)] := hl
  generalize s.heap = H at Z ⊢
  generalize ([] : List Loc) = locs at Z ⊢
  refine lv_aload_n hx hb dL_trust_0 rfl (lv_at hl 0 rfl) ?_
  refine lv_iload_n hx hb dL_trust_1 rfl (lv_at hl 1 rfl) ?_
  refine z_callVd C0 Z hl.1 (As := [.int a1]) (rest := []) (k_X3_trust l hg hw) (gv_X3_trust tm_3_218) rfl ds_X3_trust ⟨Nat.le_of_ble_eq_true rfl, Nat.le_of_ble_eq_true rfl⟩ (ci := 3) rfl (cx_lt C0 (by decide)) rfl rfl rfl (Nat.le_of_ble_eq_true rfl) ⟨Nat.le_of_ble_eq_true rfl, Nat.le_of_ble_eq_true rfl⟩ dL_trust_2 (fun r u H locs hw Z => ?_)
  exact z_dret C0 Z (Q := Q) hw dL_trust_5
theorem dL_draft_0 : decode cL_draft 0 = .ok (.aload_n 0, 1) := by decide +kernel
theorem dL_draft_1 : decode cL_draft 1 = .ok (.iload_n 1, 1) := by decide +kernel
theorem dL_draft_2 : decode cL_draft 2 = .ok (.iload_n 2, 1) := by decide +kernel
theorem dL_draft_3 : decode cL_draft 3 = .ok (.iload_n 3, 1) := by decide +kernel
theorem dL_draft_4 : decode cL_draft 4 = .ok (.invokevirtual 67, 3) := by decide +kernel
theorem dL_draft_7 : decode cL_draft 7 = .ok (.iconst 0, 1) := by decide +kernel
theorem dL_draft_8 : decode cL_draft 8 = .ok (.ireturn, 1) := by decide +kernel
theorem dL_draft_9 : decode cL_draft 9 = .ok (.astore 4, 2) := by decide +kernel
theorem dL_draft_11 : decode cL_draft 11 = .ok (.bipush (-101), 2) := by decide +kernel
theorem dL_draft_13 : decode cL_draft 13 = .ok (.ireturn, 1) := by decide +kernel
theorem dL_draft_14 : decode cL_draft 14 = .ok (.astore 4, 2) := by decide +kernel
theorem dL_draft_16 : decode cL_draft 16 = .ok (.bipush (-102), 2) := by decide +kernel
theorem dL_draft_18 : decode cL_draft 18 = .ok (.ireturn, 1) := by decide +kernel
def w_L_draft (a1 a2 a3 : Int32) (v : V3) (Q : Int32 → V3 → Prop) : Prop := w_X3_draft a1 a2 a3 v (fun u => Q 0 u)
set_option maxRecDepth 100000 in
set_option maxHeartbeats 4000000 in
theorem k_L_draft (l : Launch) {G : zG} (hg : 116 ≤ gn G) {a1 a2 a3 : Int32} {v : V3} {Q : Int32 → V3 → Prop} (hw : w_L_draft a1 a2 a3 v Q) : Mh l yL_draft cL_draft 5 (some .int) [(0, 8, 9, 56), (0, 8, 14, 43)] 3 66 0 0 G [.ref (gad G 0), .int a1, .int a2, .int a3] v (QiZ G Q) := by
  rw [w_L_draft] at hw
  refine z_hofW hg (by decide) (Nat.le_of_ble_eq_true rfl) ?_
  intro p e s m args below meth c ls C0 hT Z hl
  have hx := C0.1
  have hb := C0.2.1
  replace hl : lv_has ls 5 [(0, .ref (gad G 0)), (1, .int a1), (2, .int a2), (3, .int a3)] := hl
  generalize s.heap = H at Z ⊢
  generalize ([] : List Loc) = locs at Z ⊢
  refine lv_aload_n hx hb dL_draft_0 rfl (lv_at hl 0 rfl) ?_
  refine lv_iload_n hx hb dL_draft_1 rfl (lv_at hl 1 rfl) ?_
  refine lv_iload_n hx hb dL_draft_2 rfl (lv_at hl 2 rfl) ?_
  refine lv_iload_n hx hb dL_draft_3 rfl (lv_at hl 3 rfl) ?_
  refine z_callVv C0 Z hl.1 (As := [.int a1, .int a2, .int a3]) (rest := []) (k_X3_draft l hg hw) (gv_X3_draft tm_2_117) rfl ds_X3_draft ⟨Nat.le_of_ble_eq_true rfl, Nat.le_of_ble_eq_true rfl⟩ (ci := 3) rfl (cx_lt C0 (by decide)) rfl rfl rfl (Nat.le_of_ble_eq_true rfl) ⟨Nat.le_of_ble_eq_true rfl, Nat.le_of_ble_eq_true rfl⟩ dL_draft_4 (fun u H locs hw Z => ?_)
  refine lv_iconst (v := 0) hx hb dL_draft_7 (by decide) ?_
  exact z_iret C0 Z (Q := Q) hw dL_draft_8
theorem dL_book_0 : decode cL_book 0 = .ok (.aload_n 0, 1) := by decide +kernel
theorem dL_book_1 : decode cL_book 1 = .ok (.iload_n 1, 1) := by decide +kernel
theorem dL_book_2 : decode cL_book 2 = .ok (.iload_n 2, 1) := by decide +kernel
theorem dL_book_3 : decode cL_book 3 = .ok (.iload_n 3, 1) := by decide +kernel
theorem dL_book_4 : decode cL_book 4 = .ok (.iload 4, 2) := by decide +kernel
theorem dL_book_6 : decode cL_book 6 = .ok (.invokevirtual 71, 3) := by decide +kernel
theorem dL_book_9 : decode cL_book 9 = .ok (.ireturn, 1) := by decide +kernel
theorem dL_book_10 : decode cL_book 10 = .ok (.astore 5, 2) := by decide +kernel
theorem dL_book_12 : decode cL_book 12 = .ok (.bipush (-101), 2) := by decide +kernel
theorem dL_book_14 : decode cL_book 14 = .ok (.ireturn, 1) := by decide +kernel
theorem dL_book_15 : decode cL_book 15 = .ok (.astore 5, 2) := by decide +kernel
theorem dL_book_17 : decode cL_book 17 = .ok (.bipush (-102), 2) := by decide +kernel
theorem dL_book_19 : decode cL_book 19 = .ok (.ireturn, 1) := by decide +kernel
theorem dL_book_20 : decode cL_book 20 = .ok (.astore 5, 2) := by decide +kernel
theorem dL_book_22 : decode cL_book 22 = .ok (.bipush (-103), 2) := by decide +kernel
theorem dL_book_24 : decode cL_book 24 = .ok (.ireturn, 1) := by decide +kernel
def w_L_book (a1 a2 a3 a4 : Int32) (v : V3) (Q : Int32 → V3 → Prop) : Prop := w_X3_bookx a1 a2 a3 a4 v (XL [(eIO, (-101)), (eIA, (-102)), (eIS, (-103))] Q) Q
set_option maxRecDepth 100000 in
set_option maxHeartbeats 4000000 in
theorem k_L_book (l : Launch) (hst : l.stackTraces = false) {G : zG} (hg : 116 ≤ gn G) {a1 a2 a3 a4 : Int32} {v : V3} {Q : Int32 → V3 → Prop} (hw : w_L_book a1 a2 a3 a4 v Q) : Mh l yL_book cL_book 6 (some .int) [(0, 9, 10, 56), (0, 9, 15, 43), (0, 9, 20, 45)] 8 136 5 30 G [.ref (gad G 0), .int a1, .int a2, .int a3, .int a4] v (QiZ G Q) := by
  rw [w_L_book] at hw
  refine z_hofW hg (by decide) (Nat.le_of_ble_eq_true rfl) ?_
  intro p e s m args below meth c ls C0 hT Z hl
  have hx := C0.1
  have hb := C0.2.1
  replace hl : lv_has ls 6 [(0, .ref (gad G 0)), (1, .int a1), (2, .int a2), (3, .int a3), (4, .int a4)] := hl
  generalize s.heap = H at Z ⊢
  generalize ([] : List Loc) = locs at Z ⊢
  refine lv_aload_n hx hb dL_book_0 rfl (lv_at hl 0 rfl) ?_
  refine lv_iload_n hx hb dL_book_1 rfl (lv_at hl 1 rfl) ?_
  refine lv_iload_n hx hb dL_book_2 rfl (lv_at hl 2 rfl) ?_
  refine lv_iload_n hx hb dL_book_3 rfl (lv_at hl 3 rfl) ?_
  refine lv_iload hx hb dL_book_4 (lv_at hl 4 rfl) ?_
  refine z_hcallVi C0 Z hl.1 (As := [.int a1, .int a2, .int a3, .int a4]) (rest := []) (k_X3_bookx l hst hg hw) (gv_X3_book tm_2_205) rfl ds_X3_book ⟨Nat.le_of_ble_eq_true rfl, Nat.le_of_ble_eq_true rfl⟩ (ci := 3) rfl (cx_lt C0 (by decide)) rfl rfl rfl (Nat.le_of_ble_eq_true rfl) ⟨Nat.le_of_ble_eq_true rfl, Nat.le_of_ble_eq_true rfl⟩ dL_book_6 (fun E u H locs ce q hX Z h9 hv9 hc9 => ?_) (fun r u H locs hw Z => ?_)
  · obtain ⟨k, hk, hP⟩ := hX
    simp only [List.mem_cons, Prod.mk.injEq, List.not_mem_nil, or_false] at hk
    rcases hk with ⟨rfl, rfl⟩ | ⟨rfl, rfl⟩ | ⟨rfl, rfl⟩
    · refine vx_catch (E := eIO) (name := eIO) (cx_own C0) [] ⟨0, 9, 10, 56⟩ [⟨0, 9, 15, 43⟩, ⟨0, 9, 20, 45⟩] (by rw [hT]; rfl) (fun z hz => absurd hz List.not_mem_nil) rfl (by decide) (cx_w C0 tm_2_116) (cx_w2 C0 (.inr (by decide +kernel))) h9 hv9 hc9 ?_
      refine lv_astore (lv' := [(5, .ref q), (0, .ref (gad G 0)), (1, .int a1), (2, .int a2), (3, .int a3), (4, .int a4)]) hx hb dL_book_10 hl (by decide) rfl (fun ls hl => ?_)
      refine lv_bipush (v := (-101)) hx hb dL_book_12 (by decide) ?_
      refine z_wide (mc := 5) (ms := 30) (by decide) (by decide) ?_
      exact z_iret C0 Z (Q := Q) hP dL_book_14
    · refine vx_catch (E := eIA) (name := eIA) (cx_own C0) [⟨0, 9, 10, 56⟩] ⟨0, 9, 15, 43⟩ [⟨0, 9, 20, 45⟩] (by rw [hT]; rfl) (fun z hz => by
      obtain rfl := List.mem_singleton.mp hz
      exact .inr ⟨by decide, eIO, cx_w C0 tm_2_116, (cx_K C0).2.2.2.2.2.2.2.1 (eIA, eIO) (by decide +kernel)⟩) rfl (by decide) (cx_w C0 tm_1_222) (cx_w2 C0 (.inr (by decide +kernel))) h9 hv9 hc9 ?_
      refine lv_astore (lv' := [(5, .ref q), (0, .ref (gad G 0)), (1, .int a1), (2, .int a2), (3, .int a3), (4, .int a4)]) hx hb dL_book_15 hl (by decide) rfl (fun ls hl => ?_)
      refine lv_bipush (v := (-102)) hx hb dL_book_17 (by decide) ?_
      refine z_wide (mc := 5) (ms := 30) (by decide) (by decide) ?_
      exact z_iret C0 Z (Q := Q) hP dL_book_19
    · refine vx_catch (E := eIS) (name := eIS) (cx_own C0) [⟨0, 9, 10, 56⟩, ⟨0, 9, 15, 43⟩] ⟨0, 9, 20, 45⟩ [] (by rw [hT]; rfl) (fun z hz => by
      simp only [List.mem_cons, List.not_mem_nil, or_false] at hz
      rcases hz with rfl | rfl
      · exact .inr ⟨by decide, eIO, cx_w C0 tm_2_116, (cx_K C0).2.2.2.2.2.2.2.1 (eIS, eIO) (by decide +kernel)⟩
      · exact .inr ⟨by decide, eIA, cx_w C0 tm_1_222, (cx_K C0).2.2.2.2.2.2.2.1 (eIS, eIA) (by decide +kernel)⟩) rfl (by decide) (cx_w C0 tm_1_223) (cx_w2 C0 (.inr (by decide +kernel))) h9 hv9 hc9 ?_
      refine lv_astore (lv' := [(5, .ref q), (0, .ref (gad G 0)), (1, .int a1), (2, .int a2), (3, .int a3), (4, .int a4)]) hx hb dL_book_20 hl (by decide) rfl (fun ls hl => ?_)
      refine lv_bipush (v := (-103)) hx hb dL_book_22 (by decide) ?_
      refine z_wide (mc := 5) (ms := 30) (by decide) (by decide) ?_
      exact z_iret C0 Z (Q := Q) hP dL_book_24
  · refine z_wide (mc := 5) (ms := 30) (by decide) (by decide) ?_
    exact z_iret C0 Z (Q := Q) hw dL_book_9
theorem dL_booking_0 : decode cL_booking 0 = .ok (.aload_n 0, 1) := by decide +kernel
theorem dL_booking_1 : decode cL_booking 1 = .ok (.iload_n 1, 1) := by decide +kernel
theorem dL_booking_2 : decode cL_booking 2 = .ok (.iload_n 2, 1) := by decide +kernel
theorem dL_booking_3 : decode cL_booking 3 = .ok (.invokevirtual 75, 3) := by decide +kernel
theorem dL_booking_6 : decode cL_booking 6 = .ok (.ireturn, 1) := by decide +kernel
theorem dL_booking_7 : decode cL_booking 7 = .ok (.astore_n 3, 1) := by decide +kernel
theorem dL_booking_8 : decode cL_booking 8 = .ok (.bipush (-101), 2) := by decide +kernel
theorem dL_booking_10 : decode cL_booking 10 = .ok (.ireturn, 1) := by decide +kernel
theorem dL_booking_11 : decode cL_booking 11 = .ok (.astore_n 3, 1) := by decide +kernel
theorem dL_booking_12 : decode cL_booking 12 = .ok (.bipush (-102), 2) := by decide +kernel
theorem dL_booking_14 : decode cL_booking 14 = .ok (.ireturn, 1) := by decide +kernel
def w_L_booking (a1 a2 : Int32) (v : V3) (Q : Int32 → V3 → Prop) : Prop := w_X3_booking a1 a2 v Q
set_option maxRecDepth 100000 in
set_option maxHeartbeats 4000000 in
theorem k_L_booking (l : Launch) {G : zG} (hg : 116 ≤ gn G) {a1 a2 : Int32} {v : V3} {Q : Int32 → V3 → Prop} (hw : w_L_booking a1 a2 v Q) : Mh l yL_booking cL_booking 4 (some .int) [(0, 6, 7, 56), (0, 6, 11, 43)] 4 104 0 0 G [.ref (gad G 0), .int a1, .int a2] v (QiZ G Q) := by
  rw [w_L_booking] at hw
  refine z_hofW hg (by decide) (Nat.le_of_ble_eq_true rfl) ?_
  intro p e s m args below meth c ls C0 hT Z hl
  have hx := C0.1
  have hb := C0.2.1
  replace hl : lv_has ls 4 [(0, .ref (gad G 0)), (1, .int a1), (2, .int a2)] := hl
  generalize s.heap = H at Z ⊢
  generalize ([] : List Loc) = locs at Z ⊢
  refine lv_aload_n hx hb dL_booking_0 rfl (lv_at hl 0 rfl) ?_
  refine lv_iload_n hx hb dL_booking_1 rfl (lv_at hl 1 rfl) ?_
  refine lv_iload_n hx hb dL_booking_2 rfl (lv_at hl 2 rfl) ?_
  refine z_callVi C0 Z hl.1 (As := [.int a1, .int a2]) (rest := []) (k_X3_booking l hg hw) (gv_X3_booking tm_3_1) rfl ds_X3_booking ⟨Nat.le_of_ble_eq_true rfl, Nat.le_of_ble_eq_true rfl⟩ (ci := 3) rfl (cx_lt C0 (by decide)) rfl rfl rfl (Nat.le_of_ble_eq_true rfl) ⟨Nat.le_of_ble_eq_true rfl, Nat.le_of_ble_eq_true rfl⟩ dL_booking_3 (fun r u H locs hw Z => ?_)
  exact z_iret C0 Z (Q := Q) hw dL_booking_6
theorem dL_waiter_0 : decode cL_waiter 0 = .ok (.aload_n 0, 1) := by decide +kernel
theorem dL_waiter_1 : decode cL_waiter 1 = .ok (.iload_n 1, 1) := by decide +kernel
theorem dL_waiter_2 : decode cL_waiter 2 = .ok (.invokevirtual 78, 3) := by decide +kernel
theorem dL_waiter_5 : decode cL_waiter 5 = .ok (.ireturn, 1) := by decide +kernel
theorem dL_waiter_6 : decode cL_waiter 6 = .ok (.astore_n 2, 1) := by decide +kernel
theorem dL_waiter_7 : decode cL_waiter 7 = .ok (.bipush (-101), 2) := by decide +kernel
theorem dL_waiter_9 : decode cL_waiter 9 = .ok (.ireturn, 1) := by decide +kernel
def w_L_waiter (a1 : Int32) (v : V3) (Q : Int32 → V3 → Prop) : Prop := w_X3_waiter a1 v Q
set_option maxRecDepth 100000 in
set_option maxHeartbeats 4000000 in
theorem k_L_waiter (l : Launch) {G : zG} (hg : 116 ≤ gn G) {a1 : Int32} {v : V3} {Q : Int32 → V3 → Prop} (hw : w_L_waiter a1 v Q) : Mh l yL_waiter cL_waiter 3 (some .int) [(0, 5, 6, 56)] 4 88 0 0 G [.ref (gad G 0), .int a1] v (QiZ G Q) := by
  rw [w_L_waiter] at hw
  refine z_hofW hg (by decide) (Nat.le_of_ble_eq_true rfl) ?_
  intro p e s m args below meth c ls C0 hT Z hl
  have hx := C0.1
  have hb := C0.2.1
  replace hl : lv_has ls 3 [(0, .ref (gad G 0)), (1, .int a1)] := hl
  generalize s.heap = H at Z ⊢
  generalize ([] : List Loc) = locs at Z ⊢
  refine lv_aload_n hx hb dL_waiter_0 rfl (lv_at hl 0 rfl) ?_
  refine lv_iload_n hx hb dL_waiter_1 rfl (lv_at hl 1 rfl) ?_
  refine z_callVi C0 Z hl.1 (As := [.int a1]) (rest := []) (k_X3_waiter l hg hw) (gv_X3_waiter tm_3_227) rfl ds_X3_waiter ⟨Nat.le_of_ble_eq_true rfl, Nat.le_of_ble_eq_true rfl⟩ (ci := 3) rfl (cx_lt C0 (by decide)) rfl rfl rfl (Nat.le_of_ble_eq_true rfl) ⟨Nat.le_of_ble_eq_true rfl, Nat.le_of_ble_eq_true rfl⟩ dL_waiter_2 (fun r u H locs hw Z => ?_)
  exact z_iret C0 Z (Q := Q) hw dL_waiter_5
theorem dL_arrive_0 : decode cL_arrive 0 = .ok (.aload_n 0, 1) := by decide +kernel
theorem dL_arrive_1 : decode cL_arrive 1 = .ok (.iload_n 1, 1) := by decide +kernel
theorem dL_arrive_2 : decode cL_arrive 2 = .ok (.invokevirtual 81, 3) := by decide +kernel
theorem dL_arrive_5 : decode cL_arrive 5 = .ok (.ireturn, 1) := by decide +kernel
theorem dL_arrive_6 : decode cL_arrive 6 = .ok (.astore_n 2, 1) := by decide +kernel
theorem dL_arrive_7 : decode cL_arrive 7 = .ok (.bipush (-101), 2) := by decide +kernel
theorem dL_arrive_9 : decode cL_arrive 9 = .ok (.ireturn, 1) := by decide +kernel
def w_L_arrive (a1 : Int32) (v : V3) (Q : Int32 → V3 → Prop) : Prop := w_X3_arrive a1 v Q
set_option maxRecDepth 100000 in
set_option maxHeartbeats 4000000 in
theorem k_L_arrive (l : Launch) {G : zG} (hg : 116 ≤ gn G) {a1 : Int32} {v : V3} {Q : Int32 → V3 → Prop} (hw : w_L_arrive a1 v Q) : Mh l yL_arrive cL_arrive 3 (some .int) [(0, 5, 6, 56)] 2 43 0 0 G [.ref (gad G 0), .int a1] v (QiZ G Q) := by
  rw [w_L_arrive] at hw
  refine z_hofW hg (by decide) (Nat.le_of_ble_eq_true rfl) ?_
  intro p e s m args below meth c ls C0 hT Z hl
  have hx := C0.1
  have hb := C0.2.1
  replace hl : lv_has ls 3 [(0, .ref (gad G 0)), (1, .int a1)] := hl
  generalize s.heap = H at Z ⊢
  generalize ([] : List Loc) = locs at Z ⊢
  refine lv_aload_n hx hb dL_arrive_0 rfl (lv_at hl 0 rfl) ?_
  refine lv_iload_n hx hb dL_arrive_1 rfl (lv_at hl 1 rfl) ?_
  refine z_callVi C0 Z hl.1 (As := [.int a1]) (rest := []) (k_X3_arrive l hg hw) (gv_X3_arrive tm_3_39) rfl ds_X3_arrive ⟨Nat.le_of_ble_eq_true rfl, Nat.le_of_ble_eq_true rfl⟩ (ci := 3) rfl (cx_lt C0 (by decide)) rfl rfl rfl (Nat.le_of_ble_eq_true rfl) ⟨Nat.le_of_ble_eq_true rfl, Nat.le_of_ble_eq_true rfl⟩ dL_arrive_2 (fun r u H locs hw Z => ?_)
  exact z_iret C0 Z (Q := Q) hw dL_arrive_5
theorem dL_leave_0 : decode cL_leave 0 = .ok (.aload_n 0, 1) := by decide +kernel
theorem dL_leave_1 : decode cL_leave 1 = .ok (.iload_n 1, 1) := by decide +kernel
theorem dL_leave_2 : decode cL_leave 2 = .ok (.invokevirtual 84, 3) := by decide +kernel
theorem dL_leave_5 : decode cL_leave 5 = .ok (.ireturn, 1) := by decide +kernel
theorem dL_leave_6 : decode cL_leave 6 = .ok (.astore_n 2, 1) := by decide +kernel
theorem dL_leave_7 : decode cL_leave 7 = .ok (.bipush (-101), 2) := by decide +kernel
theorem dL_leave_9 : decode cL_leave 9 = .ok (.ireturn, 1) := by decide +kernel
def w_L_leave (a1 : Int32) (v : V3) (Q : Int32 → V3 → Prop) : Prop := w_X3_leavex a1 v (XL [(eIO, (-101))] Q) Q
set_option maxRecDepth 100000 in
set_option maxHeartbeats 4000000 in
theorem k_L_leave (l : Launch) (hst : l.stackTraces = false) {G : zG} (hg : 116 ≤ gn G) {a1 : Int32} {v : V3} {Q : Int32 → V3 → Prop} (hw : w_L_leave a1 v Q) : Mh l yL_leave cL_leave 3 (some .int) [(0, 5, 6, 56)] 8 133 1 6 G [.ref (gad G 0), .int a1] v (QiZ G Q) := by
  rw [w_L_leave] at hw
  refine z_hofW hg (by decide) (Nat.le_of_ble_eq_true rfl) ?_
  intro p e s m args below meth c ls C0 hT Z hl
  have hx := C0.1
  have hb := C0.2.1
  replace hl : lv_has ls 3 [(0, .ref (gad G 0)), (1, .int a1)] := hl
  generalize s.heap = H at Z ⊢
  generalize ([] : List Loc) = locs at Z ⊢
  refine lv_aload_n hx hb dL_leave_0 rfl (lv_at hl 0 rfl) ?_
  refine lv_iload_n hx hb dL_leave_1 rfl (lv_at hl 1 rfl) ?_
  refine z_hcallVi C0 Z hl.1 (As := [.int a1]) (rest := []) (k_X3_leavex l hst hg hw) (gv_X3_leave tm_3_24) rfl ds_X3_leave ⟨Nat.le_of_ble_eq_true rfl, Nat.le_of_ble_eq_true rfl⟩ (ci := 3) rfl (cx_lt C0 (by decide)) rfl rfl rfl (Nat.le_of_ble_eq_true rfl) ⟨Nat.le_of_ble_eq_true rfl, Nat.le_of_ble_eq_true rfl⟩ dL_leave_2 (fun E u H locs ce q hX Z h9 hv9 hc9 => ?_) (fun r u H locs hw Z => ?_)
  · obtain ⟨k, hk, hP⟩ := hX
    obtain ⟨rfl, rfl⟩ := Prod.mk.inj (List.mem_singleton.mp hk)
    refine vx_catch (E := eIO) (name := eIO) (cx_own C0) [] ⟨0, 5, 6, 56⟩ [] (by rw [hT]; rfl) (fun z hz => absurd hz List.not_mem_nil) rfl (by decide) (cx_w C0 tm_2_116) (cx_w2 C0 (.inr (by decide +kernel))) h9 hv9 hc9 ?_
    refine lv_astore_n (lv' := [(2, .ref q), (0, .ref (gad G 0)), (1, .int a1)]) hx hb dL_leave_6 rfl hl (by decide) rfl (fun ls hl => ?_)
    refine lv_bipush (v := (-101)) hx hb dL_leave_7 (by decide) ?_
    refine z_wide (mc := 1) (ms := 6) (by decide) (by decide) ?_
    exact z_iret C0 Z (Q := Q) hP dL_leave_9
  · refine z_wide (mc := 1) (ms := 6) (by decide) (by decide) ?_
    exact z_iret C0 Z (Q := Q) hw dL_leave_5
theorem dL_extend_0 : decode cL_extend 0 = .ok (.aload_n 0, 1) := by decide +kernel
theorem dL_extend_1 : decode cL_extend 1 = .ok (.iload_n 1, 1) := by decide +kernel
theorem dL_extend_2 : decode cL_extend 2 = .ok (.iload_n 2, 1) := by decide +kernel
theorem dL_extend_3 : decode cL_extend 3 = .ok (.invokevirtual 87, 3) := by decide +kernel
theorem dL_extend_6 : decode cL_extend 6 = .ok (.ireturn, 1) := by decide +kernel
theorem dL_extend_7 : decode cL_extend 7 = .ok (.astore_n 3, 1) := by decide +kernel
theorem dL_extend_8 : decode cL_extend 8 = .ok (.bipush (-101), 2) := by decide +kernel
theorem dL_extend_10 : decode cL_extend 10 = .ok (.ireturn, 1) := by decide +kernel
theorem dL_extend_11 : decode cL_extend 11 = .ok (.astore_n 3, 1) := by decide +kernel
theorem dL_extend_12 : decode cL_extend 12 = .ok (.bipush (-102), 2) := by decide +kernel
theorem dL_extend_14 : decode cL_extend 14 = .ok (.ireturn, 1) := by decide +kernel
def w_L_extend (a1 a2 : Int32) (v : V3) (Q : Int32 → V3 → Prop) : Prop := w_X3_extend a1 a2 v Q
set_option maxRecDepth 100000 in
set_option maxHeartbeats 4000000 in
theorem k_L_extend (l : Launch) {G : zG} (hg : 116 ≤ gn G) {a1 a2 : Int32} {v : V3} {Q : Int32 → V3 → Prop} (hw : w_L_extend a1 a2 v Q) : Mh l yL_extend cL_extend 4 (some .int) [(0, 6, 7, 56), (0, 6, 11, 43)] 5 127 0 0 G [.ref (gad G 0), .int a1, .int a2] v (QiZ G Q) := by
  rw [w_L_extend] at hw
  refine z_hofW hg (by decide) (Nat.le_of_ble_eq_true rfl) ?_
  intro p e s m args below meth c ls C0 hT Z hl
  have hx := C0.1
  have hb := C0.2.1
  replace hl : lv_has ls 4 [(0, .ref (gad G 0)), (1, .int a1), (2, .int a2)] := hl
  generalize s.heap = H at Z ⊢
  generalize ([] : List Loc) = locs at Z ⊢
  refine lv_aload_n hx hb dL_extend_0 rfl (lv_at hl 0 rfl) ?_
  refine lv_iload_n hx hb dL_extend_1 rfl (lv_at hl 1 rfl) ?_
  refine lv_iload_n hx hb dL_extend_2 rfl (lv_at hl 2 rfl) ?_
  refine z_callVi C0 Z hl.1 (As := [.int a1, .int a2]) (rest := []) (k_X3_extend l hg hw) (gv_X3_extend tm_3_57) rfl ds_X3_extend ⟨Nat.le_of_ble_eq_true rfl, Nat.le_of_ble_eq_true rfl⟩ (ci := 3) rfl (cx_lt C0 (by decide)) rfl rfl rfl (Nat.le_of_ble_eq_true rfl) ⟨Nat.le_of_ble_eq_true rfl, Nat.le_of_ble_eq_true rfl⟩ dL_extend_3 (fun r u H locs hw Z => ?_)
  exact z_iret C0 Z (Q := Q) hw dL_extend_6
theorem dL_cancel_0 : decode cL_cancel 0 = .ok (.aload_n 0, 1) := by decide +kernel
theorem dL_cancel_1 : decode cL_cancel 1 = .ok (.iload_n 1, 1) := by decide +kernel
theorem dL_cancel_2 : decode cL_cancel 2 = .ok (.invokevirtual 90, 3) := by decide +kernel
theorem dL_cancel_5 : decode cL_cancel 5 = .ok (.ireturn, 1) := by decide +kernel
theorem dL_cancel_6 : decode cL_cancel 6 = .ok (.astore_n 2, 1) := by decide +kernel
theorem dL_cancel_7 : decode cL_cancel 7 = .ok (.bipush (-101), 2) := by decide +kernel
theorem dL_cancel_9 : decode cL_cancel 9 = .ok (.ireturn, 1) := by decide +kernel
def w_L_cancel (a1 : Int32) (v : V3) (Q : Int32 → V3 → Prop) : Prop := w_X3_cancel a1 v Q
set_option maxRecDepth 100000 in
set_option maxHeartbeats 4000000 in
theorem k_L_cancel (l : Launch) {G : zG} (hg : 116 ≤ gn G) {a1 : Int32} {v : V3} {Q : Int32 → V3 → Prop} (hw : w_L_cancel a1 v Q) : Mh l yL_cancel cL_cancel 3 (some .int) [(0, 5, 6, 56)] 5 126 0 0 G [.ref (gad G 0), .int a1] v (QiZ G Q) := by
  rw [w_L_cancel] at hw
  refine z_hofW hg (by decide) (Nat.le_of_ble_eq_true rfl) ?_
  intro p e s m args below meth c ls C0 hT Z hl
  have hx := C0.1
  have hb := C0.2.1
  replace hl : lv_has ls 3 [(0, .ref (gad G 0)), (1, .int a1)] := hl
  generalize s.heap = H at Z ⊢
  generalize ([] : List Loc) = locs at Z ⊢
  refine lv_aload_n hx hb dL_cancel_0 rfl (lv_at hl 0 rfl) ?_
  refine lv_iload_n hx hb dL_cancel_1 rfl (lv_at hl 1 rfl) ?_
  refine z_callVi C0 Z hl.1 (As := [.int a1]) (rest := []) (k_X3_cancel l hg hw) (gv_X3_cancel tm_3_50) rfl ds_X3_cancel ⟨Nat.le_of_ble_eq_true rfl, Nat.le_of_ble_eq_true rfl⟩ (ci := 3) rfl (cx_lt C0 (by decide)) rfl rfl rfl (Nat.le_of_ble_eq_true rfl) ⟨Nat.le_of_ble_eq_true rfl, Nat.le_of_ble_eq_true rfl⟩ dL_cancel_2 (fun r u H locs hw Z => ?_)
  exact z_iret C0 Z (Q := Q) hw dL_cancel_5
theorem dL_evict_0 : decode cL_evict 0 = .ok (.aload_n 0, 1) := by decide +kernel
theorem dL_evict_1 : decode cL_evict 1 = .ok (.iload_n 1, 1) := by decide +kernel
theorem dL_evict_2 : decode cL_evict 2 = .ok (.invokevirtual 93, 3) := by decide +kernel
theorem dL_evict_5 : decode cL_evict 5 = .ok (.ireturn, 1) := by decide +kernel
theorem dL_evict_6 : decode cL_evict 6 = .ok (.astore_n 2, 1) := by decide +kernel
theorem dL_evict_7 : decode cL_evict 7 = .ok (.bipush (-101), 2) := by decide +kernel
theorem dL_evict_9 : decode cL_evict 9 = .ok (.ireturn, 1) := by decide +kernel
def w_L_evict (a1 : Int32) (v : V3) (Q : Int32 → V3 → Prop) : Prop := w_X3_evict a1 v Q
set_option maxRecDepth 100000 in
set_option maxHeartbeats 4000000 in
theorem k_L_evict (l : Launch) {G : zG} (hg : 116 ≤ gn G) {a1 : Int32} {v : V3} {Q : Int32 → V3 → Prop} (hw : w_L_evict a1 v Q) : Mh l yL_evict cL_evict 3 (some .int) [(0, 5, 6, 56)] 5 126 0 0 G [.ref (gad G 0), .int a1] v (QiZ G Q) := by
  rw [w_L_evict] at hw
  refine z_hofW hg (by decide) (Nat.le_of_ble_eq_true rfl) ?_
  intro p e s m args below meth c ls C0 hT Z hl
  have hx := C0.1
  have hb := C0.2.1
  replace hl : lv_has ls 3 [(0, .ref (gad G 0)), (1, .int a1)] := hl
  generalize s.heap = H at Z ⊢
  generalize ([] : List Loc) = locs at Z ⊢
  refine lv_aload_n hx hb dL_evict_0 rfl (lv_at hl 0 rfl) ?_
  refine lv_iload_n hx hb dL_evict_1 rfl (lv_at hl 1 rfl) ?_
  refine z_callVi C0 Z hl.1 (As := [.int a1]) (rest := []) (k_X3_evict l hg hw) (gv_X3_evict tm_3_68) rfl ds_X3_evict ⟨Nat.le_of_ble_eq_true rfl, Nat.le_of_ble_eq_true rfl⟩ (ci := 3) rfl (cx_lt C0 (by decide)) rfl rfl rfl (Nat.le_of_ble_eq_true rfl) ⟨Nat.le_of_ble_eq_true rfl, Nat.le_of_ble_eq_true rfl⟩ dL_evict_2 (fun r u H locs hw Z => ?_)
  exact z_iret C0 Z (Q := Q) hw dL_evict_5
theorem dL_swap_0 : decode cL_swap 0 = .ok (.aload_n 0, 1) := by decide +kernel
theorem dL_swap_1 : decode cL_swap 1 = .ok (.iload_n 1, 1) := by decide +kernel
theorem dL_swap_2 : decode cL_swap 2 = .ok (.iload_n 2, 1) := by decide +kernel
theorem dL_swap_3 : decode cL_swap 3 = .ok (.invokevirtual 96, 3) := by decide +kernel
theorem dL_swap_6 : decode cL_swap 6 = .ok (.ireturn, 1) := by decide +kernel
theorem dL_swap_7 : decode cL_swap 7 = .ok (.astore_n 3, 1) := by decide +kernel
theorem dL_swap_8 : decode cL_swap 8 = .ok (.bipush (-101), 2) := by decide +kernel
theorem dL_swap_10 : decode cL_swap 10 = .ok (.ireturn, 1) := by decide +kernel
theorem dL_swap_11 : decode cL_swap 11 = .ok (.astore_n 3, 1) := by decide +kernel
theorem dL_swap_12 : decode cL_swap 12 = .ok (.bipush (-102), 2) := by decide +kernel
theorem dL_swap_14 : decode cL_swap 14 = .ok (.ireturn, 1) := by decide +kernel
def w_L_swap (a1 a2 : Int32) (v : V3) (Q : Int32 → V3 → Prop) : Prop := w_X3_swapx a1 a2 v (XL [(eIO, (-101)), (eIA, (-102))] Q) Q
set_option maxRecDepth 100000 in
set_option maxHeartbeats 4000000 in
theorem k_L_swap (l : Launch) (hst : l.stackTraces = false) {G : zG} (hg : 116 ≤ gn G) {a1 a2 : Int32} {v : V3} {Q : Int32 → V3 → Prop} (hw : w_L_swap a1 a2 v Q) : Mh l yL_swap cL_swap 4 (some .int) [(0, 6, 7, 56), (0, 6, 11, 43)] 8 133 3 18 G [.ref (gad G 0), .int a1, .int a2] v (QiZ G Q) := by
  rw [w_L_swap] at hw
  refine z_hofW hg (by decide) (Nat.le_of_ble_eq_true rfl) ?_
  intro p e s m args below meth c ls C0 hT Z hl
  have hx := C0.1
  have hb := C0.2.1
  replace hl : lv_has ls 4 [(0, .ref (gad G 0)), (1, .int a1), (2, .int a2)] := hl
  generalize s.heap = H at Z ⊢
  generalize ([] : List Loc) = locs at Z ⊢
  refine lv_aload_n hx hb dL_swap_0 rfl (lv_at hl 0 rfl) ?_
  refine lv_iload_n hx hb dL_swap_1 rfl (lv_at hl 1 rfl) ?_
  refine lv_iload_n hx hb dL_swap_2 rfl (lv_at hl 2 rfl) ?_
  refine z_hcallVi C0 Z hl.1 (As := [.int a1, .int a2]) (rest := []) (k_X3_swapx l hst hg hw) (gv_X3_swap tm_3_124) rfl ds_X3_swap ⟨Nat.le_of_ble_eq_true rfl, Nat.le_of_ble_eq_true rfl⟩ (ci := 3) rfl (cx_lt C0 (by decide)) rfl rfl rfl (Nat.le_of_ble_eq_true rfl) ⟨Nat.le_of_ble_eq_true rfl, Nat.le_of_ble_eq_true rfl⟩ dL_swap_3 (fun E u H locs ce q hX Z h9 hv9 hc9 => ?_) (fun r u H locs hw Z => ?_)
  · obtain ⟨k, hk, hP⟩ := hX
    simp only [List.mem_cons, Prod.mk.injEq, List.not_mem_nil, or_false] at hk
    rcases hk with ⟨rfl, rfl⟩ | ⟨rfl, rfl⟩
    · refine vx_catch (E := eIO) (name := eIO) (cx_own C0) [] ⟨0, 6, 7, 56⟩ [⟨0, 6, 11, 43⟩] (by rw [hT]; rfl) (fun z hz => absurd hz List.not_mem_nil) rfl (by decide) (cx_w C0 tm_2_116) (cx_w2 C0 (.inr (by decide +kernel))) h9 hv9 hc9 ?_
      refine lv_astore_n (lv' := [(3, .ref q), (0, .ref (gad G 0)), (1, .int a1), (2, .int a2)]) hx hb dL_swap_7 rfl hl (by decide) rfl (fun ls hl => ?_)
      refine lv_bipush (v := (-101)) hx hb dL_swap_8 (by decide) ?_
      refine z_wide (mc := 3) (ms := 18) (by decide) (by decide) ?_
      exact z_iret C0 Z (Q := Q) hP dL_swap_10
    · refine vx_catch (E := eIA) (name := eIA) (cx_own C0) [⟨0, 6, 7, 56⟩] ⟨0, 6, 11, 43⟩ [] (by rw [hT]; rfl) (fun z hz => by
      obtain rfl := List.mem_singleton.mp hz
      exact .inr ⟨by decide, eIO, cx_w C0 tm_2_116, (cx_K C0).2.2.2.2.2.2.2.1 (eIA, eIO) (by decide +kernel)⟩) rfl (by decide) (cx_w C0 tm_1_222) (cx_w2 C0 (.inr (by decide +kernel))) h9 hv9 hc9 ?_
      refine lv_astore_n (lv' := [(3, .ref q), (0, .ref (gad G 0)), (1, .int a1), (2, .int a2)]) hx hb dL_swap_11 rfl hl (by decide) rfl (fun ls hl => ?_)
      refine lv_bipush (v := (-102)) hx hb dL_swap_12 (by decide) ?_
      refine z_wide (mc := 3) (ms := 18) (by decide) (by decide) ?_
      exact z_iret C0 Z (Q := Q) hP dL_swap_14
  · refine z_wide (mc := 3) (ms := 18) (by decide) (by decide) ?_
    exact z_iret C0 Z (Q := Q) hw dL_swap_6
theorem dL_buy_0 : decode cL_buy 0 = .ok (.aload_n 0, 1) := by decide +kernel
theorem dL_buy_1 : decode cL_buy 1 = .ok (.iload_n 1, 1) := by decide +kernel
theorem dL_buy_2 : decode cL_buy 2 = .ok (.iload_n 2, 1) := by decide +kernel
theorem dL_buy_3 : decode cL_buy 3 = .ok (.invokevirtual 99, 3) := by decide +kernel
theorem dL_buy_6 : decode cL_buy 6 = .ok (.ireturn, 1) := by decide +kernel
theorem dL_buy_7 : decode cL_buy 7 = .ok (.astore_n 3, 1) := by decide +kernel
theorem dL_buy_8 : decode cL_buy 8 = .ok (.bipush (-101), 2) := by decide +kernel
theorem dL_buy_10 : decode cL_buy 10 = .ok (.ireturn, 1) := by decide +kernel
def w_L_buy (a1 a2 : Int32) (v : V3) (Q : Int32 → V3 → Prop) : Prop := w_X3_buy a1 a2 v Q
set_option maxRecDepth 100000 in
set_option maxHeartbeats 4000000 in
theorem k_L_buy (l : Launch) {G : zG} (hg : 116 ≤ gn G) {a1 a2 : Int32} {v : V3} {Q : Int32 → V3 → Prop} (hw : w_L_buy a1 a2 v Q) : Mh l yL_buy cL_buy 4 (some .int) [(0, 6, 7, 56)] 5 126 0 0 G [.ref (gad G 0), .int a1, .int a2] v (QiZ G Q) := by
  rw [w_L_buy] at hw
  refine z_hofW hg (by decide) (Nat.le_of_ble_eq_true rfl) ?_
  intro p e s m args below meth c ls C0 hT Z hl
  have hx := C0.1
  have hb := C0.2.1
  replace hl : lv_has ls 4 [(0, .ref (gad G 0)), (1, .int a1), (2, .int a2)] := hl
  generalize s.heap = H at Z ⊢
  generalize ([] : List Loc) = locs at Z ⊢
  refine lv_aload_n hx hb dL_buy_0 rfl (lv_at hl 0 rfl) ?_
  refine lv_iload_n hx hb dL_buy_1 rfl (lv_at hl 1 rfl) ?_
  refine lv_iload_n hx hb dL_buy_2 rfl (lv_at hl 2 rfl) ?_
  refine z_callVi C0 Z hl.1 (As := [.int a1, .int a2]) (rest := []) (k_X3_buy l hg hw) (gv_X3_buy tm_3_140) rfl ds_X3_buy ⟨Nat.le_of_ble_eq_true rfl, Nat.le_of_ble_eq_true rfl⟩ (ci := 3) rfl (cx_lt C0 (by decide)) rfl rfl rfl (Nat.le_of_ble_eq_true rfl) ⟨Nat.le_of_ble_eq_true rfl, Nat.le_of_ble_eq_true rfl⟩ dL_buy_3 (fun r u H locs hw Z => ?_)
  exact z_iret C0 Z (Q := Q) hw dL_buy_6
theorem dL_pass_0 : decode cL_pass 0 = .ok (.aload_n 0, 1) := by decide +kernel
theorem dL_pass_1 : decode cL_pass 1 = .ok (.iload_n 1, 1) := by decide +kernel
theorem dL_pass_2 : decode cL_pass 2 = .ok (.invokevirtual 102, 3) := by decide +kernel
theorem dL_pass_5 : decode cL_pass 5 = .ok (.ireturn, 1) := by decide +kernel
theorem dL_pass_6 : decode cL_pass 6 = .ok (.astore_n 2, 1) := by decide +kernel
theorem dL_pass_7 : decode cL_pass 7 = .ok (.bipush (-102), 2) := by decide +kernel
theorem dL_pass_9 : decode cL_pass 9 = .ok (.ireturn, 1) := by decide +kernel
theorem dL_pass_10 : decode cL_pass 10 = .ok (.astore_n 2, 1) := by decide +kernel
theorem dL_pass_11 : decode cL_pass 11 = .ok (.bipush (-103), 2) := by decide +kernel
theorem dL_pass_13 : decode cL_pass 13 = .ok (.ireturn, 1) := by decide +kernel
def w_L_pass (a1 : Int32) (v : V3) (Q : Int32 → V3 → Prop) : Prop := w_X3_pass a1 v Q
set_option maxRecDepth 100000 in
set_option maxHeartbeats 4000000 in
theorem k_L_pass (l : Launch) {G : zG} (hg : 116 ≤ gn G) {a1 : Int32} {v : V3} {Q : Int32 → V3 → Prop} (hw : w_L_pass a1 v Q) : Mh l yL_pass cL_pass 3 (some .int) [(0, 5, 6, 43), (0, 5, 10, 45)] 7 169 0 0 G [.ref (gad G 0), .int a1] v (QiZ G Q) := by
  rw [w_L_pass] at hw
  refine z_hofW hg (by decide) (Nat.le_of_ble_eq_true rfl) ?_
  intro p e s m args below meth c ls C0 hT Z hl
  have hx := C0.1
  have hb := C0.2.1
  replace hl : lv_has ls 3 [(0, .ref (gad G 0)), (1, .int a1)] := hl
  generalize s.heap = H at Z ⊢
  generalize ([] : List Loc) = locs at Z ⊢
  refine lv_aload_n hx hb dL_pass_0 rfl (lv_at hl 0 rfl) ?_
  refine lv_iload_n hx hb dL_pass_1 rfl (lv_at hl 1 rfl) ?_
  refine z_callVi C0 Z hl.1 (As := [.int a1]) (rest := []) (k_X3_pass l hg hw) (gv_X3_pass tm_3_206) rfl ds_X3_pass ⟨Nat.le_of_ble_eq_true rfl, Nat.le_of_ble_eq_true rfl⟩ (ci := 3) rfl (cx_lt C0 (by decide)) rfl rfl rfl (Nat.le_of_ble_eq_true rfl) ⟨Nat.le_of_ble_eq_true rfl, Nat.le_of_ble_eq_true rfl⟩ dL_pass_2 (fun r u H locs hw Z => ?_)
  exact z_iret C0 Z (Q := Q) hw dL_pass_5
theorem dL_gain_0 : decode cL_gain 0 = .ok (.aload_n 0, 1) := by decide +kernel
theorem dL_gain_1 : decode cL_gain 1 = .ok (.iload_n 1, 1) := by decide +kernel
theorem dL_gain_2 : decode cL_gain 2 = .ok (.iload_n 2, 1) := by decide +kernel
theorem dL_gain_3 : decode cL_gain 3 = .ok (.invokevirtual 105, 3) := by decide +kernel
theorem dL_gain_6 : decode cL_gain 6 = .ok (.ireturn, 1) := by decide +kernel
theorem dL_gain_7 : decode cL_gain 7 = .ok (.astore_n 3, 1) := by decide +kernel
theorem dL_gain_8 : decode cL_gain 8 = .ok (.bipush (-101), 2) := by decide +kernel
theorem dL_gain_10 : decode cL_gain 10 = .ok (.ireturn, 1) := by decide +kernel
def w_L_gain (a1 a2 : Int32) (v : V3) (Q : Int32 → V3 → Prop) : Prop := w_X3_gain a1 a2 v Q
set_option maxRecDepth 100000 in
set_option maxHeartbeats 4000000 in
theorem k_L_gain (l : Launch) {G : zG} (hg : 116 ≤ gn G) {a1 a2 : Int32} {v : V3} {Q : Int32 → V3 → Prop} (hw : w_L_gain a1 a2 v Q) : Mh l yL_gain cL_gain 4 (some .int) [(0, 6, 7, 56)] 5 120 0 0 G [.ref (gad G 0), .int a1, .int a2] v (QiZ G Q) := by
  rw [w_L_gain] at hw
  refine z_hofW hg (by decide) (Nat.le_of_ble_eq_true rfl) ?_
  intro p e s m args below meth c ls C0 hT Z hl
  have hx := C0.1
  have hb := C0.2.1
  replace hl : lv_has ls 4 [(0, .ref (gad G 0)), (1, .int a1), (2, .int a2)] := hl
  generalize s.heap = H at Z ⊢
  generalize ([] : List Loc) = locs at Z ⊢
  refine lv_aload_n hx hb dL_gain_0 rfl (lv_at hl 0 rfl) ?_
  refine lv_iload_n hx hb dL_gain_1 rfl (lv_at hl 1 rfl) ?_
  refine lv_iload_n hx hb dL_gain_2 rfl (lv_at hl 2 rfl) ?_
  refine z_callVi C0 Z hl.1 (As := [.int a1, .int a2]) (rest := []) (k_X3_gain l hg hw) (gv_X3_gain tm_3_76) rfl ds_X3_gain ⟨Nat.le_of_ble_eq_true rfl, Nat.le_of_ble_eq_true rfl⟩ (ci := 3) rfl (cx_lt C0 (by decide)) rfl rfl rfl (Nat.le_of_ble_eq_true rfl) ⟨Nat.le_of_ble_eq_true rfl, Nat.le_of_ble_eq_true rfl⟩ dL_gain_3 (fun r u H locs hw Z => ?_)
  exact z_iret C0 Z (Q := Q) hw dL_gain_6
theorem dL_best_0 : decode cL_best 0 = .ok (.aload_n 0, 1) := by decide +kernel
theorem dL_best_1 : decode cL_best 1 = .ok (.iload_n 1, 1) := by decide +kernel
theorem dL_best_2 : decode cL_best 2 = .ok (.invokevirtual 108, 3) := by decide +kernel
theorem dL_best_5 : decode cL_best 5 = .ok (.ireturn, 1) := by decide +kernel
theorem dL_best_6 : decode cL_best 6 = .ok (.astore_n 2, 1) := by decide +kernel
theorem dL_best_7 : decode cL_best 7 = .ok (.bipush (-102), 2) := by decide +kernel
theorem dL_best_9 : decode cL_best 9 = .ok (.ireturn, 1) := by decide +kernel
def w_L_best (a1 : Int32) (v : V3) (Q : Int32 → V3 → Prop) : Prop := w_X3_best a1 v Q
set_option maxRecDepth 100000 in
set_option maxHeartbeats 4000000 in
theorem k_L_best (l : Launch) {G : zG} (hg : 116 ≤ gn G) {a1 : Int32} {v : V3} {Q : Int32 → V3 → Prop} (hw : w_L_best a1 v Q) : Mh l yL_best cL_best 3 (some .int) [(0, 5, 6, 43)] 7 161 0 0 G [.ref (gad G 0), .int a1] v (QiZ G Q) := by
  rw [w_L_best] at hw
  refine z_hofW hg (by decide) (Nat.le_of_ble_eq_true rfl) ?_
  intro p e s m args below meth c ls C0 hT Z hl
  have hx := C0.1
  have hb := C0.2.1
  replace hl : lv_has ls 3 [(0, .ref (gad G 0)), (1, .int a1)] := hl
  generalize s.heap = H at Z ⊢
  generalize ([] : List Loc) = locs at Z ⊢
  refine lv_aload_n hx hb dL_best_0 rfl (lv_at hl 0 rfl) ?_
  refine lv_iload_n hx hb dL_best_1 rfl (lv_at hl 1 rfl) ?_
  refine z_callVi C0 Z hl.1 (As := [.int a1]) (rest := []) (k_X3_best l hg hw) (gv_X3_best tm_3_98) rfl ds_X3_best ⟨Nat.le_of_ble_eq_true rfl, Nat.le_of_ble_eq_true rfl⟩ (ci := 3) rfl (cx_lt C0 (by decide)) rfl rfl rfl (Nat.le_of_ble_eq_true rfl) ⟨Nat.le_of_ble_eq_true rfl, Nat.le_of_ble_eq_true rfl⟩ dL_best_2 (fun r u H locs hw Z => ?_)
  exact z_iret C0 Z (Q := Q) hw dL_best_5
theorem dL_holder_0 : decode cL_holder 0 = .ok (.aload_n 0, 1) := by decide +kernel
theorem dL_holder_1 : decode cL_holder 1 = .ok (.iload_n 1, 1) := by decide +kernel
theorem dL_holder_2 : decode cL_holder 2 = .ok (.iload_n 2, 1) := by decide +kernel
theorem dL_holder_3 : decode cL_holder 3 = .ok (.invokevirtual 111, 3) := by decide +kernel
theorem dL_holder_6 : decode cL_holder 6 = .ok (.ireturn, 1) := by decide +kernel
theorem dL_holder_7 : decode cL_holder 7 = .ok (.astore_n 3, 1) := by decide +kernel
theorem dL_holder_8 : decode cL_holder 8 = .ok (.bipush (-101), 2) := by decide +kernel
theorem dL_holder_10 : decode cL_holder 10 = .ok (.ireturn, 1) := by decide +kernel
theorem dL_holder_11 : decode cL_holder 11 = .ok (.astore_n 3, 1) := by decide +kernel
theorem dL_holder_12 : decode cL_holder 12 = .ok (.bipush (-102), 2) := by decide +kernel
theorem dL_holder_14 : decode cL_holder 14 = .ok (.ireturn, 1) := by decide +kernel
def w_L_holder (a1 a2 : Int32) (v : V3) (Q : Int32 → V3 → Prop) : Prop := w_X3_holder a1 a2 v Q
set_option maxRecDepth 100000 in
set_option maxHeartbeats 4000000 in
theorem k_L_holder (l : Launch) {G : zG} (hg : 116 ≤ gn G) {a1 a2 : Int32} {v : V3} {Q : Int32 → V3 → Prop} (hw : w_L_holder a1 a2 v Q) : Mh l yL_holder cL_holder 4 (some .int) [(0, 6, 7, 56), (0, 6, 11, 43)] 3 72 0 0 G [.ref (gad G 0), .int a1, .int a2] v (QiZ G Q) := by
  rw [w_L_holder] at hw
  refine z_hofW hg (by decide) (Nat.le_of_ble_eq_true rfl) ?_
  intro p e s m args below meth c ls C0 hT Z hl
  have hx := C0.1
  have hb := C0.2.1
  replace hl : lv_has ls 4 [(0, .ref (gad G 0)), (1, .int a1), (2, .int a2)] := hl
  generalize s.heap = H at Z ⊢
  generalize ([] : List Loc) = locs at Z ⊢
  refine lv_aload_n hx hb dL_holder_0 rfl (lv_at hl 0 rfl) ?_
  refine lv_iload_n hx hb dL_holder_1 rfl (lv_at hl 1 rfl) ?_
  refine lv_iload_n hx hb dL_holder_2 rfl (lv_at hl 2 rfl) ?_
  refine z_callVi C0 Z hl.1 (As := [.int a1, .int a2]) (rest := []) (k_X3_holder l hg hw) (gv_X3_holder tm_4_14) rfl ds_X3_holder ⟨Nat.le_of_ble_eq_true rfl, Nat.le_of_ble_eq_true rfl⟩ (ci := 3) rfl (cx_lt C0 (by decide)) rfl rfl rfl (Nat.le_of_ble_eq_true rfl) ⟨Nat.le_of_ble_eq_true rfl, Nat.le_of_ble_eq_true rfl⟩ dL_holder_3 (fun r u H locs hw Z => ?_)
  exact z_iret C0 Z (Q := Q) hw dL_holder_6
theorem dL_waitsFor_0 : decode cL_waitsFor 0 = .ok (.aload_n 0, 1) := by decide +kernel
theorem dL_waitsFor_1 : decode cL_waitsFor 1 = .ok (.iload_n 1, 1) := by decide +kernel
theorem dL_waitsFor_2 : decode cL_waitsFor 2 = .ok (.iload_n 2, 1) := by decide +kernel
theorem dL_waitsFor_3 : decode cL_waitsFor 3 = .ok (.invokevirtual 126, 3) := by decide +kernel
theorem dL_waitsFor_6 : decode cL_waitsFor 6 = .ok (.ireturn, 1) := by decide +kernel
theorem dL_waitsFor_7 : decode cL_waitsFor 7 = .ok (.astore_n 3, 1) := by decide +kernel
theorem dL_waitsFor_8 : decode cL_waitsFor 8 = .ok (.bipush (-101), 2) := by decide +kernel
theorem dL_waitsFor_10 : decode cL_waitsFor 10 = .ok (.ireturn, 1) := by decide +kernel
theorem dL_waitsFor_11 : decode cL_waitsFor 11 = .ok (.astore_n 3, 1) := by decide +kernel
theorem dL_waitsFor_12 : decode cL_waitsFor 12 = .ok (.bipush (-102), 2) := by decide +kernel
theorem dL_waitsFor_14 : decode cL_waitsFor 14 = .ok (.ireturn, 1) := by decide +kernel
def w_L_waitsFor (a1 a2 : Int32) (v : V3) (Q : Int32 → V3 → Prop) : Prop := w_X3_waitsFor a1 a2 v Q
set_option maxRecDepth 100000 in
set_option maxHeartbeats 4000000 in
theorem k_L_waitsFor (l : Launch) {G : zG} (hg : 116 ≤ gn G) {a1 a2 : Int32} {v : V3} {Q : Int32 → V3 → Prop} (hw : w_L_waitsFor a1 a2 v Q) : Mh l yL_waitsFor cL_waitsFor 4 (some .int) [(0, 6, 7, 56), (0, 6, 11, 43)] 6 148 0 0 G [.ref (gad G 0), .int a1, .int a2] v (QiZ G Q) := by
  rw [w_L_waitsFor] at hw
  refine z_hofW hg (by decide) (Nat.le_of_ble_eq_true rfl) ?_
  intro p e s m args below meth c ls C0 hT Z hl
  have hx := C0.1
  have hb := C0.2.1
  replace hl : lv_has ls 4 [(0, .ref (gad G 0)), (1, .int a1), (2, .int a2)] := hl
  generalize s.heap = H at Z ⊢
  generalize ([] : List Loc) = locs at Z ⊢
  refine lv_aload_n hx hb dL_waitsFor_0 rfl (lv_at hl 0 rfl) ?_
  refine lv_iload_n hx hb dL_waitsFor_1 rfl (lv_at hl 1 rfl) ?_
  refine lv_iload_n hx hb dL_waitsFor_2 rfl (lv_at hl 2 rfl) ?_
  refine z_callVi C0 Z hl.1 (As := [.int a1, .int a2]) (rest := []) (k_X3_waitsFor l hg hw) (gv_X3_waitsFor tm_4_36) rfl ds_X3_waitsFor ⟨Nat.le_of_ble_eq_true rfl, Nat.le_of_ble_eq_true rfl⟩ (ci := 3) rfl (cx_lt C0 (by decide)) rfl rfl rfl (Nat.le_of_ble_eq_true rfl) ⟨Nat.le_of_ble_eq_true rfl, Nat.le_of_ble_eq_true rfl⟩ dL_waitsFor_3 (fun r u H locs hw Z => ?_)
  exact z_iret C0 Z (Q := Q) hw dL_waitsFor_6
theorem dL_ahead_0 : decode cL_ahead 0 = .ok (.aload_n 0, 1) := by decide +kernel
theorem dL_ahead_1 : decode cL_ahead 1 = .ok (.iload_n 1, 1) := by decide +kernel
theorem dL_ahead_2 : decode cL_ahead 2 = .ok (.iload_n 2, 1) := by decide +kernel
theorem dL_ahead_3 : decode cL_ahead 3 = .ok (.invokevirtual 129, 3) := by decide +kernel
theorem dL_ahead_6 : decode cL_ahead 6 = .ok (.ireturn, 1) := by decide +kernel
theorem dL_ahead_7 : decode cL_ahead 7 = .ok (.astore_n 3, 1) := by decide +kernel
theorem dL_ahead_8 : decode cL_ahead 8 = .ok (.bipush (-102), 2) := by decide +kernel
theorem dL_ahead_10 : decode cL_ahead 10 = .ok (.ireturn, 1) := by decide +kernel
def w_L_ahead (a1 a2 : Int32) (v : V3) (Q : Int32 → V3 → Prop) : Prop := w_X3_ahead a1 a2 v Q
set_option maxRecDepth 100000 in
set_option maxHeartbeats 4000000 in
theorem k_L_ahead (l : Launch) {G : zG} (hg : 116 ≤ gn G) {a1 a2 : Int32} {v : V3} {Q : Int32 → V3 → Prop} (hw : w_L_ahead a1 a2 v Q) : Mh l yL_ahead cL_ahead 4 (some .int) [(0, 6, 7, 43)] 7 170 0 0 G [.ref (gad G 0), .int a1, .int a2] v (QiZ G Q) := by
  rw [w_L_ahead] at hw
  refine z_hofW hg (by decide) (Nat.le_of_ble_eq_true rfl) ?_
  intro p e s m args below meth c ls C0 hT Z hl
  have hx := C0.1
  have hb := C0.2.1
  replace hl : lv_has ls 4 [(0, .ref (gad G 0)), (1, .int a1), (2, .int a2)] := hl
  generalize s.heap = H at Z ⊢
  generalize ([] : List Loc) = locs at Z ⊢
  refine lv_aload_n hx hb dL_ahead_0 rfl (lv_at hl 0 rfl) ?_
  refine lv_iload_n hx hb dL_ahead_1 rfl (lv_at hl 1 rfl) ?_
  refine lv_iload_n hx hb dL_ahead_2 rfl (lv_at hl 2 rfl) ?_
  refine z_callVi C0 Z hl.1 (As := [.int a1, .int a2]) (rest := []) (k_X3_ahead l hg hw) (gv_X3_ahead tm_3_171) rfl ds_X3_ahead ⟨Nat.le_of_ble_eq_true rfl, Nat.le_of_ble_eq_true rfl⟩ (ci := 3) rfl (cx_lt C0 (by decide)) rfl rfl rfl (Nat.le_of_ble_eq_true rfl) ⟨Nat.le_of_ble_eq_true rfl, Nat.le_of_ble_eq_true rfl⟩ dL_ahead_3 (fun r u H locs hw Z => ?_)
  exact z_iret C0 Z (Q := Q) hw dL_ahead_6
theorem dL_show_0 : decode cL_show 0 = .ok (.aload_n 0, 1) := by decide +kernel
theorem dL_show_1 : decode cL_show 1 = .ok (.iload_n 1, 1) := by decide +kernel
theorem dL_show_2 : decode cL_show 2 = .ok (.invokevirtual 132, 3) := by decide +kernel
theorem dL_show_5 : decode cL_show 5 = .ok (.ireturn, 1) := by decide +kernel
theorem dL_show_6 : decode cL_show 6 = .ok (.astore_n 2, 1) := by decide +kernel
theorem dL_show_7 : decode cL_show 7 = .ok (.bipush (-102), 2) := by decide +kernel
theorem dL_show_9 : decode cL_show 9 = .ok (.ireturn, 1) := by decide +kernel
def w_L_show (a1 : Int32) (v : V3) (Q : Int32 → V3 → Prop) : Prop := w_X3_show a1 v Q
set_option maxRecDepth 100000 in
set_option maxHeartbeats 4000000 in
theorem k_L_show (l : Launch) {G : zG} (hg : 116 ≤ gn G) {a1 : Int32} {v : V3} {Q : Int32 → V3 → Prop} (hw : w_L_show a1 v Q) : Mh l yL_show cL_show 3 (some .int) [(0, 5, 6, 43)] 3 73 0 0 G [.ref (gad G 0), .int a1] v (QiZ G Q) := by
  rw [w_L_show] at hw
  refine z_hofW hg (by decide) (Nat.le_of_ble_eq_true rfl) ?_
  intro p e s m args below meth c ls C0 hT Z hl
  have hx := C0.1
  have hb := C0.2.1
  replace hl : lv_has ls 3 [(0, .ref (gad G 0)), (1, .int a1)] := hl
  generalize s.heap = H at Z ⊢
  generalize ([] : List Loc) = locs at Z ⊢
  refine lv_aload_n hx hb dL_show_0 rfl (lv_at hl 0 rfl) ?_
  refine lv_iload_n hx hb dL_show_1 rfl (lv_at hl 1 rfl) ?_
  refine z_callVi C0 Z hl.1 (As := [.int a1]) (rest := []) (k_X3_show l hg hw) (gv_X3_show tm_4_3) rfl ds_X3_show ⟨Nat.le_of_ble_eq_true rfl, Nat.le_of_ble_eq_true rfl⟩ (ci := 3) rfl (cx_lt C0 (by decide)) rfl rfl rfl (Nat.le_of_ble_eq_true rfl) ⟨Nat.le_of_ble_eq_true rfl, Nat.le_of_ble_eq_true rfl⟩ dL_show_2 (fun r u H locs hw Z => ?_)
  exact z_iret C0 Z (Q := Q) hw dL_show_5
def w_L_passx (a1 : Int32) (v : V3) (Q : Int32 → V3 → Prop) : Prop := w_X3_passx a1 v (XL [(eIA, (-102)), (eIS, (-103))] Q) Q
set_option maxRecDepth 100000 in
set_option maxHeartbeats 4000000 in
theorem k_L_passx (l : Launch) (hst : l.stackTraces = false) {G : zG} (hg : 116 ≤ gn G) {a1 : Int32} {v : V3} {Q : Int32 → V3 → Prop} (hw : w_L_passx a1 v Q) : Mh l yL_pass cL_pass 3 (some .int) [(0, 5, 6, 43), (0, 5, 10, 45)] 8 169 2 12 G [.ref (gad G 0), .int a1] v (QiZ G Q) := by
  rw [w_L_passx] at hw
  refine z_hofW hg (by decide) (Nat.le_of_ble_eq_true rfl) ?_
  intro p e s m args below meth c ls C0 hT Z hl
  have hx := C0.1
  have hb := C0.2.1
  replace hl : lv_has ls 3 [(0, .ref (gad G 0)), (1, .int a1)] := hl
  generalize s.heap = H at Z ⊢
  generalize ([] : List Loc) = locs at Z ⊢
  refine lv_aload_n hx hb dL_pass_0 rfl (lv_at hl 0 rfl) ?_
  refine lv_iload_n hx hb dL_pass_1 rfl (lv_at hl 1 rfl) ?_
  refine z_hcallVi C0 Z hl.1 (As := [.int a1]) (rest := []) (k_X3_passx l hst hg hw) (gv_X3_pass tm_3_206) rfl ds_X3_pass ⟨Nat.le_of_ble_eq_true rfl, Nat.le_of_ble_eq_true rfl⟩ (ci := 3) rfl (cx_lt C0 (by decide)) rfl rfl rfl (Nat.le_of_ble_eq_true rfl) ⟨Nat.le_of_ble_eq_true rfl, Nat.le_of_ble_eq_true rfl⟩ dL_pass_2 (fun E u H locs ce q hX Z h9 hv9 hc9 => ?_) (fun r u H locs hw Z => ?_)
  · obtain ⟨k, hk, hP⟩ := hX
    simp only [List.mem_cons, Prod.mk.injEq, List.not_mem_nil, or_false] at hk
    rcases hk with ⟨rfl, rfl⟩ | ⟨rfl, rfl⟩
    · refine vx_catch (E := eIA) (name := eIA) (cx_own C0) [] ⟨0, 5, 6, 43⟩ [⟨0, 5, 10, 45⟩] (by rw [hT]; rfl) (fun z hz => absurd hz List.not_mem_nil) rfl (by decide) (cx_w C0 tm_1_222) (cx_w2 C0 (.inr (by decide +kernel))) h9 hv9 hc9 ?_
      refine lv_astore_n (lv' := [(2, .ref q), (0, .ref (gad G 0)), (1, .int a1)]) hx hb dL_pass_6 rfl hl (by decide) rfl (fun ls hl => ?_)
      refine lv_bipush (v := (-102)) hx hb dL_pass_7 (by decide) ?_
      refine z_wide (mc := 2) (ms := 12) (by decide) (by decide) ?_
      exact z_iret C0 Z (Q := Q) hP dL_pass_9
    · refine vx_catch (E := eIS) (name := eIS) (cx_own C0) [⟨0, 5, 6, 43⟩] ⟨0, 5, 10, 45⟩ [] (by rw [hT]; rfl) (fun z hz => by
      obtain rfl := List.mem_singleton.mp hz
      exact .inr ⟨by decide, eIA, cx_w C0 tm_1_222, (cx_K C0).2.2.2.2.2.2.2.1 (eIS, eIA) (by decide +kernel)⟩) rfl (by decide) (cx_w C0 tm_1_223) (cx_w2 C0 (.inr (by decide +kernel))) h9 hv9 hc9 ?_
      refine lv_astore_n (lv' := [(2, .ref q), (0, .ref (gad G 0)), (1, .int a1)]) hx hb dL_pass_10 rfl hl (by decide) rfl (fun ls hl => ?_)
      refine lv_bipush (v := (-103)) hx hb dL_pass_11 (by decide) ?_
      refine z_wide (mc := 2) (ms := 12) (by decide) (by decide) ?_
      exact z_iret C0 Z (Q := Q) hP dL_pass_13
  · refine z_wide (mc := 2) (ms := 12) (by decide) (by decide) ?_
    exact z_iret C0 Z (Q := Q) hw dL_pass_5
