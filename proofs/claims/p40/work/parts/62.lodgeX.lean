-- X3_needWithinx: room (6, 90)
def w_X3_needWithinx_10  (Q : V3 → Prop) (X : String → V3 → Prop) (v : V3) : Prop := X eIA v
def w_X3_needWithinx (a1 : Int32) (a2 : Int32) (a3 : Int32) (v : V3) (X : String → V3 → Prop) (Q : V3 → Prop) : Prop := ((a1 < a2 → w_X3_needWithinx_10 Q X v) ∧ (¬ a1 < a2 → ((a1 ≤ a3 → Q v) ∧ (¬ a1 ≤ a3 → w_X3_needWithinx_10 Q X v))))
set_option maxRecDepth 100000 in
set_option maxHeartbeats 4000000 in
theorem b_X3_needWithinx_10 {p : Program} (l : Launch) {e : Env} {s : State} {m : MethodId} {args : Array Value} {below : List Frame} {meth : Method} {c : Code} {G : zG}   (hst : l.stackTraces = false) (C0 : Cx G RX3 cX3_needWithin 3 none p s m args meth c) (hT : ∀ x ∈ c.exceptionTable.toList, False) {Q : V3 → Prop} {X : String → V3 → Prop} : ∀ (v : V3) (H : Heap) (locs : List Loc) (ls : Array Slot), w_X3_needWithinx_10 Q X v → Zs G s v H locs → lv_has ls 3 [] → W p l e { frames := 6, cells := 1, slots := 6, locals := 90 } s m args below meth c H locs 0 0 (vx_MQ below (QvZ G Q) (XZ G X) args s 1 6 (zA G)) (F0 m 10 ls []) := by
  have hx := C0.1
  have hb := C0.2.1
  intro v H locs ls hw Z hl
  rw [w_X3_needWithinx_10] at hw
  exact z_throwSW C0 hst hT Z hl.1 eIA_fit nmE_fit tm_1_231 tm_1_10 (text := "an argument is out of range") (by decide +kernel) at_165 gd_165 dX3_needWithin_10 dX3_needWithin_13 dX3_needWithin_14 dX3_needWithin_17 dX3_needWithin_20 (by decide) (Nat.le_of_ble_eq_true rfl) (by decide) (by decide) hw (by decide) (by decide)
set_option maxRecDepth 100000 in
set_option maxHeartbeats 4000000 in
theorem k_X3_needWithinx (l : Launch) (hst : l.stackTraces = false) {G : zG} (hg : 116 ≤ gn G) {a1 : Int32} {a2 : Int32} {a3 : Int32}  {v : V3} {Q : V3 → Prop} {X : String → V3 → Prop} (hw : w_X3_needWithinx a1 a2 a3 v X Q) : Mx l yX3_needWithin cX3_needWithin 3 none 6 90 1 6 G [.int a1, .int a2, .int a3] v (QvZ G Q) X := by
  rw [w_X3_needWithinx] at hw
  refine z_xofW hg (by decide) (Nat.le_of_ble_eq_true rfl) ?_
  intro p e s m args below meth c ls C0 hT Z hl
  have hx := C0.1
  have hb := C0.2.1
  replace hl : lv_has ls 3 [(0, .int a1), (1, .int a2), (2, .int a3)] := hl
  generalize s.heap = H at Z ⊢
  generalize ([] : List Loc) = locs at Z ⊢
  refine lv_iload_n hx hb dX3_needWithin_0 rfl (lv_at hl 0 rfl) ?_
  refine lv_iload_n hx hb dX3_needWithin_1 rfl (lv_at hl 1 rfl) ?_
  refine lv_icmp_lt (tgt := 10) hx hb dX3_needWithin_2 (by decide) (fun c1 => ?_) (fun c1 => ?_)
  · replace hw := hw.1 c1
    exact b_X3_needWithinx_10 l hst C0 hT _ _ _ _ hw Z (lv_sub hl [] rfl)
  · replace hw := hw.2 c1
    refine lv_iload_n hx hb dX3_needWithin_5 rfl (lv_at hl 0 rfl) ?_
    refine lv_iload_n hx hb dX3_needWithin_6 rfl (lv_at hl 2 rfl) ?_
    refine lv_icmp_le (tgt := 21) hx hb dX3_needWithin_7 (by decide) (fun c2 => ?_) (fun c2 => ?_)
    · replace hw := hw.1 c2
      refine z_wide (mc := 1) (ms := 6) (by decide) (by decide) ?_
      exact vx_ret (z_vret C0 Z hw dX3_needWithin_21)
    · replace hw := hw.2 c2
      exact b_X3_needWithinx_10 l hst C0 hT _ _ _ _ hw Z (lv_sub hl [] rfl)
-- X3_needBookingx: room (6, 90)
def w_X3_needBookingx_15  (Q : V3 → Prop) (X : String → V3 → Prop) (v : V3) : Prop := X eIO v
def w_X3_needBookingx (a1 : Int32) (v : V3) (X : String → V3 → Prop) (Q : V3 → Prop) : Prop := ((a1 < 0 → w_X3_needBookingx_15 Q X v) ∧ (¬ a1 < 0 → ((a1 < (v 8 8) → Q v) ∧ (¬ a1 < (v 8 8) → w_X3_needBookingx_15 Q X v))))
set_option maxRecDepth 100000 in
set_option maxHeartbeats 4000000 in
theorem b_X3_needBookingx_15 {p : Program} (l : Launch) {e : Env} {s : State} {m : MethodId} {args : Array Value} {below : List Frame} {meth : Method} {c : Code} {G : zG}   (hst : l.stackTraces = false) (C0 : Cx G RX3 cX3_needBooking 2 none p s m args meth c) (hT : ∀ x ∈ c.exceptionTable.toList, False) {Q : V3 → Prop} {X : String → V3 → Prop} : ∀ (v : V3) (H : Heap) (locs : List Loc) (ls : Array Slot), w_X3_needBookingx_15 Q X v → Zs G s v H locs → lv_has ls 2 [] → W p l e { frames := 6, cells := 1, slots := 6, locals := 90 } s m args below meth c H locs 0 0 (vx_MQ below (QvZ G Q) (XZ G X) args s 1 6 (zA G)) (F0 m 15 ls []) := by
  have hx := C0.1
  have hb := C0.2.1
  intro v H locs ls hw Z hl
  rw [w_X3_needBookingx_15] at hw
  exact z_throwSW C0 hst hT Z hl.1 eIO_fit nmE_fit tm_2_129 tm_1_12 (text := "there is no such booking") (by decide +kernel) at_197 gd_197 dX3_needBooking_15 dX3_needBooking_18 dX3_needBooking_19 dX3_needBooking_22 dX3_needBooking_25 (by decide) (Nat.le_of_ble_eq_true rfl) (by decide) (by decide) hw (by decide) (by decide)
set_option maxRecDepth 100000 in
set_option maxHeartbeats 4000000 in
theorem k_X3_needBookingx (l : Launch) (hst : l.stackTraces = false) {G : zG} (hg : 116 ≤ gn G) {a1 : Int32}  {v : V3} {Q : V3 → Prop} {X : String → V3 → Prop} (hw : w_X3_needBookingx a1 v X Q) : Mx l yX3_needBooking cX3_needBooking 2 none 6 90 1 6 G [.ref (gad G 0), .int a1] v (QvZ G Q) X := by
  rw [w_X3_needBookingx] at hw
  refine z_xofW hg (by decide) (Nat.le_of_ble_eq_true rfl) ?_
  intro p e s m args below meth c ls C0 hT Z hl
  have hx := C0.1
  have hb := C0.2.1
  replace hl : lv_has ls 2 [(0, .ref (gad G 0)), (1, .int a1)] := hl
  generalize s.heap = H at Z ⊢
  generalize ([] : List Loc) = locs at Z ⊢
  refine lv_iload_n hx hb dX3_needBooking_0 rfl (lv_at hl 1 rfl) ?_
  refine lv_if_lt (tgt := 15) hx hb dX3_needBooking_1 (by decide) (fun c1 => ?_) (fun c1 => ?_)
  · replace hw := hw.1 c1
    exact b_X3_needBookingx_15 l hst C0 hT _ _ _ _ hw Z (lv_sub hl [] rfl)
  · replace hw := hw.2 c1
    refine lv_iload_n hx hb dX3_needBooking_4 rfl (lv_at hl 1 rfl) ?_
    refine lv_aload_n hx hb dX3_needBooking_5 rfl (lv_at hl 0 rfl) ?_
    refine z_get C0 Z in_X3 rfl 4 (by decide) rfl tm_1_142 (cx_lt C0 (by decide)) rfl rfl dX3_needBooking_6 ?_
    refine z_get C0 Z in_X1 rfl 8 (by decide) rfl tm_1_64 (isL_lt0 (isL8 (cx_g C0))) (ent_L (isL8 (cx_g C0))) rfl dX3_needBooking_9 ?_
    refine lv_icmp_lt (tgt := 26) hx hb dX3_needBooking_12 (by decide) (fun c2 => ?_) (fun c2 => ?_)
    · replace hw := hw.1 c2
      refine z_wide (mc := 1) (ms := 6) (by decide) (by decide) ?_
      exact vx_ret (z_vret C0 Z hw dX3_needBooking_26)
    · replace hw := hw.2 c2
      exact b_X3_needBookingx_15 l hst C0 hT _ _ _ _ hw Z (lv_sub hl [] rfl)
-- X3_needOwnerx: room (6, 90)
def w_X3_needOwnerx_15  (Q : V3 → Prop) (X : String → V3 → Prop) (v : V3) : Prop := X eIO v
def w_X3_needOwnerx (a1 : Int32) (v : V3) (X : String → V3 → Prop) (Q : V3 → Prop) : Prop := ((a1 < 0 → w_X3_needOwnerx_15 Q X v) ∧ (¬ a1 < 0 → ((a1 < (v 8 7) → Q v) ∧ (¬ a1 < (v 8 7) → w_X3_needOwnerx_15 Q X v))))
set_option maxRecDepth 100000 in
set_option maxHeartbeats 4000000 in
theorem b_X3_needOwnerx_15 {p : Program} (l : Launch) {e : Env} {s : State} {m : MethodId} {args : Array Value} {below : List Frame} {meth : Method} {c : Code} {G : zG}   (hst : l.stackTraces = false) (C0 : Cx G RX3 cX3_needOwner 2 none p s m args meth c) (hT : ∀ x ∈ c.exceptionTable.toList, False) {Q : V3 → Prop} {X : String → V3 → Prop} : ∀ (v : V3) (H : Heap) (locs : List Loc) (ls : Array Slot), w_X3_needOwnerx_15 Q X v → Zs G s v H locs → lv_has ls 2 [] → W p l e { frames := 6, cells := 1, slots := 6, locals := 90 } s m args below meth c H locs 0 0 (vx_MQ below (QvZ G Q) (XZ G X) args s 1 6 (zA G)) (F0 m 15 ls []) := by
  have hx := C0.1
  have hb := C0.2.1
  intro v H locs ls hw Z hl
  rw [w_X3_needOwnerx_15] at hw
  exact z_throwSW C0 hst hT Z hl.1 eIO_fit nmE_fit tm_2_129 tm_1_12 (text := "there is no such owner") (by decide +kernel) at_197 gd_197 dX3_needOwner_15 dX3_needOwner_18 dX3_needOwner_19 dX3_needOwner_22 dX3_needOwner_25 (by decide) (Nat.le_of_ble_eq_true rfl) (by decide) (by decide) hw (by decide) (by decide)
set_option maxRecDepth 100000 in
set_option maxHeartbeats 4000000 in
theorem k_X3_needOwnerx (l : Launch) (hst : l.stackTraces = false) {G : zG} (hg : 116 ≤ gn G) {a1 : Int32}  {v : V3} {Q : V3 → Prop} {X : String → V3 → Prop} (hw : w_X3_needOwnerx a1 v X Q) : Mx l yX3_needOwner cX3_needOwner 2 none 6 90 1 6 G [.ref (gad G 0), .int a1] v (QvZ G Q) X := by
  rw [w_X3_needOwnerx] at hw
  refine z_xofW hg (by decide) (Nat.le_of_ble_eq_true rfl) ?_
  intro p e s m args below meth c ls C0 hT Z hl
  have hx := C0.1
  have hb := C0.2.1
  replace hl : lv_has ls 2 [(0, .ref (gad G 0)), (1, .int a1)] := hl
  generalize s.heap = H at Z ⊢
  generalize ([] : List Loc) = locs at Z ⊢
  refine lv_iload_n hx hb dX3_needOwner_0 rfl (lv_at hl 1 rfl) ?_
  refine lv_if_lt (tgt := 15) hx hb dX3_needOwner_1 (by decide) (fun c1 => ?_) (fun c1 => ?_)
  · replace hw := hw.1 c1
    exact b_X3_needOwnerx_15 l hst C0 hT _ _ _ _ hw Z (lv_sub hl [] rfl)
  · replace hw := hw.2 c1
    refine lv_iload_n hx hb dX3_needOwner_4 rfl (lv_at hl 1 rfl) ?_
    refine lv_aload_n hx hb dX3_needOwner_5 rfl (lv_at hl 0 rfl) ?_
    refine z_get C0 Z in_X3 rfl 4 (by decide) rfl tm_1_142 (cx_lt C0 (by decide)) rfl rfl dX3_needOwner_6 ?_
    refine z_get C0 Z in_X1 rfl 7 (by decide) rfl tm_1_61 (isL_lt0 (isL8 (cx_g C0))) (ent_L (isL8 (cx_g C0))) rfl dX3_needOwner_9 ?_
    refine lv_icmp_lt (tgt := 26) hx hb dX3_needOwner_12 (by decide) (fun c2 => ?_) (fun c2 => ?_)
    · replace hw := hw.1 c2
      refine z_wide (mc := 1) (ms := 6) (by decide) (by decide) ?_
      exact vx_ret (z_vret C0 Z hw dX3_needOwner_26)
    · replace hw := hw.2 c2
      exact b_X3_needOwnerx_15 l hst C0 hT _ _ _ _ hw Z (lv_sub hl [] rfl)
-- X3_bookx: room (7, 112)
def w_X3_bookx_95  (Q : Int32 → V3 → Prop) (X : String → V3 → Prop) (v : V3) : Prop := X eIS v
def w_X3_bookx (a1 : Int32) (a2 : Int32) (a3 : Int32) (a4 : Int32) (v : V3) (X : String → V3 → Prop) (Q : Int32 → V3 → Prop) : Prop := w_X3_needOwnerx a1 v X (fun v1 => w_X3_needWithinx a2 0 9999 v1 X (fun v2 => w_X3_needWithinx a3 0 99 v2 X (fun v3 => w_X3_needWithinx a4 1 9 v3 X (fun v4 => (((v4 8 6) ≤ (a2 + a3) → (((v4 8 8) < 40 → w_X1_hasLimit 8 a1 v4 (fun r8 v7 => ((¬ r8 = 0 → w_X3_bookx_95 Q X v7) ∧ (r8 = 0 → w_X1_isBarred 8 a1 v7 (fun r11 v10 => ((r11 = 0 → w_X1_enterBooking 8 a1 (v10 0 9) (v10 0 10) (v10 0 11) a2 a3 a4 v10 (fun r14 v13 => Q r14 v13)) ∧ (¬ r11 = 0 → w_X3_bookx_95 Q X v10))))))) ∧ (¬ (v4 8 8) < 40 → X eIS v4))) ∧ (¬ (v4 8 6) ≤ (a2 + a3) → X eIA v4))))))
set_option maxRecDepth 100000 in
set_option maxHeartbeats 4000000 in
theorem b_X3_bookx_95 {p : Program} (l : Launch) {e : Env} {s : State} {m : MethodId} {args : Array Value} {below : List Frame} {meth : Method} {c : Code} {G : zG}   (hst : l.stackTraces = false) (C0 : Cx G RX3 cX3_book 5 (some .int) p s m args meth c) (hT : ∀ x ∈ c.exceptionTable.toList, False) {Q : Int32 → V3 → Prop} {X : String → V3 → Prop} : ∀ (v : V3) (H : Heap) (locs : List Loc) (ls : Array Slot), w_X3_bookx_95 Q X v → Zs G s v H locs → lv_has ls 5 [] → W p l e { frames := 7, cells := 5, slots := 30, locals := 112 } s m args below meth c H locs 4 24 (vx_MQ below (QiZ G Q) (XZ G X) args s 5 30 (zA G)) (F0 m 95 ls []) := by
  have hx := C0.1
  have hb := C0.2.1
  intro v H locs ls hw Z hl
  rw [w_X3_bookx_95] at hw
  exact z_throwS C0 hst hT Z hl.1 eIS_fit nmE_fit tm_2_58 tm_1_11 (text := "the owner may not book") (by decide +kernel) at_74 gd_74 dX3_book_95 dX3_book_98 dX3_book_99 dX3_book_101 dX3_book_104 (by decide) (Nat.le_of_ble_eq_true rfl) (by decide) (by decide) hw (by decide) (by decide)
set_option maxRecDepth 100000 in
set_option maxHeartbeats 4000000 in
theorem k_X3_bookx (l : Launch) (hst : l.stackTraces = false) {G : zG} (hg : 116 ≤ gn G) {a1 : Int32} {a2 : Int32} {a3 : Int32} {a4 : Int32}  {v : V3} {Q : Int32 → V3 → Prop} {X : String → V3 → Prop} (hw : w_X3_bookx a1 a2 a3 a4 v X Q) : Mx l yX3_book cX3_book 5 (some .int) 7 112 5 30 G [.ref (gad G 0), .int a1, .int a2, .int a3, .int a4] v (QiZ G Q) X := by
  rw [w_X3_bookx] at hw
  refine z_xofW hg (by decide) (Nat.le_of_ble_eq_true rfl) ?_
  intro p e s m args below meth c ls C0 hT Z hl
  have hx := C0.1
  have hb := C0.2.1
  replace hl : lv_has ls 5 [(0, .ref (gad G 0)), (1, .int a1), (2, .int a2), (3, .int a3), (4, .int a4)] := hl
  generalize s.heap = H at Z ⊢
  generalize ([] : List Loc) = locs at Z ⊢
  refine lv_aload_n hx hb dX3_book_0 rfl (lv_at hl 0 rfl) ?_
  refine lv_iload_n hx hb dX3_book_1 rfl (lv_at hl 1 rfl) ?_
  refine z_xcallVv C0 hT Z hl.1 (As := [.int a1]) (rest := []) (k_X3_needOwnerx l hst (cx_g C0) hw) (gv_X3_needOwner tm_2_154) rfl ds_X3_needOwner ⟨Nat.le_of_ble_eq_true rfl, Nat.le_of_ble_eq_true rfl⟩ (ci := 3) rfl (cx_lt C0 (by decide)) rfl rfl rfl (Nat.le_of_ble_eq_true rfl) ⟨Nat.le_of_ble_eq_true rfl, Nat.le_of_ble_eq_true rfl⟩ ⟨Nat.le_of_ble_eq_true rfl, Nat.le_of_ble_eq_true rfl⟩ dX3_book_2 (fun v1 H locs hw Z => ?_)
  refine lv_iload_n hx hb dX3_book_5 rfl (lv_at hl 2 rfl) ?_
  refine lv_iconst (v := 0) hx hb dX3_book_6 (by decide) ?_
  refine lv_sipush (v := 9999) hx hb dX3_book_7 (by decide) ?_
  refine z_xcallSv C0 hT Z hl.1 (As := [.int a2, .int 0, .int 9999]) (rest := []) (k_X3_needWithinx l hst (cx_g C0) hw) (gv_X3_needWithin tm_1_228) ds_X3_needWithin ⟨Nat.le_of_ble_eq_true rfl, Nat.le_of_ble_eq_true rfl⟩ rfl rfl (Nat.le_of_ble_eq_true rfl) ⟨Nat.le_of_ble_eq_true rfl, Nat.le_of_ble_eq_true rfl⟩ ⟨Nat.le_of_ble_eq_true rfl, Nat.le_of_ble_eq_true rfl⟩ dX3_book_10 (fun v2 H locs hw Z => ?_)
  refine lv_iload_n hx hb dX3_book_13 rfl (lv_at hl 3 rfl) ?_
  refine lv_iconst (v := 0) hx hb dX3_book_14 (by decide) ?_
  refine lv_bipush (v := 99) hx hb dX3_book_15 (by decide) ?_
  refine z_xcallSv C0 hT Z hl.1 (As := [.int a3, .int 0, .int 99]) (rest := []) (k_X3_needWithinx l hst (cx_g C0) hw) (gv_X3_needWithin tm_1_228) ds_X3_needWithin ⟨Nat.le_of_ble_eq_true rfl, Nat.le_of_ble_eq_true rfl⟩ rfl rfl (Nat.le_of_ble_eq_true rfl) ⟨Nat.le_of_ble_eq_true rfl, Nat.le_of_ble_eq_true rfl⟩ ⟨Nat.le_of_ble_eq_true rfl, Nat.le_of_ble_eq_true rfl⟩ dX3_book_17 (fun v3 H locs hw Z => ?_)
  refine lv_iload hx hb dX3_book_20 (lv_at hl 4 rfl) ?_
  refine lv_iconst (v := 1) hx hb dX3_book_22 (by decide) ?_
  refine lv_bipush (v := 9) hx hb dX3_book_23 (by decide) ?_
  refine z_xcallSv C0 hT Z hl.1 (As := [.int a4, .int 1, .int 9]) (rest := []) (k_X3_needWithinx l hst (cx_g C0) hw) (gv_X3_needWithin tm_1_228) ds_X3_needWithin ⟨Nat.le_of_ble_eq_true rfl, Nat.le_of_ble_eq_true rfl⟩ rfl rfl (Nat.le_of_ble_eq_true rfl) ⟨Nat.le_of_ble_eq_true rfl, Nat.le_of_ble_eq_true rfl⟩ ⟨Nat.le_of_ble_eq_true rfl, Nat.le_of_ble_eq_true rfl⟩ dX3_book_25 (fun v4 H locs hw Z => ?_)
  refine lv_iload_n hx hb dX3_book_28 rfl (lv_at hl 2 rfl) ?_
  refine lv_iload_n hx hb dX3_book_29 rfl (lv_at hl 3 rfl) ?_
  refine lv_iadd hx hb dX3_book_30 ?_
  refine lv_aload_n hx hb dX3_book_31 rfl (lv_at hl 0 rfl) ?_
  refine z_get C0 Z in_X3 rfl 4 (by decide) rfl tm_1_142 (cx_lt C0 (by decide)) rfl rfl dX3_book_32 ?_
  refine z_get C0 Z in_X1 rfl 6 (by decide) rfl tm_1_59 (isL_lt0 (isL8 (cx_g C0))) (ent_L (isL8 (cx_g C0))) rfl dX3_book_35 ?_
  refine lv_icmp_ge (tgt := 51) hx hb dX3_book_38 (by decide) (fun c5 => ?_) (fun c5 => ?_)
  · replace hw := hw.1 c5
    refine lv_aload_n hx hb dX3_book_51 rfl (lv_at hl 0 rfl) ?_
    refine z_get C0 Z in_X3 rfl 4 (by decide) rfl tm_1_142 (cx_lt C0 (by decide)) rfl rfl dX3_book_52 ?_
    refine z_get C0 Z in_X1 rfl 8 (by decide) rfl tm_1_64 (isL_lt0 (isL8 (cx_g C0))) (ent_L (isL8 (cx_g C0))) rfl dX3_book_55 ?_
    refine lv_bipush (v := 40) hx hb dX3_book_58 (by decide) ?_
    refine lv_icmp_lt (tgt := 73) hx hb dX3_book_60 (by decide) (fun c6 => ?_) (fun c6 => ?_)
    · replace hw := hw.1 c6
      refine lv_aload_n hx hb dX3_book_73 rfl (lv_at hl 0 rfl) ?_
      refine z_get C0 Z in_X3 rfl 4 (by decide) rfl tm_1_142 (cx_lt C0 (by decide)) rfl rfl dX3_book_74 ?_
      refine lv_iload_n hx hb dX3_book_77 rfl (lv_at hl 1 rfl) ?_
      refine z_callVi C0 Z hl.1 (As := [.int a1]) (rest := []) (k_X1_hasLimit l (cx_g C0) (isL8 (cx_g C0)) hw) (gv_X1_hasLimit tm_2_211) rfl ds_X1_hasLimit ⟨Nat.le_of_ble_eq_true rfl, Nat.le_of_ble_eq_true rfl⟩ (ci := 1) rfl (isL_lt0 (isL8 (cx_g C0))) (ent_L (isL8 (cx_g C0))) rfl rfl (Nat.le_of_ble_eq_true rfl) ⟨Nat.le_of_ble_eq_true rfl, Nat.le_of_ble_eq_true rfl⟩ dX3_book_78 (fun r8 v7 H locs hw Z => ?_)
      refine lv_if_ne (tgt := 95) hx hb dX3_book_81 (by decide) (fun c9 => ?_) (fun c9 => ?_)
      · replace hw := hw.1 c9
        exact b_X3_bookx_95 l hst C0 hT _ _ _ _ hw Z (lv_sub hl [] rfl)
      · replace hw := hw.2 c9
        refine lv_aload_n hx hb dX3_book_84 rfl (lv_at hl 0 rfl) ?_
        refine z_get C0 Z in_X3 rfl 4 (by decide) rfl tm_1_142 (cx_lt C0 (by decide)) rfl rfl dX3_book_85 ?_
        refine lv_iload_n hx hb dX3_book_88 rfl (lv_at hl 1 rfl) ?_
        refine z_callVi C0 Z hl.1 (As := [.int a1]) (rest := []) (k_X1_isBarred l (cx_g C0) (isL8 (cx_g C0)) hw) (gv_X1_isBarred tm_2_167) rfl ds_X1_isBarred ⟨Nat.le_of_ble_eq_true rfl, Nat.le_of_ble_eq_true rfl⟩ (ci := 1) rfl (isL_lt0 (isL8 (cx_g C0))) (ent_L (isL8 (cx_g C0))) rfl rfl (Nat.le_of_ble_eq_true rfl) ⟨Nat.le_of_ble_eq_true rfl, Nat.le_of_ble_eq_true rfl⟩ dX3_book_89 (fun r11 v10 H locs hw Z => ?_)
        refine lv_if_eq (tgt := 105) hx hb dX3_book_92 (by decide) (fun c12 => ?_) (fun c12 => ?_)
        · replace hw := hw.1 c12
          refine lv_aload_n hx hb dX3_book_105 rfl (lv_at hl 0 rfl) ?_
          refine z_get C0 Z in_X3 rfl 4 (by decide) rfl tm_1_142 (cx_lt C0 (by decide)) rfl rfl dX3_book_106 ?_
          refine lv_iload_n hx hb dX3_book_109 rfl (lv_at hl 1 rfl) ?_
          refine lv_aload_n hx hb dX3_book_110 rfl (lv_at hl 0 rfl) ?_
          refine z_get C0 Z in_X3 rfl 9 (by decide) rfl tm_1_147 (cx_lt C0 (by decide)) rfl rfl dX3_book_111 ?_
          refine lv_aload_n hx hb dX3_book_114 rfl (lv_at hl 0 rfl) ?_
          refine z_get C0 Z in_X3 rfl 10 (by decide) rfl tm_1_148 (cx_lt C0 (by decide)) rfl rfl dX3_book_115 ?_
          refine lv_aload_n hx hb dX3_book_118 rfl (lv_at hl 0 rfl) ?_
          refine z_get C0 Z in_X3 rfl 11 (by decide) rfl tm_1_149 (cx_lt C0 (by decide)) rfl rfl dX3_book_119 ?_
          refine lv_iload_n hx hb dX3_book_122 rfl (lv_at hl 2 rfl) ?_
          refine lv_iload_n hx hb dX3_book_123 rfl (lv_at hl 3 rfl) ?_
          refine lv_iload hx hb dX3_book_124 (lv_at hl 4 rfl) ?_
          refine z_callVi C0 Z hl.1 (As := [.int a1, .int (v10 0 9), .int (v10 0 10), .int (v10 0 11), .int a2, .int a3, .int a4]) (rest := []) (k_X1_enterBooking l (cx_g C0) (isL8 (cx_g C0)) hw) (gv_X1_enterBooking tm_2_217) rfl ds_X1_enterBooking ⟨Nat.le_of_ble_eq_true rfl, Nat.le_of_ble_eq_true rfl⟩ (ci := 1) rfl (isL_lt0 (isL8 (cx_g C0))) (ent_L (isL8 (cx_g C0))) rfl rfl (Nat.le_of_ble_eq_true rfl) ⟨Nat.le_of_ble_eq_true rfl, Nat.le_of_ble_eq_true rfl⟩ dX3_book_126 (fun r14 v13 H locs hw Z => ?_)
          refine z_wide (mc := 5) (ms := 30) (by decide) (by decide) ?_
          exact vx_ret (z_iret C0 Z hw dX3_book_129)
        · replace hw := hw.2 c12
          exact b_X3_bookx_95 l hst C0 hT _ _ _ _ hw Z (lv_sub hl [] rfl)
    · replace hw := hw.2 c6
      exact z_throwS C0 hst hT Z hl.1 eIS_fit nmE_fit tm_2_58 tm_1_11 (text := "there are 40 bookings") (by decide +kernel) at_74 gd_74 dX3_book_63 dX3_book_66 dX3_book_67 dX3_book_69 dX3_book_72 (by decide) (Nat.le_of_ble_eq_true rfl) (by decide) (by decide) hw (by decide) (by decide)
  · replace hw := hw.2 c5
    exact z_throwS C0 hst hT Z hl.1 eIA_fit nmE_fit tm_1_231 tm_1_10 (text := "all its times are over") (by decide +kernel) at_165 gd_165 dX3_book_41 dX3_book_44 dX3_book_45 dX3_book_47 dX3_book_50 (by decide) (Nat.le_of_ble_eq_true rfl) (by decide) (by decide) hw (by decide) (by decide)
-- X3_leavex: room (7, 111)
def w_X3_leavex (a1 : Int32) (v : V3) (X : String → V3 → Prop) (Q : Int32 → V3 → Prop) : Prop := w_X3_needBookingx a1 v X (fun v1 => vp_in a1 40 ∧ (((v1 (8 + 14 + (ix a1)) 7) = 2 → ∀ v5 : V3, v5 = up2 v1 (8 + 14 + (ix a1)) 7 3 → ∀ v6 : V3, v6 = up2 v5 (8 + 14 + (ix a1)) 9 (v5 8 6) → vp_in (v6 (8 + 14 + (ix a1)) 0) 8 ∧ ∀ v9 : V3, v9 = up2 v6 (8 + 6 + (ix (v6 (8 + 14 + (ix a1)) 0))) 1 ((v6 (8 + 6 + (ix (v6 (8 + 14 + (ix a1)) 0))) 1) + 1) → w_X1_placeWaiting 8 v9 (fun v10 => Q 0 v10)) ∧ (¬ (v1 (8 + 14 + (ix a1)) 7) = 2 → Q 1 v1)))
set_option maxRecDepth 100000 in
set_option maxHeartbeats 4000000 in
theorem k_X3_leavex (l : Launch) (hst : l.stackTraces = false) {G : zG} (hg : 116 ≤ gn G) {a1 : Int32}  {v : V3} {Q : Int32 → V3 → Prop} {X : String → V3 → Prop} (hw : w_X3_leavex a1 v X Q) : Mx l yX3_leave cX3_leave 3 (some .int) 7 111 1 6 G [.ref (gad G 0), .int a1] v (QiZ G Q) X := by
  rw [w_X3_leavex] at hw
  refine z_xofW hg (by decide) (Nat.le_of_ble_eq_true rfl) ?_
  intro p e s m args below meth c ls C0 hT Z hl
  have hx := C0.1
  have hb := C0.2.1
  replace hl : lv_has ls 3 [(0, .ref (gad G 0)), (1, .int a1)] := hl
  generalize s.heap = H at Z ⊢
  generalize ([] : List Loc) = locs at Z ⊢
  refine lv_aload_n hx hb dX3_leave_0 rfl (lv_at hl 0 rfl) ?_
  refine lv_iload_n hx hb dX3_leave_1 rfl (lv_at hl 1 rfl) ?_
  refine z_xcallVv C0 hT Z hl.1 (As := [.int a1]) (rest := []) (k_X3_needBookingx l hst (cx_g C0) hw) (gv_X3_needBooking tm_3_5) rfl ds_X3_needBooking ⟨Nat.le_of_ble_eq_true rfl, Nat.le_of_ble_eq_true rfl⟩ (ci := 3) rfl (cx_lt C0 (by decide)) rfl rfl rfl (Nat.le_of_ble_eq_true rfl) ⟨Nat.le_of_ble_eq_true rfl, Nat.le_of_ble_eq_true rfl⟩ ⟨Nat.le_of_ble_eq_true rfl, Nat.le_of_ble_eq_true rfl⟩ dX3_leave_2 (fun v1 H locs hw Z => ?_)
  refine lv_aload_n hx hb dX3_leave_5 rfl (lv_at hl 0 rfl) ?_
  refine z_get C0 Z in_X3 rfl 4 (by decide) rfl tm_1_142 (cx_lt C0 (by decide)) rfl rfl dX3_leave_6 ?_
  refine z_get C0 Z in_X1 rfl 2 (by decide) rfl tm_1_51 (isL_lt0 (isL8 (cx_g C0))) (ent_L (isL8 (cx_g C0))) rfl dX3_leave_9 ?_
  refine lv_iload_n hx hb dX3_leave_12 rfl (lv_at hl 1 rfl) ?_
  obtain ⟨h2, hw⟩ := hw
  have h3 := vp_lt h2
  refine z_aald C0 Z (isL_lt (isL8 (cx_g C0)) 3 (by decide)) (ent_L3 (isL8 (cx_g C0))) h2 dX3_leave_13 ?_
  refine lv_astore_n (lv' := [(2, .ref (gad G (8 + 14 + (ix a1)))), (0, .ref (gad G 0)), (1, .int a1)]) hx hb dX3_leave_14 rfl hl (by decide) rfl (fun ls hl => ?_)
  refine lv_aload_n hx hb dX3_leave_15 rfl (lv_at hl 0 rfl) ?_
  refine lv_bipush (v := 7) hx hb dX3_leave_16 (by decide) ?_
  refine z_ialdk C0 Z (isL_B (isL8 (cx_g C0)) h3) (ent_B (isL8 (cx_g C0)) h3) in_7_10 nc_7 dX3_leave_18 ?_
  refine lv_iconst (v := 2) hx hb dX3_leave_19 (by decide) ?_
  refine lv_icmp_eq (tgt := 25) hx hb dX3_leave_20 (by decide) (fun c4 => ?_) (fun c4 => ?_)
  · replace hw := hw.1 c4
    refine lv_aload_n hx hb dX3_leave_25 rfl (lv_at hl 0 rfl) ?_
    refine lv_bipush (v := 7) hx hb dX3_leave_26 (by decide) ?_
    refine lv_iconst (v := 3) hx hb dX3_leave_28 (by decide) ?_
    refine z_iastk C0 Z (isL_B (isL8 (cx_g C0)) h3) (fun _ => ent_B (isL8 (cx_g C0)) h3) in_7_10 nc_7 dX3_leave_29 (fun H locs Z => ?_)
    obtain ⟨v5, ev5⟩ : ∃ z : V3, z = up2 v1 (8 + 14 + (ix a1)) 7 3 := ⟨_, rfl⟩
    rw [← ev5] at Z
    replace hw := hw v5 ev5
    refine lv_aload_n hx hb dX3_leave_30 rfl (lv_at hl 0 rfl) ?_
    refine lv_bipush (v := 9) hx hb dX3_leave_31 (by decide) ?_
    refine lv_aload_n hx hb dX3_leave_33 rfl (lv_at hl 1 rfl) ?_
    refine z_get C0 Z in_X3 rfl 4 (by decide) rfl tm_1_142 (cx_lt C0 (by decide)) rfl rfl dX3_leave_34 ?_
    refine z_get C0 Z in_X1 rfl 6 (by decide) rfl tm_1_59 (isL_lt0 (isL8 (cx_g C0))) (ent_L (isL8 (cx_g C0))) rfl dX3_leave_37 ?_
    refine z_iastk C0 Z (isL_B (isL8 (cx_g C0)) h3) (fun _ => ent_B (isL8 (cx_g C0)) h3) in_9_10 nc_9 dX3_leave_40 (fun H locs Z => ?_)
    obtain ⟨v6, ev6⟩ : ∃ z : V3, z = up2 v5 (8 + 14 + (ix a1)) 9 (v5 8 6) := ⟨_, rfl⟩
    rw [← ev6] at Z
    replace hw := hw v6 ev6
    refine lv_aload_n hx hb dX3_leave_41 rfl (lv_at hl 1 rfl) ?_
    refine z_get C0 Z in_X3 rfl 4 (by decide) rfl tm_1_142 (cx_lt C0 (by decide)) rfl rfl dX3_leave_42 ?_
    refine z_get C0 Z in_X1 rfl 1 (by decide) rfl tm_1_48 (isL_lt0 (isL8 (cx_g C0))) (ent_L (isL8 (cx_g C0))) rfl dX3_leave_45 ?_
    refine lv_aload_n hx hb dX3_leave_48 rfl (lv_at hl 0 rfl) ?_
    refine lv_iconst (v := 0) hx hb dX3_leave_49 (by decide) ?_
    refine z_ialdk C0 Z (isL_B (isL8 (cx_g C0)) h3) (ent_B (isL8 (cx_g C0)) h3) in_0_10 nc_0 dX3_leave_50 ?_
    obtain ⟨h7, hw⟩ := hw
    have h8 := vp_lt h7
    refine z_aald C0 Z (isL_lt (isL8 (cx_g C0)) 2 (by decide)) (ent_L2 (isL8 (cx_g C0))) h7 dX3_leave_51 ?_
    refine lv_iconst (v := 1) hx hb dX3_leave_52 (by decide) ?_
    refine lv_dup2_11 hx hb dX3_leave_53 rfl rfl ?_
    refine z_ialdk C0 Z (isL_O (isL8 (cx_g C0)) h8) (ent_O (isL8 (cx_g C0)) h8) in_1_8 nc_1 dX3_leave_54 ?_
    refine lv_iconst (v := 1) hx hb dX3_leave_55 (by decide) ?_
    refine lv_iadd hx hb dX3_leave_56 ?_
    refine z_iastk C0 Z (isL_O (isL8 (cx_g C0)) h8) (fun _ => ent_O (isL8 (cx_g C0)) h8) in_1_8 nc_1 dX3_leave_57 (fun H locs Z => ?_)
    obtain ⟨v9, ev9⟩ : ∃ z : V3, z = up2 v6 (8 + 6 + (ix (v6 (8 + 14 + (ix a1)) 0))) 1 ((v6 (8 + 6 + (ix (v6 (8 + 14 + (ix a1)) 0))) 1) + 1) := ⟨_, rfl⟩
    rw [← ev9] at Z
    replace hw := hw v9 ev9
    refine lv_aload_n hx hb dX3_leave_58 rfl (lv_at hl 1 rfl) ?_
    refine z_get C0 Z in_X3 rfl 4 (by decide) rfl tm_1_142 (cx_lt C0 (by decide)) rfl rfl dX3_leave_59 ?_
    refine z_callVv C0 Z hl.1 (As := []) (rest := []) (k_X1_placeWaiting l (cx_g C0) (isL8 (cx_g C0)) hw) (gv_X1_placeWaiting tm_3_28) rfl ds_X1_placeWaiting ⟨Nat.le_of_ble_eq_true rfl, Nat.le_of_ble_eq_true rfl⟩ (ci := 1) rfl (isL_lt0 (isL8 (cx_g C0))) (ent_L (isL8 (cx_g C0))) rfl rfl (Nat.le_of_ble_eq_true rfl) ⟨Nat.le_of_ble_eq_true rfl, Nat.le_of_ble_eq_true rfl⟩ dX3_leave_62 (fun v10 H locs hw Z => ?_)
    refine lv_iconst (v := 0) hx hb dX3_leave_65 (by decide) ?_
    refine z_wide (mc := 1) (ms := 6) (by decide) (by decide) ?_
    exact vx_ret (z_iret C0 Z hw dX3_leave_66)
  · replace hw := hw.2 c4
    refine lv_iconst (v := 1) hx hb dX3_leave_23 (by decide) ?_
    refine z_wide (mc := 1) (ms := 6) (by decide) (by decide) ?_
    exact vx_ret (z_iret C0 Z hw dX3_leave_24)
-- X3_swapx: room (7, 111)
def w_X3_swapx_49  (Q : Int32 → V3 → Prop) (X : String → V3 → Prop) (v : V3) : Prop := Q 1 v
def w_X3_swapx (a1 : Int32) (a2 : Int32) (v : V3) (X : String → V3 → Prop) (Q : Int32 → V3 → Prop) : Prop := w_X3_needBookingx a1 v X (fun v1 => w_X3_needBookingx a2 v1 X (fun v2 => ((¬ a1 = a2 → w_X1_isIn 8 a1 1 v2 (fun r5 v4 => ((r5 = 0 → w_X3_swapx_49 Q X v4) ∧ (¬ r5 = 0 → w_X1_isIn 8 a2 1 v4 (fun r8 v7 => ((¬ r8 = 0 → w_X0_swapGain a1 a2 v7 (fun r11 v10 => ((¬ r11 = 0 → w_X0_makeSwap a1 a2 v10 (fun v13 => w_X1_placeWaiting 8 v13 (fun v14 => Q 0 v14))) ∧ (r11 = 0 → Q 4 v10)))) ∧ (r8 = 0 → w_X3_swapx_49 Q X v7))))))) ∧ (a1 = a2 → X eIA v2))))
set_option maxRecDepth 100000 in
set_option maxHeartbeats 4000000 in
theorem b_X3_swapx_49 {p : Program} (l : Launch) {e : Env} {s : State} {m : MethodId} {args : Array Value} {below : List Frame} {meth : Method} {c : Code} {G : zG}   (hst : l.stackTraces = false) (C0 : Cx G RX3 cX3_swap 3 (some .int) p s m args meth c) (hT : ∀ x ∈ c.exceptionTable.toList, False) {Q : Int32 → V3 → Prop} {X : String → V3 → Prop} : ∀ (v : V3) (H : Heap) (locs : List Loc) (ls : Array Slot), w_X3_swapx_49 Q X v → Zs G s v H locs → lv_has ls 3 [] → W p l e { frames := 7, cells := 3, slots := 18, locals := 111 } s m args below meth c H locs 2 12 (vx_MQ below (QiZ G Q) (XZ G X) args s 3 18 (zA G)) (F0 m 49 ls []) := by
  have hx := C0.1
  have hb := C0.2.1
  intro v H locs ls hw Z hl
  rw [w_X3_swapx_49] at hw
  refine lv_iconst (v := 1) hx hb dX3_swap_49 (by decide) ?_
  refine z_wide (mc := 3) (ms := 18) (by decide) (by decide) ?_
  exact vx_ret (z_iret C0 Z hw dX3_swap_50)
set_option maxRecDepth 100000 in
set_option maxHeartbeats 4000000 in
theorem k_X3_swapx (l : Launch) (hst : l.stackTraces = false) {G : zG} (hg : 116 ≤ gn G) {a1 : Int32} {a2 : Int32}  {v : V3} {Q : Int32 → V3 → Prop} {X : String → V3 → Prop} (hw : w_X3_swapx a1 a2 v X Q) : Mx l yX3_swap cX3_swap 3 (some .int) 7 111 3 18 G [.ref (gad G 0), .int a1, .int a2] v (QiZ G Q) X := by
  rw [w_X3_swapx] at hw
  refine z_xofW hg (by decide) (Nat.le_of_ble_eq_true rfl) ?_
  intro p e s m args below meth c ls C0 hT Z hl
  have hx := C0.1
  have hb := C0.2.1
  replace hl : lv_has ls 3 [(0, .ref (gad G 0)), (1, .int a1), (2, .int a2)] := hl
  generalize s.heap = H at Z ⊢
  generalize ([] : List Loc) = locs at Z ⊢
  refine lv_aload_n hx hb dX3_swap_0 rfl (lv_at hl 0 rfl) ?_
  refine lv_iload_n hx hb dX3_swap_1 rfl (lv_at hl 1 rfl) ?_
  refine z_xcallVv C0 hT Z hl.1 (As := [.int a1]) (rest := []) (k_X3_needBookingx l hst (cx_g C0) hw) (gv_X3_needBooking tm_3_5) rfl ds_X3_needBooking ⟨Nat.le_of_ble_eq_true rfl, Nat.le_of_ble_eq_true rfl⟩ (ci := 3) rfl (cx_lt C0 (by decide)) rfl rfl rfl (Nat.le_of_ble_eq_true rfl) ⟨Nat.le_of_ble_eq_true rfl, Nat.le_of_ble_eq_true rfl⟩ ⟨Nat.le_of_ble_eq_true rfl, Nat.le_of_ble_eq_true rfl⟩ dX3_swap_2 (fun v1 H locs hw Z => ?_)
  refine lv_aload_n hx hb dX3_swap_5 rfl (lv_at hl 0 rfl) ?_
  refine lv_iload_n hx hb dX3_swap_6 rfl (lv_at hl 2 rfl) ?_
  refine z_xcallVv C0 hT Z hl.1 (As := [.int a2]) (rest := []) (k_X3_needBookingx l hst (cx_g C0) hw) (gv_X3_needBooking tm_3_5) rfl ds_X3_needBooking ⟨Nat.le_of_ble_eq_true rfl, Nat.le_of_ble_eq_true rfl⟩ (ci := 3) rfl (cx_lt C0 (by decide)) rfl rfl rfl (Nat.le_of_ble_eq_true rfl) ⟨Nat.le_of_ble_eq_true rfl, Nat.le_of_ble_eq_true rfl⟩ ⟨Nat.le_of_ble_eq_true rfl, Nat.le_of_ble_eq_true rfl⟩ dX3_swap_7 (fun v2 H locs hw Z => ?_)
  refine lv_iload_n hx hb dX3_swap_10 rfl (lv_at hl 1 rfl) ?_
  refine lv_iload_n hx hb dX3_swap_11 rfl (lv_at hl 2 rfl) ?_
  refine lv_icmp_ne (tgt := 25) hx hb dX3_swap_12 (by decide) (fun c3 => ?_) (fun c3 => ?_)
  · replace hw := hw.1 c3
    refine lv_aload_n hx hb dX3_swap_25 rfl (lv_at hl 0 rfl) ?_
    refine z_get C0 Z in_X3 rfl 4 (by decide) rfl tm_1_142 (cx_lt C0 (by decide)) rfl rfl dX3_swap_26 ?_
    refine lv_iload_n hx hb dX3_swap_29 rfl (lv_at hl 1 rfl) ?_
    refine lv_iconst (v := 1) hx hb dX3_swap_30 (by decide) ?_
    refine z_callVi C0 Z hl.1 (As := [.int a1, .int 1]) (rest := []) (k_X1_isIn l (cx_g C0) (isL8 (cx_g C0)) hw) (gv_X1_isIn tm_3_11) rfl ds_X1_isIn ⟨Nat.le_of_ble_eq_true rfl, Nat.le_of_ble_eq_true rfl⟩ (ci := 1) rfl (isL_lt0 (isL8 (cx_g C0))) (ent_L (isL8 (cx_g C0))) rfl rfl (Nat.le_of_ble_eq_true rfl) ⟨Nat.le_of_ble_eq_true rfl, Nat.le_of_ble_eq_true rfl⟩ dX3_swap_31 (fun r5 v4 H locs hw Z => ?_)
    refine lv_if_eq (tgt := 49) hx hb dX3_swap_34 (by decide) (fun c6 => ?_) (fun c6 => ?_)
    · replace hw := hw.1 c6
      exact b_X3_swapx_49 l hst C0 hT _ _ _ _ hw Z (lv_sub hl [] rfl)
    · replace hw := hw.2 c6
      refine lv_aload_n hx hb dX3_swap_37 rfl (lv_at hl 0 rfl) ?_
      refine z_get C0 Z in_X3 rfl 4 (by decide) rfl tm_1_142 (cx_lt C0 (by decide)) rfl rfl dX3_swap_38 ?_
      refine lv_iload_n hx hb dX3_swap_41 rfl (lv_at hl 2 rfl) ?_
      refine lv_iconst (v := 1) hx hb dX3_swap_42 (by decide) ?_
      refine z_callVi C0 Z hl.1 (As := [.int a2, .int 1]) (rest := []) (k_X1_isIn l (cx_g C0) (isL8 (cx_g C0)) hw) (gv_X1_isIn tm_3_11) rfl ds_X1_isIn ⟨Nat.le_of_ble_eq_true rfl, Nat.le_of_ble_eq_true rfl⟩ (ci := 1) rfl (isL_lt0 (isL8 (cx_g C0))) (ent_L (isL8 (cx_g C0))) rfl rfl (Nat.le_of_ble_eq_true rfl) ⟨Nat.le_of_ble_eq_true rfl, Nat.le_of_ble_eq_true rfl⟩ dX3_swap_43 (fun r8 v7 H locs hw Z => ?_)
      refine lv_if_ne (tgt := 51) hx hb dX3_swap_46 (by decide) (fun c9 => ?_) (fun c9 => ?_)
      · replace hw := hw.1 c9
        refine lv_aload_n hx hb dX3_swap_51 rfl (lv_at hl 0 rfl) ?_
        refine z_get C0 Z in_X3 rfl 7 (by decide) rfl tm_1_145 (cx_lt C0 (by decide)) rfl rfl dX3_swap_52 ?_
        refine lv_iload_n hx hb dX3_swap_55 rfl (lv_at hl 1 rfl) ?_
        refine lv_iload_n hx hb dX3_swap_56 rfl (lv_at hl 2 rfl) ?_
        refine z_callVi C0 Z hl.1 (As := [.int a1, .int a2]) (rest := []) (k_X0_swapGain l (cx_g C0) hw) (gv_X0_swapGain tm_3_80) rfl ds_X0_swapGain ⟨Nat.le_of_ble_eq_true rfl, Nat.le_of_ble_eq_true rfl⟩ (ci := 0) rfl (cx_lt C0 (by decide)) rfl rfl rfl (Nat.le_of_ble_eq_true rfl) ⟨Nat.le_of_ble_eq_true rfl, Nat.le_of_ble_eq_true rfl⟩ dX3_swap_57 (fun r11 v10 H locs hw Z => ?_)
        refine lv_if_ne (tgt := 65) hx hb dX3_swap_60 (by decide) (fun c12 => ?_) (fun c12 => ?_)
        · replace hw := hw.1 c12
          refine lv_aload_n hx hb dX3_swap_65 rfl (lv_at hl 0 rfl) ?_
          refine z_get C0 Z in_X3 rfl 7 (by decide) rfl tm_1_145 (cx_lt C0 (by decide)) rfl rfl dX3_swap_66 ?_
          refine lv_iload_n hx hb dX3_swap_69 rfl (lv_at hl 1 rfl) ?_
          refine lv_iload_n hx hb dX3_swap_70 rfl (lv_at hl 2 rfl) ?_
          refine z_callVv C0 Z hl.1 (As := [.int a1, .int a2]) (rest := []) (k_X0_makeSwap l (cx_g C0) hw) (gv_X0_makeSwap tm_3_129) rfl ds_X0_makeSwap ⟨Nat.le_of_ble_eq_true rfl, Nat.le_of_ble_eq_true rfl⟩ (ci := 0) rfl (cx_lt C0 (by decide)) rfl rfl rfl (Nat.le_of_ble_eq_true rfl) ⟨Nat.le_of_ble_eq_true rfl, Nat.le_of_ble_eq_true rfl⟩ dX3_swap_71 (fun v13 H locs hw Z => ?_)
          refine lv_aload_n hx hb dX3_swap_74 rfl (lv_at hl 0 rfl) ?_
          refine z_get C0 Z in_X3 rfl 4 (by decide) rfl tm_1_142 (cx_lt C0 (by decide)) rfl rfl dX3_swap_75 ?_
          refine z_callVv C0 Z hl.1 (As := []) (rest := []) (k_X1_placeWaiting l (cx_g C0) (isL8 (cx_g C0)) hw) (gv_X1_placeWaiting tm_3_28) rfl ds_X1_placeWaiting ⟨Nat.le_of_ble_eq_true rfl, Nat.le_of_ble_eq_true rfl⟩ (ci := 1) rfl (isL_lt0 (isL8 (cx_g C0))) (ent_L (isL8 (cx_g C0))) rfl rfl (Nat.le_of_ble_eq_true rfl) ⟨Nat.le_of_ble_eq_true rfl, Nat.le_of_ble_eq_true rfl⟩ dX3_swap_78 (fun v14 H locs hw Z => ?_)
          refine lv_iconst (v := 0) hx hb dX3_swap_81 (by decide) ?_
          refine z_wide (mc := 3) (ms := 18) (by decide) (by decide) ?_
          exact vx_ret (z_iret C0 Z hw dX3_swap_82)
        · replace hw := hw.2 c12
          refine lv_iconst (v := 4) hx hb dX3_swap_63 (by decide) ?_
          refine z_wide (mc := 3) (ms := 18) (by decide) (by decide) ?_
          exact vx_ret (z_iret C0 Z hw dX3_swap_64)
      · replace hw := hw.2 c9
        exact b_X3_swapx_49 l hst C0 hT _ _ _ _ hw Z (lv_sub hl [] rfl)
  · replace hw := hw.2 c3
    exact z_throwS C0 hst hT Z hl.1 eIA_fit nmE_fit tm_1_231 tm_1_10 (text := "both are the same") (by decide +kernel) at_165 gd_165 dX3_swap_15 dX3_swap_18 dX3_swap_19 dX3_swap_21 dX3_swap_24 (by decide) (Nat.le_of_ble_eq_true rfl) (by decide) (by decide) hw (by decide) (by decide)
-- X3_passx: room (7, 148)
def w_X3_passx (a1 : Int32) (v : V3) (X : String → V3 → Prop) (Q : Int32 → V3 → Prop) : Prop := w_X3_needWithinx a1 1 200 v X (fun v1 => (((v1 8 6) ≤ (20000 - a1) → w_X3_tallyOf 8 a1 0 v1 (fun r4 v3 => Q r4 v3)) ∧ (¬ (v1 8 6) ≤ (20000 - a1) → X eIS v1)))
set_option maxRecDepth 100000 in
set_option maxHeartbeats 4000000 in
theorem k_X3_passx (l : Launch) (hst : l.stackTraces = false) {G : zG} (hg : 116 ≤ gn G) {a1 : Int32}  {v : V3} {Q : Int32 → V3 → Prop} {X : String → V3 → Prop} (hw : w_X3_passx a1 v X Q) : Mx l yX3_pass cX3_pass 2 (some .int) 7 148 2 12 G [.ref (gad G 0), .int a1] v (QiZ G Q) X := by
  rw [w_X3_passx] at hw
  refine z_xofW hg (by decide) (Nat.le_of_ble_eq_true rfl) ?_
  intro p e s m args below meth c ls C0 hT Z hl
  have hx := C0.1
  have hb := C0.2.1
  replace hl : lv_has ls 2 [(0, .ref (gad G 0)), (1, .int a1)] := hl
  generalize s.heap = H at Z ⊢
  generalize ([] : List Loc) = locs at Z ⊢
  refine lv_iload_n hx hb dX3_pass_0 rfl (lv_at hl 1 rfl) ?_
  refine lv_iconst (v := 1) hx hb dX3_pass_1 (by decide) ?_
  refine lv_sipush (v := 200) hx hb dX3_pass_2 (by decide) ?_
  refine z_xcallSv C0 hT Z hl.1 (As := [.int a1, .int 1, .int 200]) (rest := []) (k_X3_needWithinx l hst (cx_g C0) hw) (gv_X3_needWithin tm_1_228) ds_X3_needWithin ⟨Nat.le_of_ble_eq_true rfl, Nat.le_of_ble_eq_true rfl⟩ rfl rfl (Nat.le_of_ble_eq_true rfl) ⟨Nat.le_of_ble_eq_true rfl, Nat.le_of_ble_eq_true rfl⟩ ⟨Nat.le_of_ble_eq_true rfl, Nat.le_of_ble_eq_true rfl⟩ dX3_pass_5 (fun v1 H locs hw Z => ?_)
  refine lv_aload_n hx hb dX3_pass_8 rfl (lv_at hl 0 rfl) ?_
  refine z_get C0 Z in_X3 rfl 4 (by decide) rfl tm_1_142 (cx_lt C0 (by decide)) rfl rfl dX3_pass_9 ?_
  refine z_get C0 Z in_X1 rfl 6 (by decide) rfl tm_1_59 (isL_lt0 (isL8 (cx_g C0))) (ent_L (isL8 (cx_g C0))) rfl dX3_pass_12 ?_
  refine lv_sipush (v := 20000) hx hb dX3_pass_15 (by decide) ?_
  refine lv_iload_n hx hb dX3_pass_18 rfl (lv_at hl 1 rfl) ?_
  refine lv_isub hx hb dX3_pass_19 ?_
  refine lv_icmp_le (tgt := 33) hx hb dX3_pass_20 (by decide) (fun c2 => ?_) (fun c2 => ?_)
  · replace hw := hw.1 c2
    refine lv_aload_n hx hb dX3_pass_33 rfl (lv_at hl 0 rfl) ?_
    refine z_get C0 Z in_X3 rfl 4 (by decide) rfl tm_1_142 (cx_lt C0 (by decide)) rfl rfl dX3_pass_34 ?_
    refine lv_iload_n hx hb dX3_pass_37 rfl (lv_at hl 1 rfl) ?_
    refine lv_iconst (v := 0) hx hb dX3_pass_38 (by decide) ?_
    refine z_callSi C0 Z hl.1 (As := [.ref (gad G 8), .int a1, .int 0]) (rest := []) (k_X3_tallyOf l (cx_g C0) (isL8 (cx_g C0)) hw) (gv_X3_tallyOf tm_3_179) ds_X3_tallyOf ⟨Nat.le_of_ble_eq_true rfl, Nat.le_of_ble_eq_true rfl⟩ rfl rfl (Nat.le_of_ble_eq_true rfl) ⟨Nat.le_of_ble_eq_true rfl, Nat.le_of_ble_eq_true rfl⟩ dX3_pass_39 (fun r4 v3 H locs hw Z => ?_)
    refine z_wide (mc := 2) (ms := 12) (by decide) (by decide) ?_
    exact vx_ret (z_iret C0 Z hw dX3_pass_42)
  · replace hw := hw.2 c2
    exact z_throwS C0 hst hT Z hl.1 eIS_fit nmE_fit tm_2_58 tm_1_11 (text := "the time would be too great") (by decide +kernel) at_74 gd_74 dX3_pass_23 dX3_pass_26 dX3_pass_27 dX3_pass_29 dX3_pass_32 (by decide) (Nat.le_of_ble_eq_true rfl) (by decide) (by decide) hw (by decide) (by decide)
