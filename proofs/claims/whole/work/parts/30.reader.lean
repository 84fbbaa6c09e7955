-- X2_fail: room (0, 0)
theorem dX2_fail_0 : decode cX2_fail 0 = .ok (.aload_n 0, 1) := by decide +kernel
theorem dX2_fail_1 : decode cX2_fail 1 = .ok (.iload_n 1, 1) := by decide +kernel
theorem dX2_fail_2 : decode cX2_fail 2 = .ok (.putfield 32, 3) := by decide +kernel
theorem dX2_fail_5 : decode cX2_fail 5 = .ok (.aload_n 0, 1) := by decide +kernel
theorem dX2_fail_6 : decode cX2_fail 6 = .ok (.aload_n 0, 1) := by decide +kernel
theorem dX2_fail_7 : decode cX2_fail 7 = .ok (.getfield 136, 3) := by decide +kernel
theorem dX2_fail_10 : decode cX2_fail 10 = .ok (.putfield 35, 3) := by decide +kernel
theorem dX2_fail_13 : decode cX2_fail 13 = .ok (.iconst 0, 1) := by decide +kernel
theorem dX2_fail_14 : decode cX2_fail 14 = .ok (.ireturn, 1) := by decide +kernel
def w_X2_fail (a1 : Int32) (v : V3) (Q : Int32 → V3 → Prop) : Prop := ∀ v1 : V3, v1 = up2 v 6 7 a1 → ∀ v2 : V3, v2 = up2 v1 6 8 (v1 6 5) → Q 0 v2
set_option maxRecDepth 100000 in
set_option maxHeartbeats 4000000 in
theorem k_X2_fail (l : Launch) {G : zG} (hg : 129 ≤ gn G) {a1 : Int32}  {v : V3} {Q : Int32 → V3 → Prop} (hw : w_X2_fail a1 v Q) : Mz l yX2_fail cX2_fail 2 (some .boolean) 0 0 G [.ref (gad G 6), .int a1] v (QiZ G Q) := by
  rw [w_X2_fail] at hw
  refine z_ofW hg (by decide) (Nat.le_of_ble_eq_true rfl) ?_
  intro p e s m args below meth c ls C0 Z hl
  have hx := C0.1
  have hb := C0.2.1
  replace hl : lv_has ls 2 [(0, .ref (gad G 6)), (1, .int a1)] := hl
  generalize s.heap = H at Z ⊢
  generalize ([] : List Loc) = locs at Z ⊢
  refine lv_aload_n hx hb dX2_fail_0 rfl (lv_at hl 0 rfl) ?_
  refine lv_iload_n hx hb dX2_fail_1 rfl (lv_at hl 1 rfl) ?_
  refine z_put C0 Z in_X2 tyX2_ok nmX2 rfl 7 (by decide) rfl rfl tm_1_127 (cx_lt C0 (by decide)) rfl p_X2_7 (fun c' h => up2_off _ _ _ h) rfl rfl (Nat.le_of_ble_eq_true rfl) dX2_fail_2 (fun H locs Z => ?_)
  obtain ⟨v1, ev1⟩ : ∃ z : V3, z = up2 v 6 7 a1 := ⟨_, rfl⟩
  rw [← ev1] at Z
  replace hw := hw v1 ev1
  refine lv_aload_n hx hb dX2_fail_5 rfl (lv_at hl 0 rfl) ?_
  refine lv_aload_n hx hb dX2_fail_6 rfl (lv_at hl 0 rfl) ?_
  refine z_get C0 Z in_X2 rfl 5 (by decide) rfl tm_1_125 (cx_lt C0 (by decide)) rfl rfl dX2_fail_7 ?_
  refine z_put C0 Z in_X2 tyX2_ok nmX2 rfl 8 (by decide) rfl rfl tm_1_129 (cx_lt C0 (by decide)) rfl p_X2_8 (fun c' h => up2_off _ _ _ h) rfl rfl (Nat.le_of_ble_eq_true rfl) dX2_fail_10 (fun H locs Z => ?_)
  obtain ⟨v2, ev2⟩ : ∃ z : V3, z = up2 v1 6 8 (v1 6 5) := ⟨_, rfl⟩
  rw [← ev2] at Z
  replace hw := hw v2 ev2
  refine lv_iconst (v := 0) hx hb dX2_fail_13 (by decide) ?_
  exact z_zret C0 Z (by decide) hw dX2_fail_14
-- X2_isLetter: room (0, 0)
theorem dX2_isLetter_0 : decode cX2_isLetter 0 = .ok (.iload_n 0, 1) := by decide +kernel
theorem dX2_isLetter_1 : decode cX2_isLetter 1 = .ok (.bipush 97, 2) := by decide +kernel
theorem dX2_isLetter_3 : decode cX2_isLetter 3 = .ok (.if_icmp .lt 13, 3) := by decide +kernel
theorem dX2_isLetter_6 : decode cX2_isLetter 6 = .ok (.iload_n 0, 1) := by decide +kernel
theorem dX2_isLetter_7 : decode cX2_isLetter 7 = .ok (.bipush 122, 2) := by decide +kernel
theorem dX2_isLetter_9 : decode cX2_isLetter 9 = .ok (.if_icmp .gt 7, 3) := by decide +kernel
theorem dX2_isLetter_12 : decode cX2_isLetter 12 = .ok (.iconst 1, 1) := by decide +kernel
theorem dX2_isLetter_13 : decode cX2_isLetter 13 = .ok (.goto 4, 3) := by decide +kernel
theorem dX2_isLetter_16 : decode cX2_isLetter 16 = .ok (.iconst 0, 1) := by decide +kernel
theorem dX2_isLetter_17 : decode cX2_isLetter 17 = .ok (.ireturn, 1) := by decide +kernel
def w_X2_isLetter_17  (Q : Int32 → V3 → Prop) (s0 : Int32) (v : V3) : Prop := (s0 = 0 ∨ s0 = 1) ∧ Q s0 v
def w_X2_isLetter_16  (Q : Int32 → V3 → Prop) (v : V3) : Prop := w_X2_isLetter_17 Q 0 v
def w_X2_isLetter (a1 : Int32) (v : V3) (Q : Int32 → V3 → Prop) : Prop := ((a1 < 97 → w_X2_isLetter_16 Q v) ∧ (¬ a1 < 97 → ((122 < a1 → w_X2_isLetter_16 Q v) ∧ (¬ 122 < a1 → w_X2_isLetter_17 Q 1 v))))
set_option maxRecDepth 100000 in
set_option maxHeartbeats 4000000 in
theorem b_X2_isLetter_17 {p : Program} (l : Launch) {e : Env} {s : State} {m : MethodId} {args : Array Value} {below : List Frame} {meth : Method} {c : Code} {G : zG}   (C0 : Cx G RX2 cX2_isLetter 1 (some .boolean) p s m args meth c) {Q : Int32 → V3 → Prop} : ∀ (s0 : Int32) (v : V3) (H : Heap) (locs : List Loc) (ls : Array Slot), w_X2_isLetter_17 Q s0 v → Zs G s v H locs → lv_has ls 1 [] → W p l e { frames := 0, cells := 0, slots := 0, locals := 0 } s m args below meth c H locs 0 0 (MQ below (QiZ G Q) args s 0 0 (zA G)) (F0 m 17 ls [.int s0]) := by
  have hx := C0.1
  have hb := C0.2.1
  intro s0 v H locs ls hw Z hl
  rw [w_X2_isLetter_17] at hw
  obtain ⟨h2, hw⟩ := hw
  exact z_zret C0 Z h2 hw dX2_isLetter_17
set_option maxRecDepth 100000 in
set_option maxHeartbeats 4000000 in
theorem b_X2_isLetter_16 {p : Program} (l : Launch) {e : Env} {s : State} {m : MethodId} {args : Array Value} {below : List Frame} {meth : Method} {c : Code} {G : zG}   (C0 : Cx G RX2 cX2_isLetter 1 (some .boolean) p s m args meth c) {Q : Int32 → V3 → Prop} : ∀ (v : V3) (H : Heap) (locs : List Loc) (ls : Array Slot), w_X2_isLetter_16 Q v → Zs G s v H locs → lv_has ls 1 [] → W p l e { frames := 0, cells := 0, slots := 0, locals := 0 } s m args below meth c H locs 0 0 (MQ below (QiZ G Q) args s 0 0 (zA G)) (F0 m 16 ls []) := by
  have hx := C0.1
  have hb := C0.2.1
  intro v H locs ls hw Z hl
  rw [w_X2_isLetter_16] at hw
  refine lv_iconst (v := 0) hx hb dX2_isLetter_16 (by decide) ?_
  exact b_X2_isLetter_17 l C0 _ _ _ _ _ hw Z (lv_sub hl [] rfl)
set_option maxRecDepth 100000 in
set_option maxHeartbeats 4000000 in
theorem k_X2_isLetter (l : Launch) {G : zG} (hg : 129 ≤ gn G) {a1 : Int32}  {v : V3} {Q : Int32 → V3 → Prop} (hw : w_X2_isLetter a1 v Q) : Mz l yX2_isLetter cX2_isLetter 1 (some .boolean) 0 0 G [.int a1] v (QiZ G Q) := by
  rw [w_X2_isLetter] at hw
  refine z_ofW hg (by decide) (Nat.le_of_ble_eq_true rfl) ?_
  intro p e s m args below meth c ls C0 Z hl
  have hx := C0.1
  have hb := C0.2.1
  replace hl : lv_has ls 1 [(0, .int a1)] := hl
  generalize s.heap = H at Z ⊢
  generalize ([] : List Loc) = locs at Z ⊢
  refine lv_iload_n hx hb dX2_isLetter_0 rfl (lv_at hl 0 rfl) ?_
  refine lv_bipush (v := 97) hx hb dX2_isLetter_1 (by decide) ?_
  refine lv_icmp_lt (tgt := 16) hx hb dX2_isLetter_3 (by decide) (fun c1 => ?_) (fun c1 => ?_)
  · replace hw := hw.1 c1
    exact b_X2_isLetter_16 l C0 _ _ _ _ hw Z (lv_sub hl [] rfl)
  · replace hw := hw.2 c1
    refine lv_iload_n hx hb dX2_isLetter_6 rfl (lv_at hl 0 rfl) ?_
    refine lv_bipush (v := 122) hx hb dX2_isLetter_7 (by decide) ?_
    refine lv_icmp_gt (tgt := 16) hx hb dX2_isLetter_9 (by decide) (fun c3 => ?_) (fun c3 => ?_)
    · replace hw := hw.1 c3
      exact b_X2_isLetter_16 l C0 _ _ _ _ hw Z (lv_sub hl [] rfl)
    · replace hw := hw.2 c3
      refine lv_iconst (v := 1) hx hb dX2_isLetter_12 (by decide) ?_
      refine lv_goto (tgt := 17) hx hb dX2_isLetter_13 (by decide) ?_
      exact b_X2_isLetter_17 l C0 _ _ _ _ _ hw Z (lv_sub hl [] rfl)
-- X2_isDigit: room (0, 0)
theorem dX2_isDigit_0 : decode cX2_isDigit 0 = .ok (.iload_n 0, 1) := by decide +kernel
theorem dX2_isDigit_1 : decode cX2_isDigit 1 = .ok (.bipush 48, 2) := by decide +kernel
theorem dX2_isDigit_3 : decode cX2_isDigit 3 = .ok (.if_icmp .lt 13, 3) := by decide +kernel
theorem dX2_isDigit_6 : decode cX2_isDigit 6 = .ok (.iload_n 0, 1) := by decide +kernel
theorem dX2_isDigit_7 : decode cX2_isDigit 7 = .ok (.bipush 57, 2) := by decide +kernel
theorem dX2_isDigit_9 : decode cX2_isDigit 9 = .ok (.if_icmp .gt 7, 3) := by decide +kernel
theorem dX2_isDigit_12 : decode cX2_isDigit 12 = .ok (.iconst 1, 1) := by decide +kernel
theorem dX2_isDigit_13 : decode cX2_isDigit 13 = .ok (.goto 4, 3) := by decide +kernel
theorem dX2_isDigit_16 : decode cX2_isDigit 16 = .ok (.iconst 0, 1) := by decide +kernel
theorem dX2_isDigit_17 : decode cX2_isDigit 17 = .ok (.ireturn, 1) := by decide +kernel
def w_X2_isDigit_17  (Q : Int32 → V3 → Prop) (s0 : Int32) (v : V3) : Prop := (s0 = 0 ∨ s0 = 1) ∧ Q s0 v
def w_X2_isDigit_16  (Q : Int32 → V3 → Prop) (v : V3) : Prop := w_X2_isDigit_17 Q 0 v
def w_X2_isDigit (a1 : Int32) (v : V3) (Q : Int32 → V3 → Prop) : Prop := ((a1 < 48 → w_X2_isDigit_16 Q v) ∧ (¬ a1 < 48 → ((57 < a1 → w_X2_isDigit_16 Q v) ∧ (¬ 57 < a1 → w_X2_isDigit_17 Q 1 v))))
set_option maxRecDepth 100000 in
set_option maxHeartbeats 4000000 in
theorem b_X2_isDigit_17 {p : Program} (l : Launch) {e : Env} {s : State} {m : MethodId} {args : Array Value} {below : List Frame} {meth : Method} {c : Code} {G : zG}   (C0 : Cx G RX2 cX2_isDigit 1 (some .boolean) p s m args meth c) {Q : Int32 → V3 → Prop} : ∀ (s0 : Int32) (v : V3) (H : Heap) (locs : List Loc) (ls : Array Slot), w_X2_isDigit_17 Q s0 v → Zs G s v H locs → lv_has ls 1 [] → W p l e { frames := 0, cells := 0, slots := 0, locals := 0 } s m args below meth c H locs 0 0 (MQ below (QiZ G Q) args s 0 0 (zA G)) (F0 m 17 ls [.int s0]) := by
  have hx := C0.1
  have hb := C0.2.1
  intro s0 v H locs ls hw Z hl
  rw [w_X2_isDigit_17] at hw
  obtain ⟨h2, hw⟩ := hw
  exact z_zret C0 Z h2 hw dX2_isDigit_17
set_option maxRecDepth 100000 in
set_option maxHeartbeats 4000000 in
theorem b_X2_isDigit_16 {p : Program} (l : Launch) {e : Env} {s : State} {m : MethodId} {args : Array Value} {below : List Frame} {meth : Method} {c : Code} {G : zG}   (C0 : Cx G RX2 cX2_isDigit 1 (some .boolean) p s m args meth c) {Q : Int32 → V3 → Prop} : ∀ (v : V3) (H : Heap) (locs : List Loc) (ls : Array Slot), w_X2_isDigit_16 Q v → Zs G s v H locs → lv_has ls 1 [] → W p l e { frames := 0, cells := 0, slots := 0, locals := 0 } s m args below meth c H locs 0 0 (MQ below (QiZ G Q) args s 0 0 (zA G)) (F0 m 16 ls []) := by
  have hx := C0.1
  have hb := C0.2.1
  intro v H locs ls hw Z hl
  rw [w_X2_isDigit_16] at hw
  refine lv_iconst (v := 0) hx hb dX2_isDigit_16 (by decide) ?_
  exact b_X2_isDigit_17 l C0 _ _ _ _ _ hw Z (lv_sub hl [] rfl)
set_option maxRecDepth 100000 in
set_option maxHeartbeats 4000000 in
theorem k_X2_isDigit (l : Launch) {G : zG} (hg : 129 ≤ gn G) {a1 : Int32}  {v : V3} {Q : Int32 → V3 → Prop} (hw : w_X2_isDigit a1 v Q) : Mz l yX2_isDigit cX2_isDigit 1 (some .boolean) 0 0 G [.int a1] v (QiZ G Q) := by
  rw [w_X2_isDigit] at hw
  refine z_ofW hg (by decide) (Nat.le_of_ble_eq_true rfl) ?_
  intro p e s m args below meth c ls C0 Z hl
  have hx := C0.1
  have hb := C0.2.1
  replace hl : lv_has ls 1 [(0, .int a1)] := hl
  generalize s.heap = H at Z ⊢
  generalize ([] : List Loc) = locs at Z ⊢
  refine lv_iload_n hx hb dX2_isDigit_0 rfl (lv_at hl 0 rfl) ?_
  refine lv_bipush (v := 48) hx hb dX2_isDigit_1 (by decide) ?_
  refine lv_icmp_lt (tgt := 16) hx hb dX2_isDigit_3 (by decide) (fun c1 => ?_) (fun c1 => ?_)
  · replace hw := hw.1 c1
    exact b_X2_isDigit_16 l C0 _ _ _ _ hw Z (lv_sub hl [] rfl)
  · replace hw := hw.2 c1
    refine lv_iload_n hx hb dX2_isDigit_6 rfl (lv_at hl 0 rfl) ?_
    refine lv_bipush (v := 57) hx hb dX2_isDigit_7 (by decide) ?_
    refine lv_icmp_gt (tgt := 16) hx hb dX2_isDigit_9 (by decide) (fun c3 => ?_) (fun c3 => ?_)
    · replace hw := hw.1 c3
      exact b_X2_isDigit_16 l C0 _ _ _ _ hw Z (lv_sub hl [] rfl)
    · replace hw := hw.2 c3
      refine lv_iconst (v := 1) hx hb dX2_isDigit_12 (by decide) ?_
      refine lv_goto (tgt := 17) hx hb dX2_isDigit_13 (by decide) ?_
      exact b_X2_isDigit_17 l C0 _ _ _ _ _ hw Z (lv_sub hl [] rfl)
-- X2_passLetters: room (1, 20)
theorem dX2_passLetters_0 : decode cX2_passLetters 0 = .ok (.aload_n 0, 1) := by decide +kernel
theorem dX2_passLetters_1 : decode cX2_passLetters 1 = .ok (.getfield 29, 3) := by decide +kernel
theorem dX2_passLetters_4 : decode cX2_passLetters 4 = .ok (.aload_n 0, 1) := by decide +kernel
theorem dX2_passLetters_5 : decode cX2_passLetters 5 = .ok (.getfield 25, 3) := by decide +kernel
theorem dX2_passLetters_8 : decode cX2_passLetters 8 = .ok (.if_icmp .ge 31, 3) := by decide +kernel
theorem dX2_passLetters_11 : decode cX2_passLetters 11 = .ok (.aload_n 0, 1) := by decide +kernel
theorem dX2_passLetters_12 : decode cX2_passLetters 12 = .ok (.getfield 9, 3) := by decide +kernel
theorem dX2_passLetters_15 : decode cX2_passLetters 15 = .ok (.aload_n 0, 1) := by decide +kernel
theorem dX2_passLetters_16 : decode cX2_passLetters 16 = .ok (.getfield 29, 3) := by decide +kernel
theorem dX2_passLetters_19 : decode cX2_passLetters 19 = .ok (.baload, 1) := by decide +kernel
theorem dX2_passLetters_20 : decode cX2_passLetters 20 = .ok (.invokestatic 147, 3) := by decide +kernel
theorem dX2_passLetters_23 : decode cX2_passLetters 23 = .ok (.ifCond .eq 16, 3) := by decide +kernel
theorem dX2_passLetters_26 : decode cX2_passLetters 26 = .ok (.aload_n 0, 1) := by decide +kernel
theorem dX2_passLetters_27 : decode cX2_passLetters 27 = .ok (.dup, 1) := by decide +kernel
theorem dX2_passLetters_28 : decode cX2_passLetters 28 = .ok (.getfield 29, 3) := by decide +kernel
theorem dX2_passLetters_31 : decode cX2_passLetters 31 = .ok (.iconst 1, 1) := by decide +kernel
theorem dX2_passLetters_32 : decode cX2_passLetters 32 = .ok (.iadd, 1) := by decide +kernel
theorem dX2_passLetters_33 : decode cX2_passLetters 33 = .ok (.putfield 29, 3) := by decide +kernel
theorem dX2_passLetters_36 : decode cX2_passLetters 36 = .ok (.goto (-36), 3) := by decide +kernel
theorem dX2_passLetters_39 : decode cX2_passLetters 39 = .ok (.return_, 1) := by decide +kernel
def w_X2_passLetters_39  (Q : V3 → Prop) (v : V3) : Prop := Q v
def w_X2_passLetters_0  (Q : V3 → Prop) : Nat → V3 → Prop
  | 0, _ => False
  | n0 + 1, v => (((v 6 2) ≤ (v 6 3) → w_X2_passLetters_39 Q v) ∧ (¬ (v 6 2) ≤ (v 6 3) → vp_in (v 6 3) 800 ∧ w_X2_isLetter (v 1 (ix (v 6 3))) v (fun r4 v3 => ((r4 = 0 → w_X2_passLetters_39 Q v3) ∧ (¬ r4 = 0 → ∀ v6 : V3, v6 = up2 v3 6 3 ((v3 6 3) + 1) → (w_X2_passLetters_0 Q n0) v6)))))
def w_X2_passLetters  (v : V3) (Q : V3 → Prop) : Prop := ∃ m0 : Nat, w_X2_passLetters_0 Q m0 v
set_option maxRecDepth 100000 in
set_option maxHeartbeats 4000000 in
theorem b_X2_passLetters_39 {p : Program} (l : Launch) {e : Env} {s : State} {m : MethodId} {args : Array Value} {below : List Frame} {meth : Method} {c : Code} {G : zG}   (C0 : Cx G RX2 cX2_passLetters 1 none p s m args meth c) {Q : V3 → Prop} : ∀ (v : V3) (H : Heap) (locs : List Loc) (ls : Array Slot), w_X2_passLetters_39 Q v → Zs G s v H locs → lv_has ls 1 [] → W p l e { frames := 1, cells := 0, slots := 0, locals := 20 } s m args below meth c H locs 0 0 (MQ below (QvZ G Q) args s 0 0 (zA G)) (F0 m 39 ls []) := by
  have hx := C0.1
  have hb := C0.2.1
  intro v H locs ls hw Z hl
  rw [w_X2_passLetters_39] at hw
  exact z_vret C0 Z hw dX2_passLetters_39
set_option maxRecDepth 100000 in
set_option maxHeartbeats 4000000 in
theorem b_X2_passLetters_0 {p : Program} (l : Launch) {e : Env} {s : State} {m : MethodId} {args : Array Value} {below : List Frame} {meth : Method} {c : Code} {G : zG}   (C0 : Cx G RX2 cX2_passLetters 1 none p s m args meth c) {Q : V3 → Prop} : ∀ (n : Nat) (v : V3) (H : Heap) (locs : List Loc) (ls : Array Slot), w_X2_passLetters_0 Q n v → Zs G s v H locs → lv_has ls 1 [(0, .ref (gad G 6))] → W p l e { frames := 1, cells := 0, slots := 0, locals := 20 } s m args below meth c H locs 0 0 (MQ below (QvZ G Q) args s 0 0 (zA G)) (F0 m 0 ls []) := by
  have hx := C0.1
  have hb := C0.2.1
  intro n
  induction n with
  | zero =>
    intro v H locs ls hw Z hl
    exact hw.elim
  | succ n hK0 =>
    intro v H locs ls hw Z hl
    rw [w_X2_passLetters_0] at hw
    refine lv_aload_n hx hb dX2_passLetters_0 rfl (lv_at hl 0 rfl) ?_
    refine z_get C0 Z in_X2 rfl 3 (by decide) rfl tm_1_123 (cx_lt C0 (by decide)) rfl rfl dX2_passLetters_1 ?_
    refine lv_aload_n hx hb dX2_passLetters_4 rfl (lv_at hl 0 rfl) ?_
    refine z_get C0 Z in_X2 rfl 2 (by decide) rfl tm_1_122 (cx_lt C0 (by decide)) rfl rfl dX2_passLetters_5 ?_
    refine lv_icmp_ge (tgt := 39) hx hb dX2_passLetters_8 (by decide) (fun c1 => ?_) (fun c1 => ?_)
    · replace hw := hw.1 c1
      exact b_X2_passLetters_39 l C0 _ _ _ _ hw Z (lv_sub hl [] rfl)
    · replace hw := hw.2 c1
      refine lv_aload_n hx hb dX2_passLetters_11 rfl (lv_at hl 0 rfl) ?_
      refine z_get C0 Z in_X2 rfl 0 (by decide) rfl tm_1_120 (cx_lt C0 (by decide)) rfl rfl dX2_passLetters_12 ?_
      refine lv_aload_n hx hb dX2_passLetters_15 rfl (lv_at hl 0 rfl) ?_
      refine z_get C0 Z in_X2 rfl 3 (by decide) rfl tm_1_123 (cx_lt C0 (by decide)) rfl rfl dX2_passLetters_16 ?_
      obtain ⟨h2, hw⟩ := hw
      refine z_bald C0 Z (cx_lt C0 (by decide)) rfl h2 dX2_passLetters_19 ?_
      refine z_callSi C0 Z hl.1 (As := [.int (v 1 (ix (v 6 3)))]) (rest := []) (k_X2_isLetter l (cx_g C0) hw) (gv_X2_isLetter tm_1_208) ds_X2_isLetter ⟨Nat.le_of_ble_eq_true rfl, Nat.le_of_ble_eq_true rfl⟩ rfl rfl (Nat.le_of_ble_eq_true rfl) ⟨Nat.le_of_ble_eq_true rfl, Nat.le_of_ble_eq_true rfl⟩ dX2_passLetters_20 (fun r4 v3 H locs hw Z => ?_)
      refine lv_if_eq (tgt := 39) hx hb dX2_passLetters_23 (by decide) (fun c5 => ?_) (fun c5 => ?_)
      · replace hw := hw.1 c5
        exact b_X2_passLetters_39 l C0 _ _ _ _ hw Z (lv_sub hl [] rfl)
      · replace hw := hw.2 c5
        refine lv_aload_n hx hb dX2_passLetters_26 rfl (lv_at hl 0 rfl) ?_
        refine lv_dup hx hb dX2_passLetters_27 rfl ?_
        refine z_get C0 Z in_X2 rfl 3 (by decide) rfl tm_1_123 (cx_lt C0 (by decide)) rfl rfl dX2_passLetters_28 ?_
        refine lv_iconst (v := 1) hx hb dX2_passLetters_31 (by decide) ?_
        refine lv_iadd hx hb dX2_passLetters_32 ?_
        refine z_put C0 Z in_X2 tyX2_ok nmX2 rfl 3 (by decide) rfl rfl tm_1_123 (cx_lt C0 (by decide)) rfl p_X2_3 (fun c' h => up2_off _ _ _ h) rfl rfl (Nat.le_of_ble_eq_true rfl) dX2_passLetters_33 (fun H locs Z => ?_)
        obtain ⟨v6, ev6⟩ : ∃ z : V3, z = up2 v3 6 3 ((v3 6 3) + 1) := ⟨_, rfl⟩
        rw [← ev6] at Z
        replace hw := hw v6 ev6
        refine lv_goto (tgt := 0) hx hb dX2_passLetters_36 (by decide) ?_
        exact hK0 _ _ _ _ hw Z (lv_sub hl [0] rfl)
set_option maxRecDepth 100000 in
set_option maxHeartbeats 4000000 in
theorem k_X2_passLetters (l : Launch) {G : zG} (hg : 129 ≤ gn G)  {v : V3} {Q : V3 → Prop} (hw : w_X2_passLetters v Q) : Mz l yX2_passLetters cX2_passLetters 1 none 1 20 G [.ref (gad G 6)] v (QvZ G Q) := by
  rw [w_X2_passLetters] at hw
  refine z_ofW hg (by decide) (Nat.le_of_ble_eq_true rfl) ?_
  intro p e s m args below meth c ls C0 Z hl
  have hx := C0.1
  have hb := C0.2.1
  replace hl : lv_has ls 1 [(0, .ref (gad G 6))] := hl
  generalize s.heap = H at Z ⊢
  generalize ([] : List Loc) = locs at Z ⊢
  obtain ⟨m0, hw⟩ := hw
  exact b_X2_passLetters_0 l C0 m0 _ _ _ _ hw Z (lv_sub hl [0] rfl)
-- X2_passDigits: room (1, 24)
theorem dX2_passDigits_0 : decode cX2_passDigits 0 = .ok (.aload_n 0, 1) := by decide +kernel
theorem dX2_passDigits_1 : decode cX2_passDigits 1 = .ok (.getfield 29, 3) := by decide +kernel
theorem dX2_passDigits_4 : decode cX2_passDigits 4 = .ok (.aload_n 0, 1) := by decide +kernel
theorem dX2_passDigits_5 : decode cX2_passDigits 5 = .ok (.getfield 25, 3) := by decide +kernel
theorem dX2_passDigits_8 : decode cX2_passDigits 8 = .ok (.if_icmp .ge 60, 3) := by decide +kernel
theorem dX2_passDigits_11 : decode cX2_passDigits 11 = .ok (.aload_n 0, 1) := by decide +kernel
theorem dX2_passDigits_12 : decode cX2_passDigits 12 = .ok (.getfield 9, 3) := by decide +kernel
theorem dX2_passDigits_15 : decode cX2_passDigits 15 = .ok (.aload_n 0, 1) := by decide +kernel
theorem dX2_passDigits_16 : decode cX2_passDigits 16 = .ok (.getfield 29, 3) := by decide +kernel
theorem dX2_passDigits_19 : decode cX2_passDigits 19 = .ok (.baload, 1) := by decide +kernel
theorem dX2_passDigits_20 : decode cX2_passDigits 20 = .ok (.invokestatic 154, 3) := by decide +kernel
theorem dX2_passDigits_23 : decode cX2_passDigits 23 = .ok (.ifCond .eq 45, 3) := by decide +kernel
theorem dX2_passDigits_26 : decode cX2_passDigits 26 = .ok (.aload_n 0, 1) := by decide +kernel
theorem dX2_passDigits_27 : decode cX2_passDigits 27 = .ok (.aload_n 0, 1) := by decide +kernel
theorem dX2_passDigits_28 : decode cX2_passDigits 28 = .ok (.getfield 133, 3) := by decide +kernel
theorem dX2_passDigits_31 : decode cX2_passDigits 31 = .ok (.bipush 10, 2) := by decide +kernel
theorem dX2_passDigits_33 : decode cX2_passDigits 33 = .ok (.imul, 1) := by decide +kernel
theorem dX2_passDigits_34 : decode cX2_passDigits 34 = .ok (.aload_n 0, 1) := by decide +kernel
theorem dX2_passDigits_35 : decode cX2_passDigits 35 = .ok (.getfield 9, 3) := by decide +kernel
theorem dX2_passDigits_38 : decode cX2_passDigits 38 = .ok (.aload_n 0, 1) := by decide +kernel
theorem dX2_passDigits_39 : decode cX2_passDigits 39 = .ok (.getfield 29, 3) := by decide +kernel
theorem dX2_passDigits_42 : decode cX2_passDigits 42 = .ok (.baload, 1) := by decide +kernel
theorem dX2_passDigits_43 : decode cX2_passDigits 43 = .ok (.iadd, 1) := by decide +kernel
theorem dX2_passDigits_44 : decode cX2_passDigits 44 = .ok (.bipush 48, 2) := by decide +kernel
theorem dX2_passDigits_46 : decode cX2_passDigits 46 = .ok (.isub, 1) := by decide +kernel
theorem dX2_passDigits_47 : decode cX2_passDigits 47 = .ok (.ldc 132, 2) := by decide +kernel
theorem dX2_passDigits_49 : decode cX2_passDigits 49 = .ok (.invokestatic 19, 3) := by decide +kernel
theorem dX2_passDigits_52 : decode cX2_passDigits 52 = .ok (.putfield 133, 3) := by decide +kernel
theorem dX2_passDigits_55 : decode cX2_passDigits 55 = .ok (.aload_n 0, 1) := by decide +kernel
theorem dX2_passDigits_56 : decode cX2_passDigits 56 = .ok (.dup, 1) := by decide +kernel
theorem dX2_passDigits_57 : decode cX2_passDigits 57 = .ok (.getfield 29, 3) := by decide +kernel
theorem dX2_passDigits_60 : decode cX2_passDigits 60 = .ok (.iconst 1, 1) := by decide +kernel
theorem dX2_passDigits_61 : decode cX2_passDigits 61 = .ok (.iadd, 1) := by decide +kernel
theorem dX2_passDigits_62 : decode cX2_passDigits 62 = .ok (.putfield 29, 3) := by decide +kernel
theorem dX2_passDigits_65 : decode cX2_passDigits 65 = .ok (.goto (-65), 3) := by decide +kernel
theorem dX2_passDigits_68 : decode cX2_passDigits 68 = .ok (.return_, 1) := by decide +kernel
def w_X2_passDigits_68  (Q : V3 → Prop) (v : V3) : Prop := Q v
def w_X2_passDigits_0  (Q : V3 → Prop) : Nat → V3 → Prop
  | 0, _ => False
  | n0 + 1, v => (((v 6 2) ≤ (v 6 3) → w_X2_passDigits_68 Q v) ∧ (¬ (v 6 2) ≤ (v 6 3) → vp_in (v 6 3) 800 ∧ w_X2_isDigit (v 1 (ix (v 6 3))) v (fun r4 v3 => ((r4 = 0 → w_X2_passDigits_68 Q v3) ∧ (¬ r4 = 0 → vp_in (v3 6 3) 800 ∧ ∀ v7 : V3, v7 = up2 v3 6 6 (zmin ((((v3 6 6) * 10) + (v3 1 (ix (v3 6 3)))) - 48) 1000000) → ∀ v8 : V3, v8 = up2 v7 6 3 ((v7 6 3) + 1) → (w_X2_passDigits_0 Q n0) v8)))))
def w_X2_passDigits  (v : V3) (Q : V3 → Prop) : Prop := ∃ m0 : Nat, w_X2_passDigits_0 Q m0 v
set_option maxRecDepth 100000 in
set_option maxHeartbeats 4000000 in
theorem b_X2_passDigits_68 {p : Program} (l : Launch) {e : Env} {s : State} {m : MethodId} {args : Array Value} {below : List Frame} {meth : Method} {c : Code} {G : zG}   (C0 : Cx G RX2 cX2_passDigits 1 none p s m args meth c) {Q : V3 → Prop} : ∀ (v : V3) (H : Heap) (locs : List Loc) (ls : Array Slot), w_X2_passDigits_68 Q v → Zs G s v H locs → lv_has ls 1 [] → W p l e { frames := 1, cells := 0, slots := 0, locals := 24 } s m args below meth c H locs 0 0 (MQ below (QvZ G Q) args s 0 0 (zA G)) (F0 m 68 ls []) := by
  have hx := C0.1
  have hb := C0.2.1
  intro v H locs ls hw Z hl
  rw [w_X2_passDigits_68] at hw
  exact z_vret C0 Z hw dX2_passDigits_68
set_option maxRecDepth 100000 in
set_option maxHeartbeats 4000000 in
theorem b_X2_passDigits_0 {p : Program} (l : Launch) {e : Env} {s : State} {m : MethodId} {args : Array Value} {below : List Frame} {meth : Method} {c : Code} {G : zG}   (C0 : Cx G RX2 cX2_passDigits 1 none p s m args meth c) {Q : V3 → Prop} : ∀ (n : Nat) (v : V3) (H : Heap) (locs : List Loc) (ls : Array Slot), w_X2_passDigits_0 Q n v → Zs G s v H locs → lv_has ls 1 [(0, .ref (gad G 6))] → W p l e { frames := 1, cells := 0, slots := 0, locals := 24 } s m args below meth c H locs 0 0 (MQ below (QvZ G Q) args s 0 0 (zA G)) (F0 m 0 ls []) := by
  have hx := C0.1
  have hb := C0.2.1
  intro n
  induction n with
  | zero =>
    intro v H locs ls hw Z hl
    exact hw.elim
  | succ n hK0 =>
    intro v H locs ls hw Z hl
    rw [w_X2_passDigits_0] at hw
    refine lv_aload_n hx hb dX2_passDigits_0 rfl (lv_at hl 0 rfl) ?_
    refine z_get C0 Z in_X2 rfl 3 (by decide) rfl tm_1_123 (cx_lt C0 (by decide)) rfl rfl dX2_passDigits_1 ?_
    refine lv_aload_n hx hb dX2_passDigits_4 rfl (lv_at hl 0 rfl) ?_
    refine z_get C0 Z in_X2 rfl 2 (by decide) rfl tm_1_122 (cx_lt C0 (by decide)) rfl rfl dX2_passDigits_5 ?_
    refine lv_icmp_ge (tgt := 68) hx hb dX2_passDigits_8 (by decide) (fun c1 => ?_) (fun c1 => ?_)
    · replace hw := hw.1 c1
      exact b_X2_passDigits_68 l C0 _ _ _ _ hw Z (lv_sub hl [] rfl)
    · replace hw := hw.2 c1
      refine lv_aload_n hx hb dX2_passDigits_11 rfl (lv_at hl 0 rfl) ?_
      refine z_get C0 Z in_X2 rfl 0 (by decide) rfl tm_1_120 (cx_lt C0 (by decide)) rfl rfl dX2_passDigits_12 ?_
      refine lv_aload_n hx hb dX2_passDigits_15 rfl (lv_at hl 0 rfl) ?_
      refine z_get C0 Z in_X2 rfl 3 (by decide) rfl tm_1_123 (cx_lt C0 (by decide)) rfl rfl dX2_passDigits_16 ?_
      obtain ⟨h2, hw⟩ := hw
      refine z_bald C0 Z (cx_lt C0 (by decide)) rfl h2 dX2_passDigits_19 ?_
      refine z_callSi C0 Z hl.1 (As := [.int (v 1 (ix (v 6 3)))]) (rest := []) (k_X2_isDigit l (cx_g C0) hw) (gv_X2_isDigit tm_1_215) ds_X2_isDigit ⟨Nat.le_of_ble_eq_true rfl, Nat.le_of_ble_eq_true rfl⟩ rfl rfl (Nat.le_of_ble_eq_true rfl) ⟨Nat.le_of_ble_eq_true rfl, Nat.le_of_ble_eq_true rfl⟩ dX2_passDigits_20 (fun r4 v3 H locs hw Z => ?_)
      refine lv_if_eq (tgt := 68) hx hb dX2_passDigits_23 (by decide) (fun c5 => ?_) (fun c5 => ?_)
      · replace hw := hw.1 c5
        exact b_X2_passDigits_68 l C0 _ _ _ _ hw Z (lv_sub hl [] rfl)
      · replace hw := hw.2 c5
        refine lv_aload_n hx hb dX2_passDigits_26 rfl (lv_at hl 0 rfl) ?_
        refine lv_aload_n hx hb dX2_passDigits_27 rfl (lv_at hl 0 rfl) ?_
        refine z_get C0 Z in_X2 rfl 6 (by decide) rfl tm_1_126 (cx_lt C0 (by decide)) rfl rfl dX2_passDigits_28 ?_
        refine lv_bipush (v := 10) hx hb dX2_passDigits_31 (by decide) ?_
        refine lv_imul hx hb dX2_passDigits_33 ?_
        refine lv_aload_n hx hb dX2_passDigits_34 rfl (lv_at hl 0 rfl) ?_
        refine z_get C0 Z in_X2 rfl 0 (by decide) rfl tm_1_120 (cx_lt C0 (by decide)) rfl rfl dX2_passDigits_35 ?_
        refine lv_aload_n hx hb dX2_passDigits_38 rfl (lv_at hl 0 rfl) ?_
        refine z_get C0 Z in_X2 rfl 3 (by decide) rfl tm_1_123 (cx_lt C0 (by decide)) rfl rfl dX2_passDigits_39 ?_
        obtain ⟨h6, hw⟩ := hw
        refine z_bald C0 Z (cx_lt C0 (by decide)) rfl h6 dX2_passDigits_42 ?_
        refine lv_iadd hx hb dX2_passDigits_43 ?_
        refine lv_bipush (v := 48) hx hb dX2_passDigits_44 (by decide) ?_
        refine lv_isub hx hb dX2_passDigits_46 ?_
        refine lv_ldc hx hb (cx_own C0) (cx_w C0 tm_1_222) dX2_passDigits_47 ?_
        refine z_min C0 hl.1 tm_1_201 (Nat.le_of_ble_eq_true rfl) (Nat.le_of_ble_eq_true rfl) (Nat.le_of_ble_eq_true rfl) (Nat.le_of_ble_eq_true rfl) dX2_passDigits_49 ?_
        refine z_put C0 Z in_X2 tyX2_ok nmX2 rfl 6 (by decide) rfl rfl tm_1_126 (cx_lt C0 (by decide)) rfl p_X2_6 (fun c' h => up2_off _ _ _ h) rfl rfl (Nat.le_of_ble_eq_true rfl) dX2_passDigits_52 (fun H locs Z => ?_)
        obtain ⟨v7, ev7⟩ : ∃ z : V3, z = up2 v3 6 6 (zmin ((((v3 6 6) * 10) + (v3 1 (ix (v3 6 3)))) - 48) 1000000) := ⟨_, rfl⟩
        rw [← ev7] at Z
        replace hw := hw v7 ev7
        refine lv_aload_n hx hb dX2_passDigits_55 rfl (lv_at hl 0 rfl) ?_
        refine lv_dup hx hb dX2_passDigits_56 rfl ?_
        refine z_get C0 Z in_X2 rfl 3 (by decide) rfl tm_1_123 (cx_lt C0 (by decide)) rfl rfl dX2_passDigits_57 ?_
        refine lv_iconst (v := 1) hx hb dX2_passDigits_60 (by decide) ?_
        refine lv_iadd hx hb dX2_passDigits_61 ?_
        refine z_put C0 Z in_X2 tyX2_ok nmX2 rfl 3 (by decide) rfl rfl tm_1_123 (cx_lt C0 (by decide)) rfl p_X2_3 (fun c' h => up2_off _ _ _ h) rfl rfl (Nat.le_of_ble_eq_true rfl) dX2_passDigits_62 (fun H locs Z => ?_)
        obtain ⟨v8, ev8⟩ : ∃ z : V3, z = up2 v7 6 3 ((v7 6 3) + 1) := ⟨_, rfl⟩
        rw [← ev8] at Z
        replace hw := hw v8 ev8
        refine lv_goto (tgt := 0) hx hb dX2_passDigits_65 (by decide) ?_
        exact hK0 _ _ _ _ hw Z (lv_sub hl [0] rfl)
set_option maxRecDepth 100000 in
set_option maxHeartbeats 4000000 in
theorem k_X2_passDigits (l : Launch) {G : zG} (hg : 129 ≤ gn G)  {v : V3} {Q : V3 → Prop} (hw : w_X2_passDigits v Q) : Mz l yX2_passDigits cX2_passDigits 1 none 1 24 G [.ref (gad G 6)] v (QvZ G Q) := by
  rw [w_X2_passDigits] at hw
  refine z_ofW hg (by decide) (Nat.le_of_ble_eq_true rfl) ?_
  intro p e s m args below meth c ls C0 Z hl
  have hx := C0.1
  have hb := C0.2.1
  replace hl : lv_has ls 1 [(0, .ref (gad G 6))] := hl
  generalize s.heap = H at Z ⊢
  generalize ([] : List Loc) = locs at Z ⊢
  obtain ⟨m0, hw⟩ := hw
  exact b_X2_passDigits_0 l C0 m0 _ _ _ _ hw Z (lv_sub hl [0] rfl)
-- X2_advance: room (2, 44)
theorem dX2_advance_0 : decode cX2_advance 0 = .ok (.aload_n 0, 1) := by decide +kernel
theorem dX2_advance_1 : decode cX2_advance 1 = .ok (.getfield 29, 3) := by decide +kernel
theorem dX2_advance_4 : decode cX2_advance 4 = .ok (.aload_n 0, 1) := by decide +kernel
theorem dX2_advance_5 : decode cX2_advance 5 = .ok (.getfield 25, 3) := by decide +kernel
theorem dX2_advance_8 : decode cX2_advance 8 = .ok (.if_icmp .ge 44, 3) := by decide +kernel
theorem dX2_advance_11 : decode cX2_advance 11 = .ok (.aload_n 0, 1) := by decide +kernel
theorem dX2_advance_12 : decode cX2_advance 12 = .ok (.getfield 9, 3) := by decide +kernel
theorem dX2_advance_15 : decode cX2_advance 15 = .ok (.aload_n 0, 1) := by decide +kernel
theorem dX2_advance_16 : decode cX2_advance 16 = .ok (.getfield 29, 3) := by decide +kernel
theorem dX2_advance_19 : decode cX2_advance 19 = .ok (.baload, 1) := by decide +kernel
theorem dX2_advance_20 : decode cX2_advance 20 = .ok (.bipush 32, 2) := by decide +kernel
theorem dX2_advance_22 : decode cX2_advance 22 = .ok (.if_icmp .eq 17, 3) := by decide +kernel
theorem dX2_advance_25 : decode cX2_advance 25 = .ok (.aload_n 0, 1) := by decide +kernel
theorem dX2_advance_26 : decode cX2_advance 26 = .ok (.getfield 9, 3) := by decide +kernel
theorem dX2_advance_29 : decode cX2_advance 29 = .ok (.aload_n 0, 1) := by decide +kernel
theorem dX2_advance_30 : decode cX2_advance 30 = .ok (.getfield 29, 3) := by decide +kernel
theorem dX2_advance_33 : decode cX2_advance 33 = .ok (.baload, 1) := by decide +kernel
theorem dX2_advance_34 : decode cX2_advance 34 = .ok (.bipush 10, 2) := by decide +kernel
theorem dX2_advance_36 : decode cX2_advance 36 = .ok (.if_icmp .ne 16, 3) := by decide +kernel
theorem dX2_advance_39 : decode cX2_advance 39 = .ok (.aload_n 0, 1) := by decide +kernel
theorem dX2_advance_40 : decode cX2_advance 40 = .ok (.dup, 1) := by decide +kernel
theorem dX2_advance_41 : decode cX2_advance 41 = .ok (.getfield 29, 3) := by decide +kernel
theorem dX2_advance_44 : decode cX2_advance 44 = .ok (.iconst 1, 1) := by decide +kernel
theorem dX2_advance_45 : decode cX2_advance 45 = .ok (.iadd, 1) := by decide +kernel
theorem dX2_advance_46 : decode cX2_advance 46 = .ok (.putfield 29, 3) := by decide +kernel
theorem dX2_advance_49 : decode cX2_advance 49 = .ok (.goto (-49), 3) := by decide +kernel
theorem dX2_advance_52 : decode cX2_advance 52 = .ok (.aload_n 0, 1) := by decide +kernel
theorem dX2_advance_53 : decode cX2_advance 53 = .ok (.aload_n 0, 1) := by decide +kernel
theorem dX2_advance_54 : decode cX2_advance 54 = .ok (.getfield 29, 3) := by decide +kernel
theorem dX2_advance_57 : decode cX2_advance 57 = .ok (.putfield 136, 3) := by decide +kernel
theorem dX2_advance_60 : decode cX2_advance 60 = .ok (.aload_n 0, 1) := by decide +kernel
theorem dX2_advance_61 : decode cX2_advance 61 = .ok (.iconst 0, 1) := by decide +kernel
theorem dX2_advance_62 : decode cX2_advance 62 = .ok (.putfield 133, 3) := by decide +kernel
theorem dX2_advance_65 : decode cX2_advance 65 = .ok (.aload_n 0, 1) := by decide +kernel
theorem dX2_advance_66 : decode cX2_advance 66 = .ok (.getfield 29, 3) := by decide +kernel
theorem dX2_advance_69 : decode cX2_advance 69 = .ok (.aload_n 0, 1) := by decide +kernel
theorem dX2_advance_70 : decode cX2_advance 70 = .ok (.getfield 25, 3) := by decide +kernel
theorem dX2_advance_73 : decode cX2_advance 73 = .ok (.if_icmp .lt 11, 3) := by decide +kernel
theorem dX2_advance_76 : decode cX2_advance 76 = .ok (.aload_n 0, 1) := by decide +kernel
theorem dX2_advance_77 : decode cX2_advance 77 = .ok (.iconst 0, 1) := by decide +kernel
theorem dX2_advance_78 : decode cX2_advance 78 = .ok (.putfield 48, 3) := by decide +kernel
theorem dX2_advance_81 : decode cX2_advance 81 = .ok (.goto 90, 3) := by decide +kernel
theorem dX2_advance_84 : decode cX2_advance 84 = .ok (.aload_n 0, 1) := by decide +kernel
theorem dX2_advance_85 : decode cX2_advance 85 = .ok (.getfield 9, 3) := by decide +kernel
theorem dX2_advance_88 : decode cX2_advance 88 = .ok (.aload_n 0, 1) := by decide +kernel
theorem dX2_advance_89 : decode cX2_advance 89 = .ok (.getfield 29, 3) := by decide +kernel
theorem dX2_advance_92 : decode cX2_advance 92 = .ok (.baload, 1) := by decide +kernel
theorem dX2_advance_93 : decode cX2_advance 93 = .ok (.invokestatic 147, 3) := by decide +kernel
theorem dX2_advance_96 : decode cX2_advance 96 = .ok (.ifCond .eq 15, 3) := by decide +kernel
theorem dX2_advance_99 : decode cX2_advance 99 = .ok (.aload_n 0, 1) := by decide +kernel
theorem dX2_advance_100 : decode cX2_advance 100 = .ok (.iconst 1, 1) := by decide +kernel
theorem dX2_advance_101 : decode cX2_advance 101 = .ok (.putfield 48, 3) := by decide +kernel
theorem dX2_advance_104 : decode cX2_advance 104 = .ok (.aload_n 0, 1) := by decide +kernel
theorem dX2_advance_105 : decode cX2_advance 105 = .ok (.invokevirtual 151, 3) := by decide +kernel
theorem dX2_advance_108 : decode cX2_advance 108 = .ok (.goto 63, 3) := by decide +kernel
theorem dX2_advance_111 : decode cX2_advance 111 = .ok (.aload_n 0, 1) := by decide +kernel
theorem dX2_advance_112 : decode cX2_advance 112 = .ok (.getfield 9, 3) := by decide +kernel
theorem dX2_advance_115 : decode cX2_advance 115 = .ok (.aload_n 0, 1) := by decide +kernel
theorem dX2_advance_116 : decode cX2_advance 116 = .ok (.getfield 29, 3) := by decide +kernel
theorem dX2_advance_119 : decode cX2_advance 119 = .ok (.baload, 1) := by decide +kernel
theorem dX2_advance_120 : decode cX2_advance 120 = .ok (.invokestatic 154, 3) := by decide +kernel
theorem dX2_advance_123 : decode cX2_advance 123 = .ok (.ifCond .eq 15, 3) := by decide +kernel
theorem dX2_advance_126 : decode cX2_advance 126 = .ok (.aload_n 0, 1) := by decide +kernel
theorem dX2_advance_127 : decode cX2_advance 127 = .ok (.iconst 2, 1) := by decide +kernel
theorem dX2_advance_128 : decode cX2_advance 128 = .ok (.putfield 48, 3) := by decide +kernel
theorem dX2_advance_131 : decode cX2_advance 131 = .ok (.aload_n 0, 1) := by decide +kernel
theorem dX2_advance_132 : decode cX2_advance 132 = .ok (.invokevirtual 157, 3) := by decide +kernel
theorem dX2_advance_135 : decode cX2_advance 135 = .ok (.goto 36, 3) := by decide +kernel
theorem dX2_advance_138 : decode cX2_advance 138 = .ok (.aload_n 0, 1) := by decide +kernel
theorem dX2_advance_139 : decode cX2_advance 139 = .ok (.aload_n 0, 1) := by decide +kernel
theorem dX2_advance_140 : decode cX2_advance 140 = .ok (.getfield 9, 3) := by decide +kernel
theorem dX2_advance_143 : decode cX2_advance 143 = .ok (.aload_n 0, 1) := by decide +kernel
theorem dX2_advance_144 : decode cX2_advance 144 = .ok (.getfield 29, 3) := by decide +kernel
theorem dX2_advance_147 : decode cX2_advance 147 = .ok (.baload, 1) := by decide +kernel
theorem dX2_advance_148 : decode cX2_advance 148 = .ok (.bipush 59, 2) := by decide +kernel
theorem dX2_advance_150 : decode cX2_advance 150 = .ok (.if_icmp .ne 7, 3) := by decide +kernel
theorem dX2_advance_153 : decode cX2_advance 153 = .ok (.iconst 3, 1) := by decide +kernel
theorem dX2_advance_154 : decode cX2_advance 154 = .ok (.goto 4, 3) := by decide +kernel
theorem dX2_advance_157 : decode cX2_advance 157 = .ok (.iconst 4, 1) := by decide +kernel
theorem dX2_advance_158 : decode cX2_advance 158 = .ok (.putfield 48, 3) := by decide +kernel
theorem dX2_advance_161 : decode cX2_advance 161 = .ok (.aload_n 0, 1) := by decide +kernel
theorem dX2_advance_162 : decode cX2_advance 162 = .ok (.dup, 1) := by decide +kernel
theorem dX2_advance_163 : decode cX2_advance 163 = .ok (.getfield 29, 3) := by decide +kernel
theorem dX2_advance_166 : decode cX2_advance 166 = .ok (.iconst 1, 1) := by decide +kernel
theorem dX2_advance_167 : decode cX2_advance 167 = .ok (.iadd, 1) := by decide +kernel
theorem dX2_advance_168 : decode cX2_advance 168 = .ok (.putfield 29, 3) := by decide +kernel
theorem dX2_advance_171 : decode cX2_advance 171 = .ok (.return_, 1) := by decide +kernel
def w_X2_advance_171  (Q : V3 → Prop) (v : V3) : Prop := Q v
def w_X2_advance_158  (Q : V3 → Prop) (s1 : Int32) (v : V3) : Prop := ∀ v15 : V3, v15 = up2 v 6 4 s1 → ∀ v16 : V3, v16 = up2 v15 6 3 ((v15 6 3) + 1) → w_X2_advance_171 Q v16
def w_X2_advance_52  (Q : V3 → Prop) (v : V3) : Prop := ∀ v2 : V3, v2 = up2 v 6 5 (v 6 3) → ∀ v3 : V3, v3 = up2 v2 6 6 0 → (((v3 6 3) < (v3 6 2) → vp_in (v3 6 3) 800 ∧ w_X2_isLetter (v3 1 (ix (v3 6 3))) v3 (fun r7 v6 => ((r7 = 0 → vp_in (v6 6 3) 800 ∧ w_X2_isDigit (v6 1 (ix (v6 6 3))) v6 (fun r11 v10 => ((r11 = 0 → vp_in (v10 6 3) 800 ∧ ((¬ (v10 1 (ix (v10 6 3))) = 59 → w_X2_advance_158 Q 4 v10) ∧ ((v10 1 (ix (v10 6 3))) = 59 → w_X2_advance_158 Q 3 v10))) ∧ (¬ r11 = 0 → ∀ v17 : V3, v17 = up2 v10 6 4 2 → w_X2_passDigits v17 (fun v18 => w_X2_advance_171 Q v18))))) ∧ (¬ r7 = 0 → ∀ v19 : V3, v19 = up2 v6 6 4 1 → w_X2_passLetters v19 (fun v20 => w_X2_advance_171 Q v20))))) ∧ (¬ (v3 6 3) < (v3 6 2) → ∀ v21 : V3, v21 = up2 v3 6 4 0 → w_X2_advance_171 Q v21))
def w_X2_advance_39  (Q : V3 → Prop) (K0 : V3 → Prop) (v : V3) : Prop := ∀ v24 : V3, v24 = up2 v 6 3 ((v 6 3) + 1) → K0 v24
def w_X2_advance_0  (Q : V3 → Prop) : Nat → V3 → Prop
  | 0, _ => False
  | n0 + 1, v => (((v 6 2) ≤ (v 6 3) → w_X2_advance_52 Q v) ∧ (¬ (v 6 2) ≤ (v 6 3) → vp_in (v 6 3) 800 ∧ (((v 1 (ix (v 6 3))) = 32 → w_X2_advance_39 Q (w_X2_advance_0 Q n0) v) ∧ (¬ (v 1 (ix (v 6 3))) = 32 → vp_in (v 6 3) 800 ∧ ((¬ (v 1 (ix (v 6 3))) = 10 → w_X2_advance_52 Q v) ∧ ((v 1 (ix (v 6 3))) = 10 → w_X2_advance_39 Q (w_X2_advance_0 Q n0) v))))))
def w_X2_advance  (v : V3) (Q : V3 → Prop) : Prop := ∃ m0 : Nat, w_X2_advance_0 Q m0 v
set_option maxRecDepth 100000 in
set_option maxHeartbeats 4000000 in
theorem b_X2_advance_171 {p : Program} (l : Launch) {e : Env} {s : State} {m : MethodId} {args : Array Value} {below : List Frame} {meth : Method} {c : Code} {G : zG}   (C0 : Cx G RX2 cX2_advance 1 none p s m args meth c) {Q : V3 → Prop} : ∀ (v : V3) (H : Heap) (locs : List Loc) (ls : Array Slot), w_X2_advance_171 Q v → Zs G s v H locs → lv_has ls 1 [] → W p l e { frames := 2, cells := 0, slots := 0, locals := 44 } s m args below meth c H locs 0 0 (MQ below (QvZ G Q) args s 0 0 (zA G)) (F0 m 171 ls []) := by
  have hx := C0.1
  have hb := C0.2.1
  intro v H locs ls hw Z hl
  rw [w_X2_advance_171] at hw
  exact z_vret C0 Z hw dX2_advance_171
set_option maxRecDepth 100000 in
set_option maxHeartbeats 4000000 in
theorem b_X2_advance_158 {p : Program} (l : Launch) {e : Env} {s : State} {m : MethodId} {args : Array Value} {below : List Frame} {meth : Method} {c : Code} {G : zG}   (C0 : Cx G RX2 cX2_advance 1 none p s m args meth c) {Q : V3 → Prop} : ∀ (s1 : Int32) (v : V3) (H : Heap) (locs : List Loc) (ls : Array Slot), w_X2_advance_158 Q s1 v → Zs G s v H locs → lv_has ls 1 [(0, .ref (gad G 6))] → W p l e { frames := 2, cells := 0, slots := 0, locals := 44 } s m args below meth c H locs 0 0 (MQ below (QvZ G Q) args s 0 0 (zA G)) (F0 m 158 ls [.int s1, .ref (gad G 6)]) := by
  have hx := C0.1
  have hb := C0.2.1
  intro s1 v H locs ls hw Z hl
  rw [w_X2_advance_158] at hw
  refine z_put C0 Z in_X2 tyX2_ok nmX2 rfl 4 (by decide) rfl rfl tm_1_124 (cx_lt C0 (by decide)) rfl p_X2_4 (fun c' h => up2_off _ _ _ h) rfl rfl (Nat.le_of_ble_eq_true rfl) dX2_advance_158 (fun H locs Z => ?_)
  obtain ⟨v15, ev15⟩ : ∃ z : V3, z = up2 v 6 4 s1 := ⟨_, rfl⟩
  rw [← ev15] at Z
  replace hw := hw v15 ev15
  refine lv_aload_n hx hb dX2_advance_161 rfl (lv_at hl 0 rfl) ?_
  refine lv_dup hx hb dX2_advance_162 rfl ?_
  refine z_get C0 Z in_X2 rfl 3 (by decide) rfl tm_1_123 (cx_lt C0 (by decide)) rfl rfl dX2_advance_163 ?_
  refine lv_iconst (v := 1) hx hb dX2_advance_166 (by decide) ?_
  refine lv_iadd hx hb dX2_advance_167 ?_
  refine z_put C0 Z in_X2 tyX2_ok nmX2 rfl 3 (by decide) rfl rfl tm_1_123 (cx_lt C0 (by decide)) rfl p_X2_3 (fun c' h => up2_off _ _ _ h) rfl rfl (Nat.le_of_ble_eq_true rfl) dX2_advance_168 (fun H locs Z => ?_)
  obtain ⟨v16, ev16⟩ : ∃ z : V3, z = up2 v15 6 3 ((v15 6 3) + 1) := ⟨_, rfl⟩
  rw [← ev16] at Z
  replace hw := hw v16 ev16
  exact b_X2_advance_171 l C0 _ _ _ _ hw Z (lv_sub hl [] rfl)
set_option maxRecDepth 100000 in
set_option maxHeartbeats 4000000 in
theorem b_X2_advance_52 {p : Program} (l : Launch) {e : Env} {s : State} {m : MethodId} {args : Array Value} {below : List Frame} {meth : Method} {c : Code} {G : zG}   (C0 : Cx G RX2 cX2_advance 1 none p s m args meth c) {Q : V3 → Prop} : ∀ (v : V3) (H : Heap) (locs : List Loc) (ls : Array Slot), w_X2_advance_52 Q v → Zs G s v H locs → lv_has ls 1 [(0, .ref (gad G 6))] → W p l e { frames := 2, cells := 0, slots := 0, locals := 44 } s m args below meth c H locs 0 0 (MQ below (QvZ G Q) args s 0 0 (zA G)) (F0 m 52 ls []) := by
  have hx := C0.1
  have hb := C0.2.1
  intro v H locs ls hw Z hl
  rw [w_X2_advance_52] at hw
  refine lv_aload_n hx hb dX2_advance_52 rfl (lv_at hl 0 rfl) ?_
  refine lv_aload_n hx hb dX2_advance_53 rfl (lv_at hl 0 rfl) ?_
  refine z_get C0 Z in_X2 rfl 3 (by decide) rfl tm_1_123 (cx_lt C0 (by decide)) rfl rfl dX2_advance_54 ?_
  refine z_put C0 Z in_X2 tyX2_ok nmX2 rfl 5 (by decide) rfl rfl tm_1_125 (cx_lt C0 (by decide)) rfl p_X2_5 (fun c' h => up2_off _ _ _ h) rfl rfl (Nat.le_of_ble_eq_true rfl) dX2_advance_57 (fun H locs Z => ?_)
  obtain ⟨v2, ev2⟩ : ∃ z : V3, z = up2 v 6 5 (v 6 3) := ⟨_, rfl⟩
  rw [← ev2] at Z
  replace hw := hw v2 ev2
  refine lv_aload_n hx hb dX2_advance_60 rfl (lv_at hl 0 rfl) ?_
  refine lv_iconst (v := 0) hx hb dX2_advance_61 (by decide) ?_
  refine z_put C0 Z in_X2 tyX2_ok nmX2 rfl 6 (by decide) rfl rfl tm_1_126 (cx_lt C0 (by decide)) rfl p_X2_6 (fun c' h => up2_off _ _ _ h) rfl rfl (Nat.le_of_ble_eq_true rfl) dX2_advance_62 (fun H locs Z => ?_)
  obtain ⟨v3, ev3⟩ : ∃ z : V3, z = up2 v2 6 6 0 := ⟨_, rfl⟩
  rw [← ev3] at Z
  replace hw := hw v3 ev3
  refine lv_aload_n hx hb dX2_advance_65 rfl (lv_at hl 0 rfl) ?_
  refine z_get C0 Z in_X2 rfl 3 (by decide) rfl tm_1_123 (cx_lt C0 (by decide)) rfl rfl dX2_advance_66 ?_
  refine lv_aload_n hx hb dX2_advance_69 rfl (lv_at hl 0 rfl) ?_
  refine z_get C0 Z in_X2 rfl 2 (by decide) rfl tm_1_122 (cx_lt C0 (by decide)) rfl rfl dX2_advance_70 ?_
  refine lv_icmp_lt (tgt := 84) hx hb dX2_advance_73 (by decide) (fun c4 => ?_) (fun c4 => ?_)
  · replace hw := hw.1 c4
    refine lv_aload_n hx hb dX2_advance_84 rfl (lv_at hl 0 rfl) ?_
    refine z_get C0 Z in_X2 rfl 0 (by decide) rfl tm_1_120 (cx_lt C0 (by decide)) rfl rfl dX2_advance_85 ?_
    refine lv_aload_n hx hb dX2_advance_88 rfl (lv_at hl 0 rfl) ?_
    refine z_get C0 Z in_X2 rfl 3 (by decide) rfl tm_1_123 (cx_lt C0 (by decide)) rfl rfl dX2_advance_89 ?_
    obtain ⟨h5, hw⟩ := hw
    refine z_bald C0 Z (cx_lt C0 (by decide)) rfl h5 dX2_advance_92 ?_
    refine z_callSi C0 Z hl.1 (As := [.int (v3 1 (ix (v3 6 3)))]) (rest := []) (k_X2_isLetter l (cx_g C0) hw) (gv_X2_isLetter tm_1_208) ds_X2_isLetter ⟨Nat.le_of_ble_eq_true rfl, Nat.le_of_ble_eq_true rfl⟩ rfl rfl (Nat.le_of_ble_eq_true rfl) ⟨Nat.le_of_ble_eq_true rfl, Nat.le_of_ble_eq_true rfl⟩ dX2_advance_93 (fun r7 v6 H locs hw Z => ?_)
    refine lv_if_eq (tgt := 111) hx hb dX2_advance_96 (by decide) (fun c8 => ?_) (fun c8 => ?_)
    · replace hw := hw.1 c8
      refine lv_aload_n hx hb dX2_advance_111 rfl (lv_at hl 0 rfl) ?_
      refine z_get C0 Z in_X2 rfl 0 (by decide) rfl tm_1_120 (cx_lt C0 (by decide)) rfl rfl dX2_advance_112 ?_
      refine lv_aload_n hx hb dX2_advance_115 rfl (lv_at hl 0 rfl) ?_
      refine z_get C0 Z in_X2 rfl 3 (by decide) rfl tm_1_123 (cx_lt C0 (by decide)) rfl rfl dX2_advance_116 ?_
      obtain ⟨h9, hw⟩ := hw
      refine z_bald C0 Z (cx_lt C0 (by decide)) rfl h9 dX2_advance_119 ?_
      refine z_callSi C0 Z hl.1 (As := [.int (v6 1 (ix (v6 6 3)))]) (rest := []) (k_X2_isDigit l (cx_g C0) hw) (gv_X2_isDigit tm_1_215) ds_X2_isDigit ⟨Nat.le_of_ble_eq_true rfl, Nat.le_of_ble_eq_true rfl⟩ rfl rfl (Nat.le_of_ble_eq_true rfl) ⟨Nat.le_of_ble_eq_true rfl, Nat.le_of_ble_eq_true rfl⟩ dX2_advance_120 (fun r11 v10 H locs hw Z => ?_)
      refine lv_if_eq (tgt := 138) hx hb dX2_advance_123 (by decide) (fun c12 => ?_) (fun c12 => ?_)
      · replace hw := hw.1 c12
        refine lv_aload_n hx hb dX2_advance_138 rfl (lv_at hl 0 rfl) ?_
        refine lv_aload_n hx hb dX2_advance_139 rfl (lv_at hl 0 rfl) ?_
        refine z_get C0 Z in_X2 rfl 0 (by decide) rfl tm_1_120 (cx_lt C0 (by decide)) rfl rfl dX2_advance_140 ?_
        refine lv_aload_n hx hb dX2_advance_143 rfl (lv_at hl 0 rfl) ?_
        refine z_get C0 Z in_X2 rfl 3 (by decide) rfl tm_1_123 (cx_lt C0 (by decide)) rfl rfl dX2_advance_144 ?_
        obtain ⟨h13, hw⟩ := hw
        refine z_bald C0 Z (cx_lt C0 (by decide)) rfl h13 dX2_advance_147 ?_
        refine lv_bipush (v := 59) hx hb dX2_advance_148 (by decide) ?_
        refine lv_icmp_ne (tgt := 157) hx hb dX2_advance_150 (by decide) (fun c14 => ?_) (fun c14 => ?_)
        · replace hw := hw.1 c14
          refine lv_iconst (v := 4) hx hb dX2_advance_157 (by decide) ?_
          exact b_X2_advance_158 l C0 _ _ _ _ _ hw Z (lv_sub hl [0] rfl)
        · replace hw := hw.2 c14
          refine lv_iconst (v := 3) hx hb dX2_advance_153 (by decide) ?_
          refine lv_goto (tgt := 158) hx hb dX2_advance_154 (by decide) ?_
          exact b_X2_advance_158 l C0 _ _ _ _ _ hw Z (lv_sub hl [0] rfl)
      · replace hw := hw.2 c12
        refine lv_aload_n hx hb dX2_advance_126 rfl (lv_at hl 0 rfl) ?_
        refine lv_iconst (v := 2) hx hb dX2_advance_127 (by decide) ?_
        refine z_put C0 Z in_X2 tyX2_ok nmX2 rfl 4 (by decide) rfl rfl tm_1_124 (cx_lt C0 (by decide)) rfl p_X2_4 (fun c' h => up2_off _ _ _ h) rfl rfl (Nat.le_of_ble_eq_true rfl) dX2_advance_128 (fun H locs Z => ?_)
        obtain ⟨v17, ev17⟩ : ∃ z : V3, z = up2 v10 6 4 2 := ⟨_, rfl⟩
        rw [← ev17] at Z
        replace hw := hw v17 ev17
        refine lv_aload_n hx hb dX2_advance_131 rfl (lv_at hl 0 rfl) ?_
        refine z_callVv C0 Z hl.1 (As := []) (rest := []) (k_X2_passDigits l (cx_g C0) hw) (gv_X2_passDigits tm_1_218) rfl ds_X2_passDigits ⟨Nat.le_of_ble_eq_true rfl, Nat.le_of_ble_eq_true rfl⟩ (ci := 2) rfl (cx_lt C0 (by decide)) rfl rfl rfl (Nat.le_of_ble_eq_true rfl) ⟨Nat.le_of_ble_eq_true rfl, Nat.le_of_ble_eq_true rfl⟩ dX2_advance_132 (fun v18 H locs hw Z => ?_)
        refine lv_goto (tgt := 171) hx hb dX2_advance_135 (by decide) ?_
        exact b_X2_advance_171 l C0 _ _ _ _ hw Z (lv_sub hl [] rfl)
    · replace hw := hw.2 c8
      refine lv_aload_n hx hb dX2_advance_99 rfl (lv_at hl 0 rfl) ?_
      refine lv_iconst (v := 1) hx hb dX2_advance_100 (by decide) ?_
      refine z_put C0 Z in_X2 tyX2_ok nmX2 rfl 4 (by decide) rfl rfl tm_1_124 (cx_lt C0 (by decide)) rfl p_X2_4 (fun c' h => up2_off _ _ _ h) rfl rfl (Nat.le_of_ble_eq_true rfl) dX2_advance_101 (fun H locs Z => ?_)
      obtain ⟨v19, ev19⟩ : ∃ z : V3, z = up2 v6 6 4 1 := ⟨_, rfl⟩
      rw [← ev19] at Z
      replace hw := hw v19 ev19
      refine lv_aload_n hx hb dX2_advance_104 rfl (lv_at hl 0 rfl) ?_
      refine z_callVv C0 Z hl.1 (As := []) (rest := []) (k_X2_passLetters l (cx_g C0) hw) (gv_X2_passLetters tm_1_211) rfl ds_X2_passLetters ⟨Nat.le_of_ble_eq_true rfl, Nat.le_of_ble_eq_true rfl⟩ (ci := 2) rfl (cx_lt C0 (by decide)) rfl rfl rfl (Nat.le_of_ble_eq_true rfl) ⟨Nat.le_of_ble_eq_true rfl, Nat.le_of_ble_eq_true rfl⟩ dX2_advance_105 (fun v20 H locs hw Z => ?_)
      refine lv_goto (tgt := 171) hx hb dX2_advance_108 (by decide) ?_
      exact b_X2_advance_171 l C0 _ _ _ _ hw Z (lv_sub hl [] rfl)
  · replace hw := hw.2 c4
    refine lv_aload_n hx hb dX2_advance_76 rfl (lv_at hl 0 rfl) ?_
    refine lv_iconst (v := 0) hx hb dX2_advance_77 (by decide) ?_
    refine z_put C0 Z in_X2 tyX2_ok nmX2 rfl 4 (by decide) rfl rfl tm_1_124 (cx_lt C0 (by decide)) rfl p_X2_4 (fun c' h => up2_off _ _ _ h) rfl rfl (Nat.le_of_ble_eq_true rfl) dX2_advance_78 (fun H locs Z => ?_)
    obtain ⟨v21, ev21⟩ : ∃ z : V3, z = up2 v3 6 4 0 := ⟨_, rfl⟩
    rw [← ev21] at Z
    replace hw := hw v21 ev21
    refine lv_goto (tgt := 171) hx hb dX2_advance_81 (by decide) ?_
    exact b_X2_advance_171 l C0 _ _ _ _ hw Z (lv_sub hl [] rfl)
set_option maxRecDepth 100000 in
set_option maxHeartbeats 4000000 in
theorem b_X2_advance_39 {p : Program} (l : Launch) {e : Env} {s : State} {m : MethodId} {args : Array Value} {below : List Frame} {meth : Method} {c : Code} {G : zG}   (C0 : Cx G RX2 cX2_advance 1 none p s m args meth c) {Q : V3 → Prop} {K0 : V3 → Prop} (hK0 : ∀ (v : V3) (H : Heap) (locs : List Loc) (ls : Array Slot), K0 v → Zs G s v H locs → lv_has ls 1 [(0, .ref (gad G 6))] → W p l e { frames := 2, cells := 0, slots := 0, locals := 44 } s m args below meth c H locs 0 0 (MQ below (QvZ G Q) args s 0 0 (zA G)) (F0 m 0 ls [])) : ∀ (v : V3) (H : Heap) (locs : List Loc) (ls : Array Slot), w_X2_advance_39 Q K0 v → Zs G s v H locs → lv_has ls 1 [(0, .ref (gad G 6))] → W p l e { frames := 2, cells := 0, slots := 0, locals := 44 } s m args below meth c H locs 0 0 (MQ below (QvZ G Q) args s 0 0 (zA G)) (F0 m 39 ls []) := by
  have hx := C0.1
  have hb := C0.2.1
  intro v H locs ls hw Z hl
  rw [w_X2_advance_39] at hw
  refine lv_aload_n hx hb dX2_advance_39 rfl (lv_at hl 0 rfl) ?_
  refine lv_dup hx hb dX2_advance_40 rfl ?_
  refine z_get C0 Z in_X2 rfl 3 (by decide) rfl tm_1_123 (cx_lt C0 (by decide)) rfl rfl dX2_advance_41 ?_
  refine lv_iconst (v := 1) hx hb dX2_advance_44 (by decide) ?_
  refine lv_iadd hx hb dX2_advance_45 ?_
  refine z_put C0 Z in_X2 tyX2_ok nmX2 rfl 3 (by decide) rfl rfl tm_1_123 (cx_lt C0 (by decide)) rfl p_X2_3 (fun c' h => up2_off _ _ _ h) rfl rfl (Nat.le_of_ble_eq_true rfl) dX2_advance_46 (fun H locs Z => ?_)
  obtain ⟨v24, ev24⟩ : ∃ z : V3, z = up2 v 6 3 ((v 6 3) + 1) := ⟨_, rfl⟩
  rw [← ev24] at Z
  replace hw := hw v24 ev24
  refine lv_goto (tgt := 0) hx hb dX2_advance_49 (by decide) ?_
  exact hK0 _ _ _ _ hw Z (lv_sub hl [0] rfl)
set_option maxRecDepth 100000 in
set_option maxHeartbeats 4000000 in
theorem b_X2_advance_0 {p : Program} (l : Launch) {e : Env} {s : State} {m : MethodId} {args : Array Value} {below : List Frame} {meth : Method} {c : Code} {G : zG}   (C0 : Cx G RX2 cX2_advance 1 none p s m args meth c) {Q : V3 → Prop} : ∀ (n : Nat) (v : V3) (H : Heap) (locs : List Loc) (ls : Array Slot), w_X2_advance_0 Q n v → Zs G s v H locs → lv_has ls 1 [(0, .ref (gad G 6))] → W p l e { frames := 2, cells := 0, slots := 0, locals := 44 } s m args below meth c H locs 0 0 (MQ below (QvZ G Q) args s 0 0 (zA G)) (F0 m 0 ls []) := by
  have hx := C0.1
  have hb := C0.2.1
  intro n
  induction n with
  | zero =>
    intro v H locs ls hw Z hl
    exact hw.elim
  | succ n hK0 =>
    intro v H locs ls hw Z hl
    rw [w_X2_advance_0] at hw
    refine lv_aload_n hx hb dX2_advance_0 rfl (lv_at hl 0 rfl) ?_
    refine z_get C0 Z in_X2 rfl 3 (by decide) rfl tm_1_123 (cx_lt C0 (by decide)) rfl rfl dX2_advance_1 ?_
    refine lv_aload_n hx hb dX2_advance_4 rfl (lv_at hl 0 rfl) ?_
    refine z_get C0 Z in_X2 rfl 2 (by decide) rfl tm_1_122 (cx_lt C0 (by decide)) rfl rfl dX2_advance_5 ?_
    refine lv_icmp_ge (tgt := 52) hx hb dX2_advance_8 (by decide) (fun c1 => ?_) (fun c1 => ?_)
    · replace hw := hw.1 c1
      exact b_X2_advance_52 l C0 _ _ _ _ hw Z (lv_sub hl [0] rfl)
    · replace hw := hw.2 c1
      refine lv_aload_n hx hb dX2_advance_11 rfl (lv_at hl 0 rfl) ?_
      refine z_get C0 Z in_X2 rfl 0 (by decide) rfl tm_1_120 (cx_lt C0 (by decide)) rfl rfl dX2_advance_12 ?_
      refine lv_aload_n hx hb dX2_advance_15 rfl (lv_at hl 0 rfl) ?_
      refine z_get C0 Z in_X2 rfl 3 (by decide) rfl tm_1_123 (cx_lt C0 (by decide)) rfl rfl dX2_advance_16 ?_
      obtain ⟨h22, hw⟩ := hw
      refine z_bald C0 Z (cx_lt C0 (by decide)) rfl h22 dX2_advance_19 ?_
      refine lv_bipush (v := 32) hx hb dX2_advance_20 (by decide) ?_
      refine lv_icmp_eq (tgt := 39) hx hb dX2_advance_22 (by decide) (fun c23 => ?_) (fun c23 => ?_)
      · replace hw := hw.1 c23
        exact b_X2_advance_39 l C0 hK0 _ _ _ _ hw Z (lv_sub hl [0] rfl)
      · replace hw := hw.2 c23
        refine lv_aload_n hx hb dX2_advance_25 rfl (lv_at hl 0 rfl) ?_
        refine z_get C0 Z in_X2 rfl 0 (by decide) rfl tm_1_120 (cx_lt C0 (by decide)) rfl rfl dX2_advance_26 ?_
        refine lv_aload_n hx hb dX2_advance_29 rfl (lv_at hl 0 rfl) ?_
        refine z_get C0 Z in_X2 rfl 3 (by decide) rfl tm_1_123 (cx_lt C0 (by decide)) rfl rfl dX2_advance_30 ?_
        obtain ⟨h25, hw⟩ := hw
        refine z_bald C0 Z (cx_lt C0 (by decide)) rfl h25 dX2_advance_33 ?_
        refine lv_bipush (v := 10) hx hb dX2_advance_34 (by decide) ?_
        refine lv_icmp_ne (tgt := 52) hx hb dX2_advance_36 (by decide) (fun c26 => ?_) (fun c26 => ?_)
        · replace hw := hw.1 c26
          exact b_X2_advance_52 l C0 _ _ _ _ hw Z (lv_sub hl [0] rfl)
        · replace hw := hw.2 c26
          exact b_X2_advance_39 l C0 hK0 _ _ _ _ hw Z (lv_sub hl [0] rfl)
set_option maxRecDepth 100000 in
set_option maxHeartbeats 4000000 in
theorem k_X2_advance (l : Launch) {G : zG} (hg : 129 ≤ gn G)  {v : V3} {Q : V3 → Prop} (hw : w_X2_advance v Q) : Mz l yX2_advance cX2_advance 1 none 2 44 G [.ref (gad G 6)] v (QvZ G Q) := by
  rw [w_X2_advance] at hw
  refine z_ofW hg (by decide) (Nat.le_of_ble_eq_true rfl) ?_
  intro p e s m args below meth c ls C0 Z hl
  have hx := C0.1
  have hb := C0.2.1
  replace hl : lv_has ls 1 [(0, .ref (gad G 6))] := hl
  generalize s.heap = H at Z ⊢
  generalize ([] : List Loc) = locs at Z ⊢
  obtain ⟨m0, hw⟩ := hw
  exact b_X2_advance_0 l C0 m0 _ _ _ _ hw Z (lv_sub hl [0] rfl)
-- X2_isWord: room (4, 123)
theorem dX2_isWord_0 : decode cX2_isWord 0 = .ok (.aload_n 0, 1) := by decide +kernel
theorem dX2_isWord_1 : decode cX2_isWord 1 = .ok (.getfield 48, 3) := by decide +kernel
theorem dX2_isWord_4 : decode cX2_isWord 4 = .ok (.iconst 1, 1) := by decide +kernel
theorem dX2_isWord_5 : decode cX2_isWord 5 = .ok (.if_icmp .ne 19, 3) := by decide +kernel
theorem dX2_isWord_8 : decode cX2_isWord 8 = .ok (.aload_n 0, 1) := by decide +kernel
theorem dX2_isWord_9 : decode cX2_isWord 9 = .ok (.getfield 29, 3) := by decide +kernel
theorem dX2_isWord_12 : decode cX2_isWord 12 = .ok (.aload_n 0, 1) := by decide +kernel
theorem dX2_isWord_13 : decode cX2_isWord 13 = .ok (.getfield 136, 3) := by decide +kernel
theorem dX2_isWord_16 : decode cX2_isWord 16 = .ok (.isub, 1) := by decide +kernel
theorem dX2_isWord_17 : decode cX2_isWord 17 = .ok (.aload_n 1, 1) := by decide +kernel
theorem dX2_isWord_18 : decode cX2_isWord 18 = .ok (.invokevirtual 139, 3) := by decide +kernel
theorem dX2_isWord_21 : decode cX2_isWord 21 = .ok (.if_icmp .eq 5, 3) := by decide +kernel
theorem dX2_isWord_24 : decode cX2_isWord 24 = .ok (.iconst 0, 1) := by decide +kernel
theorem dX2_isWord_25 : decode cX2_isWord 25 = .ok (.ireturn, 1) := by decide +kernel
theorem dX2_isWord_26 : decode cX2_isWord 26 = .ok (.iconst 0, 1) := by decide +kernel
theorem dX2_isWord_27 : decode cX2_isWord 27 = .ok (.istore_n 2, 1) := by decide +kernel
theorem dX2_isWord_28 : decode cX2_isWord 28 = .ok (.iload_n 2, 1) := by decide +kernel
theorem dX2_isWord_29 : decode cX2_isWord 29 = .ok (.aload_n 1, 1) := by decide +kernel
theorem dX2_isWord_30 : decode cX2_isWord 30 = .ok (.invokevirtual 139, 3) := by decide +kernel
theorem dX2_isWord_33 : decode cX2_isWord 33 = .ok (.if_icmp .ge 30, 3) := by decide +kernel
theorem dX2_isWord_36 : decode cX2_isWord 36 = .ok (.aload_n 0, 1) := by decide +kernel
theorem dX2_isWord_37 : decode cX2_isWord 37 = .ok (.getfield 9, 3) := by decide +kernel
theorem dX2_isWord_40 : decode cX2_isWord 40 = .ok (.aload_n 0, 1) := by decide +kernel
theorem dX2_isWord_41 : decode cX2_isWord 41 = .ok (.getfield 136, 3) := by decide +kernel
theorem dX2_isWord_44 : decode cX2_isWord 44 = .ok (.iload_n 2, 1) := by decide +kernel
theorem dX2_isWord_45 : decode cX2_isWord 45 = .ok (.iadd, 1) := by decide +kernel
theorem dX2_isWord_46 : decode cX2_isWord 46 = .ok (.baload, 1) := by decide +kernel
theorem dX2_isWord_47 : decode cX2_isWord 47 = .ok (.aload_n 1, 1) := by decide +kernel
theorem dX2_isWord_48 : decode cX2_isWord 48 = .ok (.iload_n 2, 1) := by decide +kernel
theorem dX2_isWord_49 : decode cX2_isWord 49 = .ok (.invokevirtual 143, 3) := by decide +kernel
theorem dX2_isWord_52 : decode cX2_isWord 52 = .ok (.if_icmp .eq 5, 3) := by decide +kernel
theorem dX2_isWord_55 : decode cX2_isWord 55 = .ok (.iconst 0, 1) := by decide +kernel
theorem dX2_isWord_56 : decode cX2_isWord 56 = .ok (.ireturn, 1) := by decide +kernel
theorem dX2_isWord_57 : decode cX2_isWord 57 = .ok (.iinc 2 1, 3) := by decide +kernel
theorem dX2_isWord_60 : decode cX2_isWord 60 = .ok (.goto (-32), 3) := by decide +kernel
theorem dX2_isWord_63 : decode cX2_isWord 63 = .ok (.iconst 1, 1) := by decide +kernel
theorem dX2_isWord_64 : decode cX2_isWord 64 = .ok (.ireturn, 1) := by decide +kernel
def w_X2_isWord_24 (a1 : Nat) (Q : Int32 → V3 → Prop) (v : V3) : Prop := Q 0 v
def w_X2_isWord_28 (a1 : Nat) (Q : Int32 → V3 → Prop) : Nat → Int32 → V3 → Prop
  | 0, _, _ => False
  | n28 + 1, x2, v => w_J0_length_8abf5 a1 v (fun r6 v5 => ((r6 ≤ x2 → Q 1 v5) ∧ (¬ r6 ≤ x2 → vp_in ((v5 6 5) + x2) 800 ∧ w_J0_charAt_5068e a1 x2 v5 (fun r10 v9 => (((v5 1 (ix ((v5 6 5) + x2))) = r10 → (w_X2_isWord_28 a1 Q n28) (x2 + 1) v9) ∧ (¬ (v5 1 (ix ((v5 6 5) + x2))) = r10 → Q 0 v9))))))
def w_X2_isWord (a1 : Nat) (v : V3) (Q : Int32 → V3 → Prop) : Prop := ((¬ (v 6 4) = 1 → w_X2_isWord_24 a1 Q v) ∧ ((v 6 4) = 1 → w_J0_length_8abf5 a1 v (fun r3 v2 => ((((v 6 3) - (v 6 5)) = r3 → ∃ m28 : Nat, w_X2_isWord_28 a1 Q m28 0 v2) ∧ (¬ ((v 6 3) - (v 6 5)) = r3 → w_X2_isWord_24 a1 Q v2)))))
set_option maxRecDepth 100000 in
set_option maxHeartbeats 4000000 in
theorem b_X2_isWord_24 {p : Program} (l : Launch) {e : Env} {s : State} {m : MethodId} {args : Array Value} {below : List Frame} {meth : Method} {c : Code} {G : zG} {a1 : Nat} (hSa1 : a1 < zsn) (C0 : Cx G RX2 cX2_isWord 3 (some .boolean) p s m args meth c) {Q : Int32 → V3 → Prop} : ∀ (v : V3) (H : Heap) (locs : List Loc) (ls : Array Slot), w_X2_isWord_24 a1 Q v → Zs G s v H locs → lv_has ls 3 [] → W p l e { frames := 4, cells := 0, slots := 0, locals := 123 } s m args below meth c H locs 0 0 (MQ below (QiZ G Q) args s 0 0 (zA G)) (F0 m 24 ls []) := by
  have hx := C0.1
  have hb := C0.2.1
  intro v H locs ls hw Z hl
  rw [w_X2_isWord_24] at hw
  refine lv_iconst (v := 0) hx hb dX2_isWord_24 (by decide) ?_
  exact z_zret C0 Z (by decide) hw dX2_isWord_25
set_option maxRecDepth 100000 in
set_option maxHeartbeats 4000000 in
theorem b_X2_isWord_28 {p : Program} (l : Launch) {e : Env} {s : State} {m : MethodId} {args : Array Value} {below : List Frame} {meth : Method} {c : Code} {G : zG} {a1 : Nat} (hSa1 : a1 < zsn) (C0 : Cx G RX2 cX2_isWord 3 (some .boolean) p s m args meth c) {Q : Int32 → V3 → Prop} : ∀ (n : Nat) (x2 : Int32) (v : V3) (H : Heap) (locs : List Loc) (ls : Array Slot), w_X2_isWord_28 a1 Q n x2 v → Zs G s v H locs → lv_has ls 3 [(0, .ref (gad G 6)), (1, .ref (zst G a1)), (2, .int x2)] → W p l e { frames := 4, cells := 0, slots := 0, locals := 123 } s m args below meth c H locs 0 0 (MQ below (QiZ G Q) args s 0 0 (zA G)) (F0 m 28 ls []) := by
  have hx := C0.1
  have hb := C0.2.1
  intro n
  induction n with
  | zero =>
    intro x2 v H locs ls hw Z hl
    exact hw.elim
  | succ n hK28 =>
    intro x2 v H locs ls hw Z hl
    rw [w_X2_isWord_28] at hw
    refine lv_iload_n hx hb dX2_isWord_28 rfl (lv_at hl 2 rfl) ?_
    refine lv_aload_n hx hb dX2_isWord_29 rfl (lv_at hl 1 rfl) ?_
    refine z_callT C0 Z hl.1 (As := []) (rest := [.int x2]) (k_J0_length_8abf5 l (cx_g C0) hSa1 hw) (gv_J0_length_8abf5 tm_1_232) rfl ds_J0_length_8abf5 ⟨Nat.le_of_ble_eq_true rfl, Nat.le_of_ble_eq_true rfl⟩ hSa1 rfl rfl (Nat.le_of_ble_eq_true rfl) ⟨Nat.le_of_ble_eq_true rfl, Nat.le_of_ble_eq_true rfl⟩ dX2_isWord_30 (fun r6 v5 H locs hw Z => ?_)
    refine lv_icmp_ge (tgt := 63) hx hb dX2_isWord_33 (by decide) (fun c7 => ?_) (fun c7 => ?_)
    · replace hw := hw.1 c7
      refine lv_iconst (v := 1) hx hb dX2_isWord_63 (by decide) ?_
      exact z_zret C0 Z (by decide) hw dX2_isWord_64
    · replace hw := hw.2 c7
      refine lv_aload_n hx hb dX2_isWord_36 rfl (lv_at hl 0 rfl) ?_
      refine z_get C0 Z in_X2 rfl 0 (by decide) rfl tm_1_120 (cx_lt C0 (by decide)) rfl rfl dX2_isWord_37 ?_
      refine lv_aload_n hx hb dX2_isWord_40 rfl (lv_at hl 0 rfl) ?_
      refine z_get C0 Z in_X2 rfl 5 (by decide) rfl tm_1_125 (cx_lt C0 (by decide)) rfl rfl dX2_isWord_41 ?_
      refine lv_iload_n hx hb dX2_isWord_44 rfl (lv_at hl 2 rfl) ?_
      refine lv_iadd hx hb dX2_isWord_45 ?_
      obtain ⟨h8, hw⟩ := hw
      refine z_bald C0 Z (cx_lt C0 (by decide)) rfl h8 dX2_isWord_46 ?_
      refine lv_aload_n hx hb dX2_isWord_47 rfl (lv_at hl 1 rfl) ?_
      refine lv_iload_n hx hb dX2_isWord_48 rfl (lv_at hl 2 rfl) ?_
      refine z_callT C0 Z hl.1 (As := [.int x2]) (rest := [.int (v5 1 (ix ((v5 6 5) + x2)))]) (k_J0_charAt_5068e l (cx_g C0) hSa1 hw) (gv_J0_charAt_5068e tm_2_2) rfl ds_J0_charAt_5068e ⟨Nat.le_of_ble_eq_true rfl, Nat.le_of_ble_eq_true rfl⟩ hSa1 rfl rfl (Nat.le_of_ble_eq_true rfl) ⟨Nat.le_of_ble_eq_true rfl, Nat.le_of_ble_eq_true rfl⟩ dX2_isWord_49 (fun r10 v9 H locs hw Z => ?_)
      refine lv_icmp_eq (tgt := 57) hx hb dX2_isWord_52 (by decide) (fun c11 => ?_) (fun c11 => ?_)
      · replace hw := hw.1 c11
        refine lv_iinc (v := x2 + 1) (lv' := [(2, .int (x2 + 1)), (0, .ref (gad G 6)), (1, .ref (zst G a1))]) hx hb dX2_isWord_57 hl (k := 2) rfl rfl (by decide) rfl (fun ls hl => ?_)
        refine lv_goto (tgt := 28) hx hb dX2_isWord_60 (by decide) ?_
        exact hK28 _ _ _ _ _ hw Z (lv_sub hl [1, 2, 0] rfl)
      · replace hw := hw.2 c11
        refine lv_iconst (v := 0) hx hb dX2_isWord_55 (by decide) ?_
        exact z_zret C0 Z (by decide) hw dX2_isWord_56
set_option maxRecDepth 100000 in
set_option maxHeartbeats 4000000 in
theorem k_X2_isWord (l : Launch) {G : zG} (hg : 129 ≤ gn G) {a1 : Nat} (hSa1 : a1 < zsn) {v : V3} {Q : Int32 → V3 → Prop} (hw : w_X2_isWord a1 v Q) : Mz l yX2_isWord cX2_isWord 3 (some .boolean) 4 123 G [.ref (gad G 6), .ref (zst G a1)] v (QiZ G Q) := by
  rw [w_X2_isWord] at hw
  refine z_ofW hg (by decide) (Nat.le_of_ble_eq_true rfl) ?_
  intro p e s m args below meth c ls C0 Z hl
  have hx := C0.1
  have hb := C0.2.1
  replace hl : lv_has ls 3 [(0, .ref (gad G 6)), (1, .ref (zst G a1))] := hl
  generalize s.heap = H at Z ⊢
  generalize ([] : List Loc) = locs at Z ⊢
  refine lv_aload_n hx hb dX2_isWord_0 rfl (lv_at hl 0 rfl) ?_
  refine z_get C0 Z in_X2 rfl 4 (by decide) rfl tm_1_124 (cx_lt C0 (by decide)) rfl rfl dX2_isWord_1 ?_
  refine lv_iconst (v := 1) hx hb dX2_isWord_4 (by decide) ?_
  refine lv_icmp_ne (tgt := 24) hx hb dX2_isWord_5 (by decide) (fun c1 => ?_) (fun c1 => ?_)
  · replace hw := hw.1 c1
    exact b_X2_isWord_24 l hSa1 C0 _ _ _ _ hw Z (lv_sub hl [] rfl)
  · replace hw := hw.2 c1
    refine lv_aload_n hx hb dX2_isWord_8 rfl (lv_at hl 0 rfl) ?_
    refine z_get C0 Z in_X2 rfl 3 (by decide) rfl tm_1_123 (cx_lt C0 (by decide)) rfl rfl dX2_isWord_9 ?_
    refine lv_aload_n hx hb dX2_isWord_12 rfl (lv_at hl 0 rfl) ?_
    refine z_get C0 Z in_X2 rfl 5 (by decide) rfl tm_1_125 (cx_lt C0 (by decide)) rfl rfl dX2_isWord_13 ?_
    refine lv_isub hx hb dX2_isWord_16 ?_
    refine lv_aload_n hx hb dX2_isWord_17 rfl (lv_at hl 1 rfl) ?_
    refine z_callT C0 Z hl.1 (As := []) (rest := [.int ((v 6 3) - (v 6 5))]) (k_J0_length_8abf5 l (cx_g C0) hSa1 hw) (gv_J0_length_8abf5 tm_1_232) rfl ds_J0_length_8abf5 ⟨Nat.le_of_ble_eq_true rfl, Nat.le_of_ble_eq_true rfl⟩ hSa1 rfl rfl (Nat.le_of_ble_eq_true rfl) ⟨Nat.le_of_ble_eq_true rfl, Nat.le_of_ble_eq_true rfl⟩ dX2_isWord_18 (fun r3 v2 H locs hw Z => ?_)
    refine lv_icmp_eq (tgt := 26) hx hb dX2_isWord_21 (by decide) (fun c4 => ?_) (fun c4 => ?_)
    · replace hw := hw.1 c4
      refine lv_iconst (v := 0) hx hb dX2_isWord_26 (by decide) ?_
      refine lv_istore_n (lv' := [(2, .int 0), (0, .ref (gad G 6)), (1, .ref (zst G a1))]) hx hb dX2_isWord_27 rfl hl (by decide) rfl (fun ls hl => ?_)
      obtain ⟨m28, hw⟩ := hw
      exact b_X2_isWord_28 l hSa1 C0 m28 _ _ _ _ _ hw Z (lv_sub hl [1, 2, 0] rfl)
    · replace hw := hw.2 c4
      exact b_X2_isWord_24 l hSa1 C0 _ _ _ _ hw Z (lv_sub hl [] rfl)
-- X2_checkNumber: room (1, 21)
theorem dX2_checkNumber_0 : decode cX2_checkNumber 0 = .ok (.aload_n 0, 1) := by decide +kernel
theorem dX2_checkNumber_1 : decode cX2_checkNumber 1 = .ok (.getfield 48, 3) := by decide +kernel
theorem dX2_checkNumber_4 : decode cX2_checkNumber 4 = .ok (.iconst 2, 1) := by decide +kernel
theorem dX2_checkNumber_5 : decode cX2_checkNumber 5 = .ok (.if_icmp .eq 11, 3) := by decide +kernel
theorem dX2_checkNumber_8 : decode cX2_checkNumber 8 = .ok (.aload_n 0, 1) := by decide +kernel
theorem dX2_checkNumber_9 : decode cX2_checkNumber 9 = .ok (.iconst 1, 1) := by decide +kernel
theorem dX2_checkNumber_10 : decode cX2_checkNumber 10 = .ok (.invokevirtual 70, 3) := by decide +kernel
theorem dX2_checkNumber_13 : decode cX2_checkNumber 13 = .ok (.pop, 1) := by decide +kernel
theorem dX2_checkNumber_14 : decode cX2_checkNumber 14 = .ok (.iconst (-1), 1) := by decide +kernel
theorem dX2_checkNumber_15 : decode cX2_checkNumber 15 = .ok (.ireturn, 1) := by decide +kernel
theorem dX2_checkNumber_16 : decode cX2_checkNumber 16 = .ok (.aload_n 0, 1) := by decide +kernel
theorem dX2_checkNumber_17 : decode cX2_checkNumber 17 = .ok (.getfield 133, 3) := by decide +kernel
theorem dX2_checkNumber_20 : decode cX2_checkNumber 20 = .ok (.iload_n 1, 1) := by decide +kernel
theorem dX2_checkNumber_21 : decode cX2_checkNumber 21 = .ok (.if_icmp .lt 11, 3) := by decide +kernel
theorem dX2_checkNumber_24 : decode cX2_checkNumber 24 = .ok (.aload_n 0, 1) := by decide +kernel
theorem dX2_checkNumber_25 : decode cX2_checkNumber 25 = .ok (.getfield 133, 3) := by decide +kernel
theorem dX2_checkNumber_28 : decode cX2_checkNumber 28 = .ok (.iload_n 2, 1) := by decide +kernel
theorem dX2_checkNumber_29 : decode cX2_checkNumber 29 = .ok (.if_icmp .le 11, 3) := by decide +kernel
theorem dX2_checkNumber_32 : decode cX2_checkNumber 32 = .ok (.aload_n 0, 1) := by decide +kernel
theorem dX2_checkNumber_33 : decode cX2_checkNumber 33 = .ok (.iconst 2, 1) := by decide +kernel
theorem dX2_checkNumber_34 : decode cX2_checkNumber 34 = .ok (.invokevirtual 70, 3) := by decide +kernel
theorem dX2_checkNumber_37 : decode cX2_checkNumber 37 = .ok (.pop, 1) := by decide +kernel
theorem dX2_checkNumber_38 : decode cX2_checkNumber 38 = .ok (.iconst (-1), 1) := by decide +kernel
theorem dX2_checkNumber_39 : decode cX2_checkNumber 39 = .ok (.ireturn, 1) := by decide +kernel
theorem dX2_checkNumber_40 : decode cX2_checkNumber 40 = .ok (.aload_n 0, 1) := by decide +kernel
theorem dX2_checkNumber_41 : decode cX2_checkNumber 41 = .ok (.getfield 133, 3) := by decide +kernel
theorem dX2_checkNumber_44 : decode cX2_checkNumber 44 = .ok (.ireturn, 1) := by decide +kernel
def w_X2_checkNumber_32  (Q : Int32 → V3 → Prop) (v : V3) : Prop := w_X2_fail 2 v (fun r4 v3 => Q (-1) v3)
def w_X2_checkNumber (a1 : Int32) (a2 : Int32) (v : V3) (Q : Int32 → V3 → Prop) : Prop := (((v 6 4) = 2 → (((v 6 6) < a1 → w_X2_checkNumber_32 Q v) ∧ (¬ (v 6 6) < a1 → (((v 6 6) ≤ a2 → Q (v 6 6) v) ∧ (¬ (v 6 6) ≤ a2 → w_X2_checkNumber_32 Q v))))) ∧ (¬ (v 6 4) = 2 → w_X2_fail 1 v (fun r7 v6 => Q (-1) v6)))
set_option maxRecDepth 100000 in
set_option maxHeartbeats 4000000 in
theorem b_X2_checkNumber_32 {p : Program} (l : Launch) {e : Env} {s : State} {m : MethodId} {args : Array Value} {below : List Frame} {meth : Method} {c : Code} {G : zG}   (C0 : Cx G RX2 cX2_checkNumber 3 (some .int) p s m args meth c) {Q : Int32 → V3 → Prop} : ∀ (v : V3) (H : Heap) (locs : List Loc) (ls : Array Slot), w_X2_checkNumber_32 Q v → Zs G s v H locs → lv_has ls 3 [(0, .ref (gad G 6))] → W p l e { frames := 1, cells := 0, slots := 0, locals := 21 } s m args below meth c H locs 0 0 (MQ below (QiZ G Q) args s 0 0 (zA G)) (F0 m 32 ls []) := by
  have hx := C0.1
  have hb := C0.2.1
  intro v H locs ls hw Z hl
  rw [w_X2_checkNumber_32] at hw
  refine lv_aload_n hx hb dX2_checkNumber_32 rfl (lv_at hl 0 rfl) ?_
  refine lv_iconst (v := 2) hx hb dX2_checkNumber_33 (by decide) ?_
  refine z_callVi C0 Z hl.1 (As := [.int 2]) (rest := []) (k_X2_fail l (cx_g C0) hw) (gv_X2_fail tm_2_40) rfl ds_X2_fail ⟨Nat.le_of_ble_eq_true rfl, Nat.le_of_ble_eq_true rfl⟩ (ci := 2) rfl (cx_lt C0 (by decide)) rfl rfl rfl (Nat.le_of_ble_eq_true rfl) ⟨Nat.le_of_ble_eq_true rfl, Nat.le_of_ble_eq_true rfl⟩ dX2_checkNumber_34 (fun r4 v3 H locs hw Z => ?_)
  refine lv_pop hx hb dX2_checkNumber_37 rfl ?_
  refine lv_iconst (v := (-1)) hx hb dX2_checkNumber_38 (by decide) ?_
  exact z_iret C0 Z hw dX2_checkNumber_39
set_option maxRecDepth 100000 in
set_option maxHeartbeats 4000000 in
theorem k_X2_checkNumber (l : Launch) {G : zG} (hg : 129 ≤ gn G) {a1 : Int32} {a2 : Int32}  {v : V3} {Q : Int32 → V3 → Prop} (hw : w_X2_checkNumber a1 a2 v Q) : Mz l yX2_checkNumber cX2_checkNumber 3 (some .int) 1 21 G [.ref (gad G 6), .int a1, .int a2] v (QiZ G Q) := by
  rw [w_X2_checkNumber] at hw
  refine z_ofW hg (by decide) (Nat.le_of_ble_eq_true rfl) ?_
  intro p e s m args below meth c ls C0 Z hl
  have hx := C0.1
  have hb := C0.2.1
  replace hl : lv_has ls 3 [(0, .ref (gad G 6)), (1, .int a1), (2, .int a2)] := hl
  generalize s.heap = H at Z ⊢
  generalize ([] : List Loc) = locs at Z ⊢
  refine lv_aload_n hx hb dX2_checkNumber_0 rfl (lv_at hl 0 rfl) ?_
  refine z_get C0 Z in_X2 rfl 4 (by decide) rfl tm_1_124 (cx_lt C0 (by decide)) rfl rfl dX2_checkNumber_1 ?_
  refine lv_iconst (v := 2) hx hb dX2_checkNumber_4 (by decide) ?_
  refine lv_icmp_eq (tgt := 16) hx hb dX2_checkNumber_5 (by decide) (fun c1 => ?_) (fun c1 => ?_)
  · replace hw := hw.1 c1
    refine lv_aload_n hx hb dX2_checkNumber_16 rfl (lv_at hl 0 rfl) ?_
    refine z_get C0 Z in_X2 rfl 6 (by decide) rfl tm_1_126 (cx_lt C0 (by decide)) rfl rfl dX2_checkNumber_17 ?_
    refine lv_iload_n hx hb dX2_checkNumber_20 rfl (lv_at hl 1 rfl) ?_
    refine lv_icmp_lt (tgt := 32) hx hb dX2_checkNumber_21 (by decide) (fun c2 => ?_) (fun c2 => ?_)
    · replace hw := hw.1 c2
      exact b_X2_checkNumber_32 l C0 _ _ _ _ hw Z (lv_sub hl [0] rfl)
    · replace hw := hw.2 c2
      refine lv_aload_n hx hb dX2_checkNumber_24 rfl (lv_at hl 0 rfl) ?_
      refine z_get C0 Z in_X2 rfl 6 (by decide) rfl tm_1_126 (cx_lt C0 (by decide)) rfl rfl dX2_checkNumber_25 ?_
      refine lv_iload_n hx hb dX2_checkNumber_28 rfl (lv_at hl 2 rfl) ?_
      refine lv_icmp_le (tgt := 40) hx hb dX2_checkNumber_29 (by decide) (fun c5 => ?_) (fun c5 => ?_)
      · replace hw := hw.1 c5
        refine lv_aload_n hx hb dX2_checkNumber_40 rfl (lv_at hl 0 rfl) ?_
        refine z_get C0 Z in_X2 rfl 6 (by decide) rfl tm_1_126 (cx_lt C0 (by decide)) rfl rfl dX2_checkNumber_41 ?_
        exact z_iret C0 Z hw dX2_checkNumber_44
      · replace hw := hw.2 c5
        exact b_X2_checkNumber_32 l C0 _ _ _ _ hw Z (lv_sub hl [0] rfl)
  · replace hw := hw.2 c1
    refine lv_aload_n hx hb dX2_checkNumber_8 rfl (lv_at hl 0 rfl) ?_
    refine lv_iconst (v := 1) hx hb dX2_checkNumber_9 (by decide) ?_
    refine z_callVi C0 Z hl.1 (As := [.int 1]) (rest := []) (k_X2_fail l (cx_g C0) hw) (gv_X2_fail tm_2_40) rfl ds_X2_fail ⟨Nat.le_of_ble_eq_true rfl, Nat.le_of_ble_eq_true rfl⟩ (ci := 2) rfl (cx_lt C0 (by decide)) rfl rfl rfl (Nat.le_of_ble_eq_true rfl) ⟨Nat.le_of_ble_eq_true rfl, Nat.le_of_ble_eq_true rfl⟩ dX2_checkNumber_10 (fun r7 v6 H locs hw Z => ?_)
    refine lv_pop hx hb dX2_checkNumber_13 rfl ?_
    refine lv_iconst (v := (-1)) hx hb dX2_checkNumber_14 (by decide) ?_
    exact z_iret C0 Z hw dX2_checkNumber_15
-- X2_readNumber: room (3, 64)
theorem dX2_readNumber_0 : decode cX2_readNumber 0 = .ok (.aload_n 0, 1) := by decide +kernel
theorem dX2_readNumber_1 : decode cX2_readNumber 1 = .ok (.iload_n 1, 1) := by decide +kernel
theorem dX2_readNumber_2 : decode cX2_readNumber 2 = .ok (.iload_n 2, 1) := by decide +kernel
theorem dX2_readNumber_3 : decode cX2_readNumber 3 = .ok (.invokevirtual 126, 3) := by decide +kernel
theorem dX2_readNumber_6 : decode cX2_readNumber 6 = .ok (.istore_n 3, 1) := by decide +kernel
theorem dX2_readNumber_7 : decode cX2_readNumber 7 = .ok (.iload_n 3, 1) := by decide +kernel
theorem dX2_readNumber_8 : decode cX2_readNumber 8 = .ok (.iconst (-1), 1) := by decide +kernel
theorem dX2_readNumber_9 : decode cX2_readNumber 9 = .ok (.if_icmp .eq 7, 3) := by decide +kernel
theorem dX2_readNumber_12 : decode cX2_readNumber 12 = .ok (.aload_n 0, 1) := by decide +kernel
theorem dX2_readNumber_13 : decode cX2_readNumber 13 = .ok (.invokevirtual 38, 3) := by decide +kernel
theorem dX2_readNumber_16 : decode cX2_readNumber 16 = .ok (.iload_n 3, 1) := by decide +kernel
theorem dX2_readNumber_17 : decode cX2_readNumber 17 = .ok (.ireturn, 1) := by decide +kernel
def w_X2_readNumber_16  (Q : Int32 → V3 → Prop) (x3 : Int32) (v : V3) : Prop := Q x3 v
def w_X2_readNumber (a1 : Int32) (a2 : Int32) (v : V3) (Q : Int32 → V3 → Prop) : Prop := w_X2_checkNumber a1 a2 v (fun r2 v1 => ((r2 = (-1) → w_X2_readNumber_16 Q r2 v1) ∧ (¬ r2 = (-1) → w_X2_advance v1 (fun v4 => w_X2_readNumber_16 Q r2 v4))))
set_option maxRecDepth 100000 in
set_option maxHeartbeats 4000000 in
theorem b_X2_readNumber_16 {p : Program} (l : Launch) {e : Env} {s : State} {m : MethodId} {args : Array Value} {below : List Frame} {meth : Method} {c : Code} {G : zG}   (C0 : Cx G RX2 cX2_readNumber 4 (some .int) p s m args meth c) {Q : Int32 → V3 → Prop} : ∀ (x3 : Int32) (v : V3) (H : Heap) (locs : List Loc) (ls : Array Slot), w_X2_readNumber_16 Q x3 v → Zs G s v H locs → lv_has ls 4 [(3, .int x3)] → W p l e { frames := 3, cells := 0, slots := 0, locals := 64 } s m args below meth c H locs 0 0 (MQ below (QiZ G Q) args s 0 0 (zA G)) (F0 m 16 ls []) := by
  have hx := C0.1
  have hb := C0.2.1
  intro x3 v H locs ls hw Z hl
  rw [w_X2_readNumber_16] at hw
  refine lv_iload_n hx hb dX2_readNumber_16 rfl (lv_at hl 0 rfl) ?_
  exact z_iret C0 Z hw dX2_readNumber_17
set_option maxRecDepth 100000 in
set_option maxHeartbeats 4000000 in
theorem k_X2_readNumber (l : Launch) {G : zG} (hg : 129 ≤ gn G) {a1 : Int32} {a2 : Int32}  {v : V3} {Q : Int32 → V3 → Prop} (hw : w_X2_readNumber a1 a2 v Q) : Mz l yX2_readNumber cX2_readNumber 4 (some .int) 3 64 G [.ref (gad G 6), .int a1, .int a2] v (QiZ G Q) := by
  rw [w_X2_readNumber] at hw
  refine z_ofW hg (by decide) (Nat.le_of_ble_eq_true rfl) ?_
  intro p e s m args below meth c ls C0 Z hl
  have hx := C0.1
  have hb := C0.2.1
  replace hl : lv_has ls 4 [(0, .ref (gad G 6)), (1, .int a1), (2, .int a2)] := hl
  generalize s.heap = H at Z ⊢
  generalize ([] : List Loc) = locs at Z ⊢
  refine lv_aload_n hx hb dX2_readNumber_0 rfl (lv_at hl 0 rfl) ?_
  refine lv_iload_n hx hb dX2_readNumber_1 rfl (lv_at hl 1 rfl) ?_
  refine lv_iload_n hx hb dX2_readNumber_2 rfl (lv_at hl 2 rfl) ?_
  refine z_callVi C0 Z hl.1 (As := [.int a1, .int a2]) (rest := []) (k_X2_checkNumber l (cx_g C0) hw) (gv_X2_checkNumber tm_2_48) rfl ds_X2_checkNumber ⟨Nat.le_of_ble_eq_true rfl, Nat.le_of_ble_eq_true rfl⟩ (ci := 2) rfl (cx_lt C0 (by decide)) rfl rfl rfl (Nat.le_of_ble_eq_true rfl) ⟨Nat.le_of_ble_eq_true rfl, Nat.le_of_ble_eq_true rfl⟩ dX2_readNumber_3 (fun r2 v1 H locs hw Z => ?_)
  refine lv_istore_n (lv' := [(3, .int r2), (0, .ref (gad G 6)), (1, .int a1), (2, .int a2)]) hx hb dX2_readNumber_6 rfl hl (by decide) rfl (fun ls hl => ?_)
  refine lv_iload_n hx hb dX2_readNumber_7 rfl (lv_at hl 0 rfl) ?_
  refine lv_iconst (v := (-1)) hx hb dX2_readNumber_8 (by decide) ?_
  refine lv_icmp_eq (tgt := 16) hx hb dX2_readNumber_9 (by decide) (fun c3 => ?_) (fun c3 => ?_)
  · replace hw := hw.1 c3
    exact b_X2_readNumber_16 l C0 _ _ _ _ _ hw Z (lv_sub hl [0] rfl)
  · replace hw := hw.2 c3
    refine lv_aload_n hx hb dX2_readNumber_12 rfl (lv_at hl 1 rfl) ?_
    refine z_callVv C0 Z hl.1 (As := []) (rest := []) (k_X2_advance l (cx_g C0) hw) (gv_X2_advance tm_1_204) rfl ds_X2_advance ⟨Nat.le_of_ble_eq_true rfl, Nat.le_of_ble_eq_true rfl⟩ (ci := 2) rfl (cx_lt C0 (by decide)) rfl rfl rfl (Nat.le_of_ble_eq_true rfl) ⟨Nat.le_of_ble_eq_true rfl, Nat.le_of_ble_eq_true rfl⟩ dX2_readNumber_13 (fun v4 H locs hw Z => ?_)
    exact b_X2_readNumber_16 l C0 _ _ _ _ _ hw Z (lv_sub hl [0] rfl)
-- X2_readSemicolon: room (3, 64)
theorem dX2_readSemicolon_0 : decode cX2_readSemicolon 0 = .ok (.aload_n 0, 1) := by decide +kernel
theorem dX2_readSemicolon_1 : decode cX2_readSemicolon 1 = .ok (.getfield 48, 3) := by decide +kernel
theorem dX2_readSemicolon_4 : decode cX2_readSemicolon 4 = .ok (.iconst 3, 1) := by decide +kernel
theorem dX2_readSemicolon_5 : decode cX2_readSemicolon 5 = .ok (.if_icmp .eq 9, 3) := by decide +kernel
theorem dX2_readSemicolon_8 : decode cX2_readSemicolon 8 = .ok (.aload_n 0, 1) := by decide +kernel
theorem dX2_readSemicolon_9 : decode cX2_readSemicolon 9 = .ok (.iconst 1, 1) := by decide +kernel
theorem dX2_readSemicolon_10 : decode cX2_readSemicolon 10 = .ok (.invokevirtual 70, 3) := by decide +kernel
theorem dX2_readSemicolon_13 : decode cX2_readSemicolon 13 = .ok (.ireturn, 1) := by decide +kernel
theorem dX2_readSemicolon_14 : decode cX2_readSemicolon 14 = .ok (.aload_n 0, 1) := by decide +kernel
theorem dX2_readSemicolon_15 : decode cX2_readSemicolon 15 = .ok (.invokevirtual 38, 3) := by decide +kernel
theorem dX2_readSemicolon_18 : decode cX2_readSemicolon 18 = .ok (.iconst 1, 1) := by decide +kernel
theorem dX2_readSemicolon_19 : decode cX2_readSemicolon 19 = .ok (.ireturn, 1) := by decide +kernel
def w_X2_readSemicolon  (v : V3) (Q : Int32 → V3 → Prop) : Prop := (((v 6 4) = 3 → w_X2_advance v (fun v2 => Q 1 v2)) ∧ (¬ (v 6 4) = 3 → w_X2_fail 1 v (fun r4 v3 => (r4 = 0 ∨ r4 = 1) ∧ Q r4 v3)))
set_option maxRecDepth 100000 in
set_option maxHeartbeats 4000000 in
theorem k_X2_readSemicolon (l : Launch) {G : zG} (hg : 129 ≤ gn G)  {v : V3} {Q : Int32 → V3 → Prop} (hw : w_X2_readSemicolon v Q) : Mz l yX2_readSemicolon cX2_readSemicolon 1 (some .boolean) 3 64 G [.ref (gad G 6)] v (QiZ G Q) := by
  rw [w_X2_readSemicolon] at hw
  refine z_ofW hg (by decide) (Nat.le_of_ble_eq_true rfl) ?_
  intro p e s m args below meth c ls C0 Z hl
  have hx := C0.1
  have hb := C0.2.1
  replace hl : lv_has ls 1 [(0, .ref (gad G 6))] := hl
  generalize s.heap = H at Z ⊢
  generalize ([] : List Loc) = locs at Z ⊢
  refine lv_aload_n hx hb dX2_readSemicolon_0 rfl (lv_at hl 0 rfl) ?_
  refine z_get C0 Z in_X2 rfl 4 (by decide) rfl tm_1_124 (cx_lt C0 (by decide)) rfl rfl dX2_readSemicolon_1 ?_
  refine lv_iconst (v := 3) hx hb dX2_readSemicolon_4 (by decide) ?_
  refine lv_icmp_eq (tgt := 14) hx hb dX2_readSemicolon_5 (by decide) (fun c1 => ?_) (fun c1 => ?_)
  · replace hw := hw.1 c1
    refine lv_aload_n hx hb dX2_readSemicolon_14 rfl (lv_at hl 0 rfl) ?_
    refine z_callVv C0 Z hl.1 (As := []) (rest := []) (k_X2_advance l (cx_g C0) hw) (gv_X2_advance tm_1_204) rfl ds_X2_advance ⟨Nat.le_of_ble_eq_true rfl, Nat.le_of_ble_eq_true rfl⟩ (ci := 2) rfl (cx_lt C0 (by decide)) rfl rfl rfl (Nat.le_of_ble_eq_true rfl) ⟨Nat.le_of_ble_eq_true rfl, Nat.le_of_ble_eq_true rfl⟩ dX2_readSemicolon_15 (fun v2 H locs hw Z => ?_)
    refine lv_iconst (v := 1) hx hb dX2_readSemicolon_18 (by decide) ?_
    exact z_zret C0 Z (by decide) hw dX2_readSemicolon_19
  · replace hw := hw.2 c1
    refine lv_aload_n hx hb dX2_readSemicolon_8 rfl (lv_at hl 0 rfl) ?_
    refine lv_iconst (v := 1) hx hb dX2_readSemicolon_9 (by decide) ?_
    refine z_callVi C0 Z hl.1 (As := [.int 1]) (rest := []) (k_X2_fail l (cx_g C0) hw) (gv_X2_fail tm_2_40) rfl ds_X2_fail ⟨Nat.le_of_ble_eq_true rfl, Nat.le_of_ble_eq_true rfl⟩ (ci := 2) rfl (cx_lt C0 (by decide)) rfl rfl rfl (Nat.le_of_ble_eq_true rfl) ⟨Nat.le_of_ble_eq_true rfl, Nat.le_of_ble_eq_true rfl⟩ dX2_readSemicolon_10 (fun r4 v3 H locs hw Z => ?_)
    obtain ⟨h5, hw⟩ := hw
    exact z_zret C0 Z h5 hw dX2_readSemicolon_13
-- X2_readSize: room (5, 145)
theorem dX2_readSize_0 : decode cX2_readSize 0 = .ok (.aload_n 0, 1) := by decide +kernel
theorem dX2_readSize_1 : decode cX2_readSize 1 = .ok (.ldc 74, 2) := by decide +kernel
theorem dX2_readSize_3 : decode cX2_readSize 3 = .ok (.invokevirtual 53, 3) := by decide +kernel
theorem dX2_readSize_6 : decode cX2_readSize 6 = .ok (.ifCond .ne 9, 3) := by decide +kernel
theorem dX2_readSize_9 : decode cX2_readSize 9 = .ok (.aload_n 0, 1) := by decide +kernel
theorem dX2_readSize_10 : decode cX2_readSize 10 = .ok (.iconst 1, 1) := by decide +kernel
theorem dX2_readSize_11 : decode cX2_readSize 11 = .ok (.invokevirtual 70, 3) := by decide +kernel
theorem dX2_readSize_14 : decode cX2_readSize 14 = .ok (.ireturn, 1) := by decide +kernel
theorem dX2_readSize_15 : decode cX2_readSize 15 = .ok (.aload_n 0, 1) := by decide +kernel
theorem dX2_readSize_16 : decode cX2_readSize 16 = .ok (.invokevirtual 38, 3) := by decide +kernel
theorem dX2_readSize_19 : decode cX2_readSize 19 = .ok (.aload_n 0, 1) := by decide +kernel
theorem dX2_readSize_20 : decode cX2_readSize 20 = .ok (.iconst 1, 1) := by decide +kernel
theorem dX2_readSize_21 : decode cX2_readSize 21 = .ok (.bipush 64, 2) := by decide +kernel
theorem dX2_readSize_23 : decode cX2_readSize 23 = .ok (.invokevirtual 76, 3) := by decide +kernel
theorem dX2_readSize_26 : decode cX2_readSize 26 = .ok (.istore_n 1, 1) := by decide +kernel
theorem dX2_readSize_27 : decode cX2_readSize 27 = .ok (.iload_n 1, 1) := by decide +kernel
theorem dX2_readSize_28 : decode cX2_readSize 28 = .ok (.iconst (-1), 1) := by decide +kernel
theorem dX2_readSize_29 : decode cX2_readSize 29 = .ok (.if_icmp .ne 5, 3) := by decide +kernel
theorem dX2_readSize_32 : decode cX2_readSize 32 = .ok (.iconst 0, 1) := by decide +kernel
theorem dX2_readSize_33 : decode cX2_readSize 33 = .ok (.ireturn, 1) := by decide +kernel
theorem dX2_readSize_34 : decode cX2_readSize 34 = .ok (.aload_n 0, 1) := by decide +kernel
theorem dX2_readSize_35 : decode cX2_readSize 35 = .ok (.getfield 15, 3) := by decide +kernel
theorem dX2_readSize_38 : decode cX2_readSize 38 = .ok (.iload_n 1, 1) := by decide +kernel
theorem dX2_readSize_39 : decode cX2_readSize 39 = .ok (.invokevirtual 79, 3) := by decide +kernel
theorem dX2_readSize_42 : decode cX2_readSize 42 = .ok (.iconst 1, 1) := by decide +kernel
theorem dX2_readSize_43 : decode cX2_readSize 43 = .ok (.ireturn, 1) := by decide +kernel
def w_X2_readSize  (v : V3) (Q : Int32 → V3 → Prop) : Prop := w_X2_isWord 0 v (fun r2 v1 => ((¬ r2 = 0 → w_X2_advance v1 (fun v4 => w_X2_readNumber 1 64 v4 (fun r6 v5 => ((¬ r6 = (-1) → w_X1_startWith 75 r6 v5 (fun v8 => Q 1 v8)) ∧ (r6 = (-1) → Q 0 v5))))) ∧ (r2 = 0 → w_X2_fail 1 v1 (fun r10 v9 => (r10 = 0 ∨ r10 = 1) ∧ Q r10 v9))))
set_option maxRecDepth 100000 in
set_option maxHeartbeats 4000000 in
theorem k_X2_readSize (l : Launch) {G : zG} (hg : 129 ≤ gn G)  {v : V3} {Q : Int32 → V3 → Prop} (hw : w_X2_readSize v Q) : Mz l yX2_readSize cX2_readSize 2 (some .boolean) 5 145 G [.ref (gad G 6)] v (QiZ G Q) := by
  rw [w_X2_readSize] at hw
  refine z_ofW hg (by decide) (Nat.le_of_ble_eq_true rfl) ?_
  intro p e s m args below meth c ls C0 Z hl
  have hx := C0.1
  have hb := C0.2.1
  replace hl : lv_has ls 2 [(0, .ref (gad G 6))] := hl
  generalize s.heap = H at Z ⊢
  generalize ([] : List Loc) = locs at Z ⊢
  refine lv_aload_n hx hb dX2_readSize_0 rfl (lv_at hl 0 rfl) ?_
  refine z_ldcS C0 Z (i := 0) (by decide +kernel) dX2_readSize_1 ?_
  refine z_callVi C0 Z hl.1 (As := [.ref (zst G 0)]) (rest := []) (k_X2_isWord l (cx_g C0) (by decide) hw) (gv_X2_isWord tm_1_228) rfl ds_X2_isWord ⟨Nat.le_of_ble_eq_true rfl, Nat.le_of_ble_eq_true rfl⟩ (ci := 2) rfl (cx_lt C0 (by decide)) rfl rfl rfl (Nat.le_of_ble_eq_true rfl) ⟨Nat.le_of_ble_eq_true rfl, Nat.le_of_ble_eq_true rfl⟩ dX2_readSize_3 (fun r2 v1 H locs hw Z => ?_)
  refine lv_if_ne (tgt := 15) hx hb dX2_readSize_6 (by decide) (fun c3 => ?_) (fun c3 => ?_)
  · replace hw := hw.1 c3
    refine lv_aload_n hx hb dX2_readSize_15 rfl (lv_at hl 0 rfl) ?_
    refine z_callVv C0 Z hl.1 (As := []) (rest := []) (k_X2_advance l (cx_g C0) hw) (gv_X2_advance tm_1_204) rfl ds_X2_advance ⟨Nat.le_of_ble_eq_true rfl, Nat.le_of_ble_eq_true rfl⟩ (ci := 2) rfl (cx_lt C0 (by decide)) rfl rfl rfl (Nat.le_of_ble_eq_true rfl) ⟨Nat.le_of_ble_eq_true rfl, Nat.le_of_ble_eq_true rfl⟩ dX2_readSize_16 (fun v4 H locs hw Z => ?_)
    refine lv_aload_n hx hb dX2_readSize_19 rfl (lv_at hl 0 rfl) ?_
    refine lv_iconst (v := 1) hx hb dX2_readSize_20 (by decide) ?_
    refine lv_bipush (v := 64) hx hb dX2_readSize_21 (by decide) ?_
    refine z_callVi C0 Z hl.1 (As := [.int 1, .int 64]) (rest := []) (k_X2_readNumber l (cx_g C0) hw) (gv_X2_readNumber tm_2_44) rfl ds_X2_readNumber ⟨Nat.le_of_ble_eq_true rfl, Nat.le_of_ble_eq_true rfl⟩ (ci := 2) rfl (cx_lt C0 (by decide)) rfl rfl rfl (Nat.le_of_ble_eq_true rfl) ⟨Nat.le_of_ble_eq_true rfl, Nat.le_of_ble_eq_true rfl⟩ dX2_readSize_23 (fun r6 v5 H locs hw Z => ?_)
    refine lv_istore_n (lv' := [(1, .int r6), (0, .ref (gad G 6))]) hx hb dX2_readSize_26 rfl hl (by decide) rfl (fun ls hl => ?_)
    refine lv_iload_n hx hb dX2_readSize_27 rfl (lv_at hl 0 rfl) ?_
    refine lv_iconst (v := (-1)) hx hb dX2_readSize_28 (by decide) ?_
    refine lv_icmp_ne (tgt := 34) hx hb dX2_readSize_29 (by decide) (fun c7 => ?_) (fun c7 => ?_)
    · replace hw := hw.1 c7
      refine lv_aload_n hx hb dX2_readSize_34 rfl (lv_at hl 1 rfl) ?_
      refine z_get C0 Z in_X2 rfl 1 (by decide) rfl tm_1_121 (cx_lt C0 (by decide)) rfl rfl dX2_readSize_35 ?_
      refine lv_iload_n hx hb dX2_readSize_38 rfl (lv_at hl 0 rfl) ?_
      refine z_callVv C0 Z hl.1 (As := [.int r6]) (rest := []) (k_X1_startWith l (cx_g C0) (isL75 (cx_g C0)) hw) (gv_X1_startWith tm_2_52) rfl ds_X1_startWith ⟨Nat.le_of_ble_eq_true rfl, Nat.le_of_ble_eq_true rfl⟩ (ci := 1) rfl (isL_lt0 (isL75 (cx_g C0))) (ent_L (isL75 (cx_g C0))) rfl rfl (Nat.le_of_ble_eq_true rfl) ⟨Nat.le_of_ble_eq_true rfl, Nat.le_of_ble_eq_true rfl⟩ dX2_readSize_39 (fun v8 H locs hw Z => ?_)
      refine lv_iconst (v := 1) hx hb dX2_readSize_42 (by decide) ?_
      exact z_zret C0 Z (by decide) hw dX2_readSize_43
    · replace hw := hw.2 c7
      refine lv_iconst (v := 0) hx hb dX2_readSize_32 (by decide) ?_
      exact z_zret C0 Z (by decide) hw dX2_readSize_33
  · replace hw := hw.2 c3
    refine lv_aload_n hx hb dX2_readSize_9 rfl (lv_at hl 0 rfl) ?_
    refine lv_iconst (v := 1) hx hb dX2_readSize_10 (by decide) ?_
    refine z_callVi C0 Z hl.1 (As := [.int 1]) (rest := []) (k_X2_fail l (cx_g C0) hw) (gv_X2_fail tm_2_40) rfl ds_X2_fail ⟨Nat.le_of_ble_eq_true rfl, Nat.le_of_ble_eq_true rfl⟩ (ci := 2) rfl (cx_lt C0 (by decide)) rfl rfl rfl (Nat.le_of_ble_eq_true rfl) ⟨Nat.le_of_ble_eq_true rfl, Nat.le_of_ble_eq_true rfl⟩ dX2_readSize_11 (fun r10 v9 H locs hw Z => ?_)
    obtain ⟨h11, hw⟩ := hw
    exact z_zret C0 Z h11 hw dX2_readSize_14
-- X2_readOwner: room (4, 87)
theorem dX2_readOwner_0 : decode cX2_readOwner 0 = .ok (.aload_n 0, 1) := by decide +kernel
theorem dX2_readOwner_1 : decode cX2_readOwner 1 = .ok (.getfield 15, 3) := by decide +kernel
theorem dX2_readOwner_4 : decode cX2_readOwner 4 = .ok (.getfield 85, 3) := by decide +kernel
theorem dX2_readOwner_7 : decode cX2_readOwner 7 = .ok (.bipush 8, 2) := by decide +kernel
theorem dX2_readOwner_9 : decode cX2_readOwner 9 = .ok (.if_icmp .lt 9, 3) := by decide +kernel
theorem dX2_readOwner_12 : decode cX2_readOwner 12 = .ok (.aload_n 0, 1) := by decide +kernel
theorem dX2_readOwner_13 : decode cX2_readOwner 13 = .ok (.iconst 3, 1) := by decide +kernel
theorem dX2_readOwner_14 : decode cX2_readOwner 14 = .ok (.invokevirtual 70, 3) := by decide +kernel
theorem dX2_readOwner_17 : decode cX2_readOwner 17 = .ok (.ireturn, 1) := by decide +kernel
theorem dX2_readOwner_18 : decode cX2_readOwner 18 = .ok (.aload_n 0, 1) := by decide +kernel
theorem dX2_readOwner_19 : decode cX2_readOwner 19 = .ok (.invokevirtual 38, 3) := by decide +kernel
theorem dX2_readOwner_22 : decode cX2_readOwner 22 = .ok (.aload_n 0, 1) := by decide +kernel
theorem dX2_readOwner_23 : decode cX2_readOwner 23 = .ok (.iconst 0, 1) := by decide +kernel
theorem dX2_readOwner_24 : decode cX2_readOwner 24 = .ok (.sipush 999, 3) := by decide +kernel
theorem dX2_readOwner_27 : decode cX2_readOwner 27 = .ok (.invokevirtual 76, 3) := by decide +kernel
theorem dX2_readOwner_30 : decode cX2_readOwner 30 = .ok (.istore_n 1, 1) := by decide +kernel
theorem dX2_readOwner_31 : decode cX2_readOwner 31 = .ok (.iload_n 1, 1) := by decide +kernel
theorem dX2_readOwner_32 : decode cX2_readOwner 32 = .ok (.iconst (-1), 1) := by decide +kernel
theorem dX2_readOwner_33 : decode cX2_readOwner 33 = .ok (.if_icmp .ne 5, 3) := by decide +kernel
theorem dX2_readOwner_36 : decode cX2_readOwner 36 = .ok (.iconst 0, 1) := by decide +kernel
theorem dX2_readOwner_37 : decode cX2_readOwner 37 = .ok (.ireturn, 1) := by decide +kernel
theorem dX2_readOwner_38 : decode cX2_readOwner 38 = .ok (.aload_n 0, 1) := by decide +kernel
theorem dX2_readOwner_39 : decode cX2_readOwner 39 = .ok (.getfield 15, 3) := by decide +kernel
theorem dX2_readOwner_42 : decode cX2_readOwner 42 = .ok (.iload_n 1, 1) := by decide +kernel
theorem dX2_readOwner_43 : decode cX2_readOwner 43 = .ok (.invokevirtual 88, 3) := by decide +kernel
theorem dX2_readOwner_46 : decode cX2_readOwner 46 = .ok (.pop, 1) := by decide +kernel
theorem dX2_readOwner_47 : decode cX2_readOwner 47 = .ok (.iconst 1, 1) := by decide +kernel
theorem dX2_readOwner_48 : decode cX2_readOwner 48 = .ok (.ireturn, 1) := by decide +kernel
def w_X2_readOwner  (v : V3) (Q : Int32 → V3 → Prop) : Prop := (((v 75 7) < 8 → w_X2_advance v (fun v2 => w_X2_readNumber 0 999 v2 (fun r4 v3 => ((¬ r4 = (-1) → w_X1_enterOwner 75 r4 v3 (fun r7 v6 => Q 1 v6)) ∧ (r4 = (-1) → Q 0 v3))))) ∧ (¬ (v 75 7) < 8 → w_X2_fail 3 v (fun r9 v8 => (r9 = 0 ∨ r9 = 1) ∧ Q r9 v8)))
set_option maxRecDepth 100000 in
set_option maxHeartbeats 4000000 in
theorem k_X2_readOwner (l : Launch) {G : zG} (hg : 129 ≤ gn G)  {v : V3} {Q : Int32 → V3 → Prop} (hw : w_X2_readOwner v Q) : Mz l yX2_readOwner cX2_readOwner 2 (some .boolean) 4 87 G [.ref (gad G 6)] v (QiZ G Q) := by
  rw [w_X2_readOwner] at hw
  refine z_ofW hg (by decide) (Nat.le_of_ble_eq_true rfl) ?_
  intro p e s m args below meth c ls C0 Z hl
  have hx := C0.1
  have hb := C0.2.1
  replace hl : lv_has ls 2 [(0, .ref (gad G 6))] := hl
  generalize s.heap = H at Z ⊢
  generalize ([] : List Loc) = locs at Z ⊢
  refine lv_aload_n hx hb dX2_readOwner_0 rfl (lv_at hl 0 rfl) ?_
  refine z_get C0 Z in_X2 rfl 1 (by decide) rfl tm_1_121 (cx_lt C0 (by decide)) rfl rfl dX2_readOwner_1 ?_
  refine z_get C0 Z in_X1 rfl 7 (by decide) rfl tm_1_62 (isL_lt0 (isL75 (cx_g C0))) (ent_L (isL75 (cx_g C0))) rfl dX2_readOwner_4 ?_
  refine lv_bipush (v := 8) hx hb dX2_readOwner_7 (by decide) ?_
  refine lv_icmp_lt (tgt := 18) hx hb dX2_readOwner_9 (by decide) (fun c1 => ?_) (fun c1 => ?_)
  · replace hw := hw.1 c1
    refine lv_aload_n hx hb dX2_readOwner_18 rfl (lv_at hl 0 rfl) ?_
    refine z_callVv C0 Z hl.1 (As := []) (rest := []) (k_X2_advance l (cx_g C0) hw) (gv_X2_advance tm_1_204) rfl ds_X2_advance ⟨Nat.le_of_ble_eq_true rfl, Nat.le_of_ble_eq_true rfl⟩ (ci := 2) rfl (cx_lt C0 (by decide)) rfl rfl rfl (Nat.le_of_ble_eq_true rfl) ⟨Nat.le_of_ble_eq_true rfl, Nat.le_of_ble_eq_true rfl⟩ dX2_readOwner_19 (fun v2 H locs hw Z => ?_)
    refine lv_aload_n hx hb dX2_readOwner_22 rfl (lv_at hl 0 rfl) ?_
    refine lv_iconst (v := 0) hx hb dX2_readOwner_23 (by decide) ?_
    refine lv_sipush (v := 999) hx hb dX2_readOwner_24 (by decide) ?_
    refine z_callVi C0 Z hl.1 (As := [.int 0, .int 999]) (rest := []) (k_X2_readNumber l (cx_g C0) hw) (gv_X2_readNumber tm_2_44) rfl ds_X2_readNumber ⟨Nat.le_of_ble_eq_true rfl, Nat.le_of_ble_eq_true rfl⟩ (ci := 2) rfl (cx_lt C0 (by decide)) rfl rfl rfl (Nat.le_of_ble_eq_true rfl) ⟨Nat.le_of_ble_eq_true rfl, Nat.le_of_ble_eq_true rfl⟩ dX2_readOwner_27 (fun r4 v3 H locs hw Z => ?_)
    refine lv_istore_n (lv' := [(1, .int r4), (0, .ref (gad G 6))]) hx hb dX2_readOwner_30 rfl hl (by decide) rfl (fun ls hl => ?_)
    refine lv_iload_n hx hb dX2_readOwner_31 rfl (lv_at hl 0 rfl) ?_
    refine lv_iconst (v := (-1)) hx hb dX2_readOwner_32 (by decide) ?_
    refine lv_icmp_ne (tgt := 38) hx hb dX2_readOwner_33 (by decide) (fun c5 => ?_) (fun c5 => ?_)
    · replace hw := hw.1 c5
      refine lv_aload_n hx hb dX2_readOwner_38 rfl (lv_at hl 1 rfl) ?_
      refine z_get C0 Z in_X2 rfl 1 (by decide) rfl tm_1_121 (cx_lt C0 (by decide)) rfl rfl dX2_readOwner_39 ?_
      refine lv_iload_n hx hb dX2_readOwner_42 rfl (lv_at hl 0 rfl) ?_
      refine z_callVi C0 Z hl.1 (As := [.int r4]) (rest := []) (k_X1_enterOwner l (cx_g C0) (isL75 (cx_g C0)) hw) (gv_X1_enterOwner tm_2_62) rfl ds_X1_enterOwner ⟨Nat.le_of_ble_eq_true rfl, Nat.le_of_ble_eq_true rfl⟩ (ci := 1) rfl (isL_lt0 (isL75 (cx_g C0))) (ent_L (isL75 (cx_g C0))) rfl rfl (Nat.le_of_ble_eq_true rfl) ⟨Nat.le_of_ble_eq_true rfl, Nat.le_of_ble_eq_true rfl⟩ dX2_readOwner_43 (fun r7 v6 H locs hw Z => ?_)
      refine lv_pop hx hb dX2_readOwner_46 rfl ?_
      refine lv_iconst (v := 1) hx hb dX2_readOwner_47 (by decide) ?_
      exact z_zret C0 Z (by decide) hw dX2_readOwner_48
    · replace hw := hw.2 c5
      refine lv_iconst (v := 0) hx hb dX2_readOwner_36 (by decide) ?_
      exact z_zret C0 Z (by decide) hw dX2_readOwner_37
  · replace hw := hw.2 c1
    refine lv_aload_n hx hb dX2_readOwner_12 rfl (lv_at hl 0 rfl) ?_
    refine lv_iconst (v := 3) hx hb dX2_readOwner_13 (by decide) ?_
    refine z_callVi C0 Z hl.1 (As := [.int 3]) (rest := []) (k_X2_fail l (cx_g C0) hw) (gv_X2_fail tm_2_40) rfl ds_X2_fail ⟨Nat.le_of_ble_eq_true rfl, Nat.le_of_ble_eq_true rfl⟩ (ci := 2) rfl (cx_lt C0 (by decide)) rfl rfl rfl (Nat.le_of_ble_eq_true rfl) ⟨Nat.le_of_ble_eq_true rfl, Nat.le_of_ble_eq_true rfl⟩ dX2_readOwner_14 (fun r9 v8 H locs hw Z => ?_)
    obtain ⟨h10, hw⟩ := hw
    exact z_zret C0 Z h10 hw dX2_readOwner_17
-- X2_readSetting: room (4, 87)
theorem dX2_readSetting_0 : decode cX2_readSetting 0 = .ok (.aload_n 0, 1) := by decide +kernel
theorem dX2_readSetting_1 : decode cX2_readSetting 1 = .ok (.invokevirtual 38, 3) := by decide +kernel
theorem dX2_readSetting_4 : decode cX2_readSetting 4 = .ok (.aload_n 0, 1) := by decide +kernel
theorem dX2_readSetting_5 : decode cX2_readSetting 5 = .ok (.iconst 0, 1) := by decide +kernel
theorem dX2_readSetting_6 : decode cX2_readSetting 6 = .ok (.iconst 3, 1) := by decide +kernel
theorem dX2_readSetting_7 : decode cX2_readSetting 7 = .ok (.invokevirtual 76, 3) := by decide +kernel
theorem dX2_readSetting_10 : decode cX2_readSetting 10 = .ok (.istore_n 1, 1) := by decide +kernel
theorem dX2_readSetting_11 : decode cX2_readSetting 11 = .ok (.iload_n 1, 1) := by decide +kernel
theorem dX2_readSetting_12 : decode cX2_readSetting 12 = .ok (.iconst (-1), 1) := by decide +kernel
theorem dX2_readSetting_13 : decode cX2_readSetting 13 = .ok (.if_icmp .ne 5, 3) := by decide +kernel
theorem dX2_readSetting_16 : decode cX2_readSetting 16 = .ok (.iconst 0, 1) := by decide +kernel
theorem dX2_readSetting_17 : decode cX2_readSetting 17 = .ok (.ireturn, 1) := by decide +kernel
theorem dX2_readSetting_18 : decode cX2_readSetting 18 = .ok (.aload_n 0, 1) := by decide +kernel
theorem dX2_readSetting_19 : decode cX2_readSetting 19 = .ok (.getstatic 92, 3) := by decide +kernel
theorem dX2_readSetting_22 : decode cX2_readSetting 22 = .ok (.iload_n 1, 1) := by decide +kernel
theorem dX2_readSetting_23 : decode cX2_readSetting 23 = .ok (.iaload, 1) := by decide +kernel
theorem dX2_readSetting_24 : decode cX2_readSetting 24 = .ok (.getstatic 96, 3) := by decide +kernel
theorem dX2_readSetting_27 : decode cX2_readSetting 27 = .ok (.iload_n 1, 1) := by decide +kernel
theorem dX2_readSetting_28 : decode cX2_readSetting 28 = .ok (.iaload, 1) := by decide +kernel
theorem dX2_readSetting_29 : decode cX2_readSetting 29 = .ok (.invokevirtual 76, 3) := by decide +kernel
theorem dX2_readSetting_32 : decode cX2_readSetting 32 = .ok (.istore_n 2, 1) := by decide +kernel
theorem dX2_readSetting_33 : decode cX2_readSetting 33 = .ok (.iload_n 2, 1) := by decide +kernel
theorem dX2_readSetting_34 : decode cX2_readSetting 34 = .ok (.iconst (-1), 1) := by decide +kernel
theorem dX2_readSetting_35 : decode cX2_readSetting 35 = .ok (.if_icmp .ne 5, 3) := by decide +kernel
theorem dX2_readSetting_38 : decode cX2_readSetting 38 = .ok (.iconst 0, 1) := by decide +kernel
theorem dX2_readSetting_39 : decode cX2_readSetting 39 = .ok (.ireturn, 1) := by decide +kernel
theorem dX2_readSetting_40 : decode cX2_readSetting 40 = .ok (.aload_n 0, 1) := by decide +kernel
theorem dX2_readSetting_41 : decode cX2_readSetting 41 = .ok (.getfield 15, 3) := by decide +kernel
theorem dX2_readSetting_44 : decode cX2_readSetting 44 = .ok (.getfield 99, 3) := by decide +kernel
theorem dX2_readSetting_47 : decode cX2_readSetting 47 = .ok (.iload_n 1, 1) := by decide +kernel
theorem dX2_readSetting_48 : decode cX2_readSetting 48 = .ok (.iload_n 2, 1) := by decide +kernel
theorem dX2_readSetting_49 : decode cX2_readSetting 49 = .ok (.iastore, 1) := by decide +kernel
theorem dX2_readSetting_50 : decode cX2_readSetting 50 = .ok (.iconst 1, 1) := by decide +kernel
theorem dX2_readSetting_51 : decode cX2_readSetting 51 = .ok (.ireturn, 1) := by decide +kernel
def w_X2_readSetting  (v : V3) (Q : Int32 → V3 → Prop) : Prop := w_X2_advance v (fun v1 => w_X2_readNumber 0 3 v1 (fun r3 v2 => ((¬ r3 = (-1) → vp_in r3 4 ∧ vp_in r3 4 ∧ w_X2_readNumber (f4 0 0 1 1 (ix r3)) (f4 50 99 9 9 (ix r3)) v2 (fun r8 v7 => ((¬ r8 = (-1) → vp_in r3 4 ∧ ∀ v11 : V3, v11 = up2 v7 (75 + 1) (ix r3) r8 → Q 1 v11) ∧ (r8 = (-1) → Q 0 v7)))) ∧ (r3 = (-1) → Q 0 v2))))
set_option maxRecDepth 100000 in
set_option maxHeartbeats 4000000 in
theorem k_X2_readSetting (l : Launch) {G : zG} (hg : 129 ≤ gn G)  {v : V3} {Q : Int32 → V3 → Prop} (hw : w_X2_readSetting v Q) : Mz l yX2_readSetting cX2_readSetting 3 (some .boolean) 4 87 G [.ref (gad G 6)] v (QiZ G Q) := by
  rw [w_X2_readSetting] at hw
  refine z_ofW hg (by decide) (Nat.le_of_ble_eq_true rfl) ?_
  intro p e s m args below meth c ls C0 Z hl
  have hx := C0.1
  have hb := C0.2.1
  replace hl : lv_has ls 3 [(0, .ref (gad G 6))] := hl
  generalize s.heap = H at Z ⊢
  generalize ([] : List Loc) = locs at Z ⊢
  refine lv_aload_n hx hb dX2_readSetting_0 rfl (lv_at hl 0 rfl) ?_
  refine z_callVv C0 Z hl.1 (As := []) (rest := []) (k_X2_advance l (cx_g C0) hw) (gv_X2_advance tm_1_204) rfl ds_X2_advance ⟨Nat.le_of_ble_eq_true rfl, Nat.le_of_ble_eq_true rfl⟩ (ci := 2) rfl (cx_lt C0 (by decide)) rfl rfl rfl (Nat.le_of_ble_eq_true rfl) ⟨Nat.le_of_ble_eq_true rfl, Nat.le_of_ble_eq_true rfl⟩ dX2_readSetting_1 (fun v1 H locs hw Z => ?_)
  refine lv_aload_n hx hb dX2_readSetting_4 rfl (lv_at hl 0 rfl) ?_
  refine lv_iconst (v := 0) hx hb dX2_readSetting_5 (by decide) ?_
  refine lv_iconst (v := 3) hx hb dX2_readSetting_6 (by decide) ?_
  refine z_callVi C0 Z hl.1 (As := [.int 0, .int 3]) (rest := []) (k_X2_readNumber l (cx_g C0) hw) (gv_X2_readNumber tm_2_44) rfl ds_X2_readNumber ⟨Nat.le_of_ble_eq_true rfl, Nat.le_of_ble_eq_true rfl⟩ (ci := 2) rfl (cx_lt C0 (by decide)) rfl rfl rfl (Nat.le_of_ble_eq_true rfl) ⟨Nat.le_of_ble_eq_true rfl, Nat.le_of_ble_eq_true rfl⟩ dX2_readSetting_7 (fun r3 v2 H locs hw Z => ?_)
  refine lv_istore_n (lv' := [(1, .int r3), (0, .ref (gad G 6))]) hx hb dX2_readSetting_10 rfl hl (by decide) rfl (fun ls hl => ?_)
  refine lv_iload_n hx hb dX2_readSetting_11 rfl (lv_at hl 0 rfl) ?_
  refine lv_iconst (v := (-1)) hx hb dX2_readSetting_12 (by decide) ?_
  refine lv_icmp_ne (tgt := 18) hx hb dX2_readSetting_13 (by decide) (fun c4 => ?_) (fun c4 => ?_)
  · replace hw := hw.1 c4
    refine lv_aload_n hx hb dX2_readSetting_18 rfl (lv_at hl 1 rfl) ?_
    refine z_getsN1 C0 Z (by decide +kernel) dX2_readSetting_19 ?_
    refine lv_iload_n hx hb dX2_readSetting_22 rfl (lv_at hl 0 rfl) ?_
    obtain ⟨h5, hw⟩ := hw
    refine z_tab1 C0 Z h5 dX2_readSetting_23 ?_
    refine z_getsN2 C0 Z (by decide +kernel) dX2_readSetting_24 ?_
    refine lv_iload_n hx hb dX2_readSetting_27 rfl (lv_at hl 0 rfl) ?_
    obtain ⟨h6, hw⟩ := hw
    refine z_tab2 C0 Z h6 dX2_readSetting_28 ?_
    refine z_callVi C0 Z hl.1 (As := [.int (f4 0 0 1 1 (ix r3)), .int (f4 50 99 9 9 (ix r3))]) (rest := []) (k_X2_readNumber l (cx_g C0) hw) (gv_X2_readNumber tm_2_44) rfl ds_X2_readNumber ⟨Nat.le_of_ble_eq_true rfl, Nat.le_of_ble_eq_true rfl⟩ (ci := 2) rfl (cx_lt C0 (by decide)) rfl rfl rfl (Nat.le_of_ble_eq_true rfl) ⟨Nat.le_of_ble_eq_true rfl, Nat.le_of_ble_eq_true rfl⟩ dX2_readSetting_29 (fun r8 v7 H locs hw Z => ?_)
    refine lv_istore_n (lv' := [(2, .int r8), (1, .int r3), (0, .ref (gad G 6))]) hx hb dX2_readSetting_32 rfl hl (by decide) rfl (fun ls hl => ?_)
    refine lv_iload_n hx hb dX2_readSetting_33 rfl (lv_at hl 0 rfl) ?_
    refine lv_iconst (v := (-1)) hx hb dX2_readSetting_34 (by decide) ?_
    refine lv_icmp_ne (tgt := 40) hx hb dX2_readSetting_35 (by decide) (fun c9 => ?_) (fun c9 => ?_)
    · replace hw := hw.1 c9
      refine lv_aload_n hx hb dX2_readSetting_40 rfl (lv_at hl 2 rfl) ?_
      refine z_get C0 Z in_X2 rfl 1 (by decide) rfl tm_1_121 (cx_lt C0 (by decide)) rfl rfl dX2_readSetting_41 ?_
      refine z_get C0 Z in_X1 rfl 0 (by decide) rfl tm_1_44 (isL_lt0 (isL75 (cx_g C0))) (ent_L (isL75 (cx_g C0))) rfl dX2_readSetting_44 ?_
      refine lv_iload_n hx hb dX2_readSetting_47 rfl (lv_at hl 1 rfl) ?_
      refine lv_iload_n hx hb dX2_readSetting_48 rfl (lv_at hl 0 rfl) ?_
      obtain ⟨h10, hw⟩ := hw
      refine z_iast C0 Z (isL_lt (isL75 (cx_g C0)) 1 (by decide)) (fun _ => ent_L1 (isL75 (cx_g C0))) h10 dX2_readSetting_49 (fun H locs Z => ?_)
      obtain ⟨v11, ev11⟩ : ∃ z : V3, z = up2 v7 (75 + 1) (ix r3) r8 := ⟨_, rfl⟩
      rw [← ev11] at Z
      replace hw := hw v11 ev11
      refine lv_iconst (v := 1) hx hb dX2_readSetting_50 (by decide) ?_
      exact z_zret C0 Z (by decide) hw dX2_readSetting_51
    · replace hw := hw.2 c9
      refine lv_iconst (v := 0) hx hb dX2_readSetting_38 (by decide) ?_
      exact z_zret C0 Z (by decide) hw dX2_readSetting_39
  · replace hw := hw.2 c4
    refine lv_iconst (v := 0) hx hb dX2_readSetting_16 (by decide) ?_
    exact z_zret C0 Z (by decide) hw dX2_readSetting_17
-- X2_readBookingOwner: room (3, 66)
theorem dX2_readBookingOwner_0 : decode cX2_readBookingOwner 0 = .ok (.aload_n 0, 1) := by decide +kernel
theorem dX2_readBookingOwner_1 : decode cX2_readBookingOwner 1 = .ok (.iconst 0, 1) := by decide +kernel
theorem dX2_readBookingOwner_2 : decode cX2_readBookingOwner 2 = .ok (.aload_n 0, 1) := by decide +kernel
theorem dX2_readBookingOwner_3 : decode cX2_readBookingOwner 3 = .ok (.getfield 15, 3) := by decide +kernel
theorem dX2_readBookingOwner_6 : decode cX2_readBookingOwner 6 = .ok (.getfield 85, 3) := by decide +kernel
theorem dX2_readBookingOwner_9 : decode cX2_readBookingOwner 9 = .ok (.iconst 1, 1) := by decide +kernel
theorem dX2_readBookingOwner_10 : decode cX2_readBookingOwner 10 = .ok (.isub, 1) := by decide +kernel
theorem dX2_readBookingOwner_11 : decode cX2_readBookingOwner 11 = .ok (.invokevirtual 126, 3) := by decide +kernel
theorem dX2_readBookingOwner_14 : decode cX2_readBookingOwner 14 = .ok (.istore_n 1, 1) := by decide +kernel
theorem dX2_readBookingOwner_15 : decode cX2_readBookingOwner 15 = .ok (.iload_n 1, 1) := by decide +kernel
theorem dX2_readBookingOwner_16 : decode cX2_readBookingOwner 16 = .ok (.iconst (-1), 1) := by decide +kernel
theorem dX2_readBookingOwner_17 : decode cX2_readBookingOwner 17 = .ok (.if_icmp .ne 5, 3) := by decide +kernel
theorem dX2_readBookingOwner_20 : decode cX2_readBookingOwner 20 = .ok (.iconst (-1), 1) := by decide +kernel
theorem dX2_readBookingOwner_21 : decode cX2_readBookingOwner 21 = .ok (.ireturn, 1) := by decide +kernel
theorem dX2_readBookingOwner_22 : decode cX2_readBookingOwner 22 = .ok (.aload_n 0, 1) := by decide +kernel
theorem dX2_readBookingOwner_23 : decode cX2_readBookingOwner 23 = .ok (.getfield 15, 3) := by decide +kernel
theorem dX2_readBookingOwner_26 : decode cX2_readBookingOwner 26 = .ok (.iload_n 1, 1) := by decide +kernel
theorem dX2_readBookingOwner_27 : decode cX2_readBookingOwner 27 = .ok (.invokevirtual 129, 3) := by decide +kernel
theorem dX2_readBookingOwner_30 : decode cX2_readBookingOwner 30 = .ok (.ifCond .eq 11, 3) := by decide +kernel
theorem dX2_readBookingOwner_33 : decode cX2_readBookingOwner 33 = .ok (.aload_n 0, 1) := by decide +kernel
theorem dX2_readBookingOwner_34 : decode cX2_readBookingOwner 34 = .ok (.iconst 3, 1) := by decide +kernel
theorem dX2_readBookingOwner_35 : decode cX2_readBookingOwner 35 = .ok (.invokevirtual 70, 3) := by decide +kernel
theorem dX2_readBookingOwner_38 : decode cX2_readBookingOwner 38 = .ok (.pop, 1) := by decide +kernel
theorem dX2_readBookingOwner_39 : decode cX2_readBookingOwner 39 = .ok (.iconst (-1), 1) := by decide +kernel
theorem dX2_readBookingOwner_40 : decode cX2_readBookingOwner 40 = .ok (.ireturn, 1) := by decide +kernel
theorem dX2_readBookingOwner_41 : decode cX2_readBookingOwner 41 = .ok (.aload_n 0, 1) := by decide +kernel
theorem dX2_readBookingOwner_42 : decode cX2_readBookingOwner 42 = .ok (.invokevirtual 38, 3) := by decide +kernel
theorem dX2_readBookingOwner_45 : decode cX2_readBookingOwner 45 = .ok (.iload_n 1, 1) := by decide +kernel
theorem dX2_readBookingOwner_46 : decode cX2_readBookingOwner 46 = .ok (.ireturn, 1) := by decide +kernel
def w_X2_readBookingOwner  (v : V3) (Q : Int32 → V3 → Prop) : Prop := w_X2_checkNumber 0 ((v 75 7) - 1) v (fun r2 v1 => ((¬ r2 = (-1) → w_X1_hasLimit 75 r2 v1 (fun r5 v4 => ((r5 = 0 → w_X2_advance v4 (fun v7 => Q r2 v7)) ∧ (¬ r5 = 0 → w_X2_fail 3 v4 (fun r9 v8 => Q (-1) v8))))) ∧ (r2 = (-1) → Q (-1) v1)))
set_option maxRecDepth 100000 in
set_option maxHeartbeats 4000000 in
theorem k_X2_readBookingOwner (l : Launch) {G : zG} (hg : 129 ≤ gn G)  {v : V3} {Q : Int32 → V3 → Prop} (hw : w_X2_readBookingOwner v Q) : Mz l yX2_readBookingOwner cX2_readBookingOwner 2 (some .int) 3 66 G [.ref (gad G 6)] v (QiZ G Q) := by
  rw [w_X2_readBookingOwner] at hw
  refine z_ofW hg (by decide) (Nat.le_of_ble_eq_true rfl) ?_
  intro p e s m args below meth c ls C0 Z hl
  have hx := C0.1
  have hb := C0.2.1
  replace hl : lv_has ls 2 [(0, .ref (gad G 6))] := hl
  generalize s.heap = H at Z ⊢
  generalize ([] : List Loc) = locs at Z ⊢
  refine lv_aload_n hx hb dX2_readBookingOwner_0 rfl (lv_at hl 0 rfl) ?_
  refine lv_iconst (v := 0) hx hb dX2_readBookingOwner_1 (by decide) ?_
  refine lv_aload_n hx hb dX2_readBookingOwner_2 rfl (lv_at hl 0 rfl) ?_
  refine z_get C0 Z in_X2 rfl 1 (by decide) rfl tm_1_121 (cx_lt C0 (by decide)) rfl rfl dX2_readBookingOwner_3 ?_
  refine z_get C0 Z in_X1 rfl 7 (by decide) rfl tm_1_62 (isL_lt0 (isL75 (cx_g C0))) (ent_L (isL75 (cx_g C0))) rfl dX2_readBookingOwner_6 ?_
  refine lv_iconst (v := 1) hx hb dX2_readBookingOwner_9 (by decide) ?_
  refine lv_isub hx hb dX2_readBookingOwner_10 ?_
  refine z_callVi C0 Z hl.1 (As := [.int 0, .int ((v 75 7) - 1)]) (rest := []) (k_X2_checkNumber l (cx_g C0) hw) (gv_X2_checkNumber tm_2_48) rfl ds_X2_checkNumber ⟨Nat.le_of_ble_eq_true rfl, Nat.le_of_ble_eq_true rfl⟩ (ci := 2) rfl (cx_lt C0 (by decide)) rfl rfl rfl (Nat.le_of_ble_eq_true rfl) ⟨Nat.le_of_ble_eq_true rfl, Nat.le_of_ble_eq_true rfl⟩ dX2_readBookingOwner_11 (fun r2 v1 H locs hw Z => ?_)
  refine lv_istore_n (lv' := [(1, .int r2), (0, .ref (gad G 6))]) hx hb dX2_readBookingOwner_14 rfl hl (by decide) rfl (fun ls hl => ?_)
  refine lv_iload_n hx hb dX2_readBookingOwner_15 rfl (lv_at hl 0 rfl) ?_
  refine lv_iconst (v := (-1)) hx hb dX2_readBookingOwner_16 (by decide) ?_
  refine lv_icmp_ne (tgt := 22) hx hb dX2_readBookingOwner_17 (by decide) (fun c3 => ?_) (fun c3 => ?_)
  · replace hw := hw.1 c3
    refine lv_aload_n hx hb dX2_readBookingOwner_22 rfl (lv_at hl 1 rfl) ?_
    refine z_get C0 Z in_X2 rfl 1 (by decide) rfl tm_1_121 (cx_lt C0 (by decide)) rfl rfl dX2_readBookingOwner_23 ?_
    refine lv_iload_n hx hb dX2_readBookingOwner_26 rfl (lv_at hl 0 rfl) ?_
    refine z_callVi C0 Z hl.1 (As := [.int r2]) (rest := []) (k_X1_hasLimit l (cx_g C0) (isL75 (cx_g C0)) hw) (gv_X1_hasLimit tm_2_75) rfl ds_X1_hasLimit ⟨Nat.le_of_ble_eq_true rfl, Nat.le_of_ble_eq_true rfl⟩ (ci := 1) rfl (isL_lt0 (isL75 (cx_g C0))) (ent_L (isL75 (cx_g C0))) rfl rfl (Nat.le_of_ble_eq_true rfl) ⟨Nat.le_of_ble_eq_true rfl, Nat.le_of_ble_eq_true rfl⟩ dX2_readBookingOwner_27 (fun r5 v4 H locs hw Z => ?_)
    refine lv_if_eq (tgt := 41) hx hb dX2_readBookingOwner_30 (by decide) (fun c6 => ?_) (fun c6 => ?_)
    · replace hw := hw.1 c6
      refine lv_aload_n hx hb dX2_readBookingOwner_41 rfl (lv_at hl 1 rfl) ?_
      refine z_callVv C0 Z hl.1 (As := []) (rest := []) (k_X2_advance l (cx_g C0) hw) (gv_X2_advance tm_1_204) rfl ds_X2_advance ⟨Nat.le_of_ble_eq_true rfl, Nat.le_of_ble_eq_true rfl⟩ (ci := 2) rfl (cx_lt C0 (by decide)) rfl rfl rfl (Nat.le_of_ble_eq_true rfl) ⟨Nat.le_of_ble_eq_true rfl, Nat.le_of_ble_eq_true rfl⟩ dX2_readBookingOwner_42 (fun v7 H locs hw Z => ?_)
      refine lv_iload_n hx hb dX2_readBookingOwner_45 rfl (lv_at hl 0 rfl) ?_
      exact z_iret C0 Z hw dX2_readBookingOwner_46
    · replace hw := hw.2 c6
      refine lv_aload_n hx hb dX2_readBookingOwner_33 rfl (lv_at hl 1 rfl) ?_
      refine lv_iconst (v := 3) hx hb dX2_readBookingOwner_34 (by decide) ?_
      refine z_callVi C0 Z hl.1 (As := [.int 3]) (rest := []) (k_X2_fail l (cx_g C0) hw) (gv_X2_fail tm_2_40) rfl ds_X2_fail ⟨Nat.le_of_ble_eq_true rfl, Nat.le_of_ble_eq_true rfl⟩ (ci := 2) rfl (cx_lt C0 (by decide)) rfl rfl rfl (Nat.le_of_ble_eq_true rfl) ⟨Nat.le_of_ble_eq_true rfl, Nat.le_of_ble_eq_true rfl⟩ dX2_readBookingOwner_35 (fun r9 v8 H locs hw Z => ?_)
      refine lv_pop hx hb dX2_readBookingOwner_38 rfl ?_
      refine lv_iconst (v := (-1)) hx hb dX2_readBookingOwner_39 (by decide) ?_
      exact z_iret C0 Z hw dX2_readBookingOwner_40
  · replace hw := hw.2 c3
    refine lv_iconst (v := (-1)) hx hb dX2_readBookingOwner_20 (by decide) ?_
    exact z_iret C0 Z hw dX2_readBookingOwner_21
-- X2_readLength: room (3, 64)
theorem dX2_readLength_0 : decode cX2_readLength 0 = .ok (.aload_n 0, 1) := by decide +kernel
theorem dX2_readLength_1 : decode cX2_readLength 1 = .ok (.iconst 1, 1) := by decide +kernel
theorem dX2_readLength_2 : decode cX2_readLength 2 = .ok (.ldc 132, 2) := by decide +kernel
theorem dX2_readLength_4 : decode cX2_readLength 4 = .ok (.invokevirtual 126, 3) := by decide +kernel
theorem dX2_readLength_7 : decode cX2_readLength 7 = .ok (.istore_n 2, 1) := by decide +kernel
theorem dX2_readLength_8 : decode cX2_readLength 8 = .ok (.iload_n 2, 1) := by decide +kernel
theorem dX2_readLength_9 : decode cX2_readLength 9 = .ok (.iconst (-1), 1) := by decide +kernel
theorem dX2_readLength_10 : decode cX2_readLength 10 = .ok (.if_icmp .ne 5, 3) := by decide +kernel
theorem dX2_readLength_13 : decode cX2_readLength 13 = .ok (.iconst (-1), 1) := by decide +kernel
theorem dX2_readLength_14 : decode cX2_readLength 14 = .ok (.ireturn, 1) := by decide +kernel
theorem dX2_readLength_15 : decode cX2_readLength 15 = .ok (.iload_n 2, 1) := by decide +kernel
theorem dX2_readLength_16 : decode cX2_readLength 16 = .ok (.aload_n 0, 1) := by decide +kernel
theorem dX2_readLength_17 : decode cX2_readLength 17 = .ok (.getfield 15, 3) := by decide +kernel
theorem dX2_readLength_20 : decode cX2_readLength 20 = .ok (.getfield 109, 3) := by decide +kernel
theorem dX2_readLength_23 : decode cX2_readLength 23 = .ok (.iload_n 1, 1) := by decide +kernel
theorem dX2_readLength_24 : decode cX2_readLength 24 = .ok (.isub, 1) := by decide +kernel
theorem dX2_readLength_25 : decode cX2_readLength 25 = .ok (.if_icmp .le 11, 3) := by decide +kernel
theorem dX2_readLength_28 : decode cX2_readLength 28 = .ok (.aload_n 0, 1) := by decide +kernel
theorem dX2_readLength_29 : decode cX2_readLength 29 = .ok (.iconst 4, 1) := by decide +kernel
theorem dX2_readLength_30 : decode cX2_readLength 30 = .ok (.invokevirtual 70, 3) := by decide +kernel
theorem dX2_readLength_33 : decode cX2_readLength 33 = .ok (.pop, 1) := by decide +kernel
theorem dX2_readLength_34 : decode cX2_readLength 34 = .ok (.iconst (-1), 1) := by decide +kernel
theorem dX2_readLength_35 : decode cX2_readLength 35 = .ok (.ireturn, 1) := by decide +kernel
theorem dX2_readLength_36 : decode cX2_readLength 36 = .ok (.aload_n 0, 1) := by decide +kernel
theorem dX2_readLength_37 : decode cX2_readLength 37 = .ok (.invokevirtual 38, 3) := by decide +kernel
theorem dX2_readLength_40 : decode cX2_readLength 40 = .ok (.iload_n 2, 1) := by decide +kernel
theorem dX2_readLength_41 : decode cX2_readLength 41 = .ok (.ireturn, 1) := by decide +kernel
def w_X2_readLength (a1 : Int32) (v : V3) (Q : Int32 → V3 → Prop) : Prop := w_X2_checkNumber 1 1000000 v (fun r2 v1 => ((¬ r2 = (-1) → ((r2 ≤ ((v1 75 5) - a1) → w_X2_advance v1 (fun v5 => Q r2 v5)) ∧ (¬ r2 ≤ ((v1 75 5) - a1) → w_X2_fail 4 v1 (fun r7 v6 => Q (-1) v6)))) ∧ (r2 = (-1) → Q (-1) v1)))
set_option maxRecDepth 100000 in
set_option maxHeartbeats 4000000 in
theorem k_X2_readLength (l : Launch) {G : zG} (hg : 129 ≤ gn G) {a1 : Int32}  {v : V3} {Q : Int32 → V3 → Prop} (hw : w_X2_readLength a1 v Q) : Mz l yX2_readLength cX2_readLength 3 (some .int) 3 64 G [.ref (gad G 6), .int a1] v (QiZ G Q) := by
  rw [w_X2_readLength] at hw
  refine z_ofW hg (by decide) (Nat.le_of_ble_eq_true rfl) ?_
  intro p e s m args below meth c ls C0 Z hl
  have hx := C0.1
  have hb := C0.2.1
  replace hl : lv_has ls 3 [(0, .ref (gad G 6)), (1, .int a1)] := hl
  generalize s.heap = H at Z ⊢
  generalize ([] : List Loc) = locs at Z ⊢
  refine lv_aload_n hx hb dX2_readLength_0 rfl (lv_at hl 0 rfl) ?_
  refine lv_iconst (v := 1) hx hb dX2_readLength_1 (by decide) ?_
  refine lv_ldc hx hb (cx_own C0) (cx_w C0 tm_1_222) dX2_readLength_2 ?_
  refine z_callVi C0 Z hl.1 (As := [.int 1, .int 1000000]) (rest := []) (k_X2_checkNumber l (cx_g C0) hw) (gv_X2_checkNumber tm_2_48) rfl ds_X2_checkNumber ⟨Nat.le_of_ble_eq_true rfl, Nat.le_of_ble_eq_true rfl⟩ (ci := 2) rfl (cx_lt C0 (by decide)) rfl rfl rfl (Nat.le_of_ble_eq_true rfl) ⟨Nat.le_of_ble_eq_true rfl, Nat.le_of_ble_eq_true rfl⟩ dX2_readLength_4 (fun r2 v1 H locs hw Z => ?_)
  refine lv_istore_n (lv' := [(2, .int r2), (0, .ref (gad G 6)), (1, .int a1)]) hx hb dX2_readLength_7 rfl hl (by decide) rfl (fun ls hl => ?_)
  refine lv_iload_n hx hb dX2_readLength_8 rfl (lv_at hl 0 rfl) ?_
  refine lv_iconst (v := (-1)) hx hb dX2_readLength_9 (by decide) ?_
  refine lv_icmp_ne (tgt := 15) hx hb dX2_readLength_10 (by decide) (fun c3 => ?_) (fun c3 => ?_)
  · replace hw := hw.1 c3
    refine lv_iload_n hx hb dX2_readLength_15 rfl (lv_at hl 0 rfl) ?_
    refine lv_aload_n hx hb dX2_readLength_16 rfl (lv_at hl 1 rfl) ?_
    refine z_get C0 Z in_X2 rfl 1 (by decide) rfl tm_1_121 (cx_lt C0 (by decide)) rfl rfl dX2_readLength_17 ?_
    refine z_get C0 Z in_X1 rfl 5 (by decide) rfl tm_1_56 (isL_lt0 (isL75 (cx_g C0))) (ent_L (isL75 (cx_g C0))) rfl dX2_readLength_20 ?_
    refine lv_iload_n hx hb dX2_readLength_23 rfl (lv_at hl 2 rfl) ?_
    refine lv_isub hx hb dX2_readLength_24 ?_
    refine lv_icmp_le (tgt := 36) hx hb dX2_readLength_25 (by decide) (fun c4 => ?_) (fun c4 => ?_)
    · replace hw := hw.1 c4
      refine lv_aload_n hx hb dX2_readLength_36 rfl (lv_at hl 1 rfl) ?_
      refine z_callVv C0 Z hl.1 (As := []) (rest := []) (k_X2_advance l (cx_g C0) hw) (gv_X2_advance tm_1_204) rfl ds_X2_advance ⟨Nat.le_of_ble_eq_true rfl, Nat.le_of_ble_eq_true rfl⟩ (ci := 2) rfl (cx_lt C0 (by decide)) rfl rfl rfl (Nat.le_of_ble_eq_true rfl) ⟨Nat.le_of_ble_eq_true rfl, Nat.le_of_ble_eq_true rfl⟩ dX2_readLength_37 (fun v5 H locs hw Z => ?_)
      refine lv_iload_n hx hb dX2_readLength_40 rfl (lv_at hl 0 rfl) ?_
      exact z_iret C0 Z hw dX2_readLength_41
    · replace hw := hw.2 c4
      refine lv_aload_n hx hb dX2_readLength_28 rfl (lv_at hl 1 rfl) ?_
      refine lv_iconst (v := 4) hx hb dX2_readLength_29 (by decide) ?_
      refine z_callVi C0 Z hl.1 (As := [.int 4]) (rest := []) (k_X2_fail l (cx_g C0) hw) (gv_X2_fail tm_2_40) rfl ds_X2_fail ⟨Nat.le_of_ble_eq_true rfl, Nat.le_of_ble_eq_true rfl⟩ (ci := 2) rfl (cx_lt C0 (by decide)) rfl rfl rfl (Nat.le_of_ble_eq_true rfl) ⟨Nat.le_of_ble_eq_true rfl, Nat.le_of_ble_eq_true rfl⟩ dX2_readLength_30 (fun r7 v6 H locs hw Z => ?_)
      refine lv_pop hx hb dX2_readLength_33 rfl ?_
      refine lv_iconst (v := (-1)) hx hb dX2_readLength_34 (by decide) ?_
      exact z_iret C0 Z hw dX2_readLength_35
  · replace hw := hw.2 c3
    refine lv_iconst (v := (-1)) hx hb dX2_readLength_13 (by decide) ?_
    exact z_iret C0 Z hw dX2_readLength_14
-- X2_readOption: room (5, 145)
theorem dX2_readOption_0 : decode cX2_readOption 0 = .ok (.aload_n 0, 1) := by decide +kernel
theorem dX2_readOption_1 : decode cX2_readOption 1 = .ok (.aload_n 1, 1) := by decide +kernel
theorem dX2_readOption_2 : decode cX2_readOption 2 = .ok (.invokevirtual 53, 3) := by decide +kernel
theorem dX2_readOption_5 : decode cX2_readOption 5 = .ok (.ifCond .ne 6, 3) := by decide +kernel
theorem dX2_readOption_8 : decode cX2_readOption 8 = .ok (.iload 4, 2) := by decide +kernel
theorem dX2_readOption_10 : decode cX2_readOption 10 = .ok (.ireturn, 1) := by decide +kernel
theorem dX2_readOption_11 : decode cX2_readOption 11 = .ok (.aload_n 0, 1) := by decide +kernel
theorem dX2_readOption_12 : decode cX2_readOption 12 = .ok (.invokevirtual 38, 3) := by decide +kernel
theorem dX2_readOption_15 : decode cX2_readOption 15 = .ok (.aload_n 0, 1) := by decide +kernel
theorem dX2_readOption_16 : decode cX2_readOption 16 = .ok (.iload_n 2, 1) := by decide +kernel
theorem dX2_readOption_17 : decode cX2_readOption 17 = .ok (.iload_n 3, 1) := by decide +kernel
theorem dX2_readOption_18 : decode cX2_readOption 18 = .ok (.invokevirtual 76, 3) := by decide +kernel
theorem dX2_readOption_21 : decode cX2_readOption 21 = .ok (.ireturn, 1) := by decide +kernel
def w_X2_readOption (a1 : Nat) (a2 : Int32) (a3 : Int32) (a4 : Int32) (v : V3) (Q : Int32 → V3 → Prop) : Prop := w_X2_isWord a1 v (fun r2 v1 => ((¬ r2 = 0 → w_X2_advance v1 (fun v4 => w_X2_readNumber a2 a3 v4 (fun r6 v5 => Q r6 v5))) ∧ (r2 = 0 → Q a4 v1)))
set_option maxRecDepth 100000 in
set_option maxHeartbeats 4000000 in
theorem k_X2_readOption (l : Launch) {G : zG} (hg : 129 ≤ gn G) {a1 : Nat} {a2 : Int32} {a3 : Int32} {a4 : Int32} (hSa1 : a1 < zsn) {v : V3} {Q : Int32 → V3 → Prop} (hw : w_X2_readOption a1 a2 a3 a4 v Q) : Mz l yX2_readOption cX2_readOption 5 (some .int) 5 145 G [.ref (gad G 6), .ref (zst G a1), .int a2, .int a3, .int a4] v (QiZ G Q) := by
  rw [w_X2_readOption] at hw
  refine z_ofW hg (by decide) (Nat.le_of_ble_eq_true rfl) ?_
  intro p e s m args below meth c ls C0 Z hl
  have hx := C0.1
  have hb := C0.2.1
  replace hl : lv_has ls 5 [(0, .ref (gad G 6)), (1, .ref (zst G a1)), (2, .int a2), (3, .int a3), (4, .int a4)] := hl
  generalize s.heap = H at Z ⊢
  generalize ([] : List Loc) = locs at Z ⊢
  refine lv_aload_n hx hb dX2_readOption_0 rfl (lv_at hl 0 rfl) ?_
  refine lv_aload_n hx hb dX2_readOption_1 rfl (lv_at hl 1 rfl) ?_
  refine z_callVi C0 Z hl.1 (As := [.ref (zst G a1)]) (rest := []) (k_X2_isWord l (cx_g C0) hSa1 hw) (gv_X2_isWord tm_1_228) rfl ds_X2_isWord ⟨Nat.le_of_ble_eq_true rfl, Nat.le_of_ble_eq_true rfl⟩ (ci := 2) rfl (cx_lt C0 (by decide)) rfl rfl rfl (Nat.le_of_ble_eq_true rfl) ⟨Nat.le_of_ble_eq_true rfl, Nat.le_of_ble_eq_true rfl⟩ dX2_readOption_2 (fun r2 v1 H locs hw Z => ?_)
  refine lv_if_ne (tgt := 11) hx hb dX2_readOption_5 (by decide) (fun c3 => ?_) (fun c3 => ?_)
  · replace hw := hw.1 c3
    refine lv_aload_n hx hb dX2_readOption_11 rfl (lv_at hl 0 rfl) ?_
    refine z_callVv C0 Z hl.1 (As := []) (rest := []) (k_X2_advance l (cx_g C0) hw) (gv_X2_advance tm_1_204) rfl ds_X2_advance ⟨Nat.le_of_ble_eq_true rfl, Nat.le_of_ble_eq_true rfl⟩ (ci := 2) rfl (cx_lt C0 (by decide)) rfl rfl rfl (Nat.le_of_ble_eq_true rfl) ⟨Nat.le_of_ble_eq_true rfl, Nat.le_of_ble_eq_true rfl⟩ dX2_readOption_12 (fun v4 H locs hw Z => ?_)
    refine lv_aload_n hx hb dX2_readOption_15 rfl (lv_at hl 0 rfl) ?_
    refine lv_iload_n hx hb dX2_readOption_16 rfl (lv_at hl 2 rfl) ?_
    refine lv_iload_n hx hb dX2_readOption_17 rfl (lv_at hl 3 rfl) ?_
    refine z_callVi C0 Z hl.1 (As := [.int a2, .int a3]) (rest := []) (k_X2_readNumber l (cx_g C0) hw) (gv_X2_readNumber tm_2_44) rfl ds_X2_readNumber ⟨Nat.le_of_ble_eq_true rfl, Nat.le_of_ble_eq_true rfl⟩ (ci := 2) rfl (cx_lt C0 (by decide)) rfl rfl rfl (Nat.le_of_ble_eq_true rfl) ⟨Nat.le_of_ble_eq_true rfl, Nat.le_of_ble_eq_true rfl⟩ dX2_readOption_18 (fun r6 v5 H locs hw Z => ?_)
    exact z_iret C0 Z hw dX2_readOption_21
  · replace hw := hw.2 c3
    refine lv_iload hx hb dX2_readOption_8 (lv_at hl 4 rfl) ?_
    exact z_iret C0 Z hw dX2_readOption_10
-- X2_readBook: room (6, 169)
theorem dX2_readBook_0 : decode cX2_readBook 0 = .ok (.aload_n 0, 1) := by decide +kernel
theorem dX2_readBook_1 : decode cX2_readBook 1 = .ok (.getfield 15, 3) := by decide +kernel
theorem dX2_readBook_4 : decode cX2_readBook 4 = .ok (.getfield 102, 3) := by decide +kernel
theorem dX2_readBook_7 : decode cX2_readBook 7 = .ok (.bipush 40, 2) := by decide +kernel
theorem dX2_readBook_9 : decode cX2_readBook 9 = .ok (.if_icmp .lt 9, 3) := by decide +kernel
theorem dX2_readBook_12 : decode cX2_readBook 12 = .ok (.aload_n 0, 1) := by decide +kernel
theorem dX2_readBook_13 : decode cX2_readBook 13 = .ok (.iconst 3, 1) := by decide +kernel
theorem dX2_readBook_14 : decode cX2_readBook 14 = .ok (.invokevirtual 70, 3) := by decide +kernel
theorem dX2_readBook_17 : decode cX2_readBook 17 = .ok (.ireturn, 1) := by decide +kernel
theorem dX2_readBook_18 : decode cX2_readBook 18 = .ok (.aload_n 0, 1) := by decide +kernel
theorem dX2_readBook_19 : decode cX2_readBook 19 = .ok (.invokevirtual 38, 3) := by decide +kernel
theorem dX2_readBook_22 : decode cX2_readBook 22 = .ok (.aload_n 0, 1) := by decide +kernel
theorem dX2_readBook_23 : decode cX2_readBook 23 = .ok (.invokevirtual 105, 3) := by decide +kernel
theorem dX2_readBook_26 : decode cX2_readBook 26 = .ok (.istore_n 1, 1) := by decide +kernel
theorem dX2_readBook_27 : decode cX2_readBook 27 = .ok (.iload_n 1, 1) := by decide +kernel
theorem dX2_readBook_28 : decode cX2_readBook 28 = .ok (.iconst (-1), 1) := by decide +kernel
theorem dX2_readBook_29 : decode cX2_readBook 29 = .ok (.if_icmp .ne 7, 3) := by decide +kernel
theorem dX2_readBook_32 : decode cX2_readBook 32 = .ok (.iconst (-1), 1) := by decide +kernel
theorem dX2_readBook_33 : decode cX2_readBook 33 = .ok (.goto 17, 3) := by decide +kernel
theorem dX2_readBook_36 : decode cX2_readBook 36 = .ok (.aload_n 0, 1) := by decide +kernel
theorem dX2_readBook_37 : decode cX2_readBook 37 = .ok (.iconst 0, 1) := by decide +kernel
theorem dX2_readBook_38 : decode cX2_readBook 38 = .ok (.aload_n 0, 1) := by decide +kernel
theorem dX2_readBook_39 : decode cX2_readBook 39 = .ok (.getfield 15, 3) := by decide +kernel
theorem dX2_readBook_42 : decode cX2_readBook 42 = .ok (.getfield 109, 3) := by decide +kernel
theorem dX2_readBook_45 : decode cX2_readBook 45 = .ok (.iconst 1, 1) := by decide +kernel
theorem dX2_readBook_46 : decode cX2_readBook 46 = .ok (.isub, 1) := by decide +kernel
theorem dX2_readBook_47 : decode cX2_readBook 47 = .ok (.invokevirtual 76, 3) := by decide +kernel
theorem dX2_readBook_50 : decode cX2_readBook 50 = .ok (.istore_n 2, 1) := by decide +kernel
theorem dX2_readBook_51 : decode cX2_readBook 51 = .ok (.iload_n 2, 1) := by decide +kernel
theorem dX2_readBook_52 : decode cX2_readBook 52 = .ok (.iconst (-1), 1) := by decide +kernel
theorem dX2_readBook_53 : decode cX2_readBook 53 = .ok (.if_icmp .ne 7, 3) := by decide +kernel
theorem dX2_readBook_56 : decode cX2_readBook 56 = .ok (.iconst (-1), 1) := by decide +kernel
theorem dX2_readBook_57 : decode cX2_readBook 57 = .ok (.goto 8, 3) := by decide +kernel
theorem dX2_readBook_60 : decode cX2_readBook 60 = .ok (.aload_n 0, 1) := by decide +kernel
theorem dX2_readBook_61 : decode cX2_readBook 61 = .ok (.iload_n 2, 1) := by decide +kernel
theorem dX2_readBook_62 : decode cX2_readBook 62 = .ok (.invokevirtual 111, 3) := by decide +kernel
theorem dX2_readBook_65 : decode cX2_readBook 65 = .ok (.istore_n 3, 1) := by decide +kernel
theorem dX2_readBook_66 : decode cX2_readBook 66 = .ok (.iload_n 3, 1) := by decide +kernel
theorem dX2_readBook_67 : decode cX2_readBook 67 = .ok (.iconst (-1), 1) := by decide +kernel
theorem dX2_readBook_68 : decode cX2_readBook 68 = .ok (.if_icmp .ne 7, 3) := by decide +kernel
theorem dX2_readBook_71 : decode cX2_readBook 71 = .ok (.iconst (-1), 1) := by decide +kernel
theorem dX2_readBook_72 : decode cX2_readBook 72 = .ok (.goto 10, 3) := by decide +kernel
theorem dX2_readBook_75 : decode cX2_readBook 75 = .ok (.aload_n 0, 1) := by decide +kernel
theorem dX2_readBook_76 : decode cX2_readBook 76 = .ok (.iconst 1, 1) := by decide +kernel
theorem dX2_readBook_77 : decode cX2_readBook 77 = .ok (.bipush 99, 2) := by decide +kernel
theorem dX2_readBook_79 : decode cX2_readBook 79 = .ok (.invokevirtual 76, 3) := by decide +kernel
theorem dX2_readBook_82 : decode cX2_readBook 82 = .ok (.istore 4, 2) := by decide +kernel
theorem dX2_readBook_84 : decode cX2_readBook 84 = .ok (.iload 4, 2) := by decide +kernel
theorem dX2_readBook_86 : decode cX2_readBook 86 = .ok (.iconst (-1), 1) := by decide +kernel
theorem dX2_readBook_87 : decode cX2_readBook 87 = .ok (.if_icmp .ne 7, 3) := by decide +kernel
theorem dX2_readBook_90 : decode cX2_readBook 90 = .ok (.iconst (-1), 1) := by decide +kernel
theorem dX2_readBook_91 : decode cX2_readBook 91 = .ok (.goto 11, 3) := by decide +kernel
theorem dX2_readBook_94 : decode cX2_readBook 94 = .ok (.aload_n 0, 1) := by decide +kernel
theorem dX2_readBook_95 : decode cX2_readBook 95 = .ok (.iconst 0, 1) := by decide +kernel
theorem dX2_readBook_96 : decode cX2_readBook 96 = .ok (.sipush 9999, 3) := by decide +kernel
theorem dX2_readBook_99 : decode cX2_readBook 99 = .ok (.invokevirtual 76, 3) := by decide +kernel
theorem dX2_readBook_102 : decode cX2_readBook 102 = .ok (.istore 5, 2) := by decide +kernel
theorem dX2_readBook_104 : decode cX2_readBook 104 = .ok (.iload 5, 2) := by decide +kernel
theorem dX2_readBook_106 : decode cX2_readBook 106 = .ok (.iconst (-1), 1) := by decide +kernel
theorem dX2_readBook_107 : decode cX2_readBook 107 = .ok (.if_icmp .ne 7, 3) := by decide +kernel
theorem dX2_readBook_110 : decode cX2_readBook 110 = .ok (.iconst (-1), 1) := by decide +kernel
theorem dX2_readBook_111 : decode cX2_readBook 111 = .ok (.goto 13, 3) := by decide +kernel
theorem dX2_readBook_114 : decode cX2_readBook 114 = .ok (.aload_n 0, 1) := by decide +kernel
theorem dX2_readBook_115 : decode cX2_readBook 115 = .ok (.ldc 114, 2) := by decide +kernel
theorem dX2_readBook_117 : decode cX2_readBook 117 = .ok (.iconst 0, 1) := by decide +kernel
theorem dX2_readBook_118 : decode cX2_readBook 118 = .ok (.bipush 99, 2) := by decide +kernel
theorem dX2_readBook_120 : decode cX2_readBook 120 = .ok (.iconst 0, 1) := by decide +kernel
theorem dX2_readBook_121 : decode cX2_readBook 121 = .ok (.invokevirtual 116, 3) := by decide +kernel
theorem dX2_readBook_124 : decode cX2_readBook 124 = .ok (.istore 6, 2) := by decide +kernel
theorem dX2_readBook_126 : decode cX2_readBook 126 = .ok (.iload 6, 2) := by decide +kernel
theorem dX2_readBook_128 : decode cX2_readBook 128 = .ok (.iconst (-1), 1) := by decide +kernel
theorem dX2_readBook_129 : decode cX2_readBook 129 = .ok (.if_icmp .ne 7, 3) := by decide +kernel
theorem dX2_readBook_132 : decode cX2_readBook 132 = .ok (.iconst (-1), 1) := by decide +kernel
theorem dX2_readBook_133 : decode cX2_readBook 133 = .ok (.goto 13, 3) := by decide +kernel
theorem dX2_readBook_136 : decode cX2_readBook 136 = .ok (.aload_n 0, 1) := by decide +kernel
theorem dX2_readBook_137 : decode cX2_readBook 137 = .ok (.ldc 120, 2) := by decide +kernel
theorem dX2_readBook_139 : decode cX2_readBook 139 = .ok (.iconst 1, 1) := by decide +kernel
theorem dX2_readBook_140 : decode cX2_readBook 140 = .ok (.bipush 9, 2) := by decide +kernel
theorem dX2_readBook_142 : decode cX2_readBook 142 = .ok (.iconst 1, 1) := by decide +kernel
theorem dX2_readBook_143 : decode cX2_readBook 143 = .ok (.invokevirtual 116, 3) := by decide +kernel
theorem dX2_readBook_146 : decode cX2_readBook 146 = .ok (.istore 7, 2) := by decide +kernel
theorem dX2_readBook_148 : decode cX2_readBook 148 = .ok (.iload 7, 2) := by decide +kernel
theorem dX2_readBook_150 : decode cX2_readBook 150 = .ok (.iconst (-1), 1) := by decide +kernel
theorem dX2_readBook_151 : decode cX2_readBook 151 = .ok (.if_icmp .ne 5, 3) := by decide +kernel
theorem dX2_readBook_154 : decode cX2_readBook 154 = .ok (.iconst 0, 1) := by decide +kernel
theorem dX2_readBook_155 : decode cX2_readBook 155 = .ok (.ireturn, 1) := by decide +kernel
theorem dX2_readBook_156 : decode cX2_readBook 156 = .ok (.aload_n 0, 1) := by decide +kernel
theorem dX2_readBook_157 : decode cX2_readBook 157 = .ok (.getfield 15, 3) := by decide +kernel
theorem dX2_readBook_160 : decode cX2_readBook 160 = .ok (.iload_n 1, 1) := by decide +kernel
theorem dX2_readBook_161 : decode cX2_readBook 161 = .ok (.iload_n 2, 1) := by decide +kernel
theorem dX2_readBook_162 : decode cX2_readBook 162 = .ok (.iload_n 3, 1) := by decide +kernel
theorem dX2_readBook_163 : decode cX2_readBook 163 = .ok (.iload 4, 2) := by decide +kernel
theorem dX2_readBook_165 : decode cX2_readBook 165 = .ok (.iload 5, 2) := by decide +kernel
theorem dX2_readBook_167 : decode cX2_readBook 167 = .ok (.iload 6, 2) := by decide +kernel
theorem dX2_readBook_169 : decode cX2_readBook 169 = .ok (.iload 7, 2) := by decide +kernel
theorem dX2_readBook_171 : decode cX2_readBook 171 = .ok (.invokevirtual 122, 3) := by decide +kernel
theorem dX2_readBook_174 : decode cX2_readBook 174 = .ok (.pop, 1) := by decide +kernel
theorem dX2_readBook_175 : decode cX2_readBook 175 = .ok (.iconst 1, 1) := by decide +kernel
theorem dX2_readBook_176 : decode cX2_readBook 176 = .ok (.ireturn, 1) := by decide +kernel
def w_X2_readBook_146  (Q : Int32 → V3 → Prop) (x1 : Int32) (x2 : Int32) (x3 : Int32) (x4 : Int32) (x5 : Int32) (x6 : Int32) (s0 : Int32) (v : V3) : Prop := ((¬ s0 = (-1) → w_X1_enterBooking 75 x1 x2 x3 x4 x5 x6 s0 v (fun r25 v24 => Q 1 v24)) ∧ (s0 = (-1) → Q 0 v))
def w_X2_readBook_124  (Q : Int32 → V3 → Prop) (x1 : Int32) (x2 : Int32) (x3 : Int32) (x4 : Int32) (x5 : Int32) (s0 : Int32) (v : V3) : Prop := ((¬ s0 = (-1) → w_X2_readOption 5 1 9 1 v (fun r22 v21 => w_X2_readBook_146 Q x1 x2 x3 x4 x5 s0 r22 v21)) ∧ (s0 = (-1) → w_X2_readBook_146 Q x1 x2 x3 x4 x5 s0 (-1) v))
def w_X2_readBook_102  (Q : Int32 → V3 → Prop) (x1 : Int32) (x2 : Int32) (x3 : Int32) (x4 : Int32) (s0 : Int32) (v : V3) : Prop := ((¬ s0 = (-1) → w_X2_readOption 4 0 99 0 v (fun r19 v18 => w_X2_readBook_124 Q x1 x2 x3 x4 s0 r19 v18)) ∧ (s0 = (-1) → w_X2_readBook_124 Q x1 x2 x3 x4 s0 (-1) v))
def w_X2_readBook_82  (Q : Int32 → V3 → Prop) (x1 : Int32) (x2 : Int32) (x3 : Int32) (s0 : Int32) (v : V3) : Prop := ((¬ s0 = (-1) → w_X2_readNumber 0 9999 v (fun r16 v15 => w_X2_readBook_102 Q x1 x2 x3 s0 r16 v15)) ∧ (s0 = (-1) → w_X2_readBook_102 Q x1 x2 x3 s0 (-1) v))
def w_X2_readBook_65  (Q : Int32 → V3 → Prop) (x1 : Int32) (x2 : Int32) (s0 : Int32) (v : V3) : Prop := ((¬ s0 = (-1) → w_X2_readNumber 1 99 v (fun r13 v12 => w_X2_readBook_82 Q x1 x2 s0 r13 v12)) ∧ (s0 = (-1) → w_X2_readBook_82 Q x1 x2 s0 (-1) v))
def w_X2_readBook_50  (Q : Int32 → V3 → Prop) (x1 : Int32) (s0 : Int32) (v : V3) : Prop := ((¬ s0 = (-1) → w_X2_readLength s0 v (fun r10 v9 => w_X2_readBook_65 Q x1 s0 r10 v9)) ∧ (s0 = (-1) → w_X2_readBook_65 Q x1 s0 (-1) v))
def w_X2_readBook  (v : V3) (Q : Int32 → V3 → Prop) : Prop := (((v 75 8) < 40 → w_X2_advance v (fun v2 => w_X2_readBookingOwner v2 (fun r4 v3 => ((¬ r4 = (-1) → w_X2_readNumber 0 ((v3 75 5) - 1) v3 (fun r7 v6 => w_X2_readBook_50 Q r4 r7 v6)) ∧ (r4 = (-1) → w_X2_readBook_50 Q r4 (-1) v3))))) ∧ (¬ (v 75 8) < 40 → w_X2_fail 3 v (fun r27 v26 => (r27 = 0 ∨ r27 = 1) ∧ Q r27 v26)))
set_option maxRecDepth 100000 in
set_option maxHeartbeats 4000000 in
theorem b_X2_readBook_146 {p : Program} (l : Launch) {e : Env} {s : State} {m : MethodId} {args : Array Value} {below : List Frame} {meth : Method} {c : Code} {G : zG}   (C0 : Cx G RX2 cX2_readBook 8 (some .boolean) p s m args meth c) {Q : Int32 → V3 → Prop} : ∀ (x1 : Int32) (x2 : Int32) (x3 : Int32) (x4 : Int32) (x5 : Int32) (x6 : Int32) (s0 : Int32) (v : V3) (H : Heap) (locs : List Loc) (ls : Array Slot), w_X2_readBook_146 Q x1 x2 x3 x4 x5 x6 s0 v → Zs G s v H locs → lv_has ls 8 [(0, .ref (gad G 6)), (1, .int x1), (2, .int x2), (3, .int x3), (4, .int x4), (5, .int x5), (6, .int x6)] → W p l e { frames := 6, cells := 0, slots := 0, locals := 169 } s m args below meth c H locs 0 0 (MQ below (QiZ G Q) args s 0 0 (zA G)) (F0 m 146 ls [.int s0]) := by
  have hx := C0.1
  have hb := C0.2.1
  intro x1 x2 x3 x4 x5 x6 s0 v H locs ls hw Z hl
  rw [w_X2_readBook_146] at hw
  refine lv_istore (lv' := [(7, .int s0), (0, .ref (gad G 6)), (1, .int x1), (2, .int x2), (3, .int x3), (4, .int x4), (5, .int x5), (6, .int x6)]) hx hb dX2_readBook_146 hl (by decide) rfl (fun ls hl => ?_)
  refine lv_iload hx hb dX2_readBook_148 (lv_at hl 0 rfl) ?_
  refine lv_iconst (v := (-1)) hx hb dX2_readBook_150 (by decide) ?_
  refine lv_icmp_ne (tgt := 156) hx hb dX2_readBook_151 (by decide) (fun c23 => ?_) (fun c23 => ?_)
  · replace hw := hw.1 c23
    refine lv_aload_n hx hb dX2_readBook_156 rfl (lv_at hl 1 rfl) ?_
    refine z_get C0 Z in_X2 rfl 1 (by decide) rfl tm_1_121 (cx_lt C0 (by decide)) rfl rfl dX2_readBook_157 ?_
    refine lv_iload_n hx hb dX2_readBook_160 rfl (lv_at hl 2 rfl) ?_
    refine lv_iload_n hx hb dX2_readBook_161 rfl (lv_at hl 3 rfl) ?_
    refine lv_iload_n hx hb dX2_readBook_162 rfl (lv_at hl 4 rfl) ?_
    refine lv_iload hx hb dX2_readBook_163 (lv_at hl 5 rfl) ?_
    refine lv_iload hx hb dX2_readBook_165 (lv_at hl 6 rfl) ?_
    refine lv_iload hx hb dX2_readBook_167 (lv_at hl 7 rfl) ?_
    refine lv_iload hx hb dX2_readBook_169 (lv_at hl 0 rfl) ?_
    refine z_callVi C0 Z hl.1 (As := [.int x1, .int x2, .int x3, .int x4, .int x5, .int x6, .int s0]) (rest := []) (k_X1_enterBooking l (cx_g C0) (isL75 (cx_g C0)) hw) (gv_X1_enterBooking tm_2_97) rfl ds_X1_enterBooking ⟨Nat.le_of_ble_eq_true rfl, Nat.le_of_ble_eq_true rfl⟩ (ci := 1) rfl (isL_lt0 (isL75 (cx_g C0))) (ent_L (isL75 (cx_g C0))) rfl rfl (Nat.le_of_ble_eq_true rfl) ⟨Nat.le_of_ble_eq_true rfl, Nat.le_of_ble_eq_true rfl⟩ dX2_readBook_171 (fun r25 v24 H locs hw Z => ?_)
    refine lv_pop hx hb dX2_readBook_174 rfl ?_
    refine lv_iconst (v := 1) hx hb dX2_readBook_175 (by decide) ?_
    exact z_zret C0 Z (by decide) hw dX2_readBook_176
  · replace hw := hw.2 c23
    refine lv_iconst (v := 0) hx hb dX2_readBook_154 (by decide) ?_
    exact z_zret C0 Z (by decide) hw dX2_readBook_155
set_option maxRecDepth 100000 in
set_option maxHeartbeats 4000000 in
theorem b_X2_readBook_124 {p : Program} (l : Launch) {e : Env} {s : State} {m : MethodId} {args : Array Value} {below : List Frame} {meth : Method} {c : Code} {G : zG}   (C0 : Cx G RX2 cX2_readBook 8 (some .boolean) p s m args meth c) {Q : Int32 → V3 → Prop} : ∀ (x1 : Int32) (x2 : Int32) (x3 : Int32) (x4 : Int32) (x5 : Int32) (s0 : Int32) (v : V3) (H : Heap) (locs : List Loc) (ls : Array Slot), w_X2_readBook_124 Q x1 x2 x3 x4 x5 s0 v → Zs G s v H locs → lv_has ls 8 [(0, .ref (gad G 6)), (1, .int x1), (2, .int x2), (3, .int x3), (4, .int x4), (5, .int x5)] → W p l e { frames := 6, cells := 0, slots := 0, locals := 169 } s m args below meth c H locs 0 0 (MQ below (QiZ G Q) args s 0 0 (zA G)) (F0 m 124 ls [.int s0]) := by
  have hx := C0.1
  have hb := C0.2.1
  intro x1 x2 x3 x4 x5 s0 v H locs ls hw Z hl
  rw [w_X2_readBook_124] at hw
  refine lv_istore (lv' := [(6, .int s0), (0, .ref (gad G 6)), (1, .int x1), (2, .int x2), (3, .int x3), (4, .int x4), (5, .int x5)]) hx hb dX2_readBook_124 hl (by decide) rfl (fun ls hl => ?_)
  refine lv_iload hx hb dX2_readBook_126 (lv_at hl 0 rfl) ?_
  refine lv_iconst (v := (-1)) hx hb dX2_readBook_128 (by decide) ?_
  refine lv_icmp_ne (tgt := 136) hx hb dX2_readBook_129 (by decide) (fun c20 => ?_) (fun c20 => ?_)
  · replace hw := hw.1 c20
    refine lv_aload_n hx hb dX2_readBook_136 rfl (lv_at hl 1 rfl) ?_
    refine z_ldcS C0 Z (i := 5) (by decide +kernel) dX2_readBook_137 ?_
    refine lv_iconst (v := 1) hx hb dX2_readBook_139 (by decide) ?_
    refine lv_bipush (v := 9) hx hb dX2_readBook_140 (by decide) ?_
    refine lv_iconst (v := 1) hx hb dX2_readBook_142 (by decide) ?_
    refine z_callVi C0 Z hl.1 (As := [.ref (zst G 5), .int 1, .int 9, .int 1]) (rest := []) (k_X2_readOption l (cx_g C0) (by decide) hw) (gv_X2_readOption tm_2_92) rfl ds_X2_readOption ⟨Nat.le_of_ble_eq_true rfl, Nat.le_of_ble_eq_true rfl⟩ (ci := 2) rfl (cx_lt C0 (by decide)) rfl rfl rfl (Nat.le_of_ble_eq_true rfl) ⟨Nat.le_of_ble_eq_true rfl, Nat.le_of_ble_eq_true rfl⟩ dX2_readBook_143 (fun r22 v21 H locs hw Z => ?_)
    exact b_X2_readBook_146 l C0 _ _ _ _ _ _ _ _ _ _ _ hw Z (lv_sub hl [1, 2, 3, 4, 5, 6, 0] rfl)
  · replace hw := hw.2 c20
    refine lv_iconst (v := (-1)) hx hb dX2_readBook_132 (by decide) ?_
    refine lv_goto (tgt := 146) hx hb dX2_readBook_133 (by decide) ?_
    exact b_X2_readBook_146 l C0 _ _ _ _ _ _ _ _ _ _ _ hw Z (lv_sub hl [1, 2, 3, 4, 5, 6, 0] rfl)
set_option maxRecDepth 100000 in
set_option maxHeartbeats 4000000 in
theorem b_X2_readBook_102 {p : Program} (l : Launch) {e : Env} {s : State} {m : MethodId} {args : Array Value} {below : List Frame} {meth : Method} {c : Code} {G : zG}   (C0 : Cx G RX2 cX2_readBook 8 (some .boolean) p s m args meth c) {Q : Int32 → V3 → Prop} : ∀ (x1 : Int32) (x2 : Int32) (x3 : Int32) (x4 : Int32) (s0 : Int32) (v : V3) (H : Heap) (locs : List Loc) (ls : Array Slot), w_X2_readBook_102 Q x1 x2 x3 x4 s0 v → Zs G s v H locs → lv_has ls 8 [(0, .ref (gad G 6)), (1, .int x1), (2, .int x2), (3, .int x3), (4, .int x4)] → W p l e { frames := 6, cells := 0, slots := 0, locals := 169 } s m args below meth c H locs 0 0 (MQ below (QiZ G Q) args s 0 0 (zA G)) (F0 m 102 ls [.int s0]) := by
  have hx := C0.1
  have hb := C0.2.1
  intro x1 x2 x3 x4 s0 v H locs ls hw Z hl
  rw [w_X2_readBook_102] at hw
  refine lv_istore (lv' := [(5, .int s0), (0, .ref (gad G 6)), (1, .int x1), (2, .int x2), (3, .int x3), (4, .int x4)]) hx hb dX2_readBook_102 hl (by decide) rfl (fun ls hl => ?_)
  refine lv_iload hx hb dX2_readBook_104 (lv_at hl 0 rfl) ?_
  refine lv_iconst (v := (-1)) hx hb dX2_readBook_106 (by decide) ?_
  refine lv_icmp_ne (tgt := 114) hx hb dX2_readBook_107 (by decide) (fun c17 => ?_) (fun c17 => ?_)
  · replace hw := hw.1 c17
    refine lv_aload_n hx hb dX2_readBook_114 rfl (lv_at hl 1 rfl) ?_
    refine z_ldcS C0 Z (i := 4) (by decide +kernel) dX2_readBook_115 ?_
    refine lv_iconst (v := 0) hx hb dX2_readBook_117 (by decide) ?_
    refine lv_bipush (v := 99) hx hb dX2_readBook_118 (by decide) ?_
    refine lv_iconst (v := 0) hx hb dX2_readBook_120 (by decide) ?_
    refine z_callVi C0 Z hl.1 (As := [.ref (zst G 4), .int 0, .int 99, .int 0]) (rest := []) (k_X2_readOption l (cx_g C0) (by decide) hw) (gv_X2_readOption tm_2_92) rfl ds_X2_readOption ⟨Nat.le_of_ble_eq_true rfl, Nat.le_of_ble_eq_true rfl⟩ (ci := 2) rfl (cx_lt C0 (by decide)) rfl rfl rfl (Nat.le_of_ble_eq_true rfl) ⟨Nat.le_of_ble_eq_true rfl, Nat.le_of_ble_eq_true rfl⟩ dX2_readBook_121 (fun r19 v18 H locs hw Z => ?_)
    exact b_X2_readBook_124 l C0 _ _ _ _ _ _ _ _ _ _ hw Z (lv_sub hl [1, 2, 3, 4, 5, 0] rfl)
  · replace hw := hw.2 c17
    refine lv_iconst (v := (-1)) hx hb dX2_readBook_110 (by decide) ?_
    refine lv_goto (tgt := 124) hx hb dX2_readBook_111 (by decide) ?_
    exact b_X2_readBook_124 l C0 _ _ _ _ _ _ _ _ _ _ hw Z (lv_sub hl [1, 2, 3, 4, 5, 0] rfl)
set_option maxRecDepth 100000 in
set_option maxHeartbeats 4000000 in
theorem b_X2_readBook_82 {p : Program} (l : Launch) {e : Env} {s : State} {m : MethodId} {args : Array Value} {below : List Frame} {meth : Method} {c : Code} {G : zG}   (C0 : Cx G RX2 cX2_readBook 8 (some .boolean) p s m args meth c) {Q : Int32 → V3 → Prop} : ∀ (x1 : Int32) (x2 : Int32) (x3 : Int32) (s0 : Int32) (v : V3) (H : Heap) (locs : List Loc) (ls : Array Slot), w_X2_readBook_82 Q x1 x2 x3 s0 v → Zs G s v H locs → lv_has ls 8 [(0, .ref (gad G 6)), (1, .int x1), (2, .int x2), (3, .int x3)] → W p l e { frames := 6, cells := 0, slots := 0, locals := 169 } s m args below meth c H locs 0 0 (MQ below (QiZ G Q) args s 0 0 (zA G)) (F0 m 82 ls [.int s0]) := by
  have hx := C0.1
  have hb := C0.2.1
  intro x1 x2 x3 s0 v H locs ls hw Z hl
  rw [w_X2_readBook_82] at hw
  refine lv_istore (lv' := [(4, .int s0), (0, .ref (gad G 6)), (1, .int x1), (2, .int x2), (3, .int x3)]) hx hb dX2_readBook_82 hl (by decide) rfl (fun ls hl => ?_)
  refine lv_iload hx hb dX2_readBook_84 (lv_at hl 0 rfl) ?_
  refine lv_iconst (v := (-1)) hx hb dX2_readBook_86 (by decide) ?_
  refine lv_icmp_ne (tgt := 94) hx hb dX2_readBook_87 (by decide) (fun c14 => ?_) (fun c14 => ?_)
  · replace hw := hw.1 c14
    refine lv_aload_n hx hb dX2_readBook_94 rfl (lv_at hl 1 rfl) ?_
    refine lv_iconst (v := 0) hx hb dX2_readBook_95 (by decide) ?_
    refine lv_sipush (v := 9999) hx hb dX2_readBook_96 (by decide) ?_
    refine z_callVi C0 Z hl.1 (As := [.int 0, .int 9999]) (rest := []) (k_X2_readNumber l (cx_g C0) hw) (gv_X2_readNumber tm_2_44) rfl ds_X2_readNumber ⟨Nat.le_of_ble_eq_true rfl, Nat.le_of_ble_eq_true rfl⟩ (ci := 2) rfl (cx_lt C0 (by decide)) rfl rfl rfl (Nat.le_of_ble_eq_true rfl) ⟨Nat.le_of_ble_eq_true rfl, Nat.le_of_ble_eq_true rfl⟩ dX2_readBook_99 (fun r16 v15 H locs hw Z => ?_)
    exact b_X2_readBook_102 l C0 _ _ _ _ _ _ _ _ _ hw Z (lv_sub hl [1, 2, 3, 4, 0] rfl)
  · replace hw := hw.2 c14
    refine lv_iconst (v := (-1)) hx hb dX2_readBook_90 (by decide) ?_
    refine lv_goto (tgt := 102) hx hb dX2_readBook_91 (by decide) ?_
    exact b_X2_readBook_102 l C0 _ _ _ _ _ _ _ _ _ hw Z (lv_sub hl [1, 2, 3, 4, 0] rfl)
set_option maxRecDepth 100000 in
set_option maxHeartbeats 4000000 in
theorem b_X2_readBook_65 {p : Program} (l : Launch) {e : Env} {s : State} {m : MethodId} {args : Array Value} {below : List Frame} {meth : Method} {c : Code} {G : zG}   (C0 : Cx G RX2 cX2_readBook 8 (some .boolean) p s m args meth c) {Q : Int32 → V3 → Prop} : ∀ (x1 : Int32) (x2 : Int32) (s0 : Int32) (v : V3) (H : Heap) (locs : List Loc) (ls : Array Slot), w_X2_readBook_65 Q x1 x2 s0 v → Zs G s v H locs → lv_has ls 8 [(0, .ref (gad G 6)), (1, .int x1), (2, .int x2)] → W p l e { frames := 6, cells := 0, slots := 0, locals := 169 } s m args below meth c H locs 0 0 (MQ below (QiZ G Q) args s 0 0 (zA G)) (F0 m 65 ls [.int s0]) := by
  have hx := C0.1
  have hb := C0.2.1
  intro x1 x2 s0 v H locs ls hw Z hl
  rw [w_X2_readBook_65] at hw
  refine lv_istore_n (lv' := [(3, .int s0), (0, .ref (gad G 6)), (1, .int x1), (2, .int x2)]) hx hb dX2_readBook_65 rfl hl (by decide) rfl (fun ls hl => ?_)
  refine lv_iload_n hx hb dX2_readBook_66 rfl (lv_at hl 0 rfl) ?_
  refine lv_iconst (v := (-1)) hx hb dX2_readBook_67 (by decide) ?_
  refine lv_icmp_ne (tgt := 75) hx hb dX2_readBook_68 (by decide) (fun c11 => ?_) (fun c11 => ?_)
  · replace hw := hw.1 c11
    refine lv_aload_n hx hb dX2_readBook_75 rfl (lv_at hl 1 rfl) ?_
    refine lv_iconst (v := 1) hx hb dX2_readBook_76 (by decide) ?_
    refine lv_bipush (v := 99) hx hb dX2_readBook_77 (by decide) ?_
    refine z_callVi C0 Z hl.1 (As := [.int 1, .int 99]) (rest := []) (k_X2_readNumber l (cx_g C0) hw) (gv_X2_readNumber tm_2_44) rfl ds_X2_readNumber ⟨Nat.le_of_ble_eq_true rfl, Nat.le_of_ble_eq_true rfl⟩ (ci := 2) rfl (cx_lt C0 (by decide)) rfl rfl rfl (Nat.le_of_ble_eq_true rfl) ⟨Nat.le_of_ble_eq_true rfl, Nat.le_of_ble_eq_true rfl⟩ dX2_readBook_79 (fun r13 v12 H locs hw Z => ?_)
    exact b_X2_readBook_82 l C0 _ _ _ _ _ _ _ _ hw Z (lv_sub hl [1, 2, 3, 0] rfl)
  · replace hw := hw.2 c11
    refine lv_iconst (v := (-1)) hx hb dX2_readBook_71 (by decide) ?_
    refine lv_goto (tgt := 82) hx hb dX2_readBook_72 (by decide) ?_
    exact b_X2_readBook_82 l C0 _ _ _ _ _ _ _ _ hw Z (lv_sub hl [1, 2, 3, 0] rfl)
set_option maxRecDepth 100000 in
set_option maxHeartbeats 4000000 in
theorem b_X2_readBook_50 {p : Program} (l : Launch) {e : Env} {s : State} {m : MethodId} {args : Array Value} {below : List Frame} {meth : Method} {c : Code} {G : zG}   (C0 : Cx G RX2 cX2_readBook 8 (some .boolean) p s m args meth c) {Q : Int32 → V3 → Prop} : ∀ (x1 : Int32) (s0 : Int32) (v : V3) (H : Heap) (locs : List Loc) (ls : Array Slot), w_X2_readBook_50 Q x1 s0 v → Zs G s v H locs → lv_has ls 8 [(0, .ref (gad G 6)), (1, .int x1)] → W p l e { frames := 6, cells := 0, slots := 0, locals := 169 } s m args below meth c H locs 0 0 (MQ below (QiZ G Q) args s 0 0 (zA G)) (F0 m 50 ls [.int s0]) := by
  have hx := C0.1
  have hb := C0.2.1
  intro x1 s0 v H locs ls hw Z hl
  rw [w_X2_readBook_50] at hw
  refine lv_istore_n (lv' := [(2, .int s0), (0, .ref (gad G 6)), (1, .int x1)]) hx hb dX2_readBook_50 rfl hl (by decide) rfl (fun ls hl => ?_)
  refine lv_iload_n hx hb dX2_readBook_51 rfl (lv_at hl 0 rfl) ?_
  refine lv_iconst (v := (-1)) hx hb dX2_readBook_52 (by decide) ?_
  refine lv_icmp_ne (tgt := 60) hx hb dX2_readBook_53 (by decide) (fun c8 => ?_) (fun c8 => ?_)
  · replace hw := hw.1 c8
    refine lv_aload_n hx hb dX2_readBook_60 rfl (lv_at hl 1 rfl) ?_
    refine lv_iload_n hx hb dX2_readBook_61 rfl (lv_at hl 0 rfl) ?_
    refine z_callVi C0 Z hl.1 (As := [.int s0]) (rest := []) (k_X2_readLength l (cx_g C0) hw) (gv_X2_readLength tm_2_87) rfl ds_X2_readLength ⟨Nat.le_of_ble_eq_true rfl, Nat.le_of_ble_eq_true rfl⟩ (ci := 2) rfl (cx_lt C0 (by decide)) rfl rfl rfl (Nat.le_of_ble_eq_true rfl) ⟨Nat.le_of_ble_eq_true rfl, Nat.le_of_ble_eq_true rfl⟩ dX2_readBook_62 (fun r10 v9 H locs hw Z => ?_)
    exact b_X2_readBook_65 l C0 _ _ _ _ _ _ _ hw Z (lv_sub hl [1, 2, 0] rfl)
  · replace hw := hw.2 c8
    refine lv_iconst (v := (-1)) hx hb dX2_readBook_56 (by decide) ?_
    refine lv_goto (tgt := 65) hx hb dX2_readBook_57 (by decide) ?_
    exact b_X2_readBook_65 l C0 _ _ _ _ _ _ _ hw Z (lv_sub hl [1, 2, 0] rfl)
set_option maxRecDepth 100000 in
set_option maxHeartbeats 4000000 in
theorem k_X2_readBook (l : Launch) {G : zG} (hg : 129 ≤ gn G)  {v : V3} {Q : Int32 → V3 → Prop} (hw : w_X2_readBook v Q) : Mz l yX2_readBook cX2_readBook 8 (some .boolean) 6 169 G [.ref (gad G 6)] v (QiZ G Q) := by
  rw [w_X2_readBook] at hw
  refine z_ofW hg (by decide) (Nat.le_of_ble_eq_true rfl) ?_
  intro p e s m args below meth c ls C0 Z hl
  have hx := C0.1
  have hb := C0.2.1
  replace hl : lv_has ls 8 [(0, .ref (gad G 6))] := hl
  generalize s.heap = H at Z ⊢
  generalize ([] : List Loc) = locs at Z ⊢
  refine lv_aload_n hx hb dX2_readBook_0 rfl (lv_at hl 0 rfl) ?_
  refine z_get C0 Z in_X2 rfl 1 (by decide) rfl tm_1_121 (cx_lt C0 (by decide)) rfl rfl dX2_readBook_1 ?_
  refine z_get C0 Z in_X1 rfl 8 (by decide) rfl tm_1_66 (isL_lt0 (isL75 (cx_g C0))) (ent_L (isL75 (cx_g C0))) rfl dX2_readBook_4 ?_
  refine lv_bipush (v := 40) hx hb dX2_readBook_7 (by decide) ?_
  refine lv_icmp_lt (tgt := 18) hx hb dX2_readBook_9 (by decide) (fun c1 => ?_) (fun c1 => ?_)
  · replace hw := hw.1 c1
    refine lv_aload_n hx hb dX2_readBook_18 rfl (lv_at hl 0 rfl) ?_
    refine z_callVv C0 Z hl.1 (As := []) (rest := []) (k_X2_advance l (cx_g C0) hw) (gv_X2_advance tm_1_204) rfl ds_X2_advance ⟨Nat.le_of_ble_eq_true rfl, Nat.le_of_ble_eq_true rfl⟩ (ci := 2) rfl (cx_lt C0 (by decide)) rfl rfl rfl (Nat.le_of_ble_eq_true rfl) ⟨Nat.le_of_ble_eq_true rfl, Nat.le_of_ble_eq_true rfl⟩ dX2_readBook_19 (fun v2 H locs hw Z => ?_)
    refine lv_aload_n hx hb dX2_readBook_22 rfl (lv_at hl 0 rfl) ?_
    refine z_callVi C0 Z hl.1 (As := []) (rest := []) (k_X2_readBookingOwner l (cx_g C0) hw) (gv_X2_readBookingOwner tm_2_71) rfl ds_X2_readBookingOwner ⟨Nat.le_of_ble_eq_true rfl, Nat.le_of_ble_eq_true rfl⟩ (ci := 2) rfl (cx_lt C0 (by decide)) rfl rfl rfl (Nat.le_of_ble_eq_true rfl) ⟨Nat.le_of_ble_eq_true rfl, Nat.le_of_ble_eq_true rfl⟩ dX2_readBook_23 (fun r4 v3 H locs hw Z => ?_)
    refine lv_istore_n (lv' := [(1, .int r4), (0, .ref (gad G 6))]) hx hb dX2_readBook_26 rfl hl (by decide) rfl (fun ls hl => ?_)
    refine lv_iload_n hx hb dX2_readBook_27 rfl (lv_at hl 0 rfl) ?_
    refine lv_iconst (v := (-1)) hx hb dX2_readBook_28 (by decide) ?_
    refine lv_icmp_ne (tgt := 36) hx hb dX2_readBook_29 (by decide) (fun c5 => ?_) (fun c5 => ?_)
    · replace hw := hw.1 c5
      refine lv_aload_n hx hb dX2_readBook_36 rfl (lv_at hl 1 rfl) ?_
      refine lv_iconst (v := 0) hx hb dX2_readBook_37 (by decide) ?_
      refine lv_aload_n hx hb dX2_readBook_38 rfl (lv_at hl 1 rfl) ?_
      refine z_get C0 Z in_X2 rfl 1 (by decide) rfl tm_1_121 (cx_lt C0 (by decide)) rfl rfl dX2_readBook_39 ?_
      refine z_get C0 Z in_X1 rfl 5 (by decide) rfl tm_1_56 (isL_lt0 (isL75 (cx_g C0))) (ent_L (isL75 (cx_g C0))) rfl dX2_readBook_42 ?_
      refine lv_iconst (v := 1) hx hb dX2_readBook_45 (by decide) ?_
      refine lv_isub hx hb dX2_readBook_46 ?_
      refine z_callVi C0 Z hl.1 (As := [.int 0, .int ((v3 75 5) - 1)]) (rest := []) (k_X2_readNumber l (cx_g C0) hw) (gv_X2_readNumber tm_2_44) rfl ds_X2_readNumber ⟨Nat.le_of_ble_eq_true rfl, Nat.le_of_ble_eq_true rfl⟩ (ci := 2) rfl (cx_lt C0 (by decide)) rfl rfl rfl (Nat.le_of_ble_eq_true rfl) ⟨Nat.le_of_ble_eq_true rfl, Nat.le_of_ble_eq_true rfl⟩ dX2_readBook_47 (fun r7 v6 H locs hw Z => ?_)
      exact b_X2_readBook_50 l C0 _ _ _ _ _ _ hw Z (lv_sub hl [1, 0] rfl)
    · replace hw := hw.2 c5
      refine lv_iconst (v := (-1)) hx hb dX2_readBook_32 (by decide) ?_
      refine lv_goto (tgt := 50) hx hb dX2_readBook_33 (by decide) ?_
      exact b_X2_readBook_50 l C0 _ _ _ _ _ _ hw Z (lv_sub hl [1, 0] rfl)
  · replace hw := hw.2 c1
    refine lv_aload_n hx hb dX2_readBook_12 rfl (lv_at hl 0 rfl) ?_
    refine lv_iconst (v := 3) hx hb dX2_readBook_13 (by decide) ?_
    refine z_callVi C0 Z hl.1 (As := [.int 3]) (rest := []) (k_X2_fail l (cx_g C0) hw) (gv_X2_fail tm_2_40) rfl ds_X2_fail ⟨Nat.le_of_ble_eq_true rfl, Nat.le_of_ble_eq_true rfl⟩ (ci := 2) rfl (cx_lt C0 (by decide)) rfl rfl rfl (Nat.le_of_ble_eq_true rfl) ⟨Nat.le_of_ble_eq_true rfl, Nat.le_of_ble_eq_true rfl⟩ dX2_readBook_14 (fun r27 v26 H locs hw Z => ?_)
    obtain ⟨h28, hw⟩ := hw
    exact z_zret C0 Z h28 hw dX2_readBook_17
-- X2_readSetup: room (7, 196)
theorem dX2_readSetup_0 : decode cX2_readSetup 0 = .ok (.aload_n 0, 1) := by decide +kernel
theorem dX2_readSetup_1 : decode cX2_readSetup 1 = .ok (.iload_n 1, 1) := by decide +kernel
theorem dX2_readSetup_2 : decode cX2_readSetup 2 = .ok (.aload_n 0, 1) := by decide +kernel
theorem dX2_readSetup_3 : decode cX2_readSetup 3 = .ok (.getfield 9, 3) := by decide +kernel
theorem dX2_readSetup_6 : decode cX2_readSetup 6 = .ok (.arraylength, 1) := by decide +kernel
theorem dX2_readSetup_7 : decode cX2_readSetup 7 = .ok (.invokestatic 19, 3) := by decide +kernel
theorem dX2_readSetup_10 : decode cX2_readSetup 10 = .ok (.putfield 25, 3) := by decide +kernel
theorem dX2_readSetup_13 : decode cX2_readSetup 13 = .ok (.aload_n 0, 1) := by decide +kernel
theorem dX2_readSetup_14 : decode cX2_readSetup 14 = .ok (.iconst 0, 1) := by decide +kernel
theorem dX2_readSetup_15 : decode cX2_readSetup 15 = .ok (.putfield 29, 3) := by decide +kernel
theorem dX2_readSetup_18 : decode cX2_readSetup 18 = .ok (.aload_n 0, 1) := by decide +kernel
theorem dX2_readSetup_19 : decode cX2_readSetup 19 = .ok (.iconst 0, 1) := by decide +kernel
theorem dX2_readSetup_20 : decode cX2_readSetup 20 = .ok (.putfield 32, 3) := by decide +kernel
theorem dX2_readSetup_23 : decode cX2_readSetup 23 = .ok (.aload_n 0, 1) := by decide +kernel
theorem dX2_readSetup_24 : decode cX2_readSetup 24 = .ok (.iconst (-1), 1) := by decide +kernel
theorem dX2_readSetup_25 : decode cX2_readSetup 25 = .ok (.putfield 35, 3) := by decide +kernel
theorem dX2_readSetup_28 : decode cX2_readSetup 28 = .ok (.aload_n 0, 1) := by decide +kernel
theorem dX2_readSetup_29 : decode cX2_readSetup 29 = .ok (.invokevirtual 38, 3) := by decide +kernel
theorem dX2_readSetup_32 : decode cX2_readSetup 32 = .ok (.aload_n 0, 1) := by decide +kernel
theorem dX2_readSetup_33 : decode cX2_readSetup 33 = .ok (.invokevirtual 41, 3) := by decide +kernel
theorem dX2_readSetup_36 : decode cX2_readSetup 36 = .ok (.ifCond .eq 10, 3) := by decide +kernel
theorem dX2_readSetup_39 : decode cX2_readSetup 39 = .ok (.aload_n 0, 1) := by decide +kernel
theorem dX2_readSetup_40 : decode cX2_readSetup 40 = .ok (.invokevirtual 45, 3) := by decide +kernel
theorem dX2_readSetup_43 : decode cX2_readSetup 43 = .ok (.ifCond .ne 5, 3) := by decide +kernel
theorem dX2_readSetup_46 : decode cX2_readSetup 46 = .ok (.iconst 0, 1) := by decide +kernel
theorem dX2_readSetup_47 : decode cX2_readSetup 47 = .ok (.ireturn, 1) := by decide +kernel
theorem dX2_readSetup_48 : decode cX2_readSetup 48 = .ok (.aload_n 0, 1) := by decide +kernel
theorem dX2_readSetup_49 : decode cX2_readSetup 49 = .ok (.getfield 25, 3) := by decide +kernel
theorem dX2_readSetup_52 : decode cX2_readSetup 52 = .ok (.istore_n 2, 1) := by decide +kernel
theorem dX2_readSetup_53 : decode cX2_readSetup 53 = .ok (.iload_n 2, 1) := by decide +kernel
theorem dX2_readSetup_54 : decode cX2_readSetup 54 = .ok (.ifCond .le 83, 3) := by decide +kernel
theorem dX2_readSetup_57 : decode cX2_readSetup 57 = .ok (.aload_n 0, 1) := by decide +kernel
theorem dX2_readSetup_58 : decode cX2_readSetup 58 = .ok (.getfield 48, 3) := by decide +kernel
theorem dX2_readSetup_61 : decode cX2_readSetup 61 = .ok (.ifCond .eq 76, 3) := by decide +kernel
theorem dX2_readSetup_64 : decode cX2_readSetup 64 = .ok (.aload_n 0, 1) := by decide +kernel
theorem dX2_readSetup_65 : decode cX2_readSetup 65 = .ok (.ldc 51, 2) := by decide +kernel
theorem dX2_readSetup_67 : decode cX2_readSetup 67 = .ok (.invokevirtual 53, 3) := by decide +kernel
theorem dX2_readSetup_70 : decode cX2_readSetup 70 = .ok (.ifCond .eq 10, 3) := by decide +kernel
theorem dX2_readSetup_73 : decode cX2_readSetup 73 = .ok (.aload_n 0, 1) := by decide +kernel
theorem dX2_readSetup_74 : decode cX2_readSetup 74 = .ok (.invokevirtual 57, 3) := by decide +kernel
theorem dX2_readSetup_77 : decode cX2_readSetup 77 = .ok (.goto 40, 3) := by decide +kernel
theorem dX2_readSetup_80 : decode cX2_readSetup 80 = .ok (.aload_n 0, 1) := by decide +kernel
theorem dX2_readSetup_81 : decode cX2_readSetup 81 = .ok (.ldc 60, 2) := by decide +kernel
theorem dX2_readSetup_83 : decode cX2_readSetup 83 = .ok (.invokevirtual 53, 3) := by decide +kernel
theorem dX2_readSetup_86 : decode cX2_readSetup 86 = .ok (.ifCond .eq 10, 3) := by decide +kernel
theorem dX2_readSetup_89 : decode cX2_readSetup 89 = .ok (.aload_n 0, 1) := by decide +kernel
theorem dX2_readSetup_90 : decode cX2_readSetup 90 = .ok (.invokevirtual 62, 3) := by decide +kernel
theorem dX2_readSetup_93 : decode cX2_readSetup 93 = .ok (.goto 24, 3) := by decide +kernel
theorem dX2_readSetup_96 : decode cX2_readSetup 96 = .ok (.aload_n 0, 1) := by decide +kernel
theorem dX2_readSetup_97 : decode cX2_readSetup 97 = .ok (.ldc 65, 2) := by decide +kernel
theorem dX2_readSetup_99 : decode cX2_readSetup 99 = .ok (.invokevirtual 53, 3) := by decide +kernel
theorem dX2_readSetup_102 : decode cX2_readSetup 102 = .ok (.ifCond .eq 10, 3) := by decide +kernel
theorem dX2_readSetup_105 : decode cX2_readSetup 105 = .ok (.aload_n 0, 1) := by decide +kernel
theorem dX2_readSetup_106 : decode cX2_readSetup 106 = .ok (.invokevirtual 67, 3) := by decide +kernel
theorem dX2_readSetup_109 : decode cX2_readSetup 109 = .ok (.goto 8, 3) := by decide +kernel
theorem dX2_readSetup_112 : decode cX2_readSetup 112 = .ok (.aload_n 0, 1) := by decide +kernel
theorem dX2_readSetup_113 : decode cX2_readSetup 113 = .ok (.iconst 1, 1) := by decide +kernel
theorem dX2_readSetup_114 : decode cX2_readSetup 114 = .ok (.invokevirtual 70, 3) := by decide +kernel
theorem dX2_readSetup_117 : decode cX2_readSetup 117 = .ok (.istore_n 3, 1) := by decide +kernel
theorem dX2_readSetup_118 : decode cX2_readSetup 118 = .ok (.iload_n 3, 1) := by decide +kernel
theorem dX2_readSetup_119 : decode cX2_readSetup 119 = .ok (.ifCond .eq 10, 3) := by decide +kernel
theorem dX2_readSetup_122 : decode cX2_readSetup 122 = .ok (.aload_n 0, 1) := by decide +kernel
theorem dX2_readSetup_123 : decode cX2_readSetup 123 = .ok (.invokevirtual 45, 3) := by decide +kernel
theorem dX2_readSetup_126 : decode cX2_readSetup 126 = .ok (.ifCond .ne 5, 3) := by decide +kernel
theorem dX2_readSetup_129 : decode cX2_readSetup 129 = .ok (.iconst 0, 1) := by decide +kernel
theorem dX2_readSetup_130 : decode cX2_readSetup 130 = .ok (.ireturn, 1) := by decide +kernel
theorem dX2_readSetup_131 : decode cX2_readSetup 131 = .ok (.iinc 2 (-1), 3) := by decide +kernel
theorem dX2_readSetup_134 : decode cX2_readSetup 134 = .ok (.goto (-81), 3) := by decide +kernel
theorem dX2_readSetup_137 : decode cX2_readSetup 137 = .ok (.iconst 1, 1) := by decide +kernel
theorem dX2_readSetup_138 : decode cX2_readSetup 138 = .ok (.ireturn, 1) := by decide +kernel
def w_X2_readSetup_46  (Q : Int32 → V3 → Prop) (v : V3) : Prop := Q 0 v
def w_X2_readSetup_137  (Q : Int32 → V3 → Prop) (v : V3) : Prop := Q 1 v
def w_X2_readSetup_129  (Q : Int32 → V3 → Prop) (v : V3) : Prop := Q 0 v
def w_X2_readSetup_117  (Q : Int32 → V3 → Prop) (K53 : Int32 → V3 → Prop) (x2 : Int32) (s0 : Int32) (v : V3) : Prop := ((s0 = 0 → w_X2_readSetup_129 Q v) ∧ (¬ s0 = 0 → w_X2_readSemicolon v (fun r27 v26 => ((¬ r27 = 0 → K53 (x2 + (-1)) v26) ∧ (r27 = 0 → w_X2_readSetup_129 Q v26)))))
def w_X2_readSetup_53  (Q : Int32 → V3 → Prop) : Nat → Int32 → V3 → Prop
  | 0, _, _ => False
  | n53 + 1, x2, v => ((x2 ≤ 0 → w_X2_readSetup_137 Q v) ∧ (¬ x2 ≤ 0 → (((v 6 4) = 0 → w_X2_readSetup_137 Q v) ∧ (¬ (v 6 4) = 0 → w_X2_isWord 1 v (fun r15 v14 => ((r15 = 0 → w_X2_isWord 2 v14 (fun r18 v17 => ((r18 = 0 → w_X2_isWord 3 v17 (fun r21 v20 => ((r21 = 0 → w_X2_fail 1 v20 (fun r24 v23 => w_X2_readSetup_117 Q (w_X2_readSetup_53 Q n53) x2 r24 v23)) ∧ (¬ r21 = 0 → w_X2_readSetting v20 (fun r30 v29 => w_X2_readSetup_117 Q (w_X2_readSetup_53 Q n53) x2 r30 v29))))) ∧ (¬ r18 = 0 → w_X2_readBook v17 (fun r32 v31 => w_X2_readSetup_117 Q (w_X2_readSetup_53 Q n53) x2 r32 v31))))) ∧ (¬ r15 = 0 → w_X2_readOwner v14 (fun r34 v33 => w_X2_readSetup_117 Q (w_X2_readSetup_53 Q n53) x2 r34 v33))))))))
def w_X2_readSetup (a1 : Int32) (v : V3) (Q : Int32 → V3 → Prop) : Prop := ∀ v1 : V3, v1 = up2 v 6 2 (zmin a1 800) → ∀ v2 : V3, v2 = up2 v1 6 3 0 → ∀ v3 : V3, v3 = up2 v2 6 7 0 → ∀ v4 : V3, v4 = up2 v3 6 8 (-1) → w_X2_advance v4 (fun v5 => w_X2_readSize v5 (fun r7 v6 => ((r7 = 0 → w_X2_readSetup_46 Q v6) ∧ (¬ r7 = 0 → w_X2_readSemicolon v6 (fun r10 v9 => ((¬ r10 = 0 → ∃ m53 : Nat, w_X2_readSetup_53 Q m53 (v9 6 2) v9) ∧ (r10 = 0 → w_X2_readSetup_46 Q v9)))))))
set_option maxRecDepth 100000 in
set_option maxHeartbeats 4000000 in
theorem b_X2_readSetup_46 {p : Program} (l : Launch) {e : Env} {s : State} {m : MethodId} {args : Array Value} {below : List Frame} {meth : Method} {c : Code} {G : zG}   (C0 : Cx G RX2 cX2_readSetup 4 (some .boolean) p s m args meth c) {Q : Int32 → V3 → Prop} : ∀ (v : V3) (H : Heap) (locs : List Loc) (ls : Array Slot), w_X2_readSetup_46 Q v → Zs G s v H locs → lv_has ls 4 [] → W p l e { frames := 7, cells := 0, slots := 0, locals := 196 } s m args below meth c H locs 0 0 (MQ below (QiZ G Q) args s 0 0 (zA G)) (F0 m 46 ls []) := by
  have hx := C0.1
  have hb := C0.2.1
  intro v H locs ls hw Z hl
  rw [w_X2_readSetup_46] at hw
  refine lv_iconst (v := 0) hx hb dX2_readSetup_46 (by decide) ?_
  exact z_zret C0 Z (by decide) hw dX2_readSetup_47
set_option maxRecDepth 100000 in
set_option maxHeartbeats 4000000 in
theorem b_X2_readSetup_137 {p : Program} (l : Launch) {e : Env} {s : State} {m : MethodId} {args : Array Value} {below : List Frame} {meth : Method} {c : Code} {G : zG}   (C0 : Cx G RX2 cX2_readSetup 4 (some .boolean) p s m args meth c) {Q : Int32 → V3 → Prop} : ∀ (v : V3) (H : Heap) (locs : List Loc) (ls : Array Slot), w_X2_readSetup_137 Q v → Zs G s v H locs → lv_has ls 4 [] → W p l e { frames := 7, cells := 0, slots := 0, locals := 196 } s m args below meth c H locs 0 0 (MQ below (QiZ G Q) args s 0 0 (zA G)) (F0 m 137 ls []) := by
  have hx := C0.1
  have hb := C0.2.1
  intro v H locs ls hw Z hl
  rw [w_X2_readSetup_137] at hw
  refine lv_iconst (v := 1) hx hb dX2_readSetup_137 (by decide) ?_
  exact z_zret C0 Z (by decide) hw dX2_readSetup_138
set_option maxRecDepth 100000 in
set_option maxHeartbeats 4000000 in
theorem b_X2_readSetup_129 {p : Program} (l : Launch) {e : Env} {s : State} {m : MethodId} {args : Array Value} {below : List Frame} {meth : Method} {c : Code} {G : zG}   (C0 : Cx G RX2 cX2_readSetup 4 (some .boolean) p s m args meth c) {Q : Int32 → V3 → Prop} : ∀ (v : V3) (H : Heap) (locs : List Loc) (ls : Array Slot), w_X2_readSetup_129 Q v → Zs G s v H locs → lv_has ls 4 [] → W p l e { frames := 7, cells := 0, slots := 0, locals := 196 } s m args below meth c H locs 0 0 (MQ below (QiZ G Q) args s 0 0 (zA G)) (F0 m 129 ls []) := by
  have hx := C0.1
  have hb := C0.2.1
  intro v H locs ls hw Z hl
  rw [w_X2_readSetup_129] at hw
  refine lv_iconst (v := 0) hx hb dX2_readSetup_129 (by decide) ?_
  exact z_zret C0 Z (by decide) hw dX2_readSetup_130
set_option maxRecDepth 100000 in
set_option maxHeartbeats 4000000 in
theorem b_X2_readSetup_117 {p : Program} (l : Launch) {e : Env} {s : State} {m : MethodId} {args : Array Value} {below : List Frame} {meth : Method} {c : Code} {G : zG}   (C0 : Cx G RX2 cX2_readSetup 4 (some .boolean) p s m args meth c) {Q : Int32 → V3 → Prop} {K53 : Int32 → V3 → Prop} (hK53 : ∀ (x2 : Int32) (v : V3) (H : Heap) (locs : List Loc) (ls : Array Slot), K53 x2 v → Zs G s v H locs → lv_has ls 4 [(0, .ref (gad G 6)), (2, .int x2)] → W p l e { frames := 7, cells := 0, slots := 0, locals := 196 } s m args below meth c H locs 0 0 (MQ below (QiZ G Q) args s 0 0 (zA G)) (F0 m 53 ls [])) : ∀ (x2 : Int32) (s0 : Int32) (v : V3) (H : Heap) (locs : List Loc) (ls : Array Slot), w_X2_readSetup_117 Q K53 x2 s0 v → Zs G s v H locs → lv_has ls 4 [(0, .ref (gad G 6)), (2, .int x2)] → W p l e { frames := 7, cells := 0, slots := 0, locals := 196 } s m args below meth c H locs 0 0 (MQ below (QiZ G Q) args s 0 0 (zA G)) (F0 m 117 ls [.int s0]) := by
  have hx := C0.1
  have hb := C0.2.1
  intro x2 s0 v H locs ls hw Z hl
  rw [w_X2_readSetup_117] at hw
  refine lv_istore_n (lv' := [(3, .int s0), (0, .ref (gad G 6)), (2, .int x2)]) hx hb dX2_readSetup_117 rfl hl (by decide) rfl (fun ls hl => ?_)
  refine lv_iload_n hx hb dX2_readSetup_118 rfl (lv_at hl 0 rfl) ?_
  refine lv_if_eq (tgt := 129) hx hb dX2_readSetup_119 (by decide) (fun c25 => ?_) (fun c25 => ?_)
  · replace hw := hw.1 c25
    exact b_X2_readSetup_129 l C0 _ _ _ _ hw Z (lv_sub hl [] rfl)
  · replace hw := hw.2 c25
    refine lv_aload_n hx hb dX2_readSetup_122 rfl (lv_at hl 1 rfl) ?_
    refine z_callVi C0 Z hl.1 (As := []) (rest := []) (k_X2_readSemicolon l (cx_g C0) hw) (gv_X2_readSemicolon tm_2_53) rfl ds_X2_readSemicolon ⟨Nat.le_of_ble_eq_true rfl, Nat.le_of_ble_eq_true rfl⟩ (ci := 2) rfl (cx_lt C0 (by decide)) rfl rfl rfl (Nat.le_of_ble_eq_true rfl) ⟨Nat.le_of_ble_eq_true rfl, Nat.le_of_ble_eq_true rfl⟩ dX2_readSetup_123 (fun r27 v26 H locs hw Z => ?_)
    refine lv_if_ne (tgt := 131) hx hb dX2_readSetup_126 (by decide) (fun c28 => ?_) (fun c28 => ?_)
    · replace hw := hw.1 c28
      refine lv_iinc (v := x2 + (-1)) (lv' := [(2, .int (x2 + (-1))), (3, .int s0), (0, .ref (gad G 6))]) hx hb dX2_readSetup_131 hl (k := 2) rfl rfl (by decide) rfl (fun ls hl => ?_)
      refine lv_goto (tgt := 53) hx hb dX2_readSetup_134 (by decide) ?_
      exact hK53 _ _ _ _ _ hw Z (lv_sub hl [2, 0] rfl)
    · replace hw := hw.2 c28
      exact b_X2_readSetup_129 l C0 _ _ _ _ hw Z (lv_sub hl [] rfl)
set_option maxRecDepth 100000 in
set_option maxHeartbeats 4000000 in
theorem b_X2_readSetup_53 {p : Program} (l : Launch) {e : Env} {s : State} {m : MethodId} {args : Array Value} {below : List Frame} {meth : Method} {c : Code} {G : zG}   (C0 : Cx G RX2 cX2_readSetup 4 (some .boolean) p s m args meth c) {Q : Int32 → V3 → Prop} : ∀ (n : Nat) (x2 : Int32) (v : V3) (H : Heap) (locs : List Loc) (ls : Array Slot), w_X2_readSetup_53 Q n x2 v → Zs G s v H locs → lv_has ls 4 [(0, .ref (gad G 6)), (2, .int x2)] → W p l e { frames := 7, cells := 0, slots := 0, locals := 196 } s m args below meth c H locs 0 0 (MQ below (QiZ G Q) args s 0 0 (zA G)) (F0 m 53 ls []) := by
  have hx := C0.1
  have hb := C0.2.1
  intro n
  induction n with
  | zero =>
    intro x2 v H locs ls hw Z hl
    exact hw.elim
  | succ n hK53 =>
    intro x2 v H locs ls hw Z hl
    rw [w_X2_readSetup_53] at hw
    refine lv_iload_n hx hb dX2_readSetup_53 rfl (lv_at hl 1 rfl) ?_
    refine lv_if_le (tgt := 137) hx hb dX2_readSetup_54 (by decide) (fun c12 => ?_) (fun c12 => ?_)
    · replace hw := hw.1 c12
      exact b_X2_readSetup_137 l C0 _ _ _ _ hw Z (lv_sub hl [] rfl)
    · replace hw := hw.2 c12
      refine lv_aload_n hx hb dX2_readSetup_57 rfl (lv_at hl 0 rfl) ?_
      refine z_get C0 Z in_X2 rfl 4 (by decide) rfl tm_1_124 (cx_lt C0 (by decide)) rfl rfl dX2_readSetup_58 ?_
      refine lv_if_eq (tgt := 137) hx hb dX2_readSetup_61 (by decide) (fun c13 => ?_) (fun c13 => ?_)
      · replace hw := hw.1 c13
        exact b_X2_readSetup_137 l C0 _ _ _ _ hw Z (lv_sub hl [] rfl)
      · replace hw := hw.2 c13
        refine lv_aload_n hx hb dX2_readSetup_64 rfl (lv_at hl 0 rfl) ?_
        refine z_ldcS C0 Z (i := 1) (by decide +kernel) dX2_readSetup_65 ?_
        refine z_callVi C0 Z hl.1 (As := [.ref (zst G 1)]) (rest := []) (k_X2_isWord l (cx_g C0) (by decide) hw) (gv_X2_isWord tm_1_228) rfl ds_X2_isWord ⟨Nat.le_of_ble_eq_true rfl, Nat.le_of_ble_eq_true rfl⟩ (ci := 2) rfl (cx_lt C0 (by decide)) rfl rfl rfl (Nat.le_of_ble_eq_true rfl) ⟨Nat.le_of_ble_eq_true rfl, Nat.le_of_ble_eq_true rfl⟩ dX2_readSetup_67 (fun r15 v14 H locs hw Z => ?_)
        refine lv_if_eq (tgt := 80) hx hb dX2_readSetup_70 (by decide) (fun c16 => ?_) (fun c16 => ?_)
        · replace hw := hw.1 c16
          refine lv_aload_n hx hb dX2_readSetup_80 rfl (lv_at hl 0 rfl) ?_
          refine z_ldcS C0 Z (i := 2) (by decide +kernel) dX2_readSetup_81 ?_
          refine z_callVi C0 Z hl.1 (As := [.ref (zst G 2)]) (rest := []) (k_X2_isWord l (cx_g C0) (by decide) hw) (gv_X2_isWord tm_1_228) rfl ds_X2_isWord ⟨Nat.le_of_ble_eq_true rfl, Nat.le_of_ble_eq_true rfl⟩ (ci := 2) rfl (cx_lt C0 (by decide)) rfl rfl rfl (Nat.le_of_ble_eq_true rfl) ⟨Nat.le_of_ble_eq_true rfl, Nat.le_of_ble_eq_true rfl⟩ dX2_readSetup_83 (fun r18 v17 H locs hw Z => ?_)
          refine lv_if_eq (tgt := 96) hx hb dX2_readSetup_86 (by decide) (fun c19 => ?_) (fun c19 => ?_)
          · replace hw := hw.1 c19
            refine lv_aload_n hx hb dX2_readSetup_96 rfl (lv_at hl 0 rfl) ?_
            refine z_ldcS C0 Z (i := 3) (by decide +kernel) dX2_readSetup_97 ?_
            refine z_callVi C0 Z hl.1 (As := [.ref (zst G 3)]) (rest := []) (k_X2_isWord l (cx_g C0) (by decide) hw) (gv_X2_isWord tm_1_228) rfl ds_X2_isWord ⟨Nat.le_of_ble_eq_true rfl, Nat.le_of_ble_eq_true rfl⟩ (ci := 2) rfl (cx_lt C0 (by decide)) rfl rfl rfl (Nat.le_of_ble_eq_true rfl) ⟨Nat.le_of_ble_eq_true rfl, Nat.le_of_ble_eq_true rfl⟩ dX2_readSetup_99 (fun r21 v20 H locs hw Z => ?_)
            refine lv_if_eq (tgt := 112) hx hb dX2_readSetup_102 (by decide) (fun c22 => ?_) (fun c22 => ?_)
            · replace hw := hw.1 c22
              refine lv_aload_n hx hb dX2_readSetup_112 rfl (lv_at hl 0 rfl) ?_
              refine lv_iconst (v := 1) hx hb dX2_readSetup_113 (by decide) ?_
              refine z_callVi C0 Z hl.1 (As := [.int 1]) (rest := []) (k_X2_fail l (cx_g C0) hw) (gv_X2_fail tm_2_40) rfl ds_X2_fail ⟨Nat.le_of_ble_eq_true rfl, Nat.le_of_ble_eq_true rfl⟩ (ci := 2) rfl (cx_lt C0 (by decide)) rfl rfl rfl (Nat.le_of_ble_eq_true rfl) ⟨Nat.le_of_ble_eq_true rfl, Nat.le_of_ble_eq_true rfl⟩ dX2_readSetup_114 (fun r24 v23 H locs hw Z => ?_)
              exact b_X2_readSetup_117 l C0 hK53 _ _ _ _ _ _ hw Z (lv_sub hl [0, 1] rfl)
            · replace hw := hw.2 c22
              refine lv_aload_n hx hb dX2_readSetup_105 rfl (lv_at hl 0 rfl) ?_
              refine z_callVi C0 Z hl.1 (As := []) (rest := []) (k_X2_readSetting l (cx_g C0) hw) (gv_X2_readSetting tm_2_129) rfl ds_X2_readSetting ⟨Nat.le_of_ble_eq_true rfl, Nat.le_of_ble_eq_true rfl⟩ (ci := 2) rfl (cx_lt C0 (by decide)) rfl rfl rfl (Nat.le_of_ble_eq_true rfl) ⟨Nat.le_of_ble_eq_true rfl, Nat.le_of_ble_eq_true rfl⟩ dX2_readSetup_106 (fun r30 v29 H locs hw Z => ?_)
              refine lv_goto (tgt := 117) hx hb dX2_readSetup_109 (by decide) ?_
              exact b_X2_readSetup_117 l C0 hK53 _ _ _ _ _ _ hw Z (lv_sub hl [0, 1] rfl)
          · replace hw := hw.2 c19
            refine lv_aload_n hx hb dX2_readSetup_89 rfl (lv_at hl 0 rfl) ?_
            refine z_callVi C0 Z hl.1 (As := []) (rest := []) (k_X2_readBook l (cx_g C0) hw) (gv_X2_readBook tm_2_67) rfl ds_X2_readBook ⟨Nat.le_of_ble_eq_true rfl, Nat.le_of_ble_eq_true rfl⟩ (ci := 2) rfl (cx_lt C0 (by decide)) rfl rfl rfl (Nat.le_of_ble_eq_true rfl) ⟨Nat.le_of_ble_eq_true rfl, Nat.le_of_ble_eq_true rfl⟩ dX2_readSetup_90 (fun r32 v31 H locs hw Z => ?_)
            refine lv_goto (tgt := 117) hx hb dX2_readSetup_93 (by decide) ?_
            exact b_X2_readSetup_117 l C0 hK53 _ _ _ _ _ _ hw Z (lv_sub hl [0, 1] rfl)
        · replace hw := hw.2 c16
          refine lv_aload_n hx hb dX2_readSetup_73 rfl (lv_at hl 0 rfl) ?_
          refine z_callVi C0 Z hl.1 (As := []) (rest := []) (k_X2_readOwner l (cx_g C0) hw) (gv_X2_readOwner tm_2_58) rfl ds_X2_readOwner ⟨Nat.le_of_ble_eq_true rfl, Nat.le_of_ble_eq_true rfl⟩ (ci := 2) rfl (cx_lt C0 (by decide)) rfl rfl rfl (Nat.le_of_ble_eq_true rfl) ⟨Nat.le_of_ble_eq_true rfl, Nat.le_of_ble_eq_true rfl⟩ dX2_readSetup_74 (fun r34 v33 H locs hw Z => ?_)
          refine lv_goto (tgt := 117) hx hb dX2_readSetup_77 (by decide) ?_
          exact b_X2_readSetup_117 l C0 hK53 _ _ _ _ _ _ hw Z (lv_sub hl [0, 1] rfl)
set_option maxRecDepth 100000 in
set_option maxHeartbeats 4000000 in
theorem k_X2_readSetup (l : Launch) {G : zG} (hg : 129 ≤ gn G) {a1 : Int32}  {v : V3} {Q : Int32 → V3 → Prop} (hw : w_X2_readSetup a1 v Q) : Mz l yX2_readSetup cX2_readSetup 4 (some .boolean) 7 196 G [.ref (gad G 6), .int a1] v (QiZ G Q) := by
  rw [w_X2_readSetup] at hw
  refine z_ofW hg (by decide) (Nat.le_of_ble_eq_true rfl) ?_
  intro p e s m args below meth c ls C0 Z hl
  have hx := C0.1
  have hb := C0.2.1
  replace hl : lv_has ls 4 [(0, .ref (gad G 6)), (1, .int a1)] := hl
  generalize s.heap = H at Z ⊢
  generalize ([] : List Loc) = locs at Z ⊢
  refine lv_aload_n hx hb dX2_readSetup_0 rfl (lv_at hl 0 rfl) ?_
  refine lv_iload_n hx hb dX2_readSetup_1 rfl (lv_at hl 1 rfl) ?_
  refine lv_aload_n hx hb dX2_readSetup_2 rfl (lv_at hl 0 rfl) ?_
  refine z_get C0 Z in_X2 rfl 0 (by decide) rfl tm_1_120 (cx_lt C0 (by decide)) rfl rfl dX2_readSetup_3 ?_
  refine z_alen C0 Z (t0 := 1) (x := 800) (cx_lt C0 (by decide)) rfl rfl (by decide) dX2_readSetup_6 ?_
  refine z_min C0 hl.1 tm_1_201 (Nat.le_of_ble_eq_true rfl) (Nat.le_of_ble_eq_true rfl) (Nat.le_of_ble_eq_true rfl) (Nat.le_of_ble_eq_true rfl) dX2_readSetup_7 ?_
  refine z_put C0 Z in_X2 tyX2_ok nmX2 rfl 2 (by decide) rfl rfl tm_1_122 (cx_lt C0 (by decide)) rfl p_X2_2 (fun c' h => up2_off _ _ _ h) rfl rfl (Nat.le_of_ble_eq_true rfl) dX2_readSetup_10 (fun H locs Z => ?_)
  obtain ⟨v1, ev1⟩ : ∃ z : V3, z = up2 v 6 2 (zmin a1 800) := ⟨_, rfl⟩
  rw [← ev1] at Z
  replace hw := hw v1 ev1
  refine lv_aload_n hx hb dX2_readSetup_13 rfl (lv_at hl 0 rfl) ?_
  refine lv_iconst (v := 0) hx hb dX2_readSetup_14 (by decide) ?_
  refine z_put C0 Z in_X2 tyX2_ok nmX2 rfl 3 (by decide) rfl rfl tm_1_123 (cx_lt C0 (by decide)) rfl p_X2_3 (fun c' h => up2_off _ _ _ h) rfl rfl (Nat.le_of_ble_eq_true rfl) dX2_readSetup_15 (fun H locs Z => ?_)
  obtain ⟨v2, ev2⟩ : ∃ z : V3, z = up2 v1 6 3 0 := ⟨_, rfl⟩
  rw [← ev2] at Z
  replace hw := hw v2 ev2
  refine lv_aload_n hx hb dX2_readSetup_18 rfl (lv_at hl 0 rfl) ?_
  refine lv_iconst (v := 0) hx hb dX2_readSetup_19 (by decide) ?_
  refine z_put C0 Z in_X2 tyX2_ok nmX2 rfl 7 (by decide) rfl rfl tm_1_127 (cx_lt C0 (by decide)) rfl p_X2_7 (fun c' h => up2_off _ _ _ h) rfl rfl (Nat.le_of_ble_eq_true rfl) dX2_readSetup_20 (fun H locs Z => ?_)
  obtain ⟨v3, ev3⟩ : ∃ z : V3, z = up2 v2 6 7 0 := ⟨_, rfl⟩
  rw [← ev3] at Z
  replace hw := hw v3 ev3
  refine lv_aload_n hx hb dX2_readSetup_23 rfl (lv_at hl 0 rfl) ?_
  refine lv_iconst (v := (-1)) hx hb dX2_readSetup_24 (by decide) ?_
  refine z_put C0 Z in_X2 tyX2_ok nmX2 rfl 8 (by decide) rfl rfl tm_1_129 (cx_lt C0 (by decide)) rfl p_X2_8 (fun c' h => up2_off _ _ _ h) rfl rfl (Nat.le_of_ble_eq_true rfl) dX2_readSetup_25 (fun H locs Z => ?_)
  obtain ⟨v4, ev4⟩ : ∃ z : V3, z = up2 v3 6 8 (-1) := ⟨_, rfl⟩
  rw [← ev4] at Z
  replace hw := hw v4 ev4
  refine lv_aload_n hx hb dX2_readSetup_28 rfl (lv_at hl 0 rfl) ?_
  refine z_callVv C0 Z hl.1 (As := []) (rest := []) (k_X2_advance l (cx_g C0) hw) (gv_X2_advance tm_1_204) rfl ds_X2_advance ⟨Nat.le_of_ble_eq_true rfl, Nat.le_of_ble_eq_true rfl⟩ (ci := 2) rfl (cx_lt C0 (by decide)) rfl rfl rfl (Nat.le_of_ble_eq_true rfl) ⟨Nat.le_of_ble_eq_true rfl, Nat.le_of_ble_eq_true rfl⟩ dX2_readSetup_29 (fun v5 H locs hw Z => ?_)
  refine lv_aload_n hx hb dX2_readSetup_32 rfl (lv_at hl 0 rfl) ?_
  refine z_callVi C0 Z hl.1 (As := []) (rest := []) (k_X2_readSize l (cx_g C0) hw) (gv_X2_readSize tm_1_223) rfl ds_X2_readSize ⟨Nat.le_of_ble_eq_true rfl, Nat.le_of_ble_eq_true rfl⟩ (ci := 2) rfl (cx_lt C0 (by decide)) rfl rfl rfl (Nat.le_of_ble_eq_true rfl) ⟨Nat.le_of_ble_eq_true rfl, Nat.le_of_ble_eq_true rfl⟩ dX2_readSetup_33 (fun r7 v6 H locs hw Z => ?_)
  refine lv_if_eq (tgt := 46) hx hb dX2_readSetup_36 (by decide) (fun c8 => ?_) (fun c8 => ?_)
  · replace hw := hw.1 c8
    exact b_X2_readSetup_46 l C0 _ _ _ _ hw Z (lv_sub hl [] rfl)
  · replace hw := hw.2 c8
    refine lv_aload_n hx hb dX2_readSetup_39 rfl (lv_at hl 0 rfl) ?_
    refine z_callVi C0 Z hl.1 (As := []) (rest := []) (k_X2_readSemicolon l (cx_g C0) hw) (gv_X2_readSemicolon tm_2_53) rfl ds_X2_readSemicolon ⟨Nat.le_of_ble_eq_true rfl, Nat.le_of_ble_eq_true rfl⟩ (ci := 2) rfl (cx_lt C0 (by decide)) rfl rfl rfl (Nat.le_of_ble_eq_true rfl) ⟨Nat.le_of_ble_eq_true rfl, Nat.le_of_ble_eq_true rfl⟩ dX2_readSetup_40 (fun r10 v9 H locs hw Z => ?_)
    refine lv_if_ne (tgt := 48) hx hb dX2_readSetup_43 (by decide) (fun c11 => ?_) (fun c11 => ?_)
    · replace hw := hw.1 c11
      refine lv_aload_n hx hb dX2_readSetup_48 rfl (lv_at hl 0 rfl) ?_
      refine z_get C0 Z in_X2 rfl 2 (by decide) rfl tm_1_122 (cx_lt C0 (by decide)) rfl rfl dX2_readSetup_49 ?_
      refine lv_istore_n (lv' := [(2, .int (v9 6 2)), (0, .ref (gad G 6)), (1, .int a1)]) hx hb dX2_readSetup_52 rfl hl (by decide) rfl (fun ls hl => ?_)
      obtain ⟨m53, hw⟩ := hw
      exact b_X2_readSetup_53 l C0 m53 _ _ _ _ _ hw Z (lv_sub hl [1, 0] rfl)
    · replace hw := hw.2 c11
      exact b_X2_readSetup_46 l C0 _ _ _ _ hw Z (lv_sub hl [] rfl)
