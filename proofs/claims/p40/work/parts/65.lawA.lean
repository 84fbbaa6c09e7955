-- L_builds: room (3, 68) cells (0, 0)
theorem dL_builds_0 : decode cL_builds 0 = .ok (.iconst 2, 1) := by decide +kernel
theorem dL_builds_1 : decode cL_builds 1 = .ok (.aload_n 0, 1) := by decide +kernel
theorem dL_builds_2 : decode cL_builds 2 = .ok (.bipush 7, 2) := by decide +kernel
theorem dL_builds_4 : decode cL_builds 4 = .ok (.invokevirtual 142, 3) := by decide +kernel
theorem dL_builds_7 : decode cL_builds 7 = .ok (.iadd, 1) := by decide +kernel
theorem dL_builds_8 : decode cL_builds 8 = .ok (.istore_n 1, 1) := by decide +kernel
theorem dL_builds_9 : decode cL_builds 9 = .ok (.iconst 0, 1) := by decide +kernel
theorem dL_builds_10 : decode cL_builds 10 = .ok (.istore_n 2, 1) := by decide +kernel
theorem dL_builds_11 : decode cL_builds 11 = .ok (.iload_n 2, 1) := by decide +kernel
theorem dL_builds_12 : decode cL_builds 12 = .ok (.iload_n 1, 1) := by decide +kernel
theorem dL_builds_13 : decode cL_builds 13 = .ok (.if_icmp .ge 41, 3) := by decide +kernel
theorem dL_builds_16 : decode cL_builds 16 = .ok (.aload_n 0, 1) := by decide +kernel
theorem dL_builds_17 : decode cL_builds 17 = .ok (.sipush 1000, 3) := by decide +kernel
theorem dL_builds_20 : decode cL_builds 20 = .ok (.invokevirtual 142, 3) := by decide +kernel
theorem dL_builds_23 : decode cL_builds 23 = .ok (.istore_n 3, 1) := by decide +kernel
theorem dL_builds_24 : decode cL_builds 24 = .ok (.aload_n 0, 1) := by decide +kernel
theorem dL_builds_25 : decode cL_builds 25 = .ok (.dup, 1) := by decide +kernel
theorem dL_builds_26 : decode cL_builds 26 = .ok (.getfield 145, 3) := by decide +kernel
theorem dL_builds_29 : decode cL_builds 29 = .ok (.iload_n 3, 1) := by decide +kernel
theorem dL_builds_30 : decode cL_builds 30 = .ok (.iadd, 1) := by decide +kernel
theorem dL_builds_31 : decode cL_builds 31 = .ok (.putfield 145, 3) := by decide +kernel
theorem dL_builds_34 : decode cL_builds 34 = .ok (.aload_n 0, 1) := by decide +kernel
theorem dL_builds_35 : decode cL_builds 35 = .ok (.getfield 10, 3) := by decide +kernel
theorem dL_builds_38 : decode cL_builds 38 = .ok (.iload_n 3, 1) := by decide +kernel
theorem dL_builds_39 : decode cL_builds 39 = .ok (.invokestatic 148, 3) := by decide +kernel
theorem dL_builds_42 : decode cL_builds 42 = .ok (.iload_n 2, 1) := by decide +kernel
theorem dL_builds_43 : decode cL_builds 43 = .ok (.if_icmp .eq 5, 3) := by decide +kernel
theorem dL_builds_46 : decode cL_builds 46 = .ok (.iconst 0, 1) := by decide +kernel
theorem dL_builds_47 : decode cL_builds 47 = .ok (.ireturn, 1) := by decide +kernel
theorem dL_builds_48 : decode cL_builds 48 = .ok (.iinc 2 1, 3) := by decide +kernel
theorem dL_builds_51 : decode cL_builds 51 = .ok (.goto (-40), 3) := by decide +kernel
theorem dL_builds_54 : decode cL_builds 54 = .ok (.aload_n 0, 1) := by decide +kernel
theorem dL_builds_55 : decode cL_builds 55 = .ok (.getfield 10, 3) := by decide +kernel
theorem dL_builds_58 : decode cL_builds 58 = .ok (.iconst 0, 1) := by decide +kernel
theorem dL_builds_59 : decode cL_builds 59 = .ok (.aload_n 0, 1) := by decide +kernel
theorem dL_builds_60 : decode cL_builds 60 = .ok (.bipush 9, 2) := by decide +kernel
theorem dL_builds_62 : decode cL_builds 62 = .ok (.invokevirtual 142, 3) := by decide +kernel
theorem dL_builds_65 : decode cL_builds 65 = .ok (.invokestatic 151, 3) := by decide +kernel
theorem dL_builds_68 : decode cL_builds 68 = .ok (.iconst 5, 1) := by decide +kernel
theorem dL_builds_69 : decode cL_builds 69 = .ok (.if_icmp .ne 54, 3) := by decide +kernel
theorem dL_builds_72 : decode cL_builds 72 = .ok (.aload_n 0, 1) := by decide +kernel
theorem dL_builds_73 : decode cL_builds 73 = .ok (.getfield 10, 3) := by decide +kernel
theorem dL_builds_76 : decode cL_builds 76 = .ok (.iconst 1, 1) := by decide +kernel
theorem dL_builds_77 : decode cL_builds 77 = .ok (.aload_n 0, 1) := by decide +kernel
theorem dL_builds_78 : decode cL_builds 78 = .ok (.bipush 30, 2) := by decide +kernel
theorem dL_builds_80 : decode cL_builds 80 = .ok (.invokevirtual 142, 3) := by decide +kernel
theorem dL_builds_83 : decode cL_builds 83 = .ok (.invokestatic 151, 3) := by decide +kernel
theorem dL_builds_86 : decode cL_builds 86 = .ok (.bipush 10, 2) := by decide +kernel
theorem dL_builds_88 : decode cL_builds 88 = .ok (.if_icmp .ne 35, 3) := by decide +kernel
theorem dL_builds_91 : decode cL_builds 91 = .ok (.aload_n 0, 1) := by decide +kernel
theorem dL_builds_92 : decode cL_builds 92 = .ok (.getfield 10, 3) := by decide +kernel
theorem dL_builds_95 : decode cL_builds 95 = .ok (.iconst 2, 1) := by decide +kernel
theorem dL_builds_96 : decode cL_builds 96 = .ok (.bipush 9, 2) := by decide +kernel
theorem dL_builds_98 : decode cL_builds 98 = .ok (.invokestatic 151, 3) := by decide +kernel
theorem dL_builds_101 : decode cL_builds 101 = .ok (.iconst 4, 1) := by decide +kernel
theorem dL_builds_102 : decode cL_builds 102 = .ok (.if_icmp .ne 21, 3) := by decide +kernel
theorem dL_builds_105 : decode cL_builds 105 = .ok (.aload_n 0, 1) := by decide +kernel
theorem dL_builds_106 : decode cL_builds 106 = .ok (.getfield 10, 3) := by decide +kernel
theorem dL_builds_109 : decode cL_builds 109 = .ok (.iconst 3, 1) := by decide +kernel
theorem dL_builds_110 : decode cL_builds 110 = .ok (.bipush 9, 2) := by decide +kernel
theorem dL_builds_112 : decode cL_builds 112 = .ok (.invokestatic 151, 3) := by decide +kernel
theorem dL_builds_115 : decode cL_builds 115 = .ok (.iconst 3, 1) := by decide +kernel
theorem dL_builds_116 : decode cL_builds 116 = .ok (.if_icmp .ne 7, 3) := by decide +kernel
theorem dL_builds_119 : decode cL_builds 119 = .ok (.iconst 1, 1) := by decide +kernel
theorem dL_builds_120 : decode cL_builds 120 = .ok (.goto 4, 3) := by decide +kernel
theorem dL_builds_123 : decode cL_builds 123 = .ok (.iconst 0, 1) := by decide +kernel
theorem dL_builds_124 : decode cL_builds 124 = .ok (.ireturn, 1) := by decide +kernel
def w_L_builds_124  (Q : Int32 → V3 → Prop) (s0 : Int32) (v : V3) : Prop := (s0 = 0 ∨ s0 = 1) ∧ Q s0 v
def w_L_builds_123  (Q : Int32 → V3 → Prop) (v : V3) : Prop := w_L_builds_124 Q 0 v
def w_L_builds_11  (Q : Int32 → V3 → Prop) : Nat → Int32 → Int32 → V3 → Prop
  | 0, _, _, _ => False
  | n11 + 1, x1, x2, v => ((x1 ≤ x2 → w_L_draw 9 v (fun r5 v4 => w_L_set 0 r5 v4 (fun r7 v6 => ((¬ r7 = 5 → w_L_builds_123 Q v6) ∧ (r7 = 5 → w_L_draw 30 v6 (fun r11 v10 => w_L_set 1 r11 v10 (fun r13 v12 => ((¬ r13 = 10 → w_L_builds_123 Q v12) ∧ (r13 = 10 → w_L_set 2 9 v12 (fun r16 v15 => ((¬ r16 = 4 → w_L_builds_123 Q v15) ∧ (r16 = 4 → w_L_set 3 9 v15 (fun r19 v18 => ((¬ r19 = 3 → w_L_builds_123 Q v18) ∧ (r19 = 3 → w_L_builds_124 Q 1 v18))))))))))))))) ∧ (¬ x1 ≤ x2 → w_L_draw 1000 v (fun r22 v21 => ∀ v23 : V3, v23 = up2 v21 7 3 ((v21 7 3) + r22) → w_L_addOwner r22 v23 (fun r25 v24 => ((r25 = x2 → (w_L_builds_11 Q n11) x1 (x2 + 1) v24) ∧ (¬ r25 = x2 → Q 0 v24))))))
def w_L_builds  (v : V3) (Q : Int32 → V3 → Prop) : Prop := w_L_draw 7 v (fun r2 v1 => ∃ m11 : Nat, w_L_builds_11 Q m11 (2 + r2) 0 v1)
set_option maxRecDepth 100000 in
set_option maxHeartbeats 4000000 in
theorem b_L_builds_124 {p : Program} (l : Launch) {e : Env} {s : State} {m : MethodId} {args : Array Value} {below : List Frame} {meth : Method} {c : Code} {G : zG}   (C0 : Cx G RL cL_builds 4 (some .boolean) p s m args meth c) {Q : Int32 → V3 → Prop} : ∀ (s0 : Int32) (v : V3) (H : Heap) (locs : List Loc) (ls : Array Slot), w_L_builds_124 Q s0 v → Zs G s v H locs → lv_has ls 4 [] → W p l e { frames := 3, cells := 0, slots := 0, locals := 68 } s m args below meth c H locs 0 0 (MQ below (QiZ G Q) args s 0 0 (zA G)) (F0 m 124 ls [.int s0]) := by
  have hx := C0.1
  have hb := C0.2.1
  intro s0 v H locs ls hw Z hl
  rw [w_L_builds_124] at hw
  obtain ⟨h9, hw⟩ := hw
  exact z_zret C0 Z h9 hw dL_builds_124
set_option maxRecDepth 100000 in
set_option maxHeartbeats 4000000 in
theorem b_L_builds_123 {p : Program} (l : Launch) {e : Env} {s : State} {m : MethodId} {args : Array Value} {below : List Frame} {meth : Method} {c : Code} {G : zG}   (C0 : Cx G RL cL_builds 4 (some .boolean) p s m args meth c) {Q : Int32 → V3 → Prop} : ∀ (v : V3) (H : Heap) (locs : List Loc) (ls : Array Slot), w_L_builds_123 Q v → Zs G s v H locs → lv_has ls 4 [] → W p l e { frames := 3, cells := 0, slots := 0, locals := 68 } s m args below meth c H locs 0 0 (MQ below (QiZ G Q) args s 0 0 (zA G)) (F0 m 123 ls []) := by
  have hx := C0.1
  have hb := C0.2.1
  intro v H locs ls hw Z hl
  rw [w_L_builds_123] at hw
  refine lv_iconst (v := 0) hx hb dL_builds_123 (by decide) ?_
  exact b_L_builds_124 l C0 _ _ _ _ _ hw Z (lv_sub hl [] rfl)
set_option maxRecDepth 100000 in
set_option maxHeartbeats 4000000 in
theorem b_L_builds_11 {p : Program} (l : Launch) {e : Env} {s : State} {m : MethodId} {args : Array Value} {below : List Frame} {meth : Method} {c : Code} {G : zG}   (C0 : Cx G RL cL_builds 4 (some .boolean) p s m args meth c) {Q : Int32 → V3 → Prop} : ∀ (n : Nat) (x1 : Int32) (x2 : Int32) (v : V3) (H : Heap) (locs : List Loc) (ls : Array Slot), w_L_builds_11 Q n x1 x2 v → Zs G s v H locs → lv_has ls 4 [(0, .ref (gad G 7)), (1, .int x1), (2, .int x2)] → W p l e { frames := 3, cells := 0, slots := 0, locals := 68 } s m args below meth c H locs 0 0 (MQ below (QiZ G Q) args s 0 0 (zA G)) (F0 m 11 ls []) := by
  have hx := C0.1
  have hb := C0.2.1
  intro n
  induction n with
  | zero =>
    intro x1 x2 v H locs ls hw Z hl
    exact hw.elim
  | succ n hK11 =>
    intro x1 x2 v H locs ls hw Z hl
    rw [w_L_builds_11] at hw
    refine lv_iload_n hx hb dL_builds_11 rfl (lv_at hl 2 rfl) ?_
    refine lv_iload_n hx hb dL_builds_12 rfl (lv_at hl 1 rfl) ?_
    refine lv_icmp_ge (tgt := 54) hx hb dL_builds_13 (by decide) (fun c3 => ?_) (fun c3 => ?_)
    · replace hw := hw.1 c3
      refine lv_aload_n hx hb dL_builds_54 rfl (lv_at hl 0 rfl) ?_
      refine z_get C0 Z in_L rfl 0 (by decide) rfl tm_1_181 (cx_lt C0 (by decide)) rfl rfl dL_builds_55 ?_
      refine lv_iconst (v := 0) hx hb dL_builds_58 (by decide) ?_
      refine lv_aload_n hx hb dL_builds_59 rfl (lv_at hl 0 rfl) ?_
      refine lv_bipush (v := 9) hx hb dL_builds_60 (by decide) ?_
      refine z_callVi C0 Z hl.1 (As := [.int 9]) (rest := [.int 0, .ref (gad G 0)]) (k_L_draw l (cx_g C0) hw) (gv_L_draw tm_1_204) rfl ds_L_draw ⟨Nat.le_of_ble_eq_true rfl, Nat.le_of_ble_eq_true rfl⟩ (ci := 4) rfl (cx_lt C0 (by decide)) rfl rfl rfl (Nat.le_of_ble_eq_true rfl) ⟨Nat.le_of_ble_eq_true rfl, Nat.le_of_ble_eq_true rfl⟩ dL_builds_62 (fun r5 v4 H locs hw Z => ?_)
      refine z_callH C0 Z hl.1 (As := [.ref (gad G 0), .int 0, .int r5]) (rest := []) (k_L_set l (cx_g C0) hw) (gv_L_set tm_2_78) ds_L_set ⟨Nat.le_of_ble_eq_true rfl, Nat.le_of_ble_eq_true rfl⟩ rfl rfl (Nat.le_of_ble_eq_true rfl) ⟨Nat.le_of_ble_eq_true rfl, Nat.le_of_ble_eq_true rfl⟩ dL_builds_65 (fun r7 v6 H locs hw Z => ?_)
      refine lv_iconst (v := 5) hx hb dL_builds_68 (by decide) ?_
      refine lv_icmp_ne (tgt := 123) hx hb dL_builds_69 (by decide) (fun c8 => ?_) (fun c8 => ?_)
      · replace hw := hw.1 c8
        exact b_L_builds_123 l C0 _ _ _ _ hw Z (lv_sub hl [] rfl)
      · replace hw := hw.2 c8
        refine lv_aload_n hx hb dL_builds_72 rfl (lv_at hl 0 rfl) ?_
        refine z_get C0 Z in_L rfl 0 (by decide) rfl tm_1_181 (cx_lt C0 (by decide)) rfl rfl dL_builds_73 ?_
        refine lv_iconst (v := 1) hx hb dL_builds_76 (by decide) ?_
        refine lv_aload_n hx hb dL_builds_77 rfl (lv_at hl 0 rfl) ?_
        refine lv_bipush (v := 30) hx hb dL_builds_78 (by decide) ?_
        refine z_callVi C0 Z hl.1 (As := [.int 30]) (rest := [.int 1, .ref (gad G 0)]) (k_L_draw l (cx_g C0) hw) (gv_L_draw tm_1_204) rfl ds_L_draw ⟨Nat.le_of_ble_eq_true rfl, Nat.le_of_ble_eq_true rfl⟩ (ci := 4) rfl (cx_lt C0 (by decide)) rfl rfl rfl (Nat.le_of_ble_eq_true rfl) ⟨Nat.le_of_ble_eq_true rfl, Nat.le_of_ble_eq_true rfl⟩ dL_builds_80 (fun r11 v10 H locs hw Z => ?_)
        refine z_callH C0 Z hl.1 (As := [.ref (gad G 0), .int 1, .int r11]) (rest := []) (k_L_set l (cx_g C0) hw) (gv_L_set tm_2_78) ds_L_set ⟨Nat.le_of_ble_eq_true rfl, Nat.le_of_ble_eq_true rfl⟩ rfl rfl (Nat.le_of_ble_eq_true rfl) ⟨Nat.le_of_ble_eq_true rfl, Nat.le_of_ble_eq_true rfl⟩ dL_builds_83 (fun r13 v12 H locs hw Z => ?_)
        refine lv_bipush (v := 10) hx hb dL_builds_86 (by decide) ?_
        refine lv_icmp_ne (tgt := 123) hx hb dL_builds_88 (by decide) (fun c14 => ?_) (fun c14 => ?_)
        · replace hw := hw.1 c14
          exact b_L_builds_123 l C0 _ _ _ _ hw Z (lv_sub hl [] rfl)
        · replace hw := hw.2 c14
          refine lv_aload_n hx hb dL_builds_91 rfl (lv_at hl 0 rfl) ?_
          refine z_get C0 Z in_L rfl 0 (by decide) rfl tm_1_181 (cx_lt C0 (by decide)) rfl rfl dL_builds_92 ?_
          refine lv_iconst (v := 2) hx hb dL_builds_95 (by decide) ?_
          refine lv_bipush (v := 9) hx hb dL_builds_96 (by decide) ?_
          refine z_callH C0 Z hl.1 (As := [.ref (gad G 0), .int 2, .int 9]) (rest := []) (k_L_set l (cx_g C0) hw) (gv_L_set tm_2_78) ds_L_set ⟨Nat.le_of_ble_eq_true rfl, Nat.le_of_ble_eq_true rfl⟩ rfl rfl (Nat.le_of_ble_eq_true rfl) ⟨Nat.le_of_ble_eq_true rfl, Nat.le_of_ble_eq_true rfl⟩ dL_builds_98 (fun r16 v15 H locs hw Z => ?_)
          refine lv_iconst (v := 4) hx hb dL_builds_101 (by decide) ?_
          refine lv_icmp_ne (tgt := 123) hx hb dL_builds_102 (by decide) (fun c17 => ?_) (fun c17 => ?_)
          · replace hw := hw.1 c17
            exact b_L_builds_123 l C0 _ _ _ _ hw Z (lv_sub hl [] rfl)
          · replace hw := hw.2 c17
            refine lv_aload_n hx hb dL_builds_105 rfl (lv_at hl 0 rfl) ?_
            refine z_get C0 Z in_L rfl 0 (by decide) rfl tm_1_181 (cx_lt C0 (by decide)) rfl rfl dL_builds_106 ?_
            refine lv_iconst (v := 3) hx hb dL_builds_109 (by decide) ?_
            refine lv_bipush (v := 9) hx hb dL_builds_110 (by decide) ?_
            refine z_callH C0 Z hl.1 (As := [.ref (gad G 0), .int 3, .int 9]) (rest := []) (k_L_set l (cx_g C0) hw) (gv_L_set tm_2_78) ds_L_set ⟨Nat.le_of_ble_eq_true rfl, Nat.le_of_ble_eq_true rfl⟩ rfl rfl (Nat.le_of_ble_eq_true rfl) ⟨Nat.le_of_ble_eq_true rfl, Nat.le_of_ble_eq_true rfl⟩ dL_builds_112 (fun r19 v18 H locs hw Z => ?_)
            refine lv_iconst (v := 3) hx hb dL_builds_115 (by decide) ?_
            refine lv_icmp_ne (tgt := 123) hx hb dL_builds_116 (by decide) (fun c20 => ?_) (fun c20 => ?_)
            · replace hw := hw.1 c20
              exact b_L_builds_123 l C0 _ _ _ _ hw Z (lv_sub hl [] rfl)
            · replace hw := hw.2 c20
              refine lv_iconst (v := 1) hx hb dL_builds_119 (by decide) ?_
              refine lv_goto (tgt := 124) hx hb dL_builds_120 (by decide) ?_
              exact b_L_builds_124 l C0 _ _ _ _ _ hw Z (lv_sub hl [] rfl)
    · replace hw := hw.2 c3
      refine lv_aload_n hx hb dL_builds_16 rfl (lv_at hl 0 rfl) ?_
      refine lv_sipush (v := 1000) hx hb dL_builds_17 (by decide) ?_
      refine z_callVi C0 Z hl.1 (As := [.int 1000]) (rest := []) (k_L_draw l (cx_g C0) hw) (gv_L_draw tm_1_204) rfl ds_L_draw ⟨Nat.le_of_ble_eq_true rfl, Nat.le_of_ble_eq_true rfl⟩ (ci := 4) rfl (cx_lt C0 (by decide)) rfl rfl rfl (Nat.le_of_ble_eq_true rfl) ⟨Nat.le_of_ble_eq_true rfl, Nat.le_of_ble_eq_true rfl⟩ dL_builds_20 (fun r22 v21 H locs hw Z => ?_)
      refine lv_istore_n (lv' := [(3, .int r22), (0, .ref (gad G 7)), (1, .int x1), (2, .int x2)]) hx hb dL_builds_23 rfl hl (by decide) rfl (fun ls hl => ?_)
      refine lv_aload_n hx hb dL_builds_24 rfl (lv_at hl 1 rfl) ?_
      refine lv_dup hx hb dL_builds_25 rfl ?_
      refine z_get C0 Z in_L rfl 3 (by decide) rfl tm_1_184 (cx_lt C0 (by decide)) rfl rfl dL_builds_26 ?_
      refine lv_iload_n hx hb dL_builds_29 rfl (lv_at hl 0 rfl) ?_
      refine lv_iadd hx hb dL_builds_30 ?_
      refine z_put C0 Z in_L tyL_ok nmL rfl 3 (by decide) rfl rfl tm_1_184 (cx_lt C0 (by decide)) rfl p_L_3 (fun c' h => up2_off _ _ _ h) rfl rfl (Nat.le_of_ble_eq_true rfl) dL_builds_31 (fun H locs Z => ?_)
      obtain ⟨v23, ev23⟩ : ∃ z : V3, z = up2 v21 7 3 ((v21 7 3) + r22) := ⟨_, rfl⟩
      rw [← ev23] at Z
      replace hw := hw v23 ev23
      refine lv_aload_n hx hb dL_builds_34 rfl (lv_at hl 1 rfl) ?_
      refine z_get C0 Z in_L rfl 0 (by decide) rfl tm_1_181 (cx_lt C0 (by decide)) rfl rfl dL_builds_35 ?_
      refine lv_iload_n hx hb dL_builds_38 rfl (lv_at hl 0 rfl) ?_
      refine z_callH C0 Z hl.1 (As := [.ref (gad G 0), .int r22]) (rest := []) (k_L_addOwner l (cx_g C0) hw) (gv_L_addOwner tm_1_219) ds_L_addOwner ⟨Nat.le_of_ble_eq_true rfl, Nat.le_of_ble_eq_true rfl⟩ rfl rfl (Nat.le_of_ble_eq_true rfl) ⟨Nat.le_of_ble_eq_true rfl, Nat.le_of_ble_eq_true rfl⟩ dL_builds_39 (fun r25 v24 H locs hw Z => ?_)
      refine lv_iload_n hx hb dL_builds_42 rfl (lv_at hl 3 rfl) ?_
      refine lv_icmp_eq (tgt := 48) hx hb dL_builds_43 (by decide) (fun c26 => ?_) (fun c26 => ?_)
      · replace hw := hw.1 c26
        refine lv_iinc (v := x2 + 1) (lv' := [(2, .int (x2 + 1)), (3, .int r22), (0, .ref (gad G 7)), (1, .int x1)]) hx hb dL_builds_48 hl (k := 3) rfl rfl (by decide) rfl (fun ls hl => ?_)
        refine lv_goto (tgt := 11) hx hb dL_builds_51 (by decide) ?_
        exact hK11 _ _ _ _ _ _ hw Z (lv_sub hl [2, 3, 0] rfl)
      · replace hw := hw.2 c26
        refine lv_iconst (v := 0) hx hb dL_builds_46 (by decide) ?_
        exact z_zret C0 Z (by decide) hw dL_builds_47
set_option maxRecDepth 100000 in
set_option maxHeartbeats 4000000 in
theorem k_L_builds (l : Launch) {G : zG} (hg : 116 ≤ gn G)  {v : V3} {Q : Int32 → V3 → Prop} (hw : w_L_builds v Q) : Mz l yL_builds cL_builds 4 (some .boolean) 3 68 G [.ref (gad G 7)] v (QiZ G Q) := by
  rw [w_L_builds] at hw
  refine z_ofW hg (by decide) (Nat.le_of_ble_eq_true rfl) ?_
  intro p e s m args below meth c ls C0 Z hl
  have hx := C0.1
  have hb := C0.2.1
  replace hl : lv_has ls 4 [(0, .ref (gad G 7))] := hl
  generalize s.heap = H at Z ⊢
  generalize ([] : List Loc) = locs at Z ⊢
  refine lv_iconst (v := 2) hx hb dL_builds_0 (by decide) ?_
  refine lv_aload_n hx hb dL_builds_1 rfl (lv_at hl 0 rfl) ?_
  refine lv_bipush (v := 7) hx hb dL_builds_2 (by decide) ?_
  refine z_callVi C0 Z hl.1 (As := [.int 7]) (rest := [.int 2]) (k_L_draw l (cx_g C0) hw) (gv_L_draw tm_1_204) rfl ds_L_draw ⟨Nat.le_of_ble_eq_true rfl, Nat.le_of_ble_eq_true rfl⟩ (ci := 4) rfl (cx_lt C0 (by decide)) rfl rfl rfl (Nat.le_of_ble_eq_true rfl) ⟨Nat.le_of_ble_eq_true rfl, Nat.le_of_ble_eq_true rfl⟩ dL_builds_4 (fun r2 v1 H locs hw Z => ?_)
  refine lv_iadd hx hb dL_builds_7 ?_
  refine lv_istore_n (lv' := [(1, .int (2 + r2)), (0, .ref (gad G 7))]) hx hb dL_builds_8 rfl hl (by decide) rfl (fun ls hl => ?_)
  refine lv_iconst (v := 0) hx hb dL_builds_9 (by decide) ?_
  refine lv_istore_n (lv' := [(2, .int 0), (1, .int (2 + r2)), (0, .ref (gad G 7))]) hx hb dL_builds_10 rfl hl (by decide) rfl (fun ls hl => ?_)
  obtain ⟨m11, hw⟩ := hw
  exact b_L_builds_11 l C0 m11 _ _ _ _ _ _ hw Z (lv_sub hl [2, 1, 0] rfl)
-- L_areApart: room (5, 127) cells (0, 0)
theorem dL_areApart_0 : decode cL_areApart 0 = .ok (.iconst 0, 1) := by decide +kernel
theorem dL_areApart_1 : decode cL_areApart 1 = .ok (.istore_n 1, 1) := by decide +kernel
theorem dL_areApart_2 : decode cL_areApart 2 = .ok (.iload_n 1, 1) := by decide +kernel
theorem dL_areApart_3 : decode cL_areApart 3 = .ok (.aload_n 0, 1) := by decide +kernel
theorem dL_areApart_4 : decode cL_areApart 4 = .ok (.getfield 10, 3) := by decide +kernel
theorem dL_areApart_7 : decode cL_areApart 7 = .ok (.bipush 6, 2) := by decide +kernel
theorem dL_areApart_9 : decode cL_areApart 9 = .ok (.invokestatic 154, 3) := by decide +kernel
theorem dL_areApart_12 : decode cL_areApart 12 = .ok (.if_icmp .ge 254, 3) := by decide +kernel
theorem dL_areApart_15 : decode cL_areApart 15 = .ok (.aload_n 0, 1) := by decide +kernel
theorem dL_areApart_16 : decode cL_areApart 16 = .ok (.getfield 10, 3) := by decide +kernel
theorem dL_areApart_19 : decode cL_areApart 19 = .ok (.iload_n 1, 1) := by decide +kernel
theorem dL_areApart_20 : decode cL_areApart 20 = .ok (.bipush 7, 2) := by decide +kernel
theorem dL_areApart_22 : decode cL_areApart 22 = .ok (.invokestatic 167, 3) := by decide +kernel
theorem dL_areApart_25 : decode cL_areApart 25 = .ok (.iconst 1, 1) := by decide +kernel
theorem dL_areApart_26 : decode cL_areApart 26 = .ok (.if_icmp .eq 20, 3) := by decide +kernel
theorem dL_areApart_29 : decode cL_areApart 29 = .ok (.aload_n 0, 1) := by decide +kernel
theorem dL_areApart_30 : decode cL_areApart 30 = .ok (.getfield 10, 3) := by decide +kernel
theorem dL_areApart_33 : decode cL_areApart 33 = .ok (.iload_n 1, 1) := by decide +kernel
theorem dL_areApart_34 : decode cL_areApart 34 = .ok (.bipush 7, 2) := by decide +kernel
theorem dL_areApart_36 : decode cL_areApart 36 = .ok (.invokestatic 167, 3) := by decide +kernel
theorem dL_areApart_39 : decode cL_areApart 39 = .ok (.iconst 2, 1) := by decide +kernel
theorem dL_areApart_40 : decode cL_areApart 40 = .ok (.if_icmp .eq 6, 3) := by decide +kernel
theorem dL_areApart_43 : decode cL_areApart 43 = .ok (.goto 217, 3) := by decide +kernel
theorem dL_areApart_46 : decode cL_areApart 46 = .ok (.aload_n 0, 1) := by decide +kernel
theorem dL_areApart_47 : decode cL_areApart 47 = .ok (.getfield 10, 3) := by decide +kernel
theorem dL_areApart_50 : decode cL_areApart 50 = .ok (.iload_n 1, 1) := by decide +kernel
theorem dL_areApart_51 : decode cL_areApart 51 = .ok (.bipush 8, 2) := by decide +kernel
theorem dL_areApart_53 : decode cL_areApart 53 = .ok (.invokestatic 167, 3) := by decide +kernel
theorem dL_areApart_56 : decode cL_areApart 56 = .ok (.ifCond .lt 26, 3) := by decide +kernel
theorem dL_areApart_59 : decode cL_areApart 59 = .ok (.aload_n 0, 1) := by decide +kernel
theorem dL_areApart_60 : decode cL_areApart 60 = .ok (.getfield 10, 3) := by decide +kernel
theorem dL_areApart_63 : decode cL_areApart 63 = .ok (.iload_n 1, 1) := by decide +kernel
theorem dL_areApart_64 : decode cL_areApart 64 = .ok (.bipush 9, 2) := by decide +kernel
theorem dL_areApart_66 : decode cL_areApart 66 = .ok (.invokestatic 167, 3) := by decide +kernel
theorem dL_areApart_69 : decode cL_areApart 69 = .ok (.aload_n 0, 1) := by decide +kernel
theorem dL_areApart_70 : decode cL_areApart 70 = .ok (.getfield 10, 3) := by decide +kernel
theorem dL_areApart_73 : decode cL_areApart 73 = .ok (.iload_n 1, 1) := by decide +kernel
theorem dL_areApart_74 : decode cL_areApart 74 = .ok (.bipush 8, 2) := by decide +kernel
theorem dL_areApart_76 : decode cL_areApart 76 = .ok (.invokestatic 167, 3) := by decide +kernel
theorem dL_areApart_79 : decode cL_areApart 79 = .ok (.if_icmp .ge 5, 3) := by decide +kernel
theorem dL_areApart_82 : decode cL_areApart 82 = .ok (.iconst 0, 1) := by decide +kernel
theorem dL_areApart_83 : decode cL_areApart 83 = .ok (.ireturn, 1) := by decide +kernel
theorem dL_areApart_84 : decode cL_areApart 84 = .ok (.iconst 0, 1) := by decide +kernel
theorem dL_areApart_85 : decode cL_areApart 85 = .ok (.istore_n 2, 1) := by decide +kernel
theorem dL_areApart_86 : decode cL_areApart 86 = .ok (.iload_n 2, 1) := by decide +kernel
theorem dL_areApart_87 : decode cL_areApart 87 = .ok (.iload_n 1, 1) := by decide +kernel
theorem dL_areApart_88 : decode cL_areApart 88 = .ok (.if_icmp .ge 172, 3) := by decide +kernel
theorem dL_areApart_91 : decode cL_areApart 91 = .ok (.aload_n 0, 1) := by decide +kernel
theorem dL_areApart_92 : decode cL_areApart 92 = .ok (.getfield 10, 3) := by decide +kernel
theorem dL_areApart_95 : decode cL_areApart 95 = .ok (.iload_n 2, 1) := by decide +kernel
theorem dL_areApart_96 : decode cL_areApart 96 = .ok (.bipush 7, 2) := by decide +kernel
theorem dL_areApart_98 : decode cL_areApart 98 = .ok (.invokestatic 167, 3) := by decide +kernel
theorem dL_areApart_101 : decode cL_areApart 101 = .ok (.iconst 1, 1) := by decide +kernel
theorem dL_areApart_102 : decode cL_areApart 102 = .ok (.if_icmp .eq 20, 3) := by decide +kernel
theorem dL_areApart_105 : decode cL_areApart 105 = .ok (.aload_n 0, 1) := by decide +kernel
theorem dL_areApart_106 : decode cL_areApart 106 = .ok (.getfield 10, 3) := by decide +kernel
theorem dL_areApart_109 : decode cL_areApart 109 = .ok (.iload_n 2, 1) := by decide +kernel
theorem dL_areApart_110 : decode cL_areApart 110 = .ok (.bipush 7, 2) := by decide +kernel
theorem dL_areApart_112 : decode cL_areApart 112 = .ok (.invokestatic 167, 3) := by decide +kernel
theorem dL_areApart_115 : decode cL_areApart 115 = .ok (.iconst 2, 1) := by decide +kernel
theorem dL_areApart_116 : decode cL_areApart 116 = .ok (.if_icmp .eq 6, 3) := by decide +kernel
theorem dL_areApart_119 : decode cL_areApart 119 = .ok (.goto 135, 3) := by decide +kernel
theorem dL_areApart_122 : decode cL_areApart 122 = .ok (.aload_n 0, 1) := by decide +kernel
theorem dL_areApart_123 : decode cL_areApart 123 = .ok (.getfield 10, 3) := by decide +kernel
theorem dL_areApart_126 : decode cL_areApart 126 = .ok (.iload_n 1, 1) := by decide +kernel
theorem dL_areApart_127 : decode cL_areApart 127 = .ok (.iconst 1, 1) := by decide +kernel
theorem dL_areApart_128 : decode cL_areApart 128 = .ok (.invokestatic 167, 3) := by decide +kernel
theorem dL_areApart_131 : decode cL_areApart 131 = .ok (.aload_n 0, 1) := by decide +kernel
theorem dL_areApart_132 : decode cL_areApart 132 = .ok (.getfield 10, 3) := by decide +kernel
theorem dL_areApart_135 : decode cL_areApart 135 = .ok (.iload_n 2, 1) := by decide +kernel
theorem dL_areApart_136 : decode cL_areApart 136 = .ok (.iconst 1, 1) := by decide +kernel
theorem dL_areApart_137 : decode cL_areApart 137 = .ok (.invokestatic 167, 3) := by decide +kernel
theorem dL_areApart_140 : decode cL_areApart 140 = .ok (.aload_n 0, 1) := by decide +kernel
theorem dL_areApart_141 : decode cL_areApart 141 = .ok (.getfield 10, 3) := by decide +kernel
theorem dL_areApart_144 : decode cL_areApart 144 = .ok (.iload_n 2, 1) := by decide +kernel
theorem dL_areApart_145 : decode cL_areApart 145 = .ok (.iconst 2, 1) := by decide +kernel
theorem dL_areApart_146 : decode cL_areApart 146 = .ok (.invokestatic 167, 3) := by decide +kernel
theorem dL_areApart_149 : decode cL_areApart 149 = .ok (.iadd, 1) := by decide +kernel
theorem dL_areApart_150 : decode cL_areApart 150 = .ok (.if_icmp .ge 38, 3) := by decide +kernel
theorem dL_areApart_153 : decode cL_areApart 153 = .ok (.aload_n 0, 1) := by decide +kernel
theorem dL_areApart_154 : decode cL_areApart 154 = .ok (.getfield 10, 3) := by decide +kernel
theorem dL_areApart_157 : decode cL_areApart 157 = .ok (.iload_n 2, 1) := by decide +kernel
theorem dL_areApart_158 : decode cL_areApart 158 = .ok (.iconst 1, 1) := by decide +kernel
theorem dL_areApart_159 : decode cL_areApart 159 = .ok (.invokestatic 167, 3) := by decide +kernel
theorem dL_areApart_162 : decode cL_areApart 162 = .ok (.aload_n 0, 1) := by decide +kernel
theorem dL_areApart_163 : decode cL_areApart 163 = .ok (.getfield 10, 3) := by decide +kernel
theorem dL_areApart_166 : decode cL_areApart 166 = .ok (.iload_n 1, 1) := by decide +kernel
theorem dL_areApart_167 : decode cL_areApart 167 = .ok (.iconst 1, 1) := by decide +kernel
theorem dL_areApart_168 : decode cL_areApart 168 = .ok (.invokestatic 167, 3) := by decide +kernel
theorem dL_areApart_171 : decode cL_areApart 171 = .ok (.aload_n 0, 1) := by decide +kernel
theorem dL_areApart_172 : decode cL_areApart 172 = .ok (.getfield 10, 3) := by decide +kernel
theorem dL_areApart_175 : decode cL_areApart 175 = .ok (.iload_n 1, 1) := by decide +kernel
theorem dL_areApart_176 : decode cL_areApart 176 = .ok (.iconst 2, 1) := by decide +kernel
theorem dL_areApart_177 : decode cL_areApart 177 = .ok (.invokestatic 167, 3) := by decide +kernel
theorem dL_areApart_180 : decode cL_areApart 180 = .ok (.iadd, 1) := by decide +kernel
theorem dL_areApart_181 : decode cL_areApart 181 = .ok (.if_icmp .ge 7, 3) := by decide +kernel
theorem dL_areApart_184 : decode cL_areApart 184 = .ok (.iconst 1, 1) := by decide +kernel
theorem dL_areApart_185 : decode cL_areApart 185 = .ok (.goto 4, 3) := by decide +kernel
theorem dL_areApart_188 : decode cL_areApart 188 = .ok (.iconst 0, 1) := by decide +kernel
theorem dL_areApart_189 : decode cL_areApart 189 = .ok (.istore_n 3, 1) := by decide +kernel
theorem dL_areApart_190 : decode cL_areApart 190 = .ok (.aload_n 0, 1) := by decide +kernel
theorem dL_areApart_191 : decode cL_areApart 191 = .ok (.getfield 10, 3) := by decide +kernel
theorem dL_areApart_194 : decode cL_areApart 194 = .ok (.iload_n 1, 1) := by decide +kernel
theorem dL_areApart_195 : decode cL_areApart 195 = .ok (.bipush 8, 2) := by decide +kernel
theorem dL_areApart_197 : decode cL_areApart 197 = .ok (.invokestatic 167, 3) := by decide +kernel
theorem dL_areApart_200 : decode cL_areApart 200 = .ok (.aload_n 0, 1) := by decide +kernel
theorem dL_areApart_201 : decode cL_areApart 201 = .ok (.getfield 10, 3) := by decide +kernel
theorem dL_areApart_204 : decode cL_areApart 204 = .ok (.iload_n 2, 1) := by decide +kernel
theorem dL_areApart_205 : decode cL_areApart 205 = .ok (.bipush 9, 2) := by decide +kernel
theorem dL_areApart_207 : decode cL_areApart 207 = .ok (.invokestatic 167, 3) := by decide +kernel
theorem dL_areApart_210 : decode cL_areApart 210 = .ok (.if_icmp .ge 30, 3) := by decide +kernel
theorem dL_areApart_213 : decode cL_areApart 213 = .ok (.aload_n 0, 1) := by decide +kernel
theorem dL_areApart_214 : decode cL_areApart 214 = .ok (.getfield 10, 3) := by decide +kernel
theorem dL_areApart_217 : decode cL_areApart 217 = .ok (.iload_n 2, 1) := by decide +kernel
theorem dL_areApart_218 : decode cL_areApart 218 = .ok (.bipush 8, 2) := by decide +kernel
theorem dL_areApart_220 : decode cL_areApart 220 = .ok (.invokestatic 167, 3) := by decide +kernel
theorem dL_areApart_223 : decode cL_areApart 223 = .ok (.aload_n 0, 1) := by decide +kernel
theorem dL_areApart_224 : decode cL_areApart 224 = .ok (.getfield 10, 3) := by decide +kernel
theorem dL_areApart_227 : decode cL_areApart 227 = .ok (.iload_n 1, 1) := by decide +kernel
theorem dL_areApart_228 : decode cL_areApart 228 = .ok (.bipush 9, 2) := by decide +kernel
theorem dL_areApart_230 : decode cL_areApart 230 = .ok (.invokestatic 167, 3) := by decide +kernel
theorem dL_areApart_233 : decode cL_areApart 233 = .ok (.if_icmp .ge 7, 3) := by decide +kernel
theorem dL_areApart_236 : decode cL_areApart 236 = .ok (.iconst 1, 1) := by decide +kernel
theorem dL_areApart_237 : decode cL_areApart 237 = .ok (.goto 4, 3) := by decide +kernel
theorem dL_areApart_240 : decode cL_areApart 240 = .ok (.iconst 0, 1) := by decide +kernel
theorem dL_areApart_241 : decode cL_areApart 241 = .ok (.istore 4, 2) := by decide +kernel
theorem dL_areApart_243 : decode cL_areApart 243 = .ok (.iload_n 3, 1) := by decide +kernel
theorem dL_areApart_244 : decode cL_areApart 244 = .ok (.ifCond .eq 10, 3) := by decide +kernel
theorem dL_areApart_247 : decode cL_areApart 247 = .ok (.iload 4, 2) := by decide +kernel
theorem dL_areApart_249 : decode cL_areApart 249 = .ok (.ifCond .eq 5, 3) := by decide +kernel
theorem dL_areApart_252 : decode cL_areApart 252 = .ok (.iconst 0, 1) := by decide +kernel
theorem dL_areApart_253 : decode cL_areApart 253 = .ok (.ireturn, 1) := by decide +kernel
theorem dL_areApart_254 : decode cL_areApart 254 = .ok (.iinc 2 1, 3) := by decide +kernel
theorem dL_areApart_257 : decode cL_areApart 257 = .ok (.goto (-171), 3) := by decide +kernel
theorem dL_areApart_260 : decode cL_areApart 260 = .ok (.iinc 1 1, 3) := by decide +kernel
theorem dL_areApart_263 : decode cL_areApart 263 = .ok (.goto (-261), 3) := by decide +kernel
theorem dL_areApart_266 : decode cL_areApart 266 = .ok (.iconst 1, 1) := by decide +kernel
theorem dL_areApart_267 : decode cL_areApart 267 = .ok (.ireturn, 1) := by decide +kernel
def w_L_areApart_82  (Q : Int32 → V3 → Prop) (v : V3) : Prop := Q 0 v
def w_L_areApart_260  (Q : Int32 → V3 → Prop) (K2 : Int32 → V3 → Prop) (x1 : Int32) (v : V3) : Prop := K2 (x1 + 1) v
def w_L_areApart_254  (Q : Int32 → V3 → Prop) (K2 : Int32 → V3 → Prop) (K86 : Int32 → Int32 → V3 → Prop) (x1 : Int32) (x2 : Int32) (v : V3) : Prop := K86 x1 (x2 + 1) v
def w_L_areApart_241  (Q : Int32 → V3 → Prop) (K2 : Int32 → V3 → Prop) (K86 : Int32 → Int32 → V3 → Prop) (x1 : Int32) (x2 : Int32) (x3 : Int32) (s0 : Int32) (v : V3) : Prop := ((x3 = 0 → w_L_areApart_254 Q K2 K86 x1 x2 v) ∧ (¬ x3 = 0 → ((s0 = 0 → w_L_areApart_254 Q K2 K86 x1 x2 v) ∧ (¬ s0 = 0 → Q 0 v))))
def w_L_areApart_240  (Q : Int32 → V3 → Prop) (K2 : Int32 → V3 → Prop) (K86 : Int32 → Int32 → V3 → Prop) (x1 : Int32) (x2 : Int32) (x3 : Int32) (v : V3) : Prop := w_L_areApart_241 Q K2 K86 x1 x2 x3 0 v
def w_L_areApart_189  (Q : Int32 → V3 → Prop) (K2 : Int32 → V3 → Prop) (K86 : Int32 → Int32 → V3 → Prop) (x1 : Int32) (x2 : Int32) (s0 : Int32) (v : V3) : Prop := w_L_booking x1 8 v (fun r27 v26 => w_L_booking x2 9 v26 (fun r29 v28 => ((r29 ≤ r27 → w_L_areApart_240 Q K2 K86 x1 x2 s0 v28) ∧ (¬ r29 ≤ r27 → w_L_booking x2 8 v28 (fun r34 v33 => w_L_booking x1 9 v33 (fun r36 v35 => ((r36 ≤ r34 → w_L_areApart_240 Q K2 K86 x1 x2 s0 v35) ∧ (¬ r36 ≤ r34 → w_L_areApart_241 Q K2 K86 x1 x2 s0 1 v35))))))))
def w_L_areApart_188  (Q : Int32 → V3 → Prop) (K2 : Int32 → V3 → Prop) (K86 : Int32 → Int32 → V3 → Prop) (x1 : Int32) (x2 : Int32) (v : V3) : Prop := w_L_areApart_189 Q K2 K86 x1 x2 0 v
def w_L_areApart_122  (Q : Int32 → V3 → Prop) (K2 : Int32 → V3 → Prop) (K86 : Int32 → Int32 → V3 → Prop) (x1 : Int32) (x2 : Int32) (v : V3) : Prop := w_L_booking x1 1 v (fun r20 v19 => w_L_booking x2 1 v19 (fun r22 v21 => w_L_booking x2 2 v21 (fun r24 v23 => (((r22 + r24) ≤ r20 → w_L_areApart_188 Q K2 K86 x1 x2 v23) ∧ (¬ (r22 + r24) ≤ r20 → w_L_booking x2 1 v23 (fun r39 v38 => w_L_booking x1 1 v38 (fun r41 v40 => w_L_booking x1 2 v40 (fun r43 v42 => (((r41 + r43) ≤ r39 → w_L_areApart_188 Q K2 K86 x1 x2 v42) ∧ (¬ (r41 + r43) ≤ r39 → w_L_areApart_189 Q K2 K86 x1 x2 1 v42))))))))))
def w_L_areApart_86  (Q : Int32 → V3 → Prop) (K2 : Int32 → V3 → Prop) : Nat → Int32 → Int32 → V3 → Prop
  | 0, _, _, _ => False
  | n86 + 1, x1, x2, v => ((x1 ≤ x2 → w_L_areApart_260 Q K2 x1 v) ∧ (¬ x1 ≤ x2 → w_L_booking x2 7 v (fun r17 v16 => ((r17 = 1 → w_L_areApart_122 Q K2 (w_L_areApart_86 Q K2 n86) x1 x2 v16) ∧ (¬ r17 = 1 → w_L_booking x2 7 v16 (fun r46 v45 => ((r46 = 2 → w_L_areApart_122 Q K2 (w_L_areApart_86 Q K2 n86) x1 x2 v45) ∧ (¬ r46 = 2 → w_L_areApart_254 Q K2 (w_L_areApart_86 Q K2 n86) x1 x2 v45))))))))
def w_L_areApart_46  (Q : Int32 → V3 → Prop) (K2 : Int32 → V3 → Prop) (x1 : Int32) (v : V3) : Prop := w_L_booking x1 8 v (fun r8 v7 => ((r8 < 0 → w_L_areApart_82 Q v7) ∧ (¬ r8 < 0 → w_L_booking x1 9 v7 (fun r11 v10 => w_L_booking x1 8 v10 (fun r13 v12 => ((r13 ≤ r11 → ∃ m86 : Nat, w_L_areApart_86 Q K2 m86 x1 0 v12) ∧ (¬ r13 ≤ r11 → w_L_areApart_82 Q v12)))))))
def w_L_areApart_2  (Q : Int32 → V3 → Prop) : Nat → Int32 → V3 → Prop
  | 0, _, _ => False
  | n2 + 1, x1, v => w_L_count 6 v (fun r2 v1 => ((r2 ≤ x1 → Q 1 v1) ∧ (¬ r2 ≤ x1 → w_L_booking x1 7 v1 (fun r5 v4 => ((r5 = 1 → w_L_areApart_46 Q (w_L_areApart_2 Q n2) x1 v4) ∧ (¬ r5 = 1 → w_L_booking x1 7 v4 (fun r49 v48 => ((r49 = 2 → w_L_areApart_46 Q (w_L_areApart_2 Q n2) x1 v48) ∧ (¬ r49 = 2 → w_L_areApart_260 Q (w_L_areApart_2 Q n2) x1 v48)))))))))
def w_L_areApart  (v : V3) (Q : Int32 → V3 → Prop) : Prop := ∃ m2 : Nat, w_L_areApart_2 Q m2 0 v
set_option maxRecDepth 100000 in
set_option maxHeartbeats 4000000 in
theorem b_L_areApart_82 {p : Program} (l : Launch) {e : Env} {s : State} {m : MethodId} {args : Array Value} {below : List Frame} {meth : Method} {c : Code} {G : zG}   (C0 : Cx G RL cL_areApart 5 (some .boolean) p s m args meth c) {Q : Int32 → V3 → Prop} : ∀ (v : V3) (H : Heap) (locs : List Loc) (ls : Array Slot), w_L_areApart_82 Q v → Zs G s v H locs → lv_has ls 5 [] → W p l e { frames := 5, cells := 0, slots := 0, locals := 127 } s m args below meth c H locs 0 0 (MQ below (QiZ G Q) args s 0 0 (zA G)) (F0 m 82 ls []) := by
  have hx := C0.1
  have hb := C0.2.1
  intro v H locs ls hw Z hl
  rw [w_L_areApart_82] at hw
  refine lv_iconst (v := 0) hx hb dL_areApart_82 (by decide) ?_
  exact z_zret C0 Z (by decide) hw dL_areApart_83
set_option maxRecDepth 100000 in
set_option maxHeartbeats 4000000 in
theorem b_L_areApart_260 {p : Program} (l : Launch) {e : Env} {s : State} {m : MethodId} {args : Array Value} {below : List Frame} {meth : Method} {c : Code} {G : zG}   (C0 : Cx G RL cL_areApart 5 (some .boolean) p s m args meth c) {Q : Int32 → V3 → Prop} {K2 : Int32 → V3 → Prop} (hK2 : ∀ (x1 : Int32) (v : V3) (H : Heap) (locs : List Loc) (ls : Array Slot), K2 x1 v → Zs G s v H locs → lv_has ls 5 [(0, .ref (gad G 7)), (1, .int x1)] → W p l e { frames := 5, cells := 0, slots := 0, locals := 127 } s m args below meth c H locs 0 0 (MQ below (QiZ G Q) args s 0 0 (zA G)) (F0 m 2 ls [])) : ∀ (x1 : Int32) (v : V3) (H : Heap) (locs : List Loc) (ls : Array Slot), w_L_areApart_260 Q K2 x1 v → Zs G s v H locs → lv_has ls 5 [(0, .ref (gad G 7)), (1, .int x1)] → W p l e { frames := 5, cells := 0, slots := 0, locals := 127 } s m args below meth c H locs 0 0 (MQ below (QiZ G Q) args s 0 0 (zA G)) (F0 m 260 ls []) := by
  have hx := C0.1
  have hb := C0.2.1
  intro x1 v H locs ls hw Z hl
  rw [w_L_areApart_260] at hw
  refine lv_iinc (v := x1 + 1) (lv' := [(1, .int (x1 + 1)), (0, .ref (gad G 7))]) hx hb dL_areApart_260 hl (k := 1) rfl rfl (by decide) rfl (fun ls hl => ?_)
  refine lv_goto (tgt := 2) hx hb dL_areApart_263 (by decide) ?_
  exact hK2 _ _ _ _ _ hw Z (lv_sub hl [1, 0] rfl)
set_option maxRecDepth 100000 in
set_option maxHeartbeats 4000000 in
theorem b_L_areApart_254 {p : Program} (l : Launch) {e : Env} {s : State} {m : MethodId} {args : Array Value} {below : List Frame} {meth : Method} {c : Code} {G : zG}   (C0 : Cx G RL cL_areApart 5 (some .boolean) p s m args meth c) {Q : Int32 → V3 → Prop} {K2 : Int32 → V3 → Prop} (hK2 : ∀ (x1 : Int32) (v : V3) (H : Heap) (locs : List Loc) (ls : Array Slot), K2 x1 v → Zs G s v H locs → lv_has ls 5 [(0, .ref (gad G 7)), (1, .int x1)] → W p l e { frames := 5, cells := 0, slots := 0, locals := 127 } s m args below meth c H locs 0 0 (MQ below (QiZ G Q) args s 0 0 (zA G)) (F0 m 2 ls [])) {K86 : Int32 → Int32 → V3 → Prop} (hK86 : ∀ (x1 : Int32) (x2 : Int32) (v : V3) (H : Heap) (locs : List Loc) (ls : Array Slot), K86 x1 x2 v → Zs G s v H locs → lv_has ls 5 [(0, .ref (gad G 7)), (1, .int x1), (2, .int x2)] → W p l e { frames := 5, cells := 0, slots := 0, locals := 127 } s m args below meth c H locs 0 0 (MQ below (QiZ G Q) args s 0 0 (zA G)) (F0 m 86 ls [])) : ∀ (x1 : Int32) (x2 : Int32) (v : V3) (H : Heap) (locs : List Loc) (ls : Array Slot), w_L_areApart_254 Q K2 K86 x1 x2 v → Zs G s v H locs → lv_has ls 5 [(0, .ref (gad G 7)), (1, .int x1), (2, .int x2)] → W p l e { frames := 5, cells := 0, slots := 0, locals := 127 } s m args below meth c H locs 0 0 (MQ below (QiZ G Q) args s 0 0 (zA G)) (F0 m 254 ls []) := by
  have hx := C0.1
  have hb := C0.2.1
  intro x1 x2 v H locs ls hw Z hl
  rw [w_L_areApart_254] at hw
  refine lv_iinc (v := x2 + 1) (lv' := [(2, .int (x2 + 1)), (0, .ref (gad G 7)), (1, .int x1)]) hx hb dL_areApart_254 hl (k := 2) rfl rfl (by decide) rfl (fun ls hl => ?_)
  refine lv_goto (tgt := 86) hx hb dL_areApart_257 (by decide) ?_
  exact hK86 _ _ _ _ _ _ hw Z (lv_sub hl [1, 2, 0] rfl)
set_option maxRecDepth 100000 in
set_option maxHeartbeats 4000000 in
theorem b_L_areApart_241 {p : Program} (l : Launch) {e : Env} {s : State} {m : MethodId} {args : Array Value} {below : List Frame} {meth : Method} {c : Code} {G : zG}   (C0 : Cx G RL cL_areApart 5 (some .boolean) p s m args meth c) {Q : Int32 → V3 → Prop} {K2 : Int32 → V3 → Prop} (hK2 : ∀ (x1 : Int32) (v : V3) (H : Heap) (locs : List Loc) (ls : Array Slot), K2 x1 v → Zs G s v H locs → lv_has ls 5 [(0, .ref (gad G 7)), (1, .int x1)] → W p l e { frames := 5, cells := 0, slots := 0, locals := 127 } s m args below meth c H locs 0 0 (MQ below (QiZ G Q) args s 0 0 (zA G)) (F0 m 2 ls [])) {K86 : Int32 → Int32 → V3 → Prop} (hK86 : ∀ (x1 : Int32) (x2 : Int32) (v : V3) (H : Heap) (locs : List Loc) (ls : Array Slot), K86 x1 x2 v → Zs G s v H locs → lv_has ls 5 [(0, .ref (gad G 7)), (1, .int x1), (2, .int x2)] → W p l e { frames := 5, cells := 0, slots := 0, locals := 127 } s m args below meth c H locs 0 0 (MQ below (QiZ G Q) args s 0 0 (zA G)) (F0 m 86 ls [])) : ∀ (x1 : Int32) (x2 : Int32) (x3 : Int32) (s0 : Int32) (v : V3) (H : Heap) (locs : List Loc) (ls : Array Slot), w_L_areApart_241 Q K2 K86 x1 x2 x3 s0 v → Zs G s v H locs → lv_has ls 5 [(0, .ref (gad G 7)), (1, .int x1), (2, .int x2), (3, .int x3)] → W p l e { frames := 5, cells := 0, slots := 0, locals := 127 } s m args below meth c H locs 0 0 (MQ below (QiZ G Q) args s 0 0 (zA G)) (F0 m 241 ls [.int s0]) := by
  have hx := C0.1
  have hb := C0.2.1
  intro x1 x2 x3 s0 v H locs ls hw Z hl
  rw [w_L_areApart_241] at hw
  refine lv_istore (lv' := [(4, .int s0), (0, .ref (gad G 7)), (1, .int x1), (2, .int x2), (3, .int x3)]) hx hb dL_areApart_241 hl (by decide) rfl (fun ls hl => ?_)
  refine lv_iload_n hx hb dL_areApart_243 rfl (lv_at hl 4 rfl) ?_
  refine lv_if_eq (tgt := 254) hx hb dL_areApart_244 (by decide) (fun c31 => ?_) (fun c31 => ?_)
  · replace hw := hw.1 c31
    exact b_L_areApart_254 l C0 hK2 hK86 _ _ _ _ _ _ hw Z (lv_sub hl [1, 2, 3] rfl)
  · replace hw := hw.2 c31
    refine lv_iload hx hb dL_areApart_247 (lv_at hl 0 rfl) ?_
    refine lv_if_eq (tgt := 254) hx hb dL_areApart_249 (by decide) (fun c32 => ?_) (fun c32 => ?_)
    · replace hw := hw.1 c32
      exact b_L_areApart_254 l C0 hK2 hK86 _ _ _ _ _ _ hw Z (lv_sub hl [1, 2, 3] rfl)
    · replace hw := hw.2 c32
      refine lv_iconst (v := 0) hx hb dL_areApart_252 (by decide) ?_
      exact z_zret C0 Z (by decide) hw dL_areApart_253
set_option maxRecDepth 100000 in
set_option maxHeartbeats 4000000 in
theorem b_L_areApart_240 {p : Program} (l : Launch) {e : Env} {s : State} {m : MethodId} {args : Array Value} {below : List Frame} {meth : Method} {c : Code} {G : zG}   (C0 : Cx G RL cL_areApart 5 (some .boolean) p s m args meth c) {Q : Int32 → V3 → Prop} {K2 : Int32 → V3 → Prop} (hK2 : ∀ (x1 : Int32) (v : V3) (H : Heap) (locs : List Loc) (ls : Array Slot), K2 x1 v → Zs G s v H locs → lv_has ls 5 [(0, .ref (gad G 7)), (1, .int x1)] → W p l e { frames := 5, cells := 0, slots := 0, locals := 127 } s m args below meth c H locs 0 0 (MQ below (QiZ G Q) args s 0 0 (zA G)) (F0 m 2 ls [])) {K86 : Int32 → Int32 → V3 → Prop} (hK86 : ∀ (x1 : Int32) (x2 : Int32) (v : V3) (H : Heap) (locs : List Loc) (ls : Array Slot), K86 x1 x2 v → Zs G s v H locs → lv_has ls 5 [(0, .ref (gad G 7)), (1, .int x1), (2, .int x2)] → W p l e { frames := 5, cells := 0, slots := 0, locals := 127 } s m args below meth c H locs 0 0 (MQ below (QiZ G Q) args s 0 0 (zA G)) (F0 m 86 ls [])) : ∀ (x1 : Int32) (x2 : Int32) (x3 : Int32) (v : V3) (H : Heap) (locs : List Loc) (ls : Array Slot), w_L_areApart_240 Q K2 K86 x1 x2 x3 v → Zs G s v H locs → lv_has ls 5 [(0, .ref (gad G 7)), (1, .int x1), (2, .int x2), (3, .int x3)] → W p l e { frames := 5, cells := 0, slots := 0, locals := 127 } s m args below meth c H locs 0 0 (MQ below (QiZ G Q) args s 0 0 (zA G)) (F0 m 240 ls []) := by
  have hx := C0.1
  have hb := C0.2.1
  intro x1 x2 x3 v H locs ls hw Z hl
  rw [w_L_areApart_240] at hw
  refine lv_iconst (v := 0) hx hb dL_areApart_240 (by decide) ?_
  exact b_L_areApart_241 l C0 hK2 hK86 _ _ _ _ _ _ _ _ hw Z (lv_sub hl [0, 1, 2, 3] rfl)
set_option maxRecDepth 100000 in
set_option maxHeartbeats 4000000 in
theorem b_L_areApart_189 {p : Program} (l : Launch) {e : Env} {s : State} {m : MethodId} {args : Array Value} {below : List Frame} {meth : Method} {c : Code} {G : zG}   (C0 : Cx G RL cL_areApart 5 (some .boolean) p s m args meth c) {Q : Int32 → V3 → Prop} {K2 : Int32 → V3 → Prop} (hK2 : ∀ (x1 : Int32) (v : V3) (H : Heap) (locs : List Loc) (ls : Array Slot), K2 x1 v → Zs G s v H locs → lv_has ls 5 [(0, .ref (gad G 7)), (1, .int x1)] → W p l e { frames := 5, cells := 0, slots := 0, locals := 127 } s m args below meth c H locs 0 0 (MQ below (QiZ G Q) args s 0 0 (zA G)) (F0 m 2 ls [])) {K86 : Int32 → Int32 → V3 → Prop} (hK86 : ∀ (x1 : Int32) (x2 : Int32) (v : V3) (H : Heap) (locs : List Loc) (ls : Array Slot), K86 x1 x2 v → Zs G s v H locs → lv_has ls 5 [(0, .ref (gad G 7)), (1, .int x1), (2, .int x2)] → W p l e { frames := 5, cells := 0, slots := 0, locals := 127 } s m args below meth c H locs 0 0 (MQ below (QiZ G Q) args s 0 0 (zA G)) (F0 m 86 ls [])) : ∀ (x1 : Int32) (x2 : Int32) (s0 : Int32) (v : V3) (H : Heap) (locs : List Loc) (ls : Array Slot), w_L_areApart_189 Q K2 K86 x1 x2 s0 v → Zs G s v H locs → lv_has ls 5 [(0, .ref (gad G 7)), (1, .int x1), (2, .int x2)] → W p l e { frames := 5, cells := 0, slots := 0, locals := 127 } s m args below meth c H locs 0 0 (MQ below (QiZ G Q) args s 0 0 (zA G)) (F0 m 189 ls [.int s0]) := by
  have hx := C0.1
  have hb := C0.2.1
  intro x1 x2 s0 v H locs ls hw Z hl
  rw [w_L_areApart_189] at hw
  refine lv_istore_n (lv' := [(3, .int s0), (0, .ref (gad G 7)), (1, .int x1), (2, .int x2)]) hx hb dL_areApart_189 rfl hl (by decide) rfl (fun ls hl => ?_)
  refine lv_aload_n hx hb dL_areApart_190 rfl (lv_at hl 1 rfl) ?_
  refine z_get C0 Z in_L rfl 0 (by decide) rfl tm_1_181 (cx_lt C0 (by decide)) rfl rfl dL_areApart_191 ?_
  refine lv_iload_n hx hb dL_areApart_194 rfl (lv_at hl 2 rfl) ?_
  refine lv_bipush (v := 8) hx hb dL_areApart_195 (by decide) ?_
  refine z_callH C0 Z hl.1 (As := [.ref (gad G 0), .int x1, .int 8]) (rest := []) (k_L_booking l (cx_g C0) hw) (gv_L_booking tm_2_238) ds_L_booking ⟨Nat.le_of_ble_eq_true rfl, Nat.le_of_ble_eq_true rfl⟩ rfl rfl (Nat.le_of_ble_eq_true rfl) ⟨Nat.le_of_ble_eq_true rfl, Nat.le_of_ble_eq_true rfl⟩ dL_areApart_197 (fun r27 v26 H locs hw Z => ?_)
  refine lv_aload_n hx hb dL_areApart_200 rfl (lv_at hl 1 rfl) ?_
  refine z_get C0 Z in_L rfl 0 (by decide) rfl tm_1_181 (cx_lt C0 (by decide)) rfl rfl dL_areApart_201 ?_
  refine lv_iload_n hx hb dL_areApart_204 rfl (lv_at hl 3 rfl) ?_
  refine lv_bipush (v := 9) hx hb dL_areApart_205 (by decide) ?_
  refine z_callH C0 Z hl.1 (As := [.ref (gad G 0), .int x2, .int 9]) (rest := [.int r27]) (k_L_booking l (cx_g C0) hw) (gv_L_booking tm_2_238) ds_L_booking ⟨Nat.le_of_ble_eq_true rfl, Nat.le_of_ble_eq_true rfl⟩ rfl rfl (Nat.le_of_ble_eq_true rfl) ⟨Nat.le_of_ble_eq_true rfl, Nat.le_of_ble_eq_true rfl⟩ dL_areApart_207 (fun r29 v28 H locs hw Z => ?_)
  refine lv_icmp_ge (tgt := 240) hx hb dL_areApart_210 (by decide) (fun c30 => ?_) (fun c30 => ?_)
  · replace hw := hw.1 c30
    exact b_L_areApart_240 l C0 hK2 hK86 _ _ _ _ _ _ _ hw Z (lv_sub hl [1, 2, 3, 0] rfl)
  · replace hw := hw.2 c30
    refine lv_aload_n hx hb dL_areApart_213 rfl (lv_at hl 1 rfl) ?_
    refine z_get C0 Z in_L rfl 0 (by decide) rfl tm_1_181 (cx_lt C0 (by decide)) rfl rfl dL_areApart_214 ?_
    refine lv_iload_n hx hb dL_areApart_217 rfl (lv_at hl 3 rfl) ?_
    refine lv_bipush (v := 8) hx hb dL_areApart_218 (by decide) ?_
    refine z_callH C0 Z hl.1 (As := [.ref (gad G 0), .int x2, .int 8]) (rest := []) (k_L_booking l (cx_g C0) hw) (gv_L_booking tm_2_238) ds_L_booking ⟨Nat.le_of_ble_eq_true rfl, Nat.le_of_ble_eq_true rfl⟩ rfl rfl (Nat.le_of_ble_eq_true rfl) ⟨Nat.le_of_ble_eq_true rfl, Nat.le_of_ble_eq_true rfl⟩ dL_areApart_220 (fun r34 v33 H locs hw Z => ?_)
    refine lv_aload_n hx hb dL_areApart_223 rfl (lv_at hl 1 rfl) ?_
    refine z_get C0 Z in_L rfl 0 (by decide) rfl tm_1_181 (cx_lt C0 (by decide)) rfl rfl dL_areApart_224 ?_
    refine lv_iload_n hx hb dL_areApart_227 rfl (lv_at hl 2 rfl) ?_
    refine lv_bipush (v := 9) hx hb dL_areApart_228 (by decide) ?_
    refine z_callH C0 Z hl.1 (As := [.ref (gad G 0), .int x1, .int 9]) (rest := [.int r34]) (k_L_booking l (cx_g C0) hw) (gv_L_booking tm_2_238) ds_L_booking ⟨Nat.le_of_ble_eq_true rfl, Nat.le_of_ble_eq_true rfl⟩ rfl rfl (Nat.le_of_ble_eq_true rfl) ⟨Nat.le_of_ble_eq_true rfl, Nat.le_of_ble_eq_true rfl⟩ dL_areApart_230 (fun r36 v35 H locs hw Z => ?_)
    refine lv_icmp_ge (tgt := 240) hx hb dL_areApart_233 (by decide) (fun c37 => ?_) (fun c37 => ?_)
    · replace hw := hw.1 c37
      exact b_L_areApart_240 l C0 hK2 hK86 _ _ _ _ _ _ _ hw Z (lv_sub hl [1, 2, 3, 0] rfl)
    · replace hw := hw.2 c37
      refine lv_iconst (v := 1) hx hb dL_areApart_236 (by decide) ?_
      refine lv_goto (tgt := 241) hx hb dL_areApart_237 (by decide) ?_
      exact b_L_areApart_241 l C0 hK2 hK86 _ _ _ _ _ _ _ _ hw Z (lv_sub hl [1, 2, 3, 0] rfl)
set_option maxRecDepth 100000 in
set_option maxHeartbeats 4000000 in
theorem b_L_areApart_188 {p : Program} (l : Launch) {e : Env} {s : State} {m : MethodId} {args : Array Value} {below : List Frame} {meth : Method} {c : Code} {G : zG}   (C0 : Cx G RL cL_areApart 5 (some .boolean) p s m args meth c) {Q : Int32 → V3 → Prop} {K2 : Int32 → V3 → Prop} (hK2 : ∀ (x1 : Int32) (v : V3) (H : Heap) (locs : List Loc) (ls : Array Slot), K2 x1 v → Zs G s v H locs → lv_has ls 5 [(0, .ref (gad G 7)), (1, .int x1)] → W p l e { frames := 5, cells := 0, slots := 0, locals := 127 } s m args below meth c H locs 0 0 (MQ below (QiZ G Q) args s 0 0 (zA G)) (F0 m 2 ls [])) {K86 : Int32 → Int32 → V3 → Prop} (hK86 : ∀ (x1 : Int32) (x2 : Int32) (v : V3) (H : Heap) (locs : List Loc) (ls : Array Slot), K86 x1 x2 v → Zs G s v H locs → lv_has ls 5 [(0, .ref (gad G 7)), (1, .int x1), (2, .int x2)] → W p l e { frames := 5, cells := 0, slots := 0, locals := 127 } s m args below meth c H locs 0 0 (MQ below (QiZ G Q) args s 0 0 (zA G)) (F0 m 86 ls [])) : ∀ (x1 : Int32) (x2 : Int32) (v : V3) (H : Heap) (locs : List Loc) (ls : Array Slot), w_L_areApart_188 Q K2 K86 x1 x2 v → Zs G s v H locs → lv_has ls 5 [(0, .ref (gad G 7)), (1, .int x1), (2, .int x2)] → W p l e { frames := 5, cells := 0, slots := 0, locals := 127 } s m args below meth c H locs 0 0 (MQ below (QiZ G Q) args s 0 0 (zA G)) (F0 m 188 ls []) := by
  have hx := C0.1
  have hb := C0.2.1
  intro x1 x2 v H locs ls hw Z hl
  rw [w_L_areApart_188] at hw
  refine lv_iconst (v := 0) hx hb dL_areApart_188 (by decide) ?_
  exact b_L_areApart_189 l C0 hK2 hK86 _ _ _ _ _ _ _ hw Z (lv_sub hl [0, 1, 2] rfl)
set_option maxRecDepth 100000 in
set_option maxHeartbeats 4000000 in
theorem b_L_areApart_122 {p : Program} (l : Launch) {e : Env} {s : State} {m : MethodId} {args : Array Value} {below : List Frame} {meth : Method} {c : Code} {G : zG}   (C0 : Cx G RL cL_areApart 5 (some .boolean) p s m args meth c) {Q : Int32 → V3 → Prop} {K2 : Int32 → V3 → Prop} (hK2 : ∀ (x1 : Int32) (v : V3) (H : Heap) (locs : List Loc) (ls : Array Slot), K2 x1 v → Zs G s v H locs → lv_has ls 5 [(0, .ref (gad G 7)), (1, .int x1)] → W p l e { frames := 5, cells := 0, slots := 0, locals := 127 } s m args below meth c H locs 0 0 (MQ below (QiZ G Q) args s 0 0 (zA G)) (F0 m 2 ls [])) {K86 : Int32 → Int32 → V3 → Prop} (hK86 : ∀ (x1 : Int32) (x2 : Int32) (v : V3) (H : Heap) (locs : List Loc) (ls : Array Slot), K86 x1 x2 v → Zs G s v H locs → lv_has ls 5 [(0, .ref (gad G 7)), (1, .int x1), (2, .int x2)] → W p l e { frames := 5, cells := 0, slots := 0, locals := 127 } s m args below meth c H locs 0 0 (MQ below (QiZ G Q) args s 0 0 (zA G)) (F0 m 86 ls [])) : ∀ (x1 : Int32) (x2 : Int32) (v : V3) (H : Heap) (locs : List Loc) (ls : Array Slot), w_L_areApart_122 Q K2 K86 x1 x2 v → Zs G s v H locs → lv_has ls 5 [(0, .ref (gad G 7)), (1, .int x1), (2, .int x2)] → W p l e { frames := 5, cells := 0, slots := 0, locals := 127 } s m args below meth c H locs 0 0 (MQ below (QiZ G Q) args s 0 0 (zA G)) (F0 m 122 ls []) := by
  have hx := C0.1
  have hb := C0.2.1
  intro x1 x2 v H locs ls hw Z hl
  rw [w_L_areApart_122] at hw
  refine lv_aload_n hx hb dL_areApart_122 rfl (lv_at hl 0 rfl) ?_
  refine z_get C0 Z in_L rfl 0 (by decide) rfl tm_1_181 (cx_lt C0 (by decide)) rfl rfl dL_areApart_123 ?_
  refine lv_iload_n hx hb dL_areApart_126 rfl (lv_at hl 1 rfl) ?_
  refine lv_iconst (v := 1) hx hb dL_areApart_127 (by decide) ?_
  refine z_callH C0 Z hl.1 (As := [.ref (gad G 0), .int x1, .int 1]) (rest := []) (k_L_booking l (cx_g C0) hw) (gv_L_booking tm_2_238) ds_L_booking ⟨Nat.le_of_ble_eq_true rfl, Nat.le_of_ble_eq_true rfl⟩ rfl rfl (Nat.le_of_ble_eq_true rfl) ⟨Nat.le_of_ble_eq_true rfl, Nat.le_of_ble_eq_true rfl⟩ dL_areApart_128 (fun r20 v19 H locs hw Z => ?_)
  refine lv_aload_n hx hb dL_areApart_131 rfl (lv_at hl 0 rfl) ?_
  refine z_get C0 Z in_L rfl 0 (by decide) rfl tm_1_181 (cx_lt C0 (by decide)) rfl rfl dL_areApart_132 ?_
  refine lv_iload_n hx hb dL_areApart_135 rfl (lv_at hl 2 rfl) ?_
  refine lv_iconst (v := 1) hx hb dL_areApart_136 (by decide) ?_
  refine z_callH C0 Z hl.1 (As := [.ref (gad G 0), .int x2, .int 1]) (rest := [.int r20]) (k_L_booking l (cx_g C0) hw) (gv_L_booking tm_2_238) ds_L_booking ⟨Nat.le_of_ble_eq_true rfl, Nat.le_of_ble_eq_true rfl⟩ rfl rfl (Nat.le_of_ble_eq_true rfl) ⟨Nat.le_of_ble_eq_true rfl, Nat.le_of_ble_eq_true rfl⟩ dL_areApart_137 (fun r22 v21 H locs hw Z => ?_)
  refine lv_aload_n hx hb dL_areApart_140 rfl (lv_at hl 0 rfl) ?_
  refine z_get C0 Z in_L rfl 0 (by decide) rfl tm_1_181 (cx_lt C0 (by decide)) rfl rfl dL_areApart_141 ?_
  refine lv_iload_n hx hb dL_areApart_144 rfl (lv_at hl 2 rfl) ?_
  refine lv_iconst (v := 2) hx hb dL_areApart_145 (by decide) ?_
  refine z_callH C0 Z hl.1 (As := [.ref (gad G 0), .int x2, .int 2]) (rest := [.int r22, .int r20]) (k_L_booking l (cx_g C0) hw) (gv_L_booking tm_2_238) ds_L_booking ⟨Nat.le_of_ble_eq_true rfl, Nat.le_of_ble_eq_true rfl⟩ rfl rfl (Nat.le_of_ble_eq_true rfl) ⟨Nat.le_of_ble_eq_true rfl, Nat.le_of_ble_eq_true rfl⟩ dL_areApart_146 (fun r24 v23 H locs hw Z => ?_)
  refine lv_iadd hx hb dL_areApart_149 ?_
  refine lv_icmp_ge (tgt := 188) hx hb dL_areApart_150 (by decide) (fun c25 => ?_) (fun c25 => ?_)
  · replace hw := hw.1 c25
    exact b_L_areApart_188 l C0 hK2 hK86 _ _ _ _ _ _ hw Z (lv_sub hl [0, 1, 2] rfl)
  · replace hw := hw.2 c25
    refine lv_aload_n hx hb dL_areApart_153 rfl (lv_at hl 0 rfl) ?_
    refine z_get C0 Z in_L rfl 0 (by decide) rfl tm_1_181 (cx_lt C0 (by decide)) rfl rfl dL_areApart_154 ?_
    refine lv_iload_n hx hb dL_areApart_157 rfl (lv_at hl 2 rfl) ?_
    refine lv_iconst (v := 1) hx hb dL_areApart_158 (by decide) ?_
    refine z_callH C0 Z hl.1 (As := [.ref (gad G 0), .int x2, .int 1]) (rest := []) (k_L_booking l (cx_g C0) hw) (gv_L_booking tm_2_238) ds_L_booking ⟨Nat.le_of_ble_eq_true rfl, Nat.le_of_ble_eq_true rfl⟩ rfl rfl (Nat.le_of_ble_eq_true rfl) ⟨Nat.le_of_ble_eq_true rfl, Nat.le_of_ble_eq_true rfl⟩ dL_areApart_159 (fun r39 v38 H locs hw Z => ?_)
    refine lv_aload_n hx hb dL_areApart_162 rfl (lv_at hl 0 rfl) ?_
    refine z_get C0 Z in_L rfl 0 (by decide) rfl tm_1_181 (cx_lt C0 (by decide)) rfl rfl dL_areApart_163 ?_
    refine lv_iload_n hx hb dL_areApart_166 rfl (lv_at hl 1 rfl) ?_
    refine lv_iconst (v := 1) hx hb dL_areApart_167 (by decide) ?_
    refine z_callH C0 Z hl.1 (As := [.ref (gad G 0), .int x1, .int 1]) (rest := [.int r39]) (k_L_booking l (cx_g C0) hw) (gv_L_booking tm_2_238) ds_L_booking ⟨Nat.le_of_ble_eq_true rfl, Nat.le_of_ble_eq_true rfl⟩ rfl rfl (Nat.le_of_ble_eq_true rfl) ⟨Nat.le_of_ble_eq_true rfl, Nat.le_of_ble_eq_true rfl⟩ dL_areApart_168 (fun r41 v40 H locs hw Z => ?_)
    refine lv_aload_n hx hb dL_areApart_171 rfl (lv_at hl 0 rfl) ?_
    refine z_get C0 Z in_L rfl 0 (by decide) rfl tm_1_181 (cx_lt C0 (by decide)) rfl rfl dL_areApart_172 ?_
    refine lv_iload_n hx hb dL_areApart_175 rfl (lv_at hl 1 rfl) ?_
    refine lv_iconst (v := 2) hx hb dL_areApart_176 (by decide) ?_
    refine z_callH C0 Z hl.1 (As := [.ref (gad G 0), .int x1, .int 2]) (rest := [.int r41, .int r39]) (k_L_booking l (cx_g C0) hw) (gv_L_booking tm_2_238) ds_L_booking ⟨Nat.le_of_ble_eq_true rfl, Nat.le_of_ble_eq_true rfl⟩ rfl rfl (Nat.le_of_ble_eq_true rfl) ⟨Nat.le_of_ble_eq_true rfl, Nat.le_of_ble_eq_true rfl⟩ dL_areApart_177 (fun r43 v42 H locs hw Z => ?_)
    refine lv_iadd hx hb dL_areApart_180 ?_
    refine lv_icmp_ge (tgt := 188) hx hb dL_areApart_181 (by decide) (fun c44 => ?_) (fun c44 => ?_)
    · replace hw := hw.1 c44
      exact b_L_areApart_188 l C0 hK2 hK86 _ _ _ _ _ _ hw Z (lv_sub hl [0, 1, 2] rfl)
    · replace hw := hw.2 c44
      refine lv_iconst (v := 1) hx hb dL_areApart_184 (by decide) ?_
      refine lv_goto (tgt := 189) hx hb dL_areApart_185 (by decide) ?_
      exact b_L_areApart_189 l C0 hK2 hK86 _ _ _ _ _ _ _ hw Z (lv_sub hl [0, 1, 2] rfl)
set_option maxRecDepth 100000 in
set_option maxHeartbeats 4000000 in
theorem b_L_areApart_86 {p : Program} (l : Launch) {e : Env} {s : State} {m : MethodId} {args : Array Value} {below : List Frame} {meth : Method} {c : Code} {G : zG}   (C0 : Cx G RL cL_areApart 5 (some .boolean) p s m args meth c) {Q : Int32 → V3 → Prop} {K2 : Int32 → V3 → Prop} (hK2 : ∀ (x1 : Int32) (v : V3) (H : Heap) (locs : List Loc) (ls : Array Slot), K2 x1 v → Zs G s v H locs → lv_has ls 5 [(0, .ref (gad G 7)), (1, .int x1)] → W p l e { frames := 5, cells := 0, slots := 0, locals := 127 } s m args below meth c H locs 0 0 (MQ below (QiZ G Q) args s 0 0 (zA G)) (F0 m 2 ls [])) : ∀ (n : Nat) (x1 : Int32) (x2 : Int32) (v : V3) (H : Heap) (locs : List Loc) (ls : Array Slot), w_L_areApart_86 Q K2 n x1 x2 v → Zs G s v H locs → lv_has ls 5 [(0, .ref (gad G 7)), (1, .int x1), (2, .int x2)] → W p l e { frames := 5, cells := 0, slots := 0, locals := 127 } s m args below meth c H locs 0 0 (MQ below (QiZ G Q) args s 0 0 (zA G)) (F0 m 86 ls []) := by
  have hx := C0.1
  have hb := C0.2.1
  intro n
  induction n with
  | zero =>
    intro x1 x2 v H locs ls hw Z hl
    exact hw.elim
  | succ n hK86 =>
    intro x1 x2 v H locs ls hw Z hl
    rw [w_L_areApart_86] at hw
    refine lv_iload_n hx hb dL_areApart_86 rfl (lv_at hl 2 rfl) ?_
    refine lv_iload_n hx hb dL_areApart_87 rfl (lv_at hl 1 rfl) ?_
    refine lv_icmp_ge (tgt := 260) hx hb dL_areApart_88 (by decide) (fun c15 => ?_) (fun c15 => ?_)
    · replace hw := hw.1 c15
      exact b_L_areApart_260 l C0 hK2 _ _ _ _ _ hw Z (lv_sub hl [0, 1] rfl)
    · replace hw := hw.2 c15
      refine lv_aload_n hx hb dL_areApart_91 rfl (lv_at hl 0 rfl) ?_
      refine z_get C0 Z in_L rfl 0 (by decide) rfl tm_1_181 (cx_lt C0 (by decide)) rfl rfl dL_areApart_92 ?_
      refine lv_iload_n hx hb dL_areApart_95 rfl (lv_at hl 2 rfl) ?_
      refine lv_bipush (v := 7) hx hb dL_areApart_96 (by decide) ?_
      refine z_callH C0 Z hl.1 (As := [.ref (gad G 0), .int x2, .int 7]) (rest := []) (k_L_booking l (cx_g C0) hw) (gv_L_booking tm_2_238) ds_L_booking ⟨Nat.le_of_ble_eq_true rfl, Nat.le_of_ble_eq_true rfl⟩ rfl rfl (Nat.le_of_ble_eq_true rfl) ⟨Nat.le_of_ble_eq_true rfl, Nat.le_of_ble_eq_true rfl⟩ dL_areApart_98 (fun r17 v16 H locs hw Z => ?_)
      refine lv_iconst (v := 1) hx hb dL_areApart_101 (by decide) ?_
      refine lv_icmp_eq (tgt := 122) hx hb dL_areApart_102 (by decide) (fun c18 => ?_) (fun c18 => ?_)
      · replace hw := hw.1 c18
        exact b_L_areApart_122 l C0 hK2 hK86 _ _ _ _ _ _ hw Z (lv_sub hl [0, 1, 2] rfl)
      · replace hw := hw.2 c18
        refine lv_aload_n hx hb dL_areApart_105 rfl (lv_at hl 0 rfl) ?_
        refine z_get C0 Z in_L rfl 0 (by decide) rfl tm_1_181 (cx_lt C0 (by decide)) rfl rfl dL_areApart_106 ?_
        refine lv_iload_n hx hb dL_areApart_109 rfl (lv_at hl 2 rfl) ?_
        refine lv_bipush (v := 7) hx hb dL_areApart_110 (by decide) ?_
        refine z_callH C0 Z hl.1 (As := [.ref (gad G 0), .int x2, .int 7]) (rest := []) (k_L_booking l (cx_g C0) hw) (gv_L_booking tm_2_238) ds_L_booking ⟨Nat.le_of_ble_eq_true rfl, Nat.le_of_ble_eq_true rfl⟩ rfl rfl (Nat.le_of_ble_eq_true rfl) ⟨Nat.le_of_ble_eq_true rfl, Nat.le_of_ble_eq_true rfl⟩ dL_areApart_112 (fun r46 v45 H locs hw Z => ?_)
        refine lv_iconst (v := 2) hx hb dL_areApart_115 (by decide) ?_
        refine lv_icmp_eq (tgt := 122) hx hb dL_areApart_116 (by decide) (fun c47 => ?_) (fun c47 => ?_)
        · replace hw := hw.1 c47
          exact b_L_areApart_122 l C0 hK2 hK86 _ _ _ _ _ _ hw Z (lv_sub hl [0, 1, 2] rfl)
        · replace hw := hw.2 c47
          refine lv_goto (tgt := 254) hx hb dL_areApart_119 (by decide) ?_
          exact b_L_areApart_254 l C0 hK2 hK86 _ _ _ _ _ _ hw Z (lv_sub hl [0, 1, 2] rfl)
set_option maxRecDepth 100000 in
set_option maxHeartbeats 4000000 in
theorem b_L_areApart_46 {p : Program} (l : Launch) {e : Env} {s : State} {m : MethodId} {args : Array Value} {below : List Frame} {meth : Method} {c : Code} {G : zG}   (C0 : Cx G RL cL_areApart 5 (some .boolean) p s m args meth c) {Q : Int32 → V3 → Prop} {K2 : Int32 → V3 → Prop} (hK2 : ∀ (x1 : Int32) (v : V3) (H : Heap) (locs : List Loc) (ls : Array Slot), K2 x1 v → Zs G s v H locs → lv_has ls 5 [(0, .ref (gad G 7)), (1, .int x1)] → W p l e { frames := 5, cells := 0, slots := 0, locals := 127 } s m args below meth c H locs 0 0 (MQ below (QiZ G Q) args s 0 0 (zA G)) (F0 m 2 ls [])) : ∀ (x1 : Int32) (v : V3) (H : Heap) (locs : List Loc) (ls : Array Slot), w_L_areApart_46 Q K2 x1 v → Zs G s v H locs → lv_has ls 5 [(0, .ref (gad G 7)), (1, .int x1)] → W p l e { frames := 5, cells := 0, slots := 0, locals := 127 } s m args below meth c H locs 0 0 (MQ below (QiZ G Q) args s 0 0 (zA G)) (F0 m 46 ls []) := by
  have hx := C0.1
  have hb := C0.2.1
  intro x1 v H locs ls hw Z hl
  rw [w_L_areApart_46] at hw
  refine lv_aload_n hx hb dL_areApart_46 rfl (lv_at hl 0 rfl) ?_
  refine z_get C0 Z in_L rfl 0 (by decide) rfl tm_1_181 (cx_lt C0 (by decide)) rfl rfl dL_areApart_47 ?_
  refine lv_iload_n hx hb dL_areApart_50 rfl (lv_at hl 1 rfl) ?_
  refine lv_bipush (v := 8) hx hb dL_areApart_51 (by decide) ?_
  refine z_callH C0 Z hl.1 (As := [.ref (gad G 0), .int x1, .int 8]) (rest := []) (k_L_booking l (cx_g C0) hw) (gv_L_booking tm_2_238) ds_L_booking ⟨Nat.le_of_ble_eq_true rfl, Nat.le_of_ble_eq_true rfl⟩ rfl rfl (Nat.le_of_ble_eq_true rfl) ⟨Nat.le_of_ble_eq_true rfl, Nat.le_of_ble_eq_true rfl⟩ dL_areApart_53 (fun r8 v7 H locs hw Z => ?_)
  refine lv_if_lt (tgt := 82) hx hb dL_areApart_56 (by decide) (fun c9 => ?_) (fun c9 => ?_)
  · replace hw := hw.1 c9
    exact b_L_areApart_82 l C0 _ _ _ _ hw Z (lv_sub hl [] rfl)
  · replace hw := hw.2 c9
    refine lv_aload_n hx hb dL_areApart_59 rfl (lv_at hl 0 rfl) ?_
    refine z_get C0 Z in_L rfl 0 (by decide) rfl tm_1_181 (cx_lt C0 (by decide)) rfl rfl dL_areApart_60 ?_
    refine lv_iload_n hx hb dL_areApart_63 rfl (lv_at hl 1 rfl) ?_
    refine lv_bipush (v := 9) hx hb dL_areApart_64 (by decide) ?_
    refine z_callH C0 Z hl.1 (As := [.ref (gad G 0), .int x1, .int 9]) (rest := []) (k_L_booking l (cx_g C0) hw) (gv_L_booking tm_2_238) ds_L_booking ⟨Nat.le_of_ble_eq_true rfl, Nat.le_of_ble_eq_true rfl⟩ rfl rfl (Nat.le_of_ble_eq_true rfl) ⟨Nat.le_of_ble_eq_true rfl, Nat.le_of_ble_eq_true rfl⟩ dL_areApart_66 (fun r11 v10 H locs hw Z => ?_)
    refine lv_aload_n hx hb dL_areApart_69 rfl (lv_at hl 0 rfl) ?_
    refine z_get C0 Z in_L rfl 0 (by decide) rfl tm_1_181 (cx_lt C0 (by decide)) rfl rfl dL_areApart_70 ?_
    refine lv_iload_n hx hb dL_areApart_73 rfl (lv_at hl 1 rfl) ?_
    refine lv_bipush (v := 8) hx hb dL_areApart_74 (by decide) ?_
    refine z_callH C0 Z hl.1 (As := [.ref (gad G 0), .int x1, .int 8]) (rest := [.int r11]) (k_L_booking l (cx_g C0) hw) (gv_L_booking tm_2_238) ds_L_booking ⟨Nat.le_of_ble_eq_true rfl, Nat.le_of_ble_eq_true rfl⟩ rfl rfl (Nat.le_of_ble_eq_true rfl) ⟨Nat.le_of_ble_eq_true rfl, Nat.le_of_ble_eq_true rfl⟩ dL_areApart_76 (fun r13 v12 H locs hw Z => ?_)
    refine lv_icmp_ge (tgt := 84) hx hb dL_areApart_79 (by decide) (fun c14 => ?_) (fun c14 => ?_)
    · replace hw := hw.1 c14
      refine lv_iconst (v := 0) hx hb dL_areApart_84 (by decide) ?_
      refine lv_istore_n (lv' := [(2, .int 0), (0, .ref (gad G 7)), (1, .int x1)]) hx hb dL_areApart_85 rfl hl (by decide) rfl (fun ls hl => ?_)
      obtain ⟨m86, hw⟩ := hw
      exact b_L_areApart_86 l C0 hK2 m86 _ _ _ _ _ _ hw Z (lv_sub hl [1, 2, 0] rfl)
    · replace hw := hw.2 c14
      exact b_L_areApart_82 l C0 _ _ _ _ hw Z (lv_sub hl [] rfl)
set_option maxRecDepth 100000 in
set_option maxHeartbeats 4000000 in
theorem b_L_areApart_2 {p : Program} (l : Launch) {e : Env} {s : State} {m : MethodId} {args : Array Value} {below : List Frame} {meth : Method} {c : Code} {G : zG}   (C0 : Cx G RL cL_areApart 5 (some .boolean) p s m args meth c) {Q : Int32 → V3 → Prop} : ∀ (n : Nat) (x1 : Int32) (v : V3) (H : Heap) (locs : List Loc) (ls : Array Slot), w_L_areApart_2 Q n x1 v → Zs G s v H locs → lv_has ls 5 [(0, .ref (gad G 7)), (1, .int x1)] → W p l e { frames := 5, cells := 0, slots := 0, locals := 127 } s m args below meth c H locs 0 0 (MQ below (QiZ G Q) args s 0 0 (zA G)) (F0 m 2 ls []) := by
  have hx := C0.1
  have hb := C0.2.1
  intro n
  induction n with
  | zero =>
    intro x1 v H locs ls hw Z hl
    exact hw.elim
  | succ n hK2 =>
    intro x1 v H locs ls hw Z hl
    rw [w_L_areApart_2] at hw
    refine lv_iload_n hx hb dL_areApart_2 rfl (lv_at hl 1 rfl) ?_
    refine lv_aload_n hx hb dL_areApart_3 rfl (lv_at hl 0 rfl) ?_
    refine z_get C0 Z in_L rfl 0 (by decide) rfl tm_1_181 (cx_lt C0 (by decide)) rfl rfl dL_areApart_4 ?_
    refine lv_bipush (v := 6) hx hb dL_areApart_7 (by decide) ?_
    refine z_callH C0 Z hl.1 (As := [.ref (gad G 0), .int 6]) (rest := [.int x1]) (k_L_count l (cx_g C0) hw) (gv_L_count tm_2_93) ds_L_count ⟨Nat.le_of_ble_eq_true rfl, Nat.le_of_ble_eq_true rfl⟩ rfl rfl (Nat.le_of_ble_eq_true rfl) ⟨Nat.le_of_ble_eq_true rfl, Nat.le_of_ble_eq_true rfl⟩ dL_areApart_9 (fun r2 v1 H locs hw Z => ?_)
    refine lv_icmp_ge (tgt := 266) hx hb dL_areApart_12 (by decide) (fun c3 => ?_) (fun c3 => ?_)
    · replace hw := hw.1 c3
      refine lv_iconst (v := 1) hx hb dL_areApart_266 (by decide) ?_
      exact z_zret C0 Z (by decide) hw dL_areApart_267
    · replace hw := hw.2 c3
      refine lv_aload_n hx hb dL_areApart_15 rfl (lv_at hl 0 rfl) ?_
      refine z_get C0 Z in_L rfl 0 (by decide) rfl tm_1_181 (cx_lt C0 (by decide)) rfl rfl dL_areApart_16 ?_
      refine lv_iload_n hx hb dL_areApart_19 rfl (lv_at hl 1 rfl) ?_
      refine lv_bipush (v := 7) hx hb dL_areApart_20 (by decide) ?_
      refine z_callH C0 Z hl.1 (As := [.ref (gad G 0), .int x1, .int 7]) (rest := []) (k_L_booking l (cx_g C0) hw) (gv_L_booking tm_2_238) ds_L_booking ⟨Nat.le_of_ble_eq_true rfl, Nat.le_of_ble_eq_true rfl⟩ rfl rfl (Nat.le_of_ble_eq_true rfl) ⟨Nat.le_of_ble_eq_true rfl, Nat.le_of_ble_eq_true rfl⟩ dL_areApart_22 (fun r5 v4 H locs hw Z => ?_)
      refine lv_iconst (v := 1) hx hb dL_areApart_25 (by decide) ?_
      refine lv_icmp_eq (tgt := 46) hx hb dL_areApart_26 (by decide) (fun c6 => ?_) (fun c6 => ?_)
      · replace hw := hw.1 c6
        exact b_L_areApart_46 l C0 hK2 _ _ _ _ _ hw Z (lv_sub hl [0, 1] rfl)
      · replace hw := hw.2 c6
        refine lv_aload_n hx hb dL_areApart_29 rfl (lv_at hl 0 rfl) ?_
        refine z_get C0 Z in_L rfl 0 (by decide) rfl tm_1_181 (cx_lt C0 (by decide)) rfl rfl dL_areApart_30 ?_
        refine lv_iload_n hx hb dL_areApart_33 rfl (lv_at hl 1 rfl) ?_
        refine lv_bipush (v := 7) hx hb dL_areApart_34 (by decide) ?_
        refine z_callH C0 Z hl.1 (As := [.ref (gad G 0), .int x1, .int 7]) (rest := []) (k_L_booking l (cx_g C0) hw) (gv_L_booking tm_2_238) ds_L_booking ⟨Nat.le_of_ble_eq_true rfl, Nat.le_of_ble_eq_true rfl⟩ rfl rfl (Nat.le_of_ble_eq_true rfl) ⟨Nat.le_of_ble_eq_true rfl, Nat.le_of_ble_eq_true rfl⟩ dL_areApart_36 (fun r49 v48 H locs hw Z => ?_)
        refine lv_iconst (v := 2) hx hb dL_areApart_39 (by decide) ?_
        refine lv_icmp_eq (tgt := 46) hx hb dL_areApart_40 (by decide) (fun c50 => ?_) (fun c50 => ?_)
        · replace hw := hw.1 c50
          exact b_L_areApart_46 l C0 hK2 _ _ _ _ _ hw Z (lv_sub hl [0, 1] rfl)
        · replace hw := hw.2 c50
          refine lv_goto (tgt := 260) hx hb dL_areApart_43 (by decide) ?_
          exact b_L_areApart_260 l C0 hK2 _ _ _ _ _ hw Z (lv_sub hl [0, 1] rfl)
set_option maxRecDepth 100000 in
set_option maxHeartbeats 4000000 in
theorem k_L_areApart (l : Launch) {G : zG} (hg : 116 ≤ gn G)  {v : V3} {Q : Int32 → V3 → Prop} (hw : w_L_areApart v Q) : Mz l yL_areApart cL_areApart 5 (some .boolean) 5 127 G [.ref (gad G 7)] v (QiZ G Q) := by
  rw [w_L_areApart] at hw
  refine z_ofW hg (by decide) (Nat.le_of_ble_eq_true rfl) ?_
  intro p e s m args below meth c ls C0 Z hl
  have hx := C0.1
  have hb := C0.2.1
  replace hl : lv_has ls 5 [(0, .ref (gad G 7))] := hl
  generalize s.heap = H at Z ⊢
  generalize ([] : List Loc) = locs at Z ⊢
  refine lv_iconst (v := 0) hx hb dL_areApart_0 (by decide) ?_
  refine lv_istore_n (lv' := [(1, .int 0), (0, .ref (gad G 7))]) hx hb dL_areApart_1 rfl hl (by decide) rfl (fun ls hl => ?_)
  obtain ⟨m2, hw⟩ := hw
  exact b_L_areApart_2 l C0 m2 _ _ _ _ _ hw Z (lv_sub hl [1, 0] rfl)
-- L_nobodyCould: room (5, 127) cells (0, 0)
theorem dL_nobodyCould_0 : decode cL_nobodyCould 0 = .ok (.iconst 0, 1) := by decide +kernel
theorem dL_nobodyCould_1 : decode cL_nobodyCould 1 = .ok (.istore_n 1, 1) := by decide +kernel
theorem dL_nobodyCould_2 : decode cL_nobodyCould 2 = .ok (.iload_n 1, 1) := by decide +kernel
theorem dL_nobodyCould_3 : decode cL_nobodyCould 3 = .ok (.aload_n 0, 1) := by decide +kernel
theorem dL_nobodyCould_4 : decode cL_nobodyCould 4 = .ok (.getfield 10, 3) := by decide +kernel
theorem dL_nobodyCould_7 : decode cL_nobodyCould 7 = .ok (.bipush 6, 2) := by decide +kernel
theorem dL_nobodyCould_9 : decode cL_nobodyCould 9 = .ok (.invokestatic 154, 3) := by decide +kernel
theorem dL_nobodyCould_12 : decode cL_nobodyCould 12 = .ok (.if_icmp .ge 38, 3) := by decide +kernel
theorem dL_nobodyCould_15 : decode cL_nobodyCould 15 = .ok (.aload_n 0, 1) := by decide +kernel
theorem dL_nobodyCould_16 : decode cL_nobodyCould 16 = .ok (.getfield 10, 3) := by decide +kernel
theorem dL_nobodyCould_19 : decode cL_nobodyCould 19 = .ok (.iload_n 1, 1) := by decide +kernel
theorem dL_nobodyCould_20 : decode cL_nobodyCould 20 = .ok (.bipush 7, 2) := by decide +kernel
theorem dL_nobodyCould_22 : decode cL_nobodyCould 22 = .ok (.invokestatic 167, 3) := by decide +kernel
theorem dL_nobodyCould_25 : decode cL_nobodyCould 25 = .ok (.ifCond .ne 19, 3) := by decide +kernel
theorem dL_nobodyCould_28 : decode cL_nobodyCould 28 = .ok (.aload_n 0, 1) := by decide +kernel
theorem dL_nobodyCould_29 : decode cL_nobodyCould 29 = .ok (.getfield 10, 3) := by decide +kernel
theorem dL_nobodyCould_32 : decode cL_nobodyCould 32 = .ok (.iload_n 1, 1) := by decide +kernel
theorem dL_nobodyCould_33 : decode cL_nobodyCould 33 = .ok (.bipush 11, 2) := by decide +kernel
theorem dL_nobodyCould_35 : decode cL_nobodyCould 35 = .ok (.invokestatic 167, 3) := by decide +kernel
theorem dL_nobodyCould_38 : decode cL_nobodyCould 38 = .ok (.iconst (-1), 1) := by decide +kernel
theorem dL_nobodyCould_39 : decode cL_nobodyCould 39 = .ok (.if_icmp .eq 5, 3) := by decide +kernel
theorem dL_nobodyCould_42 : decode cL_nobodyCould 42 = .ok (.iconst 0, 1) := by decide +kernel
theorem dL_nobodyCould_43 : decode cL_nobodyCould 43 = .ok (.ireturn, 1) := by decide +kernel
theorem dL_nobodyCould_44 : decode cL_nobodyCould 44 = .ok (.iinc 1 1, 3) := by decide +kernel
theorem dL_nobodyCould_47 : decode cL_nobodyCould 47 = .ok (.goto (-45), 3) := by decide +kernel
theorem dL_nobodyCould_50 : decode cL_nobodyCould 50 = .ok (.iconst 1, 1) := by decide +kernel
theorem dL_nobodyCould_51 : decode cL_nobodyCould 51 = .ok (.ireturn, 1) := by decide +kernel
def w_L_nobodyCould_44  (Q : Int32 → V3 → Prop) (K2 : Int32 → V3 → Prop) (x1 : Int32) (v : V3) : Prop := K2 (x1 + 1) v
def w_L_nobodyCould_2  (Q : Int32 → V3 → Prop) : Nat → Int32 → V3 → Prop
  | 0, _, _ => False
  | n2 + 1, x1, v => w_L_count 6 v (fun r2 v1 => ((r2 ≤ x1 → Q 1 v1) ∧ (¬ r2 ≤ x1 → w_L_booking x1 7 v1 (fun r5 v4 => ((¬ r5 = 0 → w_L_nobodyCould_44 Q (w_L_nobodyCould_2 Q n2) x1 v4) ∧ (r5 = 0 → w_L_booking x1 11 v4 (fun r8 v7 => ((r8 = (-1) → w_L_nobodyCould_44 Q (w_L_nobodyCould_2 Q n2) x1 v7) ∧ (¬ r8 = (-1) → Q 0 v7)))))))))
def w_L_nobodyCould  (v : V3) (Q : Int32 → V3 → Prop) : Prop := ∃ m2 : Nat, w_L_nobodyCould_2 Q m2 0 v
set_option maxRecDepth 100000 in
set_option maxHeartbeats 4000000 in
theorem b_L_nobodyCould_44 {p : Program} (l : Launch) {e : Env} {s : State} {m : MethodId} {args : Array Value} {below : List Frame} {meth : Method} {c : Code} {G : zG}   (C0 : Cx G RL cL_nobodyCould 2 (some .boolean) p s m args meth c) {Q : Int32 → V3 → Prop} {K2 : Int32 → V3 → Prop} (hK2 : ∀ (x1 : Int32) (v : V3) (H : Heap) (locs : List Loc) (ls : Array Slot), K2 x1 v → Zs G s v H locs → lv_has ls 2 [(0, .ref (gad G 7)), (1, .int x1)] → W p l e { frames := 5, cells := 0, slots := 0, locals := 127 } s m args below meth c H locs 0 0 (MQ below (QiZ G Q) args s 0 0 (zA G)) (F0 m 2 ls [])) : ∀ (x1 : Int32) (v : V3) (H : Heap) (locs : List Loc) (ls : Array Slot), w_L_nobodyCould_44 Q K2 x1 v → Zs G s v H locs → lv_has ls 2 [(0, .ref (gad G 7)), (1, .int x1)] → W p l e { frames := 5, cells := 0, slots := 0, locals := 127 } s m args below meth c H locs 0 0 (MQ below (QiZ G Q) args s 0 0 (zA G)) (F0 m 44 ls []) := by
  have hx := C0.1
  have hb := C0.2.1
  intro x1 v H locs ls hw Z hl
  rw [w_L_nobodyCould_44] at hw
  refine lv_iinc (v := x1 + 1) (lv' := [(1, .int (x1 + 1)), (0, .ref (gad G 7))]) hx hb dL_nobodyCould_44 hl (k := 1) rfl rfl (by decide) rfl (fun ls hl => ?_)
  refine lv_goto (tgt := 2) hx hb dL_nobodyCould_47 (by decide) ?_
  exact hK2 _ _ _ _ _ hw Z (lv_sub hl [1, 0] rfl)
set_option maxRecDepth 100000 in
set_option maxHeartbeats 4000000 in
theorem b_L_nobodyCould_2 {p : Program} (l : Launch) {e : Env} {s : State} {m : MethodId} {args : Array Value} {below : List Frame} {meth : Method} {c : Code} {G : zG}   (C0 : Cx G RL cL_nobodyCould 2 (some .boolean) p s m args meth c) {Q : Int32 → V3 → Prop} : ∀ (n : Nat) (x1 : Int32) (v : V3) (H : Heap) (locs : List Loc) (ls : Array Slot), w_L_nobodyCould_2 Q n x1 v → Zs G s v H locs → lv_has ls 2 [(0, .ref (gad G 7)), (1, .int x1)] → W p l e { frames := 5, cells := 0, slots := 0, locals := 127 } s m args below meth c H locs 0 0 (MQ below (QiZ G Q) args s 0 0 (zA G)) (F0 m 2 ls []) := by
  have hx := C0.1
  have hb := C0.2.1
  intro n
  induction n with
  | zero =>
    intro x1 v H locs ls hw Z hl
    exact hw.elim
  | succ n hK2 =>
    intro x1 v H locs ls hw Z hl
    rw [w_L_nobodyCould_2] at hw
    refine lv_iload_n hx hb dL_nobodyCould_2 rfl (lv_at hl 1 rfl) ?_
    refine lv_aload_n hx hb dL_nobodyCould_3 rfl (lv_at hl 0 rfl) ?_
    refine z_get C0 Z in_L rfl 0 (by decide) rfl tm_1_181 (cx_lt C0 (by decide)) rfl rfl dL_nobodyCould_4 ?_
    refine lv_bipush (v := 6) hx hb dL_nobodyCould_7 (by decide) ?_
    refine z_callH C0 Z hl.1 (As := [.ref (gad G 0), .int 6]) (rest := [.int x1]) (k_L_count l (cx_g C0) hw) (gv_L_count tm_2_93) ds_L_count ⟨Nat.le_of_ble_eq_true rfl, Nat.le_of_ble_eq_true rfl⟩ rfl rfl (Nat.le_of_ble_eq_true rfl) ⟨Nat.le_of_ble_eq_true rfl, Nat.le_of_ble_eq_true rfl⟩ dL_nobodyCould_9 (fun r2 v1 H locs hw Z => ?_)
    refine lv_icmp_ge (tgt := 50) hx hb dL_nobodyCould_12 (by decide) (fun c3 => ?_) (fun c3 => ?_)
    · replace hw := hw.1 c3
      refine lv_iconst (v := 1) hx hb dL_nobodyCould_50 (by decide) ?_
      exact z_zret C0 Z (by decide) hw dL_nobodyCould_51
    · replace hw := hw.2 c3
      refine lv_aload_n hx hb dL_nobodyCould_15 rfl (lv_at hl 0 rfl) ?_
      refine z_get C0 Z in_L rfl 0 (by decide) rfl tm_1_181 (cx_lt C0 (by decide)) rfl rfl dL_nobodyCould_16 ?_
      refine lv_iload_n hx hb dL_nobodyCould_19 rfl (lv_at hl 1 rfl) ?_
      refine lv_bipush (v := 7) hx hb dL_nobodyCould_20 (by decide) ?_
      refine z_callH C0 Z hl.1 (As := [.ref (gad G 0), .int x1, .int 7]) (rest := []) (k_L_booking l (cx_g C0) hw) (gv_L_booking tm_2_238) ds_L_booking ⟨Nat.le_of_ble_eq_true rfl, Nat.le_of_ble_eq_true rfl⟩ rfl rfl (Nat.le_of_ble_eq_true rfl) ⟨Nat.le_of_ble_eq_true rfl, Nat.le_of_ble_eq_true rfl⟩ dL_nobodyCould_22 (fun r5 v4 H locs hw Z => ?_)
      refine lv_if_ne (tgt := 44) hx hb dL_nobodyCould_25 (by decide) (fun c6 => ?_) (fun c6 => ?_)
      · replace hw := hw.1 c6
        exact b_L_nobodyCould_44 l C0 hK2 _ _ _ _ _ hw Z (lv_sub hl [0, 1] rfl)
      · replace hw := hw.2 c6
        refine lv_aload_n hx hb dL_nobodyCould_28 rfl (lv_at hl 0 rfl) ?_
        refine z_get C0 Z in_L rfl 0 (by decide) rfl tm_1_181 (cx_lt C0 (by decide)) rfl rfl dL_nobodyCould_29 ?_
        refine lv_iload_n hx hb dL_nobodyCould_32 rfl (lv_at hl 1 rfl) ?_
        refine lv_bipush (v := 11) hx hb dL_nobodyCould_33 (by decide) ?_
        refine z_callH C0 Z hl.1 (As := [.ref (gad G 0), .int x1, .int 11]) (rest := []) (k_L_booking l (cx_g C0) hw) (gv_L_booking tm_2_238) ds_L_booking ⟨Nat.le_of_ble_eq_true rfl, Nat.le_of_ble_eq_true rfl⟩ rfl rfl (Nat.le_of_ble_eq_true rfl) ⟨Nat.le_of_ble_eq_true rfl, Nat.le_of_ble_eq_true rfl⟩ dL_nobodyCould_35 (fun r8 v7 H locs hw Z => ?_)
        refine lv_iconst (v := (-1)) hx hb dL_nobodyCould_38 (by decide) ?_
        refine lv_icmp_eq (tgt := 44) hx hb dL_nobodyCould_39 (by decide) (fun c9 => ?_) (fun c9 => ?_)
        · replace hw := hw.1 c9
          exact b_L_nobodyCould_44 l C0 hK2 _ _ _ _ _ hw Z (lv_sub hl [0, 1] rfl)
        · replace hw := hw.2 c9
          refine lv_iconst (v := 0) hx hb dL_nobodyCould_42 (by decide) ?_
          exact z_zret C0 Z (by decide) hw dL_nobodyCould_43
set_option maxRecDepth 100000 in
set_option maxHeartbeats 4000000 in
theorem k_L_nobodyCould (l : Launch) {G : zG} (hg : 116 ≤ gn G)  {v : V3} {Q : Int32 → V3 → Prop} (hw : w_L_nobodyCould v Q) : Mz l yL_nobodyCould cL_nobodyCould 2 (some .boolean) 5 127 G [.ref (gad G 7)] v (QiZ G Q) := by
  rw [w_L_nobodyCould] at hw
  refine z_ofW hg (by decide) (Nat.le_of_ble_eq_true rfl) ?_
  intro p e s m args below meth c ls C0 Z hl
  have hx := C0.1
  have hb := C0.2.1
  replace hl : lv_has ls 2 [(0, .ref (gad G 7))] := hl
  generalize s.heap = H at Z ⊢
  generalize ([] : List Loc) = locs at Z ⊢
  refine lv_iconst (v := 0) hx hb dL_nobodyCould_0 (by decide) ?_
  refine lv_istore_n (lv' := [(1, .int 0), (0, .ref (gad G 7))]) hx hb dL_nobodyCould_1 rfl hl (by decide) rfl (fun ls hl => ?_)
  obtain ⟨m2, hw⟩ := hw
  exact b_L_nobodyCould_2 l C0 m2 _ _ _ _ _ hw Z (lv_sub hl [1, 0] rfl)
