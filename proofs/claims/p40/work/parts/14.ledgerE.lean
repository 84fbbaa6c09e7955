-- X1_startWith: room (1, 64)
theorem dX1_startWith_0 : decode cX1_startWith 0 = .ok (.aload_n 0, 1) := by decide +kernel
theorem dX1_startWith_1 : decode cX1_startWith 1 = .ok (.iload_n 1, 1) := by decide +kernel
theorem dX1_startWith_2 : decode cX1_startWith 2 = .ok (.putfield 33, 3) := by decide +kernel
theorem dX1_startWith_5 : decode cX1_startWith 5 = .ok (.aload_n 0, 1) := by decide +kernel
theorem dX1_startWith_6 : decode cX1_startWith 6 = .ok (.iconst 0, 1) := by decide +kernel
theorem dX1_startWith_7 : decode cX1_startWith 7 = .ok (.putfield 37, 3) := by decide +kernel
theorem dX1_startWith_10 : decode cX1_startWith 10 = .ok (.aload_n 0, 1) := by decide +kernel
theorem dX1_startWith_11 : decode cX1_startWith 11 = .ok (.iconst 0, 1) := by decide +kernel
theorem dX1_startWith_12 : decode cX1_startWith 12 = .ok (.putfield 40, 3) := by decide +kernel
theorem dX1_startWith_15 : decode cX1_startWith 15 = .ok (.aload_n 0, 1) := by decide +kernel
theorem dX1_startWith_16 : decode cX1_startWith 16 = .ok (.iconst 0, 1) := by decide +kernel
theorem dX1_startWith_17 : decode cX1_startWith 17 = .ok (.putfield 43, 3) := by decide +kernel
theorem dX1_startWith_20 : decode cX1_startWith 20 = .ok (.aload_n 0, 1) := by decide +kernel
theorem dX1_startWith_21 : decode cX1_startWith 21 = .ok (.iconst 0, 1) := by decide +kernel
theorem dX1_startWith_22 : decode cX1_startWith 22 = .ok (.putfield 46, 3) := by decide +kernel
theorem dX1_startWith_25 : decode cX1_startWith 25 = .ok (.aload_n 0, 1) := by decide +kernel
theorem dX1_startWith_26 : decode cX1_startWith 26 = .ok (.iconst 0, 1) := by decide +kernel
theorem dX1_startWith_27 : decode cX1_startWith 27 = .ok (.putfield 49, 3) := by decide +kernel
theorem dX1_startWith_30 : decode cX1_startWith 30 = .ok (.getstatic 52, 3) := by decide +kernel
theorem dX1_startWith_33 : decode cX1_startWith 33 = .ok (.iconst 0, 1) := by decide +kernel
theorem dX1_startWith_34 : decode cX1_startWith 34 = .ok (.aload_n 0, 1) := by decide +kernel
theorem dX1_startWith_35 : decode cX1_startWith 35 = .ok (.getfield 9, 3) := by decide +kernel
theorem dX1_startWith_38 : decode cX1_startWith 38 = .ok (.iconst 0, 1) := by decide +kernel
theorem dX1_startWith_39 : decode cX1_startWith 39 = .ok (.iconst 4, 1) := by decide +kernel
theorem dX1_startWith_40 : decode cX1_startWith 40 = .ok (.invokestatic 55, 3) := by decide +kernel
theorem dX1_startWith_43 : decode cX1_startWith 43 = .ok (.return_, 1) := by decide +kernel
def w_X1_startWith (this : Nat) (a1 : Int32) (v : V3) (Q : V3 → Prop) : Prop := ∀ v1 : V3, v1 = up2 v this 5 a1 → ∀ v2 : V3, v2 = up2 v1 this 6 0 → ∀ v3 : V3, v3 = up2 v2 this 7 0 → ∀ v4 : V3, v4 = up2 v3 this 8 0 → ∀ v5 : V3, v5 = up2 v4 this 9 0 → ∀ v6 : V3, v6 = up2 v5 this 10 0 → ∀ v7 : V3, v7 = cpT v6 (this + 1) (f4 5 10 4 3) 4 → Q v7
set_option maxRecDepth 100000 in
set_option maxHeartbeats 4000000 in
theorem k_X1_startWith (l : Launch) {G : zG} (hg : 116 ≤ gn G) {this : Nat} {a1 : Int32} (hL : isL G this) {v : V3} {Q : V3 → Prop} (hw : w_X1_startWith this a1 v Q) : Mz l yX1_startWith cX1_startWith 2 none 1 64 G [.ref (gad G this), .int a1] v (QvZ G Q) := by
  rw [w_X1_startWith] at hw
  refine z_ofW hg (by decide) (Nat.le_of_ble_eq_true rfl) ?_
  intro p e s m args below meth c ls C0 Z hl
  have hx := C0.1
  have hb := C0.2.1
  replace hl : lv_has ls 2 [(0, .ref (gad G this)), (1, .int a1)] := hl
  generalize s.heap = H at Z ⊢
  generalize ([] : List Loc) = locs at Z ⊢
  refine lv_aload_n hx hb dX1_startWith_0 rfl (lv_at hl 0 rfl) ?_
  refine lv_iload_n hx hb dX1_startWith_1 rfl (lv_at hl 1 rfl) ?_
  refine z_put C0 Z in_X1 tyX1_ok nmX1 rfl 5 (by decide) rfl rfl tm_1_55 (isL_lt0 hL) (ent_L hL) (p_X1_5 hL) (fun c' h => up2_off _ _ _ h) rfl rfl (Nat.le_of_ble_eq_true rfl) dX1_startWith_2 (fun H locs Z => ?_)
  obtain ⟨v1, ev1⟩ : ∃ z : V3, z = up2 v this 5 a1 := ⟨_, rfl⟩
  rw [← ev1] at Z
  replace hw := hw v1 ev1
  refine lv_aload_n hx hb dX1_startWith_5 rfl (lv_at hl 0 rfl) ?_
  refine lv_iconst (v := 0) hx hb dX1_startWith_6 (by decide) ?_
  refine z_put C0 Z in_X1 tyX1_ok nmX1 rfl 6 (by decide) rfl rfl tm_1_57 (isL_lt0 hL) (ent_L hL) (p_X1_6 hL) (fun c' h => up2_off _ _ _ h) rfl rfl (Nat.le_of_ble_eq_true rfl) dX1_startWith_7 (fun H locs Z => ?_)
  obtain ⟨v2, ev2⟩ : ∃ z : V3, z = up2 v1 this 6 0 := ⟨_, rfl⟩
  rw [← ev2] at Z
  replace hw := hw v2 ev2
  refine lv_aload_n hx hb dX1_startWith_10 rfl (lv_at hl 0 rfl) ?_
  refine lv_iconst (v := 0) hx hb dX1_startWith_11 (by decide) ?_
  refine z_put C0 Z in_X1 tyX1_ok nmX1 rfl 7 (by decide) rfl rfl tm_1_60 (isL_lt0 hL) (ent_L hL) (p_X1_7 hL) (fun c' h => up2_off _ _ _ h) rfl rfl (Nat.le_of_ble_eq_true rfl) dX1_startWith_12 (fun H locs Z => ?_)
  obtain ⟨v3, ev3⟩ : ∃ z : V3, z = up2 v2 this 7 0 := ⟨_, rfl⟩
  rw [← ev3] at Z
  replace hw := hw v3 ev3
  refine lv_aload_n hx hb dX1_startWith_15 rfl (lv_at hl 0 rfl) ?_
  refine lv_iconst (v := 0) hx hb dX1_startWith_16 (by decide) ?_
  refine z_put C0 Z in_X1 tyX1_ok nmX1 rfl 8 (by decide) rfl rfl tm_1_62 (isL_lt0 hL) (ent_L hL) (p_X1_8 hL) (fun c' h => up2_off _ _ _ h) rfl rfl (Nat.le_of_ble_eq_true rfl) dX1_startWith_17 (fun H locs Z => ?_)
  obtain ⟨v4, ev4⟩ : ∃ z : V3, z = up2 v3 this 8 0 := ⟨_, rfl⟩
  rw [← ev4] at Z
  replace hw := hw v4 ev4
  refine lv_aload_n hx hb dX1_startWith_20 rfl (lv_at hl 0 rfl) ?_
  refine lv_iconst (v := 0) hx hb dX1_startWith_21 (by decide) ?_
  refine z_put C0 Z in_X1 tyX1_ok nmX1 rfl 9 (by decide) rfl rfl tm_1_65 (isL_lt0 hL) (ent_L hL) (p_X1_9 hL) (fun c' h => up2_off _ _ _ h) rfl rfl (Nat.le_of_ble_eq_true rfl) dX1_startWith_22 (fun H locs Z => ?_)
  obtain ⟨v5, ev5⟩ : ∃ z : V3, z = up2 v4 this 9 0 := ⟨_, rfl⟩
  rw [← ev5] at Z
  replace hw := hw v5 ev5
  refine lv_aload_n hx hb dX1_startWith_25 rfl (lv_at hl 0 rfl) ?_
  refine lv_iconst (v := 0) hx hb dX1_startWith_26 (by decide) ?_
  refine z_put C0 Z in_X1 tyX1_ok nmX1 rfl 10 (by decide) rfl rfl tm_1_68 (isL_lt0 hL) (ent_L hL) (p_X1_10 hL) (fun c' h => up2_off _ _ _ h) rfl rfl (Nat.le_of_ble_eq_true rfl) dX1_startWith_27 (fun H locs Z => ?_)
  obtain ⟨v6, ev6⟩ : ∃ z : V3, z = up2 v5 this 10 0 := ⟨_, rfl⟩
  rw [← ev6] at Z
  replace hw := hw v6 ev6
  refine z_getsN0 C0 Z (by decide +kernel) dX1_startWith_30 ?_
  refine lv_iconst (v := 0) hx hb dX1_startWith_33 (by decide) ?_
  refine lv_aload_n hx hb dX1_startWith_34 rfl (lv_at hl 0 rfl) ?_
  refine z_get C0 Z in_X1 rfl 0 (by decide) rfl tm_1_44 (isL_lt0 hL) (ent_L hL) rfl dX1_startWith_35 ?_
  refine lv_iconst (v := 0) hx hb dX1_startWith_38 (by decide) ?_
  refine lv_iconst (v := 4) hx hb dX1_startWith_39 (by decide) ?_
  refine z_copyT0 C0 Z hl.1 tm_1_41 (isL_lt hL 1 (by decide)) (fun _ => ent_L1 hL) (n := 4) (k := 4) (by decide) (by decide) (by decide) (Nat.le_of_ble_eq_true rfl) (Nat.le_of_ble_eq_true rfl) dX1_startWith_40 (fun H locs Z => ?_)
  obtain ⟨v7, ev7⟩ : ∃ z : V3, z = cpT v6 (this + 1) (f4 5 10 4 3) 4 := ⟨_, rfl⟩
  rw [← ev7] at Z
  replace hw := hw v7 ev7
  exact z_vret C0 Z hw dX1_startWith_43
-- X1_copyFrom: room (1, 64)
theorem dX1_copyFrom_0 : decode cX1_copyFrom 0 = .ok (.aload_n 0, 1) := by decide +kernel
theorem dX1_copyFrom_1 : decode cX1_copyFrom 1 = .ok (.aload_n 1, 1) := by decide +kernel
theorem dX1_copyFrom_2 : decode cX1_copyFrom 2 = .ok (.getfield 33, 3) := by decide +kernel
theorem dX1_copyFrom_5 : decode cX1_copyFrom 5 = .ok (.putfield 33, 3) := by decide +kernel
theorem dX1_copyFrom_8 : decode cX1_copyFrom 8 = .ok (.aload_n 0, 1) := by decide +kernel
theorem dX1_copyFrom_9 : decode cX1_copyFrom 9 = .ok (.aload_n 1, 1) := by decide +kernel
theorem dX1_copyFrom_10 : decode cX1_copyFrom 10 = .ok (.getfield 37, 3) := by decide +kernel
theorem dX1_copyFrom_13 : decode cX1_copyFrom 13 = .ok (.putfield 37, 3) := by decide +kernel
theorem dX1_copyFrom_16 : decode cX1_copyFrom 16 = .ok (.aload_n 0, 1) := by decide +kernel
theorem dX1_copyFrom_17 : decode cX1_copyFrom 17 = .ok (.aload_n 1, 1) := by decide +kernel
theorem dX1_copyFrom_18 : decode cX1_copyFrom 18 = .ok (.getfield 40, 3) := by decide +kernel
theorem dX1_copyFrom_21 : decode cX1_copyFrom 21 = .ok (.putfield 40, 3) := by decide +kernel
theorem dX1_copyFrom_24 : decode cX1_copyFrom 24 = .ok (.aload_n 0, 1) := by decide +kernel
theorem dX1_copyFrom_25 : decode cX1_copyFrom 25 = .ok (.aload_n 1, 1) := by decide +kernel
theorem dX1_copyFrom_26 : decode cX1_copyFrom 26 = .ok (.getfield 43, 3) := by decide +kernel
theorem dX1_copyFrom_29 : decode cX1_copyFrom 29 = .ok (.putfield 43, 3) := by decide +kernel
theorem dX1_copyFrom_32 : decode cX1_copyFrom 32 = .ok (.aload_n 0, 1) := by decide +kernel
theorem dX1_copyFrom_33 : decode cX1_copyFrom 33 = .ok (.aload_n 1, 1) := by decide +kernel
theorem dX1_copyFrom_34 : decode cX1_copyFrom 34 = .ok (.getfield 46, 3) := by decide +kernel
theorem dX1_copyFrom_37 : decode cX1_copyFrom 37 = .ok (.putfield 46, 3) := by decide +kernel
theorem dX1_copyFrom_40 : decode cX1_copyFrom 40 = .ok (.aload_n 0, 1) := by decide +kernel
theorem dX1_copyFrom_41 : decode cX1_copyFrom 41 = .ok (.aload_n 1, 1) := by decide +kernel
theorem dX1_copyFrom_42 : decode cX1_copyFrom 42 = .ok (.getfield 49, 3) := by decide +kernel
theorem dX1_copyFrom_45 : decode cX1_copyFrom 45 = .ok (.putfield 49, 3) := by decide +kernel
theorem dX1_copyFrom_48 : decode cX1_copyFrom 48 = .ok (.aload_n 1, 1) := by decide +kernel
theorem dX1_copyFrom_49 : decode cX1_copyFrom 49 = .ok (.getfield 9, 3) := by decide +kernel
theorem dX1_copyFrom_52 : decode cX1_copyFrom 52 = .ok (.iconst 0, 1) := by decide +kernel
theorem dX1_copyFrom_53 : decode cX1_copyFrom 53 = .ok (.aload_n 0, 1) := by decide +kernel
theorem dX1_copyFrom_54 : decode cX1_copyFrom 54 = .ok (.getfield 9, 3) := by decide +kernel
theorem dX1_copyFrom_57 : decode cX1_copyFrom 57 = .ok (.iconst 0, 1) := by decide +kernel
theorem dX1_copyFrom_58 : decode cX1_copyFrom 58 = .ok (.iconst 4, 1) := by decide +kernel
theorem dX1_copyFrom_59 : decode cX1_copyFrom 59 = .ok (.invokestatic 55, 3) := by decide +kernel
theorem dX1_copyFrom_62 : decode cX1_copyFrom 62 = .ok (.iconst 0, 1) := by decide +kernel
theorem dX1_copyFrom_63 : decode cX1_copyFrom 63 = .ok (.istore_n 2, 1) := by decide +kernel
theorem dX1_copyFrom_64 : decode cX1_copyFrom 64 = .ok (.iload_n 2, 1) := by decide +kernel
theorem dX1_copyFrom_65 : decode cX1_copyFrom 65 = .ok (.aload_n 0, 1) := by decide +kernel
theorem dX1_copyFrom_66 : decode cX1_copyFrom 66 = .ok (.getfield 40, 3) := by decide +kernel
theorem dX1_copyFrom_69 : decode cX1_copyFrom 69 = .ok (.if_icmp .ge 28, 3) := by decide +kernel
theorem dX1_copyFrom_72 : decode cX1_copyFrom 72 = .ok (.aload_n 1, 1) := by decide +kernel
theorem dX1_copyFrom_73 : decode cX1_copyFrom 73 = .ok (.getfield 17, 3) := by decide +kernel
theorem dX1_copyFrom_76 : decode cX1_copyFrom 76 = .ok (.iload_n 2, 1) := by decide +kernel
theorem dX1_copyFrom_77 : decode cX1_copyFrom 77 = .ok (.aaload, 1) := by decide +kernel
theorem dX1_copyFrom_78 : decode cX1_copyFrom 78 = .ok (.iconst 0, 1) := by decide +kernel
theorem dX1_copyFrom_79 : decode cX1_copyFrom 79 = .ok (.aload_n 0, 1) := by decide +kernel
theorem dX1_copyFrom_80 : decode cX1_copyFrom 80 = .ok (.getfield 17, 3) := by decide +kernel
theorem dX1_copyFrom_83 : decode cX1_copyFrom 83 = .ok (.iload_n 2, 1) := by decide +kernel
theorem dX1_copyFrom_84 : decode cX1_copyFrom 84 = .ok (.aaload, 1) := by decide +kernel
theorem dX1_copyFrom_85 : decode cX1_copyFrom 85 = .ok (.iconst 0, 1) := by decide +kernel
theorem dX1_copyFrom_86 : decode cX1_copyFrom 86 = .ok (.bipush 8, 2) := by decide +kernel
theorem dX1_copyFrom_88 : decode cX1_copyFrom 88 = .ok (.invokestatic 55, 3) := by decide +kernel
theorem dX1_copyFrom_91 : decode cX1_copyFrom 91 = .ok (.iinc 2 1, 3) := by decide +kernel
theorem dX1_copyFrom_94 : decode cX1_copyFrom 94 = .ok (.goto (-30), 3) := by decide +kernel
theorem dX1_copyFrom_97 : decode cX1_copyFrom 97 = .ok (.iconst 0, 1) := by decide +kernel
theorem dX1_copyFrom_98 : decode cX1_copyFrom 98 = .ok (.istore_n 2, 1) := by decide +kernel
theorem dX1_copyFrom_99 : decode cX1_copyFrom 99 = .ok (.iload_n 2, 1) := by decide +kernel
theorem dX1_copyFrom_100 : decode cX1_copyFrom 100 = .ok (.aload_n 0, 1) := by decide +kernel
theorem dX1_copyFrom_101 : decode cX1_copyFrom 101 = .ok (.getfield 43, 3) := by decide +kernel
theorem dX1_copyFrom_104 : decode cX1_copyFrom 104 = .ok (.if_icmp .ge 28, 3) := by decide +kernel
theorem dX1_copyFrom_107 : decode cX1_copyFrom 107 = .ok (.aload_n 1, 1) := by decide +kernel
theorem dX1_copyFrom_108 : decode cX1_copyFrom 108 = .ok (.getfield 20, 3) := by decide +kernel
theorem dX1_copyFrom_111 : decode cX1_copyFrom 111 = .ok (.iload_n 2, 1) := by decide +kernel
theorem dX1_copyFrom_112 : decode cX1_copyFrom 112 = .ok (.aaload, 1) := by decide +kernel
theorem dX1_copyFrom_113 : decode cX1_copyFrom 113 = .ok (.iconst 0, 1) := by decide +kernel
theorem dX1_copyFrom_114 : decode cX1_copyFrom 114 = .ok (.aload_n 0, 1) := by decide +kernel
theorem dX1_copyFrom_115 : decode cX1_copyFrom 115 = .ok (.getfield 20, 3) := by decide +kernel
theorem dX1_copyFrom_118 : decode cX1_copyFrom 118 = .ok (.iload_n 2, 1) := by decide +kernel
theorem dX1_copyFrom_119 : decode cX1_copyFrom 119 = .ok (.aaload, 1) := by decide +kernel
theorem dX1_copyFrom_120 : decode cX1_copyFrom 120 = .ok (.iconst 0, 1) := by decide +kernel
theorem dX1_copyFrom_121 : decode cX1_copyFrom 121 = .ok (.bipush 10, 2) := by decide +kernel
theorem dX1_copyFrom_123 : decode cX1_copyFrom 123 = .ok (.invokestatic 55, 3) := by decide +kernel
theorem dX1_copyFrom_126 : decode cX1_copyFrom 126 = .ok (.iinc 2 1, 3) := by decide +kernel
theorem dX1_copyFrom_129 : decode cX1_copyFrom 129 = .ok (.goto (-30), 3) := by decide +kernel
theorem dX1_copyFrom_132 : decode cX1_copyFrom 132 = .ok (.return_, 1) := by decide +kernel
def w_X1_copyFrom_99 (this : Nat) (a1 : Nat) (Q : V3 → Prop) : Nat → Int32 → V3 → Prop
  | 0, _, _ => False
  | n99 + 1, x2, v => (((v this 8) ≤ x2 → Q v) ∧ (¬ (v this 8) ≤ x2 → vp_in x2 40 ∧ vp_in x2 40 ∧ ∀ v14 : V3, v14 = cp2 v (a1 + 14 + (ix x2)) (this + 14 + (ix x2)) 10 → (w_X1_copyFrom_99 this a1 Q n99) (x2 + 1) v14))
def w_X1_copyFrom_64 (this : Nat) (a1 : Nat) (Q : V3 → Prop) : Nat → Int32 → V3 → Prop
  | 0, _, _ => False
  | n64 + 1, x2, v => (((v this 7) ≤ x2 → ∃ m99 : Nat, w_X1_copyFrom_99 this a1 Q m99 0 v) ∧ (¬ (v this 7) ≤ x2 → vp_in x2 8 ∧ vp_in x2 8 ∧ ∀ v19 : V3, v19 = cp2 v (a1 + 6 + (ix x2)) (this + 6 + (ix x2)) 8 → (w_X1_copyFrom_64 this a1 Q n64) (x2 + 1) v19))
def w_X1_copyFrom (this : Nat) (a1 : Nat) (v : V3) (Q : V3 → Prop) : Prop := ∀ v1 : V3, v1 = up2 v this 5 (v a1 5) → ∀ v2 : V3, v2 = up2 v1 this 6 (v1 a1 6) → ∀ v3 : V3, v3 = up2 v2 this 7 (v2 a1 7) → ∀ v4 : V3, v4 = up2 v3 this 8 (v3 a1 8) → ∀ v5 : V3, v5 = up2 v4 this 9 (v4 a1 9) → ∀ v6 : V3, v6 = up2 v5 this 10 (v5 a1 10) → ∀ v7 : V3, v7 = cp2 v6 (a1 + 1) (this + 1) 4 → ∃ m64 : Nat, w_X1_copyFrom_64 this a1 Q m64 0 v7
set_option maxRecDepth 100000 in
set_option maxHeartbeats 4000000 in
theorem b_X1_copyFrom_99 {p : Program} (l : Launch) {e : Env} {s : State} {m : MethodId} {args : Array Value} {below : List Frame} {meth : Method} {c : Code} {G : zG} {this : Nat} {a1 : Nat} (hL : isL G this) (hLa1 : isL G a1) (C0 : Cx G RX1 cX1_copyFrom 3 none p s m args meth c) {Q : V3 → Prop} : ∀ (n : Nat) (x2 : Int32) (v : V3) (H : Heap) (locs : List Loc) (ls : Array Slot), w_X1_copyFrom_99 this a1 Q n x2 v → Zs G s v H locs → lv_has ls 3 [(0, .ref (gad G this)), (1, .ref (gad G a1)), (2, .int x2)] → W p l e { frames := 1, cells := 0, slots := 0, locals := 64 } s m args below meth c H locs 0 0 (MQ below (QvZ G Q) args s 0 0 (zA G)) (F0 m 99 ls []) := by
  have hx := C0.1
  have hb := C0.2.1
  intro n
  induction n with
  | zero =>
    intro x2 v H locs ls hw Z hl
    exact hw.elim
  | succ n hK99 =>
    intro x2 v H locs ls hw Z hl
    rw [w_X1_copyFrom_99] at hw
    refine lv_iload_n hx hb dX1_copyFrom_99 rfl (lv_at hl 2 rfl) ?_
    refine lv_aload_n hx hb dX1_copyFrom_100 rfl (lv_at hl 0 rfl) ?_
    refine z_get C0 Z in_X1 rfl 8 (by decide) rfl tm_1_62 (isL_lt0 hL) (ent_L hL) rfl dX1_copyFrom_101 ?_
    refine lv_icmp_ge (tgt := 132) hx hb dX1_copyFrom_104 (by decide) (fun c9 => ?_) (fun c9 => ?_)
    · replace hw := hw.1 c9
      exact z_vret C0 Z hw dX1_copyFrom_132
    · replace hw := hw.2 c9
      refine lv_aload_n hx hb dX1_copyFrom_107 rfl (lv_at hl 1 rfl) ?_
      refine z_get C0 Z in_X1 rfl 2 (by decide) rfl tm_1_49 (isL_lt0 hLa1) (ent_L hLa1) rfl dX1_copyFrom_108 ?_
      refine lv_iload_n hx hb dX1_copyFrom_111 rfl (lv_at hl 2 rfl) ?_
      obtain ⟨h10, hw⟩ := hw
      have h11 := vp_lt h10
      refine z_aald C0 Z (isL_lt hLa1 3 (by decide)) (ent_L3 hLa1) h10 dX1_copyFrom_112 ?_
      refine lv_iconst (v := 0) hx hb dX1_copyFrom_113 (by decide) ?_
      refine lv_aload_n hx hb dX1_copyFrom_114 rfl (lv_at hl 0 rfl) ?_
      refine z_get C0 Z in_X1 rfl 2 (by decide) rfl tm_1_49 (isL_lt0 hL) (ent_L hL) rfl dX1_copyFrom_115 ?_
      refine lv_iload_n hx hb dX1_copyFrom_118 rfl (lv_at hl 2 rfl) ?_
      obtain ⟨h12, hw⟩ := hw
      have h13 := vp_lt h12
      refine z_aald C0 Z (isL_lt hL 3 (by decide)) (ent_L3 hL) h12 dX1_copyFrom_119 ?_
      refine lv_iconst (v := 0) hx hb dX1_copyFrom_120 (by decide) ?_
      refine lv_bipush (v := 10) hx hb dX1_copyFrom_121 (by decide) ?_
      refine z_copy C0 Z hl.1 tm_1_41 (isL_B hLa1 h11) (fun _ => ent_B hLa1 h11) (isL_B hL h13) (fun _ => ent_B hL h13) (n := 10) (k := 10) (by decide) (by decide) (by decide) (by decide) (Nat.le_of_ble_eq_true rfl) (Nat.le_of_ble_eq_true rfl) dX1_copyFrom_123 (fun H locs Z => ?_)
      obtain ⟨v14, ev14⟩ : ∃ z : V3, z = cp2 v (a1 + 14 + (ix x2)) (this + 14 + (ix x2)) 10 := ⟨_, rfl⟩
      rw [← ev14] at Z
      replace hw := hw v14 ev14
      refine lv_iinc (v := x2 + 1) (lv' := [(2, .int (x2 + 1)), (0, .ref (gad G this)), (1, .ref (gad G a1))]) hx hb dX1_copyFrom_126 hl (k := 2) rfl rfl (by decide) rfl (fun ls hl => ?_)
      refine lv_goto (tgt := 99) hx hb dX1_copyFrom_129 (by decide) ?_
      exact hK99 _ _ _ _ _ hw Z (lv_sub hl [1, 2, 0] rfl)
set_option maxRecDepth 100000 in
set_option maxHeartbeats 4000000 in
theorem b_X1_copyFrom_64 {p : Program} (l : Launch) {e : Env} {s : State} {m : MethodId} {args : Array Value} {below : List Frame} {meth : Method} {c : Code} {G : zG} {this : Nat} {a1 : Nat} (hL : isL G this) (hLa1 : isL G a1) (C0 : Cx G RX1 cX1_copyFrom 3 none p s m args meth c) {Q : V3 → Prop} : ∀ (n : Nat) (x2 : Int32) (v : V3) (H : Heap) (locs : List Loc) (ls : Array Slot), w_X1_copyFrom_64 this a1 Q n x2 v → Zs G s v H locs → lv_has ls 3 [(0, .ref (gad G this)), (1, .ref (gad G a1)), (2, .int x2)] → W p l e { frames := 1, cells := 0, slots := 0, locals := 64 } s m args below meth c H locs 0 0 (MQ below (QvZ G Q) args s 0 0 (zA G)) (F0 m 64 ls []) := by
  have hx := C0.1
  have hb := C0.2.1
  intro n
  induction n with
  | zero =>
    intro x2 v H locs ls hw Z hl
    exact hw.elim
  | succ n hK64 =>
    intro x2 v H locs ls hw Z hl
    rw [w_X1_copyFrom_64] at hw
    refine lv_iload_n hx hb dX1_copyFrom_64 rfl (lv_at hl 2 rfl) ?_
    refine lv_aload_n hx hb dX1_copyFrom_65 rfl (lv_at hl 0 rfl) ?_
    refine z_get C0 Z in_X1 rfl 7 (by decide) rfl tm_1_60 (isL_lt0 hL) (ent_L hL) rfl dX1_copyFrom_66 ?_
    refine lv_icmp_ge (tgt := 97) hx hb dX1_copyFrom_69 (by decide) (fun c8 => ?_) (fun c8 => ?_)
    · replace hw := hw.1 c8
      refine lv_iconst (v := 0) hx hb dX1_copyFrom_97 (by decide) ?_
      refine lv_istore_n (lv' := [(2, .int 0), (0, .ref (gad G this)), (1, .ref (gad G a1))]) hx hb dX1_copyFrom_98 rfl hl (by decide) rfl (fun ls hl => ?_)
      obtain ⟨m99, hw⟩ := hw
      exact b_X1_copyFrom_99 l hL hLa1 C0 m99 _ _ _ _ _ hw Z (lv_sub hl [1, 2, 0] rfl)
    · replace hw := hw.2 c8
      refine lv_aload_n hx hb dX1_copyFrom_72 rfl (lv_at hl 1 rfl) ?_
      refine z_get C0 Z in_X1 rfl 1 (by decide) rfl tm_1_46 (isL_lt0 hLa1) (ent_L hLa1) rfl dX1_copyFrom_73 ?_
      refine lv_iload_n hx hb dX1_copyFrom_76 rfl (lv_at hl 2 rfl) ?_
      obtain ⟨h15, hw⟩ := hw
      have h16 := vp_lt h15
      refine z_aald C0 Z (isL_lt hLa1 2 (by decide)) (ent_L2 hLa1) h15 dX1_copyFrom_77 ?_
      refine lv_iconst (v := 0) hx hb dX1_copyFrom_78 (by decide) ?_
      refine lv_aload_n hx hb dX1_copyFrom_79 rfl (lv_at hl 0 rfl) ?_
      refine z_get C0 Z in_X1 rfl 1 (by decide) rfl tm_1_46 (isL_lt0 hL) (ent_L hL) rfl dX1_copyFrom_80 ?_
      refine lv_iload_n hx hb dX1_copyFrom_83 rfl (lv_at hl 2 rfl) ?_
      obtain ⟨h17, hw⟩ := hw
      have h18 := vp_lt h17
      refine z_aald C0 Z (isL_lt hL 2 (by decide)) (ent_L2 hL) h17 dX1_copyFrom_84 ?_
      refine lv_iconst (v := 0) hx hb dX1_copyFrom_85 (by decide) ?_
      refine lv_bipush (v := 8) hx hb dX1_copyFrom_86 (by decide) ?_
      refine z_copy C0 Z hl.1 tm_1_41 (isL_O hLa1 h16) (fun _ => ent_O hLa1 h16) (isL_O hL h18) (fun _ => ent_O hL h18) (n := 8) (k := 8) (by decide) (by decide) (by decide) (by decide) (Nat.le_of_ble_eq_true rfl) (Nat.le_of_ble_eq_true rfl) dX1_copyFrom_88 (fun H locs Z => ?_)
      obtain ⟨v19, ev19⟩ : ∃ z : V3, z = cp2 v (a1 + 6 + (ix x2)) (this + 6 + (ix x2)) 8 := ⟨_, rfl⟩
      rw [← ev19] at Z
      replace hw := hw v19 ev19
      refine lv_iinc (v := x2 + 1) (lv' := [(2, .int (x2 + 1)), (0, .ref (gad G this)), (1, .ref (gad G a1))]) hx hb dX1_copyFrom_91 hl (k := 2) rfl rfl (by decide) rfl (fun ls hl => ?_)
      refine lv_goto (tgt := 64) hx hb dX1_copyFrom_94 (by decide) ?_
      exact hK64 _ _ _ _ _ hw Z (lv_sub hl [1, 2, 0] rfl)
set_option maxRecDepth 100000 in
set_option maxHeartbeats 4000000 in
theorem k_X1_copyFrom (l : Launch) {G : zG} (hg : 116 ≤ gn G) {this : Nat} {a1 : Nat} (hL : isL G this) (hLa1 : isL G a1) {v : V3} {Q : V3 → Prop} (hw : w_X1_copyFrom this a1 v Q) : Mz l yX1_copyFrom cX1_copyFrom 3 none 1 64 G [.ref (gad G this), .ref (gad G a1)] v (QvZ G Q) := by
  rw [w_X1_copyFrom] at hw
  refine z_ofW hg (by decide) (Nat.le_of_ble_eq_true rfl) ?_
  intro p e s m args below meth c ls C0 Z hl
  have hx := C0.1
  have hb := C0.2.1
  replace hl : lv_has ls 3 [(0, .ref (gad G this)), (1, .ref (gad G a1))] := hl
  generalize s.heap = H at Z ⊢
  generalize ([] : List Loc) = locs at Z ⊢
  refine lv_aload_n hx hb dX1_copyFrom_0 rfl (lv_at hl 0 rfl) ?_
  refine lv_aload_n hx hb dX1_copyFrom_1 rfl (lv_at hl 1 rfl) ?_
  refine z_get C0 Z in_X1 rfl 5 (by decide) rfl tm_1_55 (isL_lt0 hLa1) (ent_L hLa1) rfl dX1_copyFrom_2 ?_
  refine z_put C0 Z in_X1 tyX1_ok nmX1 rfl 5 (by decide) rfl rfl tm_1_55 (isL_lt0 hL) (ent_L hL) (p_X1_5 hL) (fun c' h => up2_off _ _ _ h) rfl rfl (Nat.le_of_ble_eq_true rfl) dX1_copyFrom_5 (fun H locs Z => ?_)
  obtain ⟨v1, ev1⟩ : ∃ z : V3, z = up2 v this 5 (v a1 5) := ⟨_, rfl⟩
  rw [← ev1] at Z
  replace hw := hw v1 ev1
  refine lv_aload_n hx hb dX1_copyFrom_8 rfl (lv_at hl 0 rfl) ?_
  refine lv_aload_n hx hb dX1_copyFrom_9 rfl (lv_at hl 1 rfl) ?_
  refine z_get C0 Z in_X1 rfl 6 (by decide) rfl tm_1_57 (isL_lt0 hLa1) (ent_L hLa1) rfl dX1_copyFrom_10 ?_
  refine z_put C0 Z in_X1 tyX1_ok nmX1 rfl 6 (by decide) rfl rfl tm_1_57 (isL_lt0 hL) (ent_L hL) (p_X1_6 hL) (fun c' h => up2_off _ _ _ h) rfl rfl (Nat.le_of_ble_eq_true rfl) dX1_copyFrom_13 (fun H locs Z => ?_)
  obtain ⟨v2, ev2⟩ : ∃ z : V3, z = up2 v1 this 6 (v1 a1 6) := ⟨_, rfl⟩
  rw [← ev2] at Z
  replace hw := hw v2 ev2
  refine lv_aload_n hx hb dX1_copyFrom_16 rfl (lv_at hl 0 rfl) ?_
  refine lv_aload_n hx hb dX1_copyFrom_17 rfl (lv_at hl 1 rfl) ?_
  refine z_get C0 Z in_X1 rfl 7 (by decide) rfl tm_1_60 (isL_lt0 hLa1) (ent_L hLa1) rfl dX1_copyFrom_18 ?_
  refine z_put C0 Z in_X1 tyX1_ok nmX1 rfl 7 (by decide) rfl rfl tm_1_60 (isL_lt0 hL) (ent_L hL) (p_X1_7 hL) (fun c' h => up2_off _ _ _ h) rfl rfl (Nat.le_of_ble_eq_true rfl) dX1_copyFrom_21 (fun H locs Z => ?_)
  obtain ⟨v3, ev3⟩ : ∃ z : V3, z = up2 v2 this 7 (v2 a1 7) := ⟨_, rfl⟩
  rw [← ev3] at Z
  replace hw := hw v3 ev3
  refine lv_aload_n hx hb dX1_copyFrom_24 rfl (lv_at hl 0 rfl) ?_
  refine lv_aload_n hx hb dX1_copyFrom_25 rfl (lv_at hl 1 rfl) ?_
  refine z_get C0 Z in_X1 rfl 8 (by decide) rfl tm_1_62 (isL_lt0 hLa1) (ent_L hLa1) rfl dX1_copyFrom_26 ?_
  refine z_put C0 Z in_X1 tyX1_ok nmX1 rfl 8 (by decide) rfl rfl tm_1_62 (isL_lt0 hL) (ent_L hL) (p_X1_8 hL) (fun c' h => up2_off _ _ _ h) rfl rfl (Nat.le_of_ble_eq_true rfl) dX1_copyFrom_29 (fun H locs Z => ?_)
  obtain ⟨v4, ev4⟩ : ∃ z : V3, z = up2 v3 this 8 (v3 a1 8) := ⟨_, rfl⟩
  rw [← ev4] at Z
  replace hw := hw v4 ev4
  refine lv_aload_n hx hb dX1_copyFrom_32 rfl (lv_at hl 0 rfl) ?_
  refine lv_aload_n hx hb dX1_copyFrom_33 rfl (lv_at hl 1 rfl) ?_
  refine z_get C0 Z in_X1 rfl 9 (by decide) rfl tm_1_65 (isL_lt0 hLa1) (ent_L hLa1) rfl dX1_copyFrom_34 ?_
  refine z_put C0 Z in_X1 tyX1_ok nmX1 rfl 9 (by decide) rfl rfl tm_1_65 (isL_lt0 hL) (ent_L hL) (p_X1_9 hL) (fun c' h => up2_off _ _ _ h) rfl rfl (Nat.le_of_ble_eq_true rfl) dX1_copyFrom_37 (fun H locs Z => ?_)
  obtain ⟨v5, ev5⟩ : ∃ z : V3, z = up2 v4 this 9 (v4 a1 9) := ⟨_, rfl⟩
  rw [← ev5] at Z
  replace hw := hw v5 ev5
  refine lv_aload_n hx hb dX1_copyFrom_40 rfl (lv_at hl 0 rfl) ?_
  refine lv_aload_n hx hb dX1_copyFrom_41 rfl (lv_at hl 1 rfl) ?_
  refine z_get C0 Z in_X1 rfl 10 (by decide) rfl tm_1_68 (isL_lt0 hLa1) (ent_L hLa1) rfl dX1_copyFrom_42 ?_
  refine z_put C0 Z in_X1 tyX1_ok nmX1 rfl 10 (by decide) rfl rfl tm_1_68 (isL_lt0 hL) (ent_L hL) (p_X1_10 hL) (fun c' h => up2_off _ _ _ h) rfl rfl (Nat.le_of_ble_eq_true rfl) dX1_copyFrom_45 (fun H locs Z => ?_)
  obtain ⟨v6, ev6⟩ : ∃ z : V3, z = up2 v5 this 10 (v5 a1 10) := ⟨_, rfl⟩
  rw [← ev6] at Z
  replace hw := hw v6 ev6
  refine lv_aload_n hx hb dX1_copyFrom_48 rfl (lv_at hl 1 rfl) ?_
  refine z_get C0 Z in_X1 rfl 0 (by decide) rfl tm_1_44 (isL_lt0 hLa1) (ent_L hLa1) rfl dX1_copyFrom_49 ?_
  refine lv_iconst (v := 0) hx hb dX1_copyFrom_52 (by decide) ?_
  refine lv_aload_n hx hb dX1_copyFrom_53 rfl (lv_at hl 0 rfl) ?_
  refine z_get C0 Z in_X1 rfl 0 (by decide) rfl tm_1_44 (isL_lt0 hL) (ent_L hL) rfl dX1_copyFrom_54 ?_
  refine lv_iconst (v := 0) hx hb dX1_copyFrom_57 (by decide) ?_
  refine lv_iconst (v := 4) hx hb dX1_copyFrom_58 (by decide) ?_
  refine z_copy C0 Z hl.1 tm_1_41 (isL_lt hLa1 1 (by decide)) (fun _ => ent_L1 hLa1) (isL_lt hL 1 (by decide)) (fun _ => ent_L1 hL) (n := 4) (k := 4) (by decide) (by decide) (by decide) (by decide) (Nat.le_of_ble_eq_true rfl) (Nat.le_of_ble_eq_true rfl) dX1_copyFrom_59 (fun H locs Z => ?_)
  obtain ⟨v7, ev7⟩ : ∃ z : V3, z = cp2 v6 (a1 + 1) (this + 1) 4 := ⟨_, rfl⟩
  rw [← ev7] at Z
  replace hw := hw v7 ev7
  refine lv_iconst (v := 0) hx hb dX1_copyFrom_62 (by decide) ?_
  refine lv_istore_n (lv' := [(2, .int 0), (0, .ref (gad G this)), (1, .ref (gad G a1))]) hx hb dX1_copyFrom_63 rfl hl (by decide) rfl (fun ls hl => ?_)
  obtain ⟨m64, hw⟩ := hw
  exact b_X1_copyFrom_64 l hL hLa1 C0 m64 _ _ _ _ _ hw Z (lv_sub hl [1, 2, 0] rfl)
-- X1_dropEnded: room (1, 64)
theorem dX1_dropEnded_0 : decode cX1_dropEnded 0 = .ok (.iconst 0, 1) := by decide +kernel
theorem dX1_dropEnded_1 : decode cX1_dropEnded 1 = .ok (.istore_n 1, 1) := by decide +kernel
theorem dX1_dropEnded_2 : decode cX1_dropEnded 2 = .ok (.iconst 0, 1) := by decide +kernel
theorem dX1_dropEnded_3 : decode cX1_dropEnded 3 = .ok (.istore_n 2, 1) := by decide +kernel
theorem dX1_dropEnded_4 : decode cX1_dropEnded 4 = .ok (.iload_n 2, 1) := by decide +kernel
theorem dX1_dropEnded_5 : decode cX1_dropEnded 5 = .ok (.aload_n 0, 1) := by decide +kernel
theorem dX1_dropEnded_6 : decode cX1_dropEnded 6 = .ok (.getfield 43, 3) := by decide +kernel
theorem dX1_dropEnded_9 : decode cX1_dropEnded 9 = .ok (.if_icmp .ge 39, 3) := by decide +kernel
theorem dX1_dropEnded_12 : decode cX1_dropEnded 12 = .ok (.aload_n 0, 1) := by decide +kernel
theorem dX1_dropEnded_13 : decode cX1_dropEnded 13 = .ok (.iload_n 2, 1) := by decide +kernel
theorem dX1_dropEnded_14 : decode cX1_dropEnded 14 = .ok (.invokevirtual 65, 3) := by decide +kernel
theorem dX1_dropEnded_17 : decode cX1_dropEnded 17 = .ok (.ifCond .eq 25, 3) := by decide +kernel
theorem dX1_dropEnded_20 : decode cX1_dropEnded 20 = .ok (.aload_n 0, 1) := by decide +kernel
theorem dX1_dropEnded_21 : decode cX1_dropEnded 21 = .ok (.getfield 20, 3) := by decide +kernel
theorem dX1_dropEnded_24 : decode cX1_dropEnded 24 = .ok (.iload_n 2, 1) := by decide +kernel
theorem dX1_dropEnded_25 : decode cX1_dropEnded 25 = .ok (.aaload, 1) := by decide +kernel
theorem dX1_dropEnded_26 : decode cX1_dropEnded 26 = .ok (.iconst 0, 1) := by decide +kernel
theorem dX1_dropEnded_27 : decode cX1_dropEnded 27 = .ok (.aload_n 0, 1) := by decide +kernel
theorem dX1_dropEnded_28 : decode cX1_dropEnded 28 = .ok (.getfield 20, 3) := by decide +kernel
theorem dX1_dropEnded_31 : decode cX1_dropEnded 31 = .ok (.iload_n 1, 1) := by decide +kernel
theorem dX1_dropEnded_32 : decode cX1_dropEnded 32 = .ok (.aaload, 1) := by decide +kernel
theorem dX1_dropEnded_33 : decode cX1_dropEnded 33 = .ok (.iconst 0, 1) := by decide +kernel
theorem dX1_dropEnded_34 : decode cX1_dropEnded 34 = .ok (.bipush 10, 2) := by decide +kernel
theorem dX1_dropEnded_36 : decode cX1_dropEnded 36 = .ok (.invokestatic 55, 3) := by decide +kernel
theorem dX1_dropEnded_39 : decode cX1_dropEnded 39 = .ok (.iinc 1 1, 3) := by decide +kernel
theorem dX1_dropEnded_42 : decode cX1_dropEnded 42 = .ok (.iinc 2 1, 3) := by decide +kernel
theorem dX1_dropEnded_45 : decode cX1_dropEnded 45 = .ok (.goto (-41), 3) := by decide +kernel
theorem dX1_dropEnded_48 : decode cX1_dropEnded 48 = .ok (.aload_n 0, 1) := by decide +kernel
theorem dX1_dropEnded_49 : decode cX1_dropEnded 49 = .ok (.getfield 43, 3) := by decide +kernel
theorem dX1_dropEnded_52 : decode cX1_dropEnded 52 = .ok (.iload_n 1, 1) := by decide +kernel
theorem dX1_dropEnded_53 : decode cX1_dropEnded 53 = .ok (.isub, 1) := by decide +kernel
theorem dX1_dropEnded_54 : decode cX1_dropEnded 54 = .ok (.istore_n 2, 1) := by decide +kernel
theorem dX1_dropEnded_55 : decode cX1_dropEnded 55 = .ok (.aload_n 0, 1) := by decide +kernel
theorem dX1_dropEnded_56 : decode cX1_dropEnded 56 = .ok (.iload_n 1, 1) := by decide +kernel
theorem dX1_dropEnded_57 : decode cX1_dropEnded 57 = .ok (.putfield 43, 3) := by decide +kernel
theorem dX1_dropEnded_60 : decode cX1_dropEnded 60 = .ok (.iload_n 2, 1) := by decide +kernel
theorem dX1_dropEnded_61 : decode cX1_dropEnded 61 = .ok (.ireturn, 1) := by decide +kernel
def w_X1_dropEnded_42 (this : Nat) (Q : Int32 → V3 → Prop) (K4 : Int32 → Int32 → V3 → Prop) (x1 : Int32) (x2 : Int32) (v : V3) : Prop := K4 x1 (x2 + 1) v
def w_X1_dropEnded_4 (this : Nat) (Q : Int32 → V3 → Prop) : Nat → Int32 → Int32 → V3 → Prop
  | 0, _, _, _ => False
  | n4 + 1, x1, x2, v => (((v this 8) ≤ x2 → ∀ v2 : V3, v2 = up2 v this 8 x1 → Q ((v this 8) - x1) v2) ∧ (¬ (v this 8) ≤ x2 → w_X1_isActive this x2 v (fun r4 v3 => ((r4 = 0 → w_X1_dropEnded_42 this Q (w_X1_dropEnded_4 this Q n4) x1 x2 v3) ∧ (¬ r4 = 0 → vp_in x2 40 ∧ vp_in x1 40 ∧ ∀ v10 : V3, v10 = cp2 v3 (this + 14 + (ix x2)) (this + 14 + (ix x1)) 10 → w_X1_dropEnded_42 this Q (w_X1_dropEnded_4 this Q n4) (x1 + 1) x2 v10)))))
def w_X1_dropEnded (this : Nat) (v : V3) (Q : Int32 → V3 → Prop) : Prop := ∃ m4 : Nat, w_X1_dropEnded_4 this Q m4 0 0 v
set_option maxRecDepth 100000 in
set_option maxHeartbeats 4000000 in
theorem b_X1_dropEnded_42 {p : Program} (l : Launch) {e : Env} {s : State} {m : MethodId} {args : Array Value} {below : List Frame} {meth : Method} {c : Code} {G : zG} {this : Nat} (hL : isL G this) (C0 : Cx G RX1 cX1_dropEnded 3 (some .int) p s m args meth c) {Q : Int32 → V3 → Prop} {K4 : Int32 → Int32 → V3 → Prop} (hK4 : ∀ (x1 : Int32) (x2 : Int32) (v : V3) (H : Heap) (locs : List Loc) (ls : Array Slot), K4 x1 x2 v → Zs G s v H locs → lv_has ls 3 [(0, .ref (gad G this)), (1, .int x1), (2, .int x2)] → W p l e { frames := 1, cells := 0, slots := 0, locals := 64 } s m args below meth c H locs 0 0 (MQ below (QiZ G Q) args s 0 0 (zA G)) (F0 m 4 ls [])) : ∀ (x1 : Int32) (x2 : Int32) (v : V3) (H : Heap) (locs : List Loc) (ls : Array Slot), w_X1_dropEnded_42 this Q K4 x1 x2 v → Zs G s v H locs → lv_has ls 3 [(0, .ref (gad G this)), (1, .int x1), (2, .int x2)] → W p l e { frames := 1, cells := 0, slots := 0, locals := 64 } s m args below meth c H locs 0 0 (MQ below (QiZ G Q) args s 0 0 (zA G)) (F0 m 42 ls []) := by
  have hx := C0.1
  have hb := C0.2.1
  intro x1 x2 v H locs ls hw Z hl
  rw [w_X1_dropEnded_42] at hw
  refine lv_iinc (v := x2 + 1) (lv' := [(2, .int (x2 + 1)), (0, .ref (gad G this)), (1, .int x1)]) hx hb dX1_dropEnded_42 hl (k := 2) rfl rfl (by decide) rfl (fun ls hl => ?_)
  refine lv_goto (tgt := 4) hx hb dX1_dropEnded_45 (by decide) ?_
  exact hK4 _ _ _ _ _ _ hw Z (lv_sub hl [1, 2, 0] rfl)
set_option maxRecDepth 100000 in
set_option maxHeartbeats 4000000 in
theorem b_X1_dropEnded_4 {p : Program} (l : Launch) {e : Env} {s : State} {m : MethodId} {args : Array Value} {below : List Frame} {meth : Method} {c : Code} {G : zG} {this : Nat} (hL : isL G this) (C0 : Cx G RX1 cX1_dropEnded 3 (some .int) p s m args meth c) {Q : Int32 → V3 → Prop} : ∀ (n : Nat) (x1 : Int32) (x2 : Int32) (v : V3) (H : Heap) (locs : List Loc) (ls : Array Slot), w_X1_dropEnded_4 this Q n x1 x2 v → Zs G s v H locs → lv_has ls 3 [(0, .ref (gad G this)), (1, .int x1), (2, .int x2)] → W p l e { frames := 1, cells := 0, slots := 0, locals := 64 } s m args below meth c H locs 0 0 (MQ below (QiZ G Q) args s 0 0 (zA G)) (F0 m 4 ls []) := by
  have hx := C0.1
  have hb := C0.2.1
  intro n
  induction n with
  | zero =>
    intro x1 x2 v H locs ls hw Z hl
    exact hw.elim
  | succ n hK4 =>
    intro x1 x2 v H locs ls hw Z hl
    rw [w_X1_dropEnded_4] at hw
    refine lv_iload_n hx hb dX1_dropEnded_4 rfl (lv_at hl 2 rfl) ?_
    refine lv_aload_n hx hb dX1_dropEnded_5 rfl (lv_at hl 0 rfl) ?_
    refine z_get C0 Z in_X1 rfl 8 (by decide) rfl tm_1_62 (isL_lt0 hL) (ent_L hL) rfl dX1_dropEnded_6 ?_
    refine lv_icmp_ge (tgt := 48) hx hb dX1_dropEnded_9 (by decide) (fun c1 => ?_) (fun c1 => ?_)
    · replace hw := hw.1 c1
      refine lv_aload_n hx hb dX1_dropEnded_48 rfl (lv_at hl 0 rfl) ?_
      refine z_get C0 Z in_X1 rfl 8 (by decide) rfl tm_1_62 (isL_lt0 hL) (ent_L hL) rfl dX1_dropEnded_49 ?_
      refine lv_iload_n hx hb dX1_dropEnded_52 rfl (lv_at hl 1 rfl) ?_
      refine lv_isub hx hb dX1_dropEnded_53 ?_
      refine lv_istore_n (lv' := [(2, .int ((v this 8) - x1)), (0, .ref (gad G this)), (1, .int x1)]) hx hb dX1_dropEnded_54 rfl hl (by decide) rfl (fun ls hl => ?_)
      refine lv_aload_n hx hb dX1_dropEnded_55 rfl (lv_at hl 1 rfl) ?_
      refine lv_iload_n hx hb dX1_dropEnded_56 rfl (lv_at hl 2 rfl) ?_
      refine z_put C0 Z in_X1 tyX1_ok nmX1 rfl 8 (by decide) rfl rfl tm_1_62 (isL_lt0 hL) (ent_L hL) (p_X1_8 hL) (fun c' h => up2_off _ _ _ h) rfl rfl (Nat.le_of_ble_eq_true rfl) dX1_dropEnded_57 (fun H locs Z => ?_)
      obtain ⟨v2, ev2⟩ : ∃ z : V3, z = up2 v this 8 x1 := ⟨_, rfl⟩
      rw [← ev2] at Z
      replace hw := hw v2 ev2
      refine lv_iload_n hx hb dX1_dropEnded_60 rfl (lv_at hl 0 rfl) ?_
      exact z_iret C0 Z hw dX1_dropEnded_61
    · replace hw := hw.2 c1
      refine lv_aload_n hx hb dX1_dropEnded_12 rfl (lv_at hl 0 rfl) ?_
      refine lv_iload_n hx hb dX1_dropEnded_13 rfl (lv_at hl 2 rfl) ?_
      refine z_callVi C0 Z hl.1 (As := [.int x2]) (rest := []) (k_X1_isActive l (cx_g C0) hL hw) (gv_X1_isActive tm_2_163) rfl ds_X1_isActive ⟨Nat.le_of_ble_eq_true rfl, Nat.le_of_ble_eq_true rfl⟩ (ci := 1) rfl (isL_lt0 hL) (ent_L hL) rfl rfl (Nat.le_of_ble_eq_true rfl) ⟨Nat.le_of_ble_eq_true rfl, Nat.le_of_ble_eq_true rfl⟩ dX1_dropEnded_14 (fun r4 v3 H locs hw Z => ?_)
      refine lv_if_eq (tgt := 42) hx hb dX1_dropEnded_17 (by decide) (fun c5 => ?_) (fun c5 => ?_)
      · replace hw := hw.1 c5
        exact b_X1_dropEnded_42 l hL C0 hK4 _ _ _ _ _ _ hw Z (lv_sub hl [0, 1, 2] rfl)
      · replace hw := hw.2 c5
        refine lv_aload_n hx hb dX1_dropEnded_20 rfl (lv_at hl 0 rfl) ?_
        refine z_get C0 Z in_X1 rfl 2 (by decide) rfl tm_1_49 (isL_lt0 hL) (ent_L hL) rfl dX1_dropEnded_21 ?_
        refine lv_iload_n hx hb dX1_dropEnded_24 rfl (lv_at hl 2 rfl) ?_
        obtain ⟨h6, hw⟩ := hw
        have h7 := vp_lt h6
        refine z_aald C0 Z (isL_lt hL 3 (by decide)) (ent_L3 hL) h6 dX1_dropEnded_25 ?_
        refine lv_iconst (v := 0) hx hb dX1_dropEnded_26 (by decide) ?_
        refine lv_aload_n hx hb dX1_dropEnded_27 rfl (lv_at hl 0 rfl) ?_
        refine z_get C0 Z in_X1 rfl 2 (by decide) rfl tm_1_49 (isL_lt0 hL) (ent_L hL) rfl dX1_dropEnded_28 ?_
        refine lv_iload_n hx hb dX1_dropEnded_31 rfl (lv_at hl 1 rfl) ?_
        obtain ⟨h8, hw⟩ := hw
        have h9 := vp_lt h8
        refine z_aald C0 Z (isL_lt hL 3 (by decide)) (ent_L3 hL) h8 dX1_dropEnded_32 ?_
        refine lv_iconst (v := 0) hx hb dX1_dropEnded_33 (by decide) ?_
        refine lv_bipush (v := 10) hx hb dX1_dropEnded_34 (by decide) ?_
        refine z_copy C0 Z hl.1 tm_1_41 (isL_B hL h7) (fun _ => ent_B hL h7) (isL_B hL h9) (fun _ => ent_B hL h9) (n := 10) (k := 10) (by decide) (by decide) (by decide) (by decide) (Nat.le_of_ble_eq_true rfl) (Nat.le_of_ble_eq_true rfl) dX1_dropEnded_36 (fun H locs Z => ?_)
        obtain ⟨v10, ev10⟩ : ∃ z : V3, z = cp2 v3 (this + 14 + (ix x2)) (this + 14 + (ix x1)) 10 := ⟨_, rfl⟩
        rw [← ev10] at Z
        replace hw := hw v10 ev10
        refine lv_iinc (v := x1 + 1) (lv' := [(1, .int (x1 + 1)), (0, .ref (gad G this)), (2, .int x2)]) hx hb dX1_dropEnded_39 hl (k := 1) rfl rfl (by decide) rfl (fun ls hl => ?_)
        exact b_X1_dropEnded_42 l hL C0 hK4 _ _ _ _ _ _ hw Z (lv_sub hl [1, 0, 2] rfl)
set_option maxRecDepth 100000 in
set_option maxHeartbeats 4000000 in
theorem k_X1_dropEnded (l : Launch) {G : zG} (hg : 116 ≤ gn G) {this : Nat} (hL : isL G this) {v : V3} {Q : Int32 → V3 → Prop} (hw : w_X1_dropEnded this v Q) : Mz l yX1_dropEnded cX1_dropEnded 3 (some .int) 1 64 G [.ref (gad G this)] v (QiZ G Q) := by
  rw [w_X1_dropEnded] at hw
  refine z_ofW hg (by decide) (Nat.le_of_ble_eq_true rfl) ?_
  intro p e s m args below meth c ls C0 Z hl
  have hx := C0.1
  have hb := C0.2.1
  replace hl : lv_has ls 3 [(0, .ref (gad G this))] := hl
  generalize s.heap = H at Z ⊢
  generalize ([] : List Loc) = locs at Z ⊢
  refine lv_iconst (v := 0) hx hb dX1_dropEnded_0 (by decide) ?_
  refine lv_istore_n (lv' := [(1, .int 0), (0, .ref (gad G this))]) hx hb dX1_dropEnded_1 rfl hl (by decide) rfl (fun ls hl => ?_)
  refine lv_iconst (v := 0) hx hb dX1_dropEnded_2 (by decide) ?_
  refine lv_istore_n (lv' := [(2, .int 0), (1, .int 0), (0, .ref (gad G this))]) hx hb dX1_dropEnded_3 rfl hl (by decide) rfl (fun ls hl => ?_)
  obtain ⟨m4, hw⟩ := hw
  exact b_X1_dropEnded_4 l hL C0 m4 _ _ _ _ _ _ hw Z (lv_sub hl [2, 1, 0] rfl)
