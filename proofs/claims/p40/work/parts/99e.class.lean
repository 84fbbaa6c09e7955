/-! THE CLASS IS MADE -/
abbrev fsX00 : List Value := [.null, .null]
theorem df_X0 : ∀ j, j < 2 → defaultValue (tyX0 j) = vp_V fsX00 j := by decide +kernel
abbrev fsX20 : List Value := [.null, .null, .int 0, .int 0, .int 0, .int 0, .int 0, .int 0, .int 0]
theorem df_X2 : ∀ j, j < 9 → defaultValue (tyX2 j) = vp_V fsX20 j := by decide +kernel
abbrev fsX30 : List Value := [.null, .int 0, .int 0, .int 0, .null, .null, .null, .null, .null, .int 0, .int 0, .int 0, .null, .int 0]
theorem df_X3 : ∀ j, j < 14 → defaultValue (tyX3 j) = vp_V fsX30 j := by decide +kernel
theorem tm_1_5 : Cond.initialized RX2 ∈ tbg := tb1 5 (by decide +kernel) (by decide +kernel)
theorem tm_1_26 : Cond.methodLink RX3 1 Lib.objectInit ∈ tbg := tb1 26 (by decide +kernel) (by decide +kernel)
theorem tm_1_27 : Cond.classLink RX3 23 "SpanLodge$Ledger" ∈ tbg := tb1 27 (by decide +kernel) (by decide +kernel)
theorem tm_1_28 : Cond.instantiable RX1 11 ∈ tbg := tb1 28 (by decide +kernel) (by decide +kernel)
theorem tm_1_29 : Cond.methodLink RX3 25 yX1_init ∈ tbg := tb1 29 (by decide +kernel) (by decide +kernel)
theorem tm_1_30 : Cond.instanceMethod yX1_init ∈ tbg := tb1 30 (by decide +kernel) (by decide +kernel)
theorem tm_1_31 : Cond.code yX1_init cX1_init 1 none ∈ tbg := tb1 31 (by decide +kernel) (by decide +kernel)
theorem tm_1_94 : Cond.arrayClass .byte ∈ tbg := tb1 94 (by decide +kernel) (by decide +kernel)
theorem tm_1_97 : Cond.classLink RX3 37 RX0 ∈ tbg := tb1 97 (by decide +kernel) (by decide +kernel)
theorem tm_1_98 : Cond.instantiable RX0 2 ∈ tbg := tb1 98 (by decide +kernel) (by decide +kernel)
theorem tm_1_99 : Cond.methodLink RX3 39 yX0_init ∈ tbg := tb1 99 (by decide +kernel) (by decide +kernel)
theorem tm_1_100 : Cond.instanceMethod yX0_init ∈ tbg := tb1 100 (by decide +kernel) (by decide +kernel)
theorem tm_1_101 : Cond.code yX0_init cX0_init 2 none ∈ tbg := tb1 101 (by decide +kernel) (by decide +kernel)
theorem tm_1_102 : Cond.methodLink RX0 3 Lib.objectInit ∈ tbg := tb1 102 (by decide +kernel) (by decide +kernel)
theorem tm_1_111 : Cond.classLink RX3 46 RX2 ∈ tbg := tb1 111 (by decide +kernel) (by decide +kernel)
theorem tm_1_112 : Cond.instantiable RX2 9 ∈ tbg := tb1 112 (by decide +kernel) (by decide +kernel)
theorem tm_1_113 : Cond.methodLink RX3 48 yX2_init ∈ tbg := tb1 113 (by decide +kernel) (by decide +kernel)
theorem tm_1_114 : Cond.instanceMethod yX2_init ∈ tbg := tb1 114 (by decide +kernel) (by decide +kernel)
theorem tm_1_115 : Cond.code yX2_init cX2_init 3 none ∈ tbg := tb1 115 (by decide +kernel) (by decide +kernel)
theorem tm_1_116 : Cond.methodLink RX2 3 Lib.objectInit ∈ tbg := tb1 116 (by decide +kernel) (by decide +kernel)
theorem tm_1_117 : Cond.fieldLink RX2 9 RX2 (TX2 0).2.1 (TX2 0).2.2.1 ∈ tbg := tb1 117 (by decide +kernel) (by decide +kernel)
theorem tm_1_118 : Cond.fieldLink RX2 15 RX2 (TX2 1).2.1 (TX2 1).2.2.1 ∈ tbg := tb1 118 (by decide +kernel) (by decide +kernel)
theorem tm_1_138 : Cond.fieldLink RX3 9 RX3 (TX3 0).2.1 (TX3 0).2.2.1 ∈ tbg := tb1 138 (by decide +kernel) (by decide +kernel)
theorem tm_1_139 : Cond.fieldLink RX3 13 RX3 (TX3 1).2.1 (TX3 1).2.2.1 ∈ tbg := tb1 139 (by decide +kernel) (by decide +kernel)
theorem tm_1_140 : Cond.fieldLink RX3 17 RX3 (TX3 2).2.1 (TX3 2).2.2.1 ∈ tbg := tb1 140 (by decide +kernel) (by decide +kernel)
theorem tm_1_141 : Cond.fieldLink RX3 20 RX3 (TX3 3).2.1 (TX3 3).2.2.1 ∈ tbg := tb1 141 (by decide +kernel) (by decide +kernel)
theorem tm_1_144 : Cond.fieldLink RX3 33 RX3 (TX3 6).2.1 (TX3 6).2.2.1 ∈ tbg := tb1 144 (by decide +kernel) (by decide +kernel)
theorem tm_1_146 : Cond.fieldLink RX3 51 RX3 (TX3 8).2.1 (TX3 8).2.2.1 ∈ tbg := tb1 146 (by decide +kernel) (by decide +kernel)
theorem ds_X1_init : dsc yX1_init 0 := ⟨by decide +kernel, by decide +kernel, by decide +kernel⟩
theorem ds_X0_init : dsc yX0_init 1 := ⟨by decide +kernel, by decide +kernel, by decide +kernel⟩
theorem ds_X2_init : dsc yX2_init 2 := ⟨by decide +kernel, by decide +kernel, by decide +kernel⟩
theorem dX0_init_0 : decode cX0_init 0 = .ok (.aload_n 0, 1) := by decide +kernel
theorem dX0_init_1 : decode cX0_init 1 = .ok (.invokespecial 3, 3) := by decide +kernel
theorem dX0_init_4 : decode cX0_init 4 = .ok (.aload_n 0, 1) := by decide +kernel
theorem dX0_init_5 : decode cX0_init 5 = .ok (.iconst 5, 1) := by decide +kernel
theorem dX0_init_6 : decode cX0_init 6 = .ok (.newarray .int, 2) := by decide +kernel
theorem dX0_init_8 : decode cX0_init 8 = .ok (.putfield 9, 3) := by decide +kernel
theorem dX0_init_11 : decode cX0_init 11 = .ok (.aload_n 0, 1) := by decide +kernel
theorem dX0_init_12 : decode cX0_init 12 = .ok (.aload_n 1, 1) := by decide +kernel
theorem dX0_init_13 : decode cX0_init 13 = .ok (.putfield 15, 3) := by decide +kernel
theorem dX0_init_16 : decode cX0_init 16 = .ok (.return_, 1) := by decide +kernel
theorem dX2_init_0 : decode cX2_init 0 = .ok (.aload_n 0, 1) := by decide +kernel
theorem dX2_init_1 : decode cX2_init 1 = .ok (.invokespecial 3, 3) := by decide +kernel
theorem dX2_init_4 : decode cX2_init 4 = .ok (.aload_n 0, 1) := by decide +kernel
theorem dX2_init_5 : decode cX2_init 5 = .ok (.aload_n 1, 1) := by decide +kernel
theorem dX2_init_6 : decode cX2_init 6 = .ok (.putfield 9, 3) := by decide +kernel
theorem dX2_init_9 : decode cX2_init 9 = .ok (.aload_n 0, 1) := by decide +kernel
theorem dX2_init_10 : decode cX2_init 10 = .ok (.aload_n 2, 1) := by decide +kernel
theorem dX2_init_11 : decode cX2_init 11 = .ok (.putfield 15, 3) := by decide +kernel
theorem dX2_init_14 : decode cX2_init 14 = .ok (.return_, 1) := by decide +kernel
theorem dX3_init_0 : decode cX3_init 0 = .ok (.aload_n 0, 1) := by decide +kernel
theorem dX3_init_1 : decode cX3_init 1 = .ok (.invokespecial 1, 3) := by decide +kernel
theorem dX3_init_4 : decode cX3_init 4 = .ok (.aload_n 0, 1) := by decide +kernel
theorem dX3_init_5 : decode cX3_init 5 = .ok (.sipush 800, 3) := by decide +kernel
theorem dX3_init_8 : decode cX3_init 8 = .ok (.newarray .byte, 2) := by decide +kernel
theorem dX3_init_10 : decode cX3_init 10 = .ok (.putfield 9, 3) := by decide +kernel
theorem dX3_init_13 : decode cX3_init 13 = .ok (.aload_n 0, 1) := by decide +kernel
theorem dX3_init_14 : decode cX3_init 14 = .ok (.iconst 0, 1) := by decide +kernel
theorem dX3_init_15 : decode cX3_init 15 = .ok (.putfield 13, 3) := by decide +kernel
theorem dX3_init_18 : decode cX3_init 18 = .ok (.aload_n 0, 1) := by decide +kernel
theorem dX3_init_19 : decode cX3_init 19 = .ok (.iconst 0, 1) := by decide +kernel
theorem dX3_init_20 : decode cX3_init 20 = .ok (.putfield 17, 3) := by decide +kernel
theorem dX3_init_23 : decode cX3_init 23 = .ok (.aload_n 0, 1) := by decide +kernel
theorem dX3_init_24 : decode cX3_init 24 = .ok (.iconst (-1), 1) := by decide +kernel
theorem dX3_init_25 : decode cX3_init 25 = .ok (.putfield 20, 3) := by decide +kernel
theorem dX3_init_28 : decode cX3_init 28 = .ok (.aload_n 0, 1) := by decide +kernel
theorem dX3_init_29 : decode cX3_init 29 = .ok (.new 23, 3) := by decide +kernel
theorem dX3_init_32 : decode cX3_init 32 = .ok (.dup, 1) := by decide +kernel
theorem dX3_init_33 : decode cX3_init 33 = .ok (.invokespecial 25, 3) := by decide +kernel
theorem dX3_init_36 : decode cX3_init 36 = .ok (.putfield 26, 3) := by decide +kernel
theorem dX3_init_39 : decode cX3_init 39 = .ok (.aload_n 0, 1) := by decide +kernel
theorem dX3_init_40 : decode cX3_init 40 = .ok (.new 23, 3) := by decide +kernel
theorem dX3_init_43 : decode cX3_init 43 = .ok (.dup, 1) := by decide +kernel
theorem dX3_init_44 : decode cX3_init 44 = .ok (.invokespecial 25, 3) := by decide +kernel
theorem dX3_init_47 : decode cX3_init 47 = .ok (.putfield 30, 3) := by decide +kernel
theorem dX3_init_50 : decode cX3_init 50 = .ok (.aload_n 0, 1) := by decide +kernel
theorem dX3_init_51 : decode cX3_init 51 = .ok (.iconst 2, 1) := by decide +kernel
theorem dX3_init_52 : decode cX3_init 52 = .ok (.anewarray 23, 3) := by decide +kernel
theorem dX3_init_55 : decode cX3_init 55 = .ok (.putfield 33, 3) := by decide +kernel
theorem dX3_init_58 : decode cX3_init 58 = .ok (.aload_n 0, 1) := by decide +kernel
theorem dX3_init_59 : decode cX3_init 59 = .ok (.new 37, 3) := by decide +kernel
theorem dX3_init_62 : decode cX3_init 62 = .ok (.dup, 1) := by decide +kernel
theorem dX3_init_63 : decode cX3_init 63 = .ok (.aload_n 0, 1) := by decide +kernel
theorem dX3_init_64 : decode cX3_init 64 = .ok (.getfield 26, 3) := by decide +kernel
theorem dX3_init_67 : decode cX3_init 67 = .ok (.invokespecial 39, 3) := by decide +kernel
theorem dX3_init_70 : decode cX3_init 70 = .ok (.putfield 42, 3) := by decide +kernel
theorem dX3_init_73 : decode cX3_init 73 = .ok (.aload_n 0, 1) := by decide +kernel
theorem dX3_init_74 : decode cX3_init 74 = .ok (.new 46, 3) := by decide +kernel
theorem dX3_init_77 : decode cX3_init 77 = .ok (.dup, 1) := by decide +kernel
theorem dX3_init_78 : decode cX3_init 78 = .ok (.aload_n 0, 1) := by decide +kernel
theorem dX3_init_79 : decode cX3_init 79 = .ok (.getfield 9, 3) := by decide +kernel
theorem dX3_init_82 : decode cX3_init 82 = .ok (.aload_n 0, 1) := by decide +kernel
theorem dX3_init_83 : decode cX3_init 83 = .ok (.getfield 30, 3) := by decide +kernel
theorem dX3_init_86 : decode cX3_init 86 = .ok (.invokespecial 48, 3) := by decide +kernel
theorem dX3_init_89 : decode cX3_init 89 = .ok (.putfield 51, 3) := by decide +kernel
theorem dX3_init_92 : decode cX3_init 92 = .ok (.aload_n 0, 1) := by decide +kernel
theorem dX3_init_93 : decode cX3_init 93 = .ok (.iconst 0, 1) := by decide +kernel
theorem dX3_init_94 : decode cX3_init 94 = .ok (.putfield 55, 3) := by decide +kernel
theorem dX3_init_97 : decode cX3_init 97 = .ok (.aload_n 0, 1) := by decide +kernel
theorem dX3_init_98 : decode cX3_init 98 = .ok (.iconst 1, 1) := by decide +kernel
theorem dX3_init_99 : decode cX3_init 99 = .ok (.putfield 58, 3) := by decide +kernel
theorem dX3_init_102 : decode cX3_init 102 = .ok (.aload_n 0, 1) := by decide +kernel
theorem dX3_init_103 : decode cX3_init 103 = .ok (.iconst 1, 1) := by decide +kernel
theorem dX3_init_104 : decode cX3_init 104 = .ok (.putfield 61, 3) := by decide +kernel
theorem dX3_init_107 : decode cX3_init 107 = .ok (.aload_n 0, 1) := by decide +kernel
theorem dX3_init_108 : decode cX3_init 108 = .ok (.bipush 64, 2) := by decide +kernel
theorem dX3_init_110 : decode cX3_init 110 = .ok (.newarray .byte, 2) := by decide +kernel
theorem dX3_init_112 : decode cX3_init 112 = .ok (.putfield 64, 3) := by decide +kernel
theorem dX3_init_115 : decode cX3_init 115 = .ok (.aload_n 0, 1) := by decide +kernel
theorem dX3_init_116 : decode cX3_init 116 = .ok (.iconst 0, 1) := by decide +kernel
theorem dX3_init_117 : decode cX3_init 117 = .ok (.putfield 67, 3) := by decide +kernel
theorem dX3_init_120 : decode cX3_init 120 = .ok (.return_, 1) := by decide +kernel
set_option maxRecDepth 100000 in
set_option maxHeartbeats 4000000 in
theorem k_X0_init (l : Launch) {G : zG} (hg : 116 ≤ gn G) {a lg : Nat} {Y : va_W} : Mr l yX0_init cX0_init 2 none 1 20 1 5 G [.ref a, .ref lg] (eO a 0 fsX00 :: Y) (QvR G (fun W1 => ∃ q6 : Nat, W1 = eO a 0 [.ref lg, .ref q6] :: eA (gcA G 0) q6 5 (fun _ => 0) :: Y)) := by
  refine r_ofI hg (by decide) (Nat.le_of_ble_eq_true rfl) ?_
  intro p e s m args below meth c ls hin2 C0 Z hl
  have hx := C0.1
  have hb := C0.2.1
  replace hl : lv_has ls 2 [(0, .ref a), (1, .ref lg)] := hl
  replace hin2 : meth.name = "<init>" := hin2
  generalize s.heap = H at Z ⊢
  generalize ([] : List Loc) = locs at Z ⊢
  refine lv_aload_n hx hb dX0_init_0 rfl (lv_at hl 0 rfl) ?_
  refine r_objInit C0 hl.1 tm_1_102 tm_1_19 tm_1_20 (Nat.le_of_ble_eq_true rfl) (Nat.le_of_ble_eq_true rfl) dX0_init_1 ?_
  refine lv_aload_n hx hb dX0_init_4 rfl (lv_at hl 0 rfl) ?_
  refine lv_iconst (v := 5) hx hb dX0_init_5 (by decide) ?_
  refine r_newa (X := [eO a 0 [.null, .null]]) (Y := Y) (ty := .int) (t0 := 0) (atype := .int) (N' := 5) (a0 := (5, .inl (fun _ => 0))) C0 Z rfl tm_1_95 rfl (fun _ => rfl) (by decide) (by decide) (Nat.le_of_ble_eq_true rfl) (Nat.le_of_ble_eq_true rfl) (Nat.le_of_ble_eq_true rfl) dX0_init_6 (fun q6 H Z => ?_)
  replace Z : Zr G s (eO a 0 [.null, .null] :: eA (gcA G 0) q6 5 (fun _ => 0) :: Y) H locs := Z
  refine W.widen (k := 1) (n := 5) (Nat.le_of_ble_eq_true rfl) (Nat.le_of_ble_eq_true rfl) ?_
  refine r_putF C0 hin2 Z in_X0 tyX0_ok nmX0 rfl 1 (by decide) rfl rfl rfl tm_1_104 (x := .ref q6) rfl rfl (Nat.le_of_ble_eq_true rfl) dX0_init_8 (fun H locs Z => ?_)
  replace Z : Zr G s (eO a 0 [.null, .ref q6] :: eA (gcA G 0) q6 5 (fun _ => 0) :: Y) H locs := Z
  refine lv_aload_n hx hb dX0_init_11 rfl (lv_at hl 0 rfl) ?_
  refine lv_aload_n hx hb dX0_init_12 rfl (lv_at hl 1 rfl) ?_
  refine r_putF C0 hin2 Z in_X0 tyX0_ok nmX0 rfl 0 (by decide) rfl rfl rfl tm_1_103 (x := .ref lg) rfl rfl (Nat.le_of_ble_eq_true rfl) dX0_init_13 (fun H locs Z => ?_)
  replace Z : Zr G s (eO a 0 [.ref lg, .ref q6] :: eA (gcA G 0) q6 5 (fun _ => 0) :: Y) H locs := Z
  exact r_vret C0 Z ⟨q6, rfl⟩ dX0_init_16
set_option maxRecDepth 100000 in
set_option maxHeartbeats 4000000 in
theorem k_X2_init (l : Launch) {G : zG} (hg : 116 ≤ gn G) {a tx lg : Nat} {Y : va_W} : Mr l yX2_init cX2_init 3 none 1 20 0 0 G [.ref a, .ref tx, .ref lg] (eO a 2 fsX20 :: Y) (QvR G (fun W1 => W1 = eO a 2 [.ref tx, .ref lg, .int 0, .int 0, .int 0, .int 0, .int 0, .int 0, .int 0] :: Y)) := by
  refine r_ofI hg (by decide) (Nat.le_of_ble_eq_true rfl) ?_
  intro p e s m args below meth c ls hin2 C0 Z hl
  have hx := C0.1
  have hb := C0.2.1
  replace hl : lv_has ls 3 [(0, .ref a), (1, .ref tx), (2, .ref lg)] := hl
  replace hin2 : meth.name = "<init>" := hin2
  generalize s.heap = H at Z ⊢
  generalize ([] : List Loc) = locs at Z ⊢
  refine lv_aload_n hx hb dX2_init_0 rfl (lv_at hl 0 rfl) ?_
  refine r_objInit C0 hl.1 tm_1_116 tm_1_19 tm_1_20 (Nat.le_of_ble_eq_true rfl) (Nat.le_of_ble_eq_true rfl) dX2_init_1 ?_
  refine lv_aload_n hx hb dX2_init_4 rfl (lv_at hl 0 rfl) ?_
  refine lv_aload_n hx hb dX2_init_5 rfl (lv_at hl 1 rfl) ?_
  refine r_putF C0 hin2 Z in_X2 tyX2_ok nmX2 rfl 0 (by decide) rfl rfl rfl tm_1_117 (x := .ref tx) rfl rfl (Nat.le_of_ble_eq_true rfl) dX2_init_6 (fun H locs Z => ?_)
  replace Z : Zr G s (eO a 2 [.ref tx, .null, .int 0, .int 0, .int 0, .int 0, .int 0, .int 0, .int 0] :: Y) H locs := Z
  refine lv_aload_n hx hb dX2_init_9 rfl (lv_at hl 0 rfl) ?_
  refine lv_aload_n hx hb dX2_init_10 rfl (lv_at hl 2 rfl) ?_
  refine r_putF C0 hin2 Z in_X2 tyX2_ok nmX2 rfl 1 (by decide) rfl rfl rfl tm_1_118 (x := .ref lg) rfl rfl (Nat.le_of_ble_eq_true rfl) dX2_init_11 (fun H locs Z => ?_)
  replace Z : Zr G s (eO a 2 [.ref tx, .ref lg, .int 0, .int 0, .int 0, .int 0, .int 0, .int 0, .int 0] :: Y) H locs := Z
  exact r_vret C0 Z rfl dX2_init_14
set_option maxRecDepth 100000 in
set_option maxHeartbeats 4000000 in
theorem k_X3_init (l : Launch) {G : zG} (hg : 116 ≤ gn G) {a : Nat} {Y : va_W} : Mr l yX3_init cX3_init 1 none 3 130 114 2024 G [.ref a] (eO a 3 fsX30 :: Y) (QvR G (fun W1 => ∃ (q8 q52 q59 q67 q74 q110 : Nat) (ad33 ad44 : Nat → Nat), W1 = eO a 3 [.ref q8, .int 0, .int 0, .int (-1), .ref (ad33 0), .ref (ad44 0), .ref q52, .ref q59, .ref q74, .int 0, .int 1, .int 1, .ref q110, .int 0] :: eA (gcA G 1) q110 64 (fun _ => 0) :: eO q74 2 [.ref q8, .ref (ad44 0), .int 0, .int 0, .int 0, .int 0, .int 0, .int 0, .int 0] :: eO q59 0 [.ref (ad33 0), .ref q67] :: eA (gcA G 0) q67 5 (fun _ => 0) :: eN (gcA G 6) q52 2 :: (LLx G ad44 ++ ((LLx G ad33 ++ (eA (gcA G 1) q8 800 (fun _ => 0) :: Y)))))) := by
  refine r_ofI hg (by decide) (Nat.le_of_ble_eq_true rfl) ?_
  intro p e s m args below meth c ls hin2 C0 Z hl
  have hx := C0.1
  have hb := C0.2.1
  replace hl : lv_has ls 1 [(0, .ref a)] := hl
  replace hin2 : meth.name = "<init>" := hin2
  generalize s.heap = H at Z ⊢
  generalize ([] : List Loc) = locs at Z ⊢
  refine lv_aload_n hx hb dX3_init_0 rfl (lv_at hl 0 rfl) ?_
  refine r_objInit C0 hl.1 tm_1_26 tm_1_19 tm_1_20 (Nat.le_of_ble_eq_true rfl) (Nat.le_of_ble_eq_true rfl) dX3_init_1 ?_
  refine lv_aload_n hx hb dX3_init_4 rfl (lv_at hl 0 rfl) ?_
  refine lv_sipush (v := 800) hx hb dX3_init_5 (by decide) ?_
  refine r_newa (X := [eO a 3 [.null, .int 0, .int 0, .int 0, .null, .null, .null, .null, .null, .int 0, .int 0, .int 0, .null, .int 0]]) (Y := Y) (ty := .byte) (t0 := 1) (atype := .byte) (N' := 800) (a0 := (800, .inl (fun _ => 0))) C0 Z rfl tm_1_94 rfl (fun _ => rfl) (by decide) (by decide) (Nat.le_of_ble_eq_true rfl) (Nat.le_of_ble_eq_true rfl) (Nat.le_of_ble_eq_true rfl) dX3_init_8 (fun q8 H Z => ?_)
  replace Z : Zr G s (eO a 3 [.null, .int 0, .int 0, .int 0, .null, .null, .null, .null, .null, .int 0, .int 0, .int 0, .null, .int 0] :: eA (gcA G 1) q8 800 (fun _ => 0) :: Y) H locs := Z
  refine W.widen (k := 1) (n := 800) (Nat.le_of_ble_eq_true rfl) (Nat.le_of_ble_eq_true rfl) ?_
  refine r_putF C0 hin2 Z in_X3 tyX3_ok nmX3 rfl 0 (by decide) rfl rfl rfl tm_1_138 (x := .ref q8) rfl rfl (Nat.le_of_ble_eq_true rfl) dX3_init_10 (fun H locs Z => ?_)
  replace Z : Zr G s (eO a 3 [.ref q8, .int 0, .int 0, .int 0, .null, .null, .null, .null, .null, .int 0, .int 0, .int 0, .null, .int 0] :: eA (gcA G 1) q8 800 (fun _ => 0) :: Y) H locs := Z
  refine lv_aload_n hx hb dX3_init_13 rfl (lv_at hl 0 rfl) ?_
  refine lv_iconst (v := 0) hx hb dX3_init_14 (by decide) ?_
  refine r_put C0 Z in_X3 tyX3_ok nmX3 rfl 1 (by decide) rfl rfl tm_1_139 (x := .int 0) rfl rfl (Nat.le_of_ble_eq_true rfl) dX3_init_15 (fun H locs Z => ?_)
  replace Z : Zr G s (eO a 3 [.ref q8, .int 0, .int 0, .int 0, .null, .null, .null, .null, .null, .int 0, .int 0, .int 0, .null, .int 0] :: eA (gcA G 1) q8 800 (fun _ => 0) :: Y) H locs := Z
  refine lv_aload_n hx hb dX3_init_18 rfl (lv_at hl 0 rfl) ?_
  refine lv_iconst (v := 0) hx hb dX3_init_19 (by decide) ?_
  refine r_put C0 Z in_X3 tyX3_ok nmX3 rfl 2 (by decide) rfl rfl tm_1_140 (x := .int 0) rfl rfl (Nat.le_of_ble_eq_true rfl) dX3_init_20 (fun H locs Z => ?_)
  replace Z : Zr G s (eO a 3 [.ref q8, .int 0, .int 0, .int 0, .null, .null, .null, .null, .null, .int 0, .int 0, .int 0, .null, .int 0] :: eA (gcA G 1) q8 800 (fun _ => 0) :: Y) H locs := Z
  refine lv_aload_n hx hb dX3_init_23 rfl (lv_at hl 0 rfl) ?_
  refine lv_iconst (v := (-1)) hx hb dX3_init_24 (by decide) ?_
  refine r_put C0 Z in_X3 tyX3_ok nmX3 rfl 3 (by decide) rfl rfl tm_1_141 (x := .int (-1)) rfl rfl (Nat.le_of_ble_eq_true rfl) dX3_init_25 (fun H locs Z => ?_)
  replace Z : Zr G s (eO a 3 [.ref q8, .int 0, .int 0, .int (-1), .null, .null, .null, .null, .null, .int 0, .int 0, .int 0, .null, .int 0] :: eA (gcA G 1) q8 800 (fun _ => 0) :: Y) H locs := Z
  refine lv_aload_n hx hb dX3_init_28 rfl (lv_at hl 0 rfl) ?_
  refine r_new (X := [eO a 3 [.ref q8, .int 0, .int 0, .int (-1), .null, .null, .null, .null, .null, .int 0, .int 0, .int 0, .null, .int 0]]) (Y := eA (gcA G 1) q8 800 (fun _ => 0) :: Y) (ci := 1) (C := RX1) (T := TX1) (N := 11) (fs := fsX10) C0 Z in_X1 tyX1 tyX1_ok tm_1_27 tm_1_28 tm_1_2 rfl df_X1 (Nat.le_of_ble_eq_true rfl) (Nat.le_of_ble_eq_true rfl) dX3_init_29 (fun q29 H Z => ?_)
  replace Z : Zr G s (eO a 3 [.ref q8, .int 0, .int 0, .int (-1), .null, .null, .null, .null, .null, .int 0, .int 0, .int 0, .null, .int 0] :: eO q29 1 fsX10 :: eA (gcA G 1) q8 800 (fun _ => 0) :: Y) H locs := Z
  refine W.widen (k := 2) (n := 811) (Nat.le_of_ble_eq_true rfl) (Nat.le_of_ble_eq_true rfl) ?_
  refine lv_dup hx hb dX3_init_32 rfl ?_
  replace Z : Zr G s (eO q29 1 fsX10 :: eO a 3 [.ref q8, .int 0, .int 0, .int (-1), .null, .null, .null, .null, .null, .int 0, .int 0, .int 0, .null, .int 0] :: eA (gcA G 1) q8 800 (fun _ => 0) :: Y) H locs := Z.front (X := [eO a 3 [.ref q8, .int 0, .int 0, .int (-1), .null, .null, .null, .null, .null, .int 0, .int 0, .int 0, .null, .int 0]])
  refine r_callI C0 Z hl.1 (As := []) (rest := [.ref q29, .ref a]) (k_X1_init l hg) tm_1_31 tm_1_2 tm_1_29 tm_1_30 rfl ds_X1_init ⟨(Nat.le_of_ble_eq_true rfl), (Nat.le_of_ble_eq_true rfl)⟩ rfl rfl (Nat.le_of_ble_eq_true rfl) ⟨(Nat.le_of_ble_eq_true rfl), (Nat.le_of_ble_eq_true rfl)⟩ dX3_init_33 (fun u H locs hu Z1 => ?_)
  refine W.widen (k := 55) (n := 1371) (Nat.le_of_ble_eq_true rfl) (Nat.le_of_ble_eq_true rfl) ?_
  obtain ⟨ad33, e33, rfl⟩ := hu
  subst e33
  replace Z : Zr G s (eO a 3 [.ref q8, .int 0, .int 0, .int (-1), .null, .null, .null, .null, .null, .int 0, .int 0, .int 0, .null, .int 0] :: (LLx G ad33 ++ eA (gcA G 1) q8 800 (fun _ => 0) :: Y)) H locs := Z1.front (X := LLx G ad33)
  refine r_putF C0 hin2 Z in_X3 tyX3_ok nmX3 rfl 4 (by decide) rfl rfl rfl tm_1_142 (x := .ref (ad33 0)) rfl rfl (Nat.le_of_ble_eq_true rfl) dX3_init_36 (fun H locs Z => ?_)
  replace Z : Zr G s (eO a 3 [.ref q8, .int 0, .int 0, .int (-1), .ref (ad33 0), .null, .null, .null, .null, .int 0, .int 0, .int 0, .null, .int 0] :: (LLx G ad33 ++ (eA (gcA G 1) q8 800 (fun _ => 0) :: Y))) H locs := Z
  refine lv_aload_n hx hb dX3_init_39 rfl (lv_at hl 0 rfl) ?_
  refine r_new (X := [eO a 3 [.ref q8, .int 0, .int 0, .int (-1), .ref (ad33 0), .null, .null, .null, .null, .int 0, .int 0, .int 0, .null, .int 0]]) (Y := (LLx G ad33 ++ (eA (gcA G 1) q8 800 (fun _ => 0) :: Y))) (ci := 1) (C := RX1) (T := TX1) (N := 11) (fs := fsX10) C0 Z in_X1 tyX1 tyX1_ok tm_1_27 tm_1_28 tm_1_2 rfl df_X1 (Nat.le_of_ble_eq_true rfl) (Nat.le_of_ble_eq_true rfl) dX3_init_40 (fun q40 H Z => ?_)
  replace Z : Zr G s (eO a 3 [.ref q8, .int 0, .int 0, .int (-1), .ref (ad33 0), .null, .null, .null, .null, .int 0, .int 0, .int 0, .null, .int 0] :: eO q40 1 fsX10 :: (LLx G ad33 ++ (eA (gcA G 1) q8 800 (fun _ => 0) :: Y))) H locs := Z
  refine W.widen (k := 56) (n := 1382) (Nat.le_of_ble_eq_true rfl) (Nat.le_of_ble_eq_true rfl) ?_
  refine lv_dup hx hb dX3_init_43 rfl ?_
  replace Z : Zr G s (eO q40 1 fsX10 :: eO a 3 [.ref q8, .int 0, .int 0, .int (-1), .ref (ad33 0), .null, .null, .null, .null, .int 0, .int 0, .int 0, .null, .int 0] :: (LLx G ad33 ++ (eA (gcA G 1) q8 800 (fun _ => 0) :: Y))) H locs := Z.front (X := [eO a 3 [.ref q8, .int 0, .int 0, .int (-1), .ref (ad33 0), .null, .null, .null, .null, .int 0, .int 0, .int 0, .null, .int 0]])
  refine r_callI C0 Z hl.1 (As := []) (rest := [.ref q40, .ref a]) (k_X1_init l hg) tm_1_31 tm_1_2 tm_1_29 tm_1_30 rfl ds_X1_init ⟨(Nat.le_of_ble_eq_true rfl), (Nat.le_of_ble_eq_true rfl)⟩ rfl rfl (Nat.le_of_ble_eq_true rfl) ⟨(Nat.le_of_ble_eq_true rfl), (Nat.le_of_ble_eq_true rfl)⟩ dX3_init_44 (fun u H locs hu Z1 => ?_)
  refine W.widen (k := 109) (n := 1942) (Nat.le_of_ble_eq_true rfl) (Nat.le_of_ble_eq_true rfl) ?_
  obtain ⟨ad44, e44, rfl⟩ := hu
  subst e44
  replace Z : Zr G s (eO a 3 [.ref q8, .int 0, .int 0, .int (-1), .ref (ad33 0), .null, .null, .null, .null, .int 0, .int 0, .int 0, .null, .int 0] :: (LLx G ad44 ++ (LLx G ad33 ++ (eA (gcA G 1) q8 800 (fun _ => 0) :: Y)))) H locs := Z1.front (X := LLx G ad44)
  refine r_putF C0 hin2 Z in_X3 tyX3_ok nmX3 rfl 5 (by decide) rfl rfl rfl tm_1_143 (x := .ref (ad44 0)) rfl rfl (Nat.le_of_ble_eq_true rfl) dX3_init_47 (fun H locs Z => ?_)
  replace Z : Zr G s (eO a 3 [.ref q8, .int 0, .int 0, .int (-1), .ref (ad33 0), .ref (ad44 0), .null, .null, .null, .int 0, .int 0, .int 0, .null, .int 0] :: (LLx G ad44 ++ ((LLx G ad33 ++ (eA (gcA G 1) q8 800 (fun _ => 0) :: Y))))) H locs := Z
  refine lv_aload_n hx hb dX3_init_50 rfl (lv_at hl 0 rfl) ?_
  refine lv_iconst (v := 2) hx hb dX3_init_51 (by decide) ?_
  refine r_newq (X := [eO a 3 [.ref q8, .int 0, .int 0, .int (-1), .ref (ad33 0), .ref (ad44 0), .null, .null, .null, .int 0, .int 0, .int 0, .null, .int 0]]) (Y := (LLx G ad44 ++ ((LLx G ad33 ++ (eA (gcA G 1) q8 800 (fun _ => 0) :: Y))))) (N' := 2) C0 Z tm_1_27 (by decide) (by decide) (Nat.le_of_ble_eq_true rfl) (Nat.le_of_ble_eq_true rfl) (Nat.le_of_ble_eq_true rfl) dX3_init_52 (fun q52 H Z => ?_)
  replace Z : Zr G s (eO a 3 [.ref q8, .int 0, .int 0, .int (-1), .ref (ad33 0), .ref (ad44 0), .null, .null, .null, .int 0, .int 0, .int 0, .null, .int 0] :: eN (gcA G 6) q52 2 :: (LLx G ad44 ++ ((LLx G ad33 ++ (eA (gcA G 1) q8 800 (fun _ => 0) :: Y))))) H locs := Z
  refine W.widen (k := 110) (n := 1944) (Nat.le_of_ble_eq_true rfl) (Nat.le_of_ble_eq_true rfl) ?_
  refine r_putF C0 hin2 Z in_X3 tyX3_ok nmX3 rfl 6 (by decide) rfl rfl rfl tm_1_144 (x := .ref q52) rfl rfl (Nat.le_of_ble_eq_true rfl) dX3_init_55 (fun H locs Z => ?_)
  replace Z : Zr G s (eO a 3 [.ref q8, .int 0, .int 0, .int (-1), .ref (ad33 0), .ref (ad44 0), .ref q52, .null, .null, .int 0, .int 0, .int 0, .null, .int 0] :: eN (gcA G 6) q52 2 :: (LLx G ad44 ++ ((LLx G ad33 ++ (eA (gcA G 1) q8 800 (fun _ => 0) :: Y))))) H locs := Z
  refine lv_aload_n hx hb dX3_init_58 rfl (lv_at hl 0 rfl) ?_
  refine r_new (X := [eO a 3 [.ref q8, .int 0, .int 0, .int (-1), .ref (ad33 0), .ref (ad44 0), .ref q52, .null, .null, .int 0, .int 0, .int 0, .null, .int 0]]) (Y := eN (gcA G 6) q52 2 :: (LLx G ad44 ++ ((LLx G ad33 ++ (eA (gcA G 1) q8 800 (fun _ => 0) :: Y))))) (ci := 0) (C := RX0) (T := TX0) (N := 2) (fs := fsX00) C0 Z in_X0 tyX0 tyX0_ok tm_1_97 tm_1_98 tm_1_4 rfl df_X0 (Nat.le_of_ble_eq_true rfl) (Nat.le_of_ble_eq_true rfl) dX3_init_59 (fun q59 H Z => ?_)
  replace Z : Zr G s (eO a 3 [.ref q8, .int 0, .int 0, .int (-1), .ref (ad33 0), .ref (ad44 0), .ref q52, .null, .null, .int 0, .int 0, .int 0, .null, .int 0] :: eO q59 0 fsX00 :: eN (gcA G 6) q52 2 :: (LLx G ad44 ++ ((LLx G ad33 ++ (eA (gcA G 1) q8 800 (fun _ => 0) :: Y))))) H locs := Z
  refine W.widen (k := 111) (n := 1946) (Nat.le_of_ble_eq_true rfl) (Nat.le_of_ble_eq_true rfl) ?_
  refine lv_dup hx hb dX3_init_62 rfl ?_
  refine lv_aload_n hx hb dX3_init_63 rfl (lv_at hl 0 rfl) ?_
  refine r_get C0 Z in_X3 rfl 4 (by decide) rfl tm_1_142 (i0 := 0) rfl (x := .ref (ad33 0)) rfl dX3_init_64 ?_
  replace Z : Zr G s (eO q59 0 fsX00 :: eO a 3 [.ref q8, .int 0, .int 0, .int (-1), .ref (ad33 0), .ref (ad44 0), .ref q52, .null, .null, .int 0, .int 0, .int 0, .null, .int 0] :: eN (gcA G 6) q52 2 :: (LLx G ad44 ++ ((LLx G ad33 ++ (eA (gcA G 1) q8 800 (fun _ => 0) :: Y))))) H locs := Z.front (X := [eO a 3 [.ref q8, .int 0, .int 0, .int (-1), .ref (ad33 0), .ref (ad44 0), .ref q52, .null, .null, .int 0, .int 0, .int 0, .null, .int 0]])
  refine r_callI C0 Z hl.1 (As := [.ref (ad33 0)]) (rest := [.ref q59, .ref a]) (k_X0_init l hg) tm_1_101 tm_1_4 tm_1_99 tm_1_100 rfl ds_X0_init ⟨(Nat.le_of_ble_eq_true rfl), (Nat.le_of_ble_eq_true rfl)⟩ rfl rfl (Nat.le_of_ble_eq_true rfl) ⟨(Nat.le_of_ble_eq_true rfl), (Nat.le_of_ble_eq_true rfl)⟩ dX3_init_67 (fun u H locs hu Z1 => ?_)
  refine W.widen (k := 112) (n := 1951) (Nat.le_of_ble_eq_true rfl) (Nat.le_of_ble_eq_true rfl) ?_
  obtain ⟨q67, rfl⟩ := hu
  replace Z : Zr G s (eO a 3 [.ref q8, .int 0, .int 0, .int (-1), .ref (ad33 0), .ref (ad44 0), .ref q52, .null, .null, .int 0, .int 0, .int 0, .null, .int 0] :: eO q59 0 [.ref (ad33 0), .ref q67] :: eA (gcA G 0) q67 5 (fun _ => 0) :: eN (gcA G 6) q52 2 :: (LLx G ad44 ++ ((LLx G ad33 ++ (eA (gcA G 1) q8 800 (fun _ => 0) :: Y))))) H locs := Z1.front (X := [eO q59 0 [.ref (ad33 0), .ref q67], eA (gcA G 0) q67 5 (fun _ => 0)])
  refine r_putF C0 hin2 Z in_X3 tyX3_ok nmX3 rfl 7 (by decide) rfl rfl rfl tm_1_145 (x := .ref q59) rfl rfl (Nat.le_of_ble_eq_true rfl) dX3_init_70 (fun H locs Z => ?_)
  replace Z : Zr G s (eO a 3 [.ref q8, .int 0, .int 0, .int (-1), .ref (ad33 0), .ref (ad44 0), .ref q52, .ref q59, .null, .int 0, .int 0, .int 0, .null, .int 0] :: eO q59 0 [.ref (ad33 0), .ref q67] :: eA (gcA G 0) q67 5 (fun _ => 0) :: eN (gcA G 6) q52 2 :: (LLx G ad44 ++ ((LLx G ad33 ++ (eA (gcA G 1) q8 800 (fun _ => 0) :: Y))))) H locs := Z
  refine lv_aload_n hx hb dX3_init_73 rfl (lv_at hl 0 rfl) ?_
  refine r_new (X := [eO a 3 [.ref q8, .int 0, .int 0, .int (-1), .ref (ad33 0), .ref (ad44 0), .ref q52, .ref q59, .null, .int 0, .int 0, .int 0, .null, .int 0]]) (Y := eO q59 0 [.ref (ad33 0), .ref q67] :: eA (gcA G 0) q67 5 (fun _ => 0) :: eN (gcA G 6) q52 2 :: (LLx G ad44 ++ ((LLx G ad33 ++ (eA (gcA G 1) q8 800 (fun _ => 0) :: Y))))) (ci := 2) (C := RX2) (T := TX2) (N := 9) (fs := fsX20) C0 Z in_X2 tyX2 tyX2_ok tm_1_111 tm_1_112 tm_1_5 rfl df_X2 (Nat.le_of_ble_eq_true rfl) (Nat.le_of_ble_eq_true rfl) dX3_init_74 (fun q74 H Z => ?_)
  replace Z : Zr G s (eO a 3 [.ref q8, .int 0, .int 0, .int (-1), .ref (ad33 0), .ref (ad44 0), .ref q52, .ref q59, .null, .int 0, .int 0, .int 0, .null, .int 0] :: eO q74 2 fsX20 :: eO q59 0 [.ref (ad33 0), .ref q67] :: eA (gcA G 0) q67 5 (fun _ => 0) :: eN (gcA G 6) q52 2 :: (LLx G ad44 ++ ((LLx G ad33 ++ (eA (gcA G 1) q8 800 (fun _ => 0) :: Y))))) H locs := Z
  refine W.widen (k := 113) (n := 1960) (Nat.le_of_ble_eq_true rfl) (Nat.le_of_ble_eq_true rfl) ?_
  refine lv_dup hx hb dX3_init_77 rfl ?_
  refine lv_aload_n hx hb dX3_init_78 rfl (lv_at hl 0 rfl) ?_
  refine r_get C0 Z in_X3 rfl 0 (by decide) rfl tm_1_138 (i0 := 0) rfl (x := .ref q8) rfl dX3_init_79 ?_
  refine lv_aload_n hx hb dX3_init_82 rfl (lv_at hl 0 rfl) ?_
  refine r_get C0 Z in_X3 rfl 5 (by decide) rfl tm_1_143 (i0 := 0) rfl (x := .ref (ad44 0)) rfl dX3_init_83 ?_
  replace Z : Zr G s (eO q74 2 fsX20 :: eO a 3 [.ref q8, .int 0, .int 0, .int (-1), .ref (ad33 0), .ref (ad44 0), .ref q52, .ref q59, .null, .int 0, .int 0, .int 0, .null, .int 0] :: eO q59 0 [.ref (ad33 0), .ref q67] :: eA (gcA G 0) q67 5 (fun _ => 0) :: eN (gcA G 6) q52 2 :: (LLx G ad44 ++ ((LLx G ad33 ++ (eA (gcA G 1) q8 800 (fun _ => 0) :: Y))))) H locs := Z.front (X := [eO a 3 [.ref q8, .int 0, .int 0, .int (-1), .ref (ad33 0), .ref (ad44 0), .ref q52, .ref q59, .null, .int 0, .int 0, .int 0, .null, .int 0]])
  refine r_callI C0 Z hl.1 (As := [.ref q8, .ref (ad44 0)]) (rest := [.ref q74, .ref a]) (k_X2_init l hg) tm_1_115 tm_1_5 tm_1_113 tm_1_114 rfl ds_X2_init ⟨(Nat.le_of_ble_eq_true rfl), (Nat.le_of_ble_eq_true rfl)⟩ rfl rfl (Nat.le_of_ble_eq_true rfl) ⟨(Nat.le_of_ble_eq_true rfl), (Nat.le_of_ble_eq_true rfl)⟩ dX3_init_86 (fun u H locs hu Z1 => ?_)
  refine W.widen (k := 113) (n := 1960) (Nat.le_of_ble_eq_true rfl) (Nat.le_of_ble_eq_true rfl) ?_
  subst hu
  replace Z : Zr G s (eO a 3 [.ref q8, .int 0, .int 0, .int (-1), .ref (ad33 0), .ref (ad44 0), .ref q52, .ref q59, .null, .int 0, .int 0, .int 0, .null, .int 0] :: eO q74 2 [.ref q8, .ref (ad44 0), .int 0, .int 0, .int 0, .int 0, .int 0, .int 0, .int 0] :: eO q59 0 [.ref (ad33 0), .ref q67] :: eA (gcA G 0) q67 5 (fun _ => 0) :: eN (gcA G 6) q52 2 :: (LLx G ad44 ++ ((LLx G ad33 ++ (eA (gcA G 1) q8 800 (fun _ => 0) :: Y))))) H locs := Z1.front (X := [eO q74 2 [.ref q8, .ref (ad44 0), .int 0, .int 0, .int 0, .int 0, .int 0, .int 0, .int 0]])
  refine r_putF C0 hin2 Z in_X3 tyX3_ok nmX3 rfl 8 (by decide) rfl rfl rfl tm_1_146 (x := .ref q74) rfl rfl (Nat.le_of_ble_eq_true rfl) dX3_init_89 (fun H locs Z => ?_)
  replace Z : Zr G s (eO a 3 [.ref q8, .int 0, .int 0, .int (-1), .ref (ad33 0), .ref (ad44 0), .ref q52, .ref q59, .ref q74, .int 0, .int 0, .int 0, .null, .int 0] :: eO q74 2 [.ref q8, .ref (ad44 0), .int 0, .int 0, .int 0, .int 0, .int 0, .int 0, .int 0] :: eO q59 0 [.ref (ad33 0), .ref q67] :: eA (gcA G 0) q67 5 (fun _ => 0) :: eN (gcA G 6) q52 2 :: (LLx G ad44 ++ ((LLx G ad33 ++ (eA (gcA G 1) q8 800 (fun _ => 0) :: Y))))) H locs := Z
  refine lv_aload_n hx hb dX3_init_92 rfl (lv_at hl 0 rfl) ?_
  refine lv_iconst (v := 0) hx hb dX3_init_93 (by decide) ?_
  refine r_put C0 Z in_X3 tyX3_ok nmX3 rfl 9 (by decide) rfl rfl tm_1_147 (x := .int 0) rfl rfl (Nat.le_of_ble_eq_true rfl) dX3_init_94 (fun H locs Z => ?_)
  replace Z : Zr G s (eO a 3 [.ref q8, .int 0, .int 0, .int (-1), .ref (ad33 0), .ref (ad44 0), .ref q52, .ref q59, .ref q74, .int 0, .int 0, .int 0, .null, .int 0] :: eO q74 2 [.ref q8, .ref (ad44 0), .int 0, .int 0, .int 0, .int 0, .int 0, .int 0, .int 0] :: eO q59 0 [.ref (ad33 0), .ref q67] :: eA (gcA G 0) q67 5 (fun _ => 0) :: eN (gcA G 6) q52 2 :: (LLx G ad44 ++ ((LLx G ad33 ++ (eA (gcA G 1) q8 800 (fun _ => 0) :: Y))))) H locs := Z
  refine lv_aload_n hx hb dX3_init_97 rfl (lv_at hl 0 rfl) ?_
  refine lv_iconst (v := 1) hx hb dX3_init_98 (by decide) ?_
  refine r_put C0 Z in_X3 tyX3_ok nmX3 rfl 10 (by decide) rfl rfl tm_1_148 (x := .int 1) rfl rfl (Nat.le_of_ble_eq_true rfl) dX3_init_99 (fun H locs Z => ?_)
  replace Z : Zr G s (eO a 3 [.ref q8, .int 0, .int 0, .int (-1), .ref (ad33 0), .ref (ad44 0), .ref q52, .ref q59, .ref q74, .int 0, .int 1, .int 0, .null, .int 0] :: eO q74 2 [.ref q8, .ref (ad44 0), .int 0, .int 0, .int 0, .int 0, .int 0, .int 0, .int 0] :: eO q59 0 [.ref (ad33 0), .ref q67] :: eA (gcA G 0) q67 5 (fun _ => 0) :: eN (gcA G 6) q52 2 :: (LLx G ad44 ++ ((LLx G ad33 ++ (eA (gcA G 1) q8 800 (fun _ => 0) :: Y))))) H locs := Z
  refine lv_aload_n hx hb dX3_init_102 rfl (lv_at hl 0 rfl) ?_
  refine lv_iconst (v := 1) hx hb dX3_init_103 (by decide) ?_
  refine r_put C0 Z in_X3 tyX3_ok nmX3 rfl 11 (by decide) rfl rfl tm_1_149 (x := .int 1) rfl rfl (Nat.le_of_ble_eq_true rfl) dX3_init_104 (fun H locs Z => ?_)
  replace Z : Zr G s (eO a 3 [.ref q8, .int 0, .int 0, .int (-1), .ref (ad33 0), .ref (ad44 0), .ref q52, .ref q59, .ref q74, .int 0, .int 1, .int 1, .null, .int 0] :: eO q74 2 [.ref q8, .ref (ad44 0), .int 0, .int 0, .int 0, .int 0, .int 0, .int 0, .int 0] :: eO q59 0 [.ref (ad33 0), .ref q67] :: eA (gcA G 0) q67 5 (fun _ => 0) :: eN (gcA G 6) q52 2 :: (LLx G ad44 ++ ((LLx G ad33 ++ (eA (gcA G 1) q8 800 (fun _ => 0) :: Y))))) H locs := Z
  refine lv_aload_n hx hb dX3_init_107 rfl (lv_at hl 0 rfl) ?_
  refine lv_bipush (v := 64) hx hb dX3_init_108 (by decide) ?_
  refine r_newa (X := [eO a 3 [.ref q8, .int 0, .int 0, .int (-1), .ref (ad33 0), .ref (ad44 0), .ref q52, .ref q59, .ref q74, .int 0, .int 1, .int 1, .null, .int 0]]) (Y := eO q74 2 [.ref q8, .ref (ad44 0), .int 0, .int 0, .int 0, .int 0, .int 0, .int 0, .int 0] :: eO q59 0 [.ref (ad33 0), .ref q67] :: eA (gcA G 0) q67 5 (fun _ => 0) :: eN (gcA G 6) q52 2 :: (LLx G ad44 ++ ((LLx G ad33 ++ (eA (gcA G 1) q8 800 (fun _ => 0) :: Y))))) (ty := .byte) (t0 := 1) (atype := .byte) (N' := 64) (a0 := (64, .inl (fun _ => 0))) C0 Z rfl tm_1_94 rfl (fun _ => rfl) (by decide) (by decide) (Nat.le_of_ble_eq_true rfl) (Nat.le_of_ble_eq_true rfl) (Nat.le_of_ble_eq_true rfl) dX3_init_110 (fun q110 H Z => ?_)
  replace Z : Zr G s (eO a 3 [.ref q8, .int 0, .int 0, .int (-1), .ref (ad33 0), .ref (ad44 0), .ref q52, .ref q59, .ref q74, .int 0, .int 1, .int 1, .null, .int 0] :: eA (gcA G 1) q110 64 (fun _ => 0) :: eO q74 2 [.ref q8, .ref (ad44 0), .int 0, .int 0, .int 0, .int 0, .int 0, .int 0, .int 0] :: eO q59 0 [.ref (ad33 0), .ref q67] :: eA (gcA G 0) q67 5 (fun _ => 0) :: eN (gcA G 6) q52 2 :: (LLx G ad44 ++ ((LLx G ad33 ++ (eA (gcA G 1) q8 800 (fun _ => 0) :: Y))))) H locs := Z
  refine W.widen (k := 114) (n := 2024) (Nat.le_of_ble_eq_true rfl) (Nat.le_of_ble_eq_true rfl) ?_
  refine r_putF C0 hin2 Z in_X3 tyX3_ok nmX3 rfl 12 (by decide) rfl rfl rfl tm_1_150 (x := .ref q110) rfl rfl (Nat.le_of_ble_eq_true rfl) dX3_init_112 (fun H locs Z => ?_)
  replace Z : Zr G s (eO a 3 [.ref q8, .int 0, .int 0, .int (-1), .ref (ad33 0), .ref (ad44 0), .ref q52, .ref q59, .ref q74, .int 0, .int 1, .int 1, .ref q110, .int 0] :: eA (gcA G 1) q110 64 (fun _ => 0) :: eO q74 2 [.ref q8, .ref (ad44 0), .int 0, .int 0, .int 0, .int 0, .int 0, .int 0, .int 0] :: eO q59 0 [.ref (ad33 0), .ref q67] :: eA (gcA G 0) q67 5 (fun _ => 0) :: eN (gcA G 6) q52 2 :: (LLx G ad44 ++ ((LLx G ad33 ++ (eA (gcA G 1) q8 800 (fun _ => 0) :: Y))))) H locs := Z
  refine lv_aload_n hx hb dX3_init_115 rfl (lv_at hl 0 rfl) ?_
  refine lv_iconst (v := 0) hx hb dX3_init_116 (by decide) ?_
  refine r_put C0 Z in_X3 tyX3_ok nmX3 rfl 13 (by decide) rfl rfl tm_1_151 (x := .int 0) rfl rfl (Nat.le_of_ble_eq_true rfl) dX3_init_117 (fun H locs Z => ?_)
  replace Z : Zr G s (eO a 3 [.ref q8, .int 0, .int 0, .int (-1), .ref (ad33 0), .ref (ad44 0), .ref q52, .ref q59, .ref q74, .int 0, .int 1, .int 1, .ref q110, .int 0] :: eA (gcA G 1) q110 64 (fun _ => 0) :: eO q74 2 [.ref q8, .ref (ad44 0), .int 0, .int 0, .int 0, .int 0, .int 0, .int 0, .int 0] :: eO q59 0 [.ref (ad33 0), .ref q67] :: eA (gcA G 0) q67 5 (fun _ => 0) :: eN (gcA G 6) q52 2 :: (LLx G ad44 ++ ((LLx G ad33 ++ (eA (gcA G 1) q8 800 (fun _ => 0) :: Y))))) H locs := Z
  exact r_vret C0 Z ⟨q8, q52, q59, q67, q74, q110, ad33, ad44, rfl⟩ dX3_init_120
