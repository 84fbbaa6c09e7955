/-! THE LAW'S OBJECT IS MADE -/
abbrev fsL0 : List Value := [.null, .null, .int 0, .int 0, .int 0]
theorem df_L : ∀ j, j < 5 → defaultValue (tyL j) = vp_V fsL0 j := by decide +kernel
theorem tm_1_18 : Cond.methodLink RL 1 Lib.objectInit ∈ tbg := tb1 18 (by decide +kernel) (by decide +kernel)
theorem tm_1_21 : Cond.classLink RL 7 RX3 ∈ tbg := tb1 21 (by decide +kernel) (by decide +kernel)
theorem tm_1_22 : Cond.instantiable RX3 14 ∈ tbg := tb1 22 (by decide +kernel) (by decide +kernel)
theorem tm_1_23 : Cond.methodLink RL 9 yX3_init ∈ tbg := tb1 23 (by decide +kernel) (by decide +kernel)
theorem tm_1_24 : Cond.instanceMethod yX3_init ∈ tbg := tb1 24 (by decide +kernel) (by decide +kernel)
theorem tm_1_25 : Cond.code yX3_init cX3_init 1 none ∈ tbg := tb1 25 (by decide +kernel) (by decide +kernel)
theorem ds_X3_init : dsc yX3_init 0 := ⟨by decide +kernel, by decide +kernel, by decide +kernel⟩
theorem dL_init_0 : decode cL_init 0 = .ok (.aload_n 0, 1) := by decide +kernel
theorem dL_init_1 : decode cL_init 1 = .ok (.invokespecial 1, 3) := by decide +kernel
theorem dL_init_4 : decode cL_init 4 = .ok (.aload_n 0, 1) := by decide +kernel
theorem dL_init_5 : decode cL_init 5 = .ok (.new 7, 3) := by decide +kernel
theorem dL_init_8 : decode cL_init 8 = .ok (.dup, 1) := by decide +kernel
theorem dL_init_9 : decode cL_init 9 = .ok (.invokespecial 9, 3) := by decide +kernel
theorem dL_init_12 : decode cL_init 12 = .ok (.putfield 10, 3) := by decide +kernel
theorem dL_init_15 : decode cL_init 15 = .ok (.return_, 1) := by decide +kernel
set_option maxRecDepth 100000 in
set_option maxHeartbeats 4000000 in
theorem k_L_init (l : Launch) {G : zG} (hg : 116 ≤ gn G) {a : Nat} {Y : va_W} : Mr l yL_init cL_init 1 none 4 160 115 2038 G [.ref a] (eO a 4 fsL0 :: Y) (QvR G (fun W1 => ∃ (q5 q8 q52 q59 q67 q74 q110 : Nat) (ad33 ad44 : Nat → Nat), W1 = eO a 4 [.ref q5, .null, .int 0, .int 0, .int 0] :: (eO q5 3 [.ref q8, .int 0, .int 0, .int (-1), .ref (ad33 0), .ref (ad44 0), .ref q52, .ref q59, .ref q74, .int 0, .int 1, .int 1, .ref q110, .int 0] :: eA (gcA G 1) q110 64 (fun _ => 0) :: eO q74 2 [.ref q8, .ref (ad44 0), .int 0, .int 0, .int 0, .int 0, .int 0, .int 0, .int 0] :: eO q59 0 [.ref (ad33 0), .ref q67] :: eA (gcA G 0) q67 5 (fun _ => 0) :: eN (gcA G 6) q52 2 :: (LLx G ad44 ++ ((LLx G ad33 ++ (eA (gcA G 1) q8 800 (fun _ => 0) :: [])))) ++ (Y)))) := by
  refine r_ofI hg (by decide) (Nat.le_of_ble_eq_true rfl) ?_
  intro p e s m args below meth c ls hin2 C0 Z hl
  have hx := C0.1
  have hb := C0.2.1
  replace hl : lv_has ls 1 [(0, .ref a)] := hl
  replace hin2 : meth.name = "<init>" := hin2
  generalize s.heap = H at Z ⊢
  generalize ([] : List Loc) = locs at Z ⊢
  refine lv_aload_n hx hb dL_init_0 rfl (lv_at hl 0 rfl) ?_
  refine r_objInit C0 hl.1 tm_1_18 tm_1_19 tm_1_20 (Nat.le_of_ble_eq_true rfl) (Nat.le_of_ble_eq_true rfl) dL_init_1 ?_
  refine lv_aload_n hx hb dL_init_4 rfl (lv_at hl 0 rfl) ?_
  refine r_new (X := [eO a 4 [.null, .null, .int 0, .int 0, .int 0]]) (Y := Y) (ci := 3) (C := RX3) (T := TX3) (N := 14) (fs := fsX30) C0 Z in_X3 tyX3 tyX3_ok tm_1_21 tm_1_22 tm_1_1 rfl df_X3 (Nat.le_of_ble_eq_true rfl) (Nat.le_of_ble_eq_true rfl) dL_init_5 (fun q5 H Z => ?_)
  replace Z : Zr G s (eO a 4 [.null, .null, .int 0, .int 0, .int 0] :: eO q5 3 fsX30 :: Y) H locs := Z
  refine W.widen (k := 1) (n := 14) (Nat.le_of_ble_eq_true rfl) (Nat.le_of_ble_eq_true rfl) ?_
  refine lv_dup hx hb dL_init_8 rfl ?_
  replace Z : Zr G s (eO q5 3 fsX30 :: eO a 4 [.null, .null, .int 0, .int 0, .int 0] :: Y) H locs := Z.front (X := [eO a 4 [.null, .null, .int 0, .int 0, .int 0]])
  refine r_callI C0 Z hl.1 (As := []) (rest := [.ref q5, .ref a]) (k_X3_init l hg) tm_1_25 tm_1_1 tm_1_23 tm_1_24 rfl ds_X3_init ⟨(Nat.le_of_ble_eq_true rfl), (Nat.le_of_ble_eq_true rfl)⟩ rfl rfl (Nat.le_of_ble_eq_true rfl) ⟨(Nat.le_of_ble_eq_true rfl), (Nat.le_of_ble_eq_true rfl)⟩ dL_init_9 (fun u H locs hu Z1 => ?_)
  refine W.widen (k := 115) (n := 2038) (Nat.le_of_ble_eq_true rfl) (Nat.le_of_ble_eq_true rfl) ?_
  obtain ⟨q8, q52, q59, q67, q74, q110, ad33, ad44, rfl⟩ := hu
  have ew : eO q5 3 [.ref q8, .int 0, .int 0, .int (-1), .ref (ad33 0), .ref (ad44 0), .ref q52, .ref q59, .ref q74, .int 0, .int 1, .int 1, .ref q110, .int 0] :: eA (gcA G 1) q110 64 (fun _ => 0) :: eO q74 2 [.ref q8, .ref (ad44 0), .int 0, .int 0, .int 0, .int 0, .int 0, .int 0, .int 0] :: eO q59 0 [.ref (ad33 0), .ref q67] :: eA (gcA G 0) q67 5 (fun _ => 0) :: eN (gcA G 6) q52 2 :: (LLx G ad44 ++ ((LLx G ad33 ++ (eA (gcA G 1) q8 800 (fun _ => 0) :: (eO a 4 [.null, .null, .int 0, .int 0, .int 0] :: Y))))) = (eO q5 3 [.ref q8, .int 0, .int 0, .int (-1), .ref (ad33 0), .ref (ad44 0), .ref q52, .ref q59, .ref q74, .int 0, .int 1, .int 1, .ref q110, .int 0] :: eA (gcA G 1) q110 64 (fun _ => 0) :: eO q74 2 [.ref q8, .ref (ad44 0), .int 0, .int 0, .int 0, .int 0, .int 0, .int 0, .int 0] :: eO q59 0 [.ref (ad33 0), .ref q67] :: eA (gcA G 0) q67 5 (fun _ => 0) :: eN (gcA G 6) q52 2 :: (LLx G ad44 ++ ((LLx G ad33 ++ (eA (gcA G 1) q8 800 (fun _ => 0) :: []))))) ++ eO a 4 [.null, .null, .int 0, .int 0, .int 0] :: Y := by simp
  rw [ew] at Z1
  replace Z : Zr G s (eO a 4 [.null, .null, .int 0, .int 0, .int 0] :: ((eO q5 3 [.ref q8, .int 0, .int 0, .int (-1), .ref (ad33 0), .ref (ad44 0), .ref q52, .ref q59, .ref q74, .int 0, .int 1, .int 1, .ref q110, .int 0] :: eA (gcA G 1) q110 64 (fun _ => 0) :: eO q74 2 [.ref q8, .ref (ad44 0), .int 0, .int 0, .int 0, .int 0, .int 0, .int 0, .int 0] :: eO q59 0 [.ref (ad33 0), .ref q67] :: eA (gcA G 0) q67 5 (fun _ => 0) :: eN (gcA G 6) q52 2 :: (LLx G ad44 ++ ((LLx G ad33 ++ (eA (gcA G 1) q8 800 (fun _ => 0) :: []))))) ++ Y)) H locs := Z1.perm List.perm_middle
  refine r_putF C0 hin2 Z in_L tyL_ok nmL rfl 0 (by decide) rfl rfl rfl tm_1_181 (x := .ref q5) rfl rfl (Nat.le_of_ble_eq_true rfl) dL_init_12 (fun H locs Z => ?_)
  replace Z : Zr G s (eO a 4 [.ref q5, .null, .int 0, .int 0, .int 0] :: (eO q5 3 [.ref q8, .int 0, .int 0, .int (-1), .ref (ad33 0), .ref (ad44 0), .ref q52, .ref q59, .ref q74, .int 0, .int 1, .int 1, .ref q110, .int 0] :: eA (gcA G 1) q110 64 (fun _ => 0) :: eO q74 2 [.ref q8, .ref (ad44 0), .int 0, .int 0, .int 0, .int 0, .int 0, .int 0, .int 0] :: eO q59 0 [.ref (ad33 0), .ref q67] :: eA (gcA G 0) q67 5 (fun _ => 0) :: eN (gcA G 6) q52 2 :: (LLx G ad44 ++ ((LLx G ad33 ++ (eA (gcA G 1) q8 800 (fun _ => 0) :: [])))) ++ (Y))) H locs := Z
  exact r_vret C0 Z ⟨q5, q8, q52, q59, q67, q74, q110, ad33, ad44, rfl⟩ dL_init_15
