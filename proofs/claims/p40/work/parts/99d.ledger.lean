/-! THE CLASS'S LEDGER IS MADE -/
def rfq (f : Nat → Nat) : (Nat → Int32) ⊕ (Nat → Int64) ⊕ (Nat → UInt32) ⊕ (Nat → UInt64) ⊕ (Nat → Option Nat) := .inr (.inr (.inr (.inr (fun i => some (f i)))))
def st0 (j : Nat) : Int32 := if j < 4 then f4 5 10 4 3 j else 0
abbrev eA (c : ClassId) (q N : Nat) (f : Nat → Int32) : Nat × va_E := (q, .inl (c, N, .inl f))
abbrev eQ (c : ClassId) (q N : Nat) (f : Nat → Nat) : Nat × va_E := (q, .inl (c, N, rfq f))
abbrev eN (c : ClassId) (q N : Nat) : Nat × va_E := (q, .inl (c, N, .inr (.inr (.inr (.inr (fun _ => none))))))
abbrev eO (a ci : Nat) (fs : List Value) : Nat × va_E := (a, .inr (ci, fs))
def rowsI (G : zG) (N K : Nat) (r : Nat → Nat) : va_W := (List.range N).map (fun i => eA (gcA G 0) (r i) K (fun _ => 0))
def LLx (G : zG) (ad : Nat → Nat) : va_W := eO (ad 0) 1 [.ref (ad 1), .ref (ad 2), .ref (ad 3), .ref (ad 4), .ref (ad 5), .int 32, .int 0, .int 0, .int 0, .int 0, .int 0] :: eA (gcA G 0) (ad 1) 4 st0 :: eQ (gcA G 5) (ad 2) 8 (fun i => ad (6 + i)) :: eQ (gcA G 5) (ad 3) 40 (fun i => ad (14 + i)) :: eA (gcA G 0) (ad 4) 4 (fun _ => 0) :: eA (gcA G 0) (ad 5) 40 (fun _ => 0) :: (rowsI G 8 8 (fun i => ad (6 + i)) ++ rowsI G 40 10 (fun i => ad (14 + i)))
def adL (a b c d e f : Nat) (r r' : Nat → Nat) (k : Nat) : Nat := if k = 0 then a else if k = 1 then b else if k = 2 then c else if k = 3 then d else if k = 4 then e else if k = 5 then f else if k < 14 then r (k - 6) else r' (k - 14)
theorem adL_r {a b c d e f : Nat} {r r' : Nat → Nat} {i : Nat} (h : i < 8) : adL a b c d e f r r' (6 + i) = r i := by
  unfold adL
  rw [if_neg (by omega), if_neg (by omega), if_neg (by omega), if_neg (by omega), if_neg (by omega), if_neg (by omega), if_pos (by omega), Nat.add_sub_cancel_left]
theorem adL_b {a b c d e f : Nat} {r r' : Nat → Nat} {i : Nat} : adL a b c d e f r r' (14 + i) = r' i := by
  unfold adL
  rw [if_neg (by omega), if_neg (by omega), if_neg (by omega), if_neg (by omega), if_neg (by omega), if_neg (by omega), if_neg (by omega), Nat.add_sub_cancel_left]
theorem Cv.rows {G : zG} {N K : Nat} {r r' : Nat → Nat} (h : ∀ i, i < N → r i = r' i) : Cv (rowsI G N K r) (rowsI G N K r') := Cv.map _ (fun i hi => h i (List.mem_range.mp hi)) (fun _ _ => Eqv.of rfl)
abbrev fsX10 : List Value := [.null, .null, .null, .null, .null, .int 0, .int 0, .int 0, .int 0, .int 0, .int 0]
theorem df_X1 : ∀ j, j < 11 → defaultValue (tyX1 j) = vp_V fsX10 j := by decide +kernel
theorem tm_1_19 : Cond.instanceMethod Lib.objectInit ∈ tbg := tb1 19 (by decide +kernel) (by decide +kernel)
theorem tm_1_20 : Cond.code Lib.objectInit ⟨#[0xb1]⟩ 1 none ∈ tbg := tb1 20 (by decide +kernel) (by decide +kernel)
theorem tm_1_32 : Cond.methodLink RX1 3 Lib.objectInit ∈ tbg := tb1 32 (by decide +kernel) (by decide +kernel)
theorem tm_1_33 : Cond.classLink RX1 15 ("[" ++ (FieldType.array .int).toString) ∈ tbg := tb1 33 (by decide +kernel) (by decide +kernel)
theorem tm_1_35 : Cond.methodLink RX1 29 yX1_startWith ∈ tbg := tb1 35 (by decide +kernel) (by decide +kernel)
theorem tm_1_95 : Cond.arrayClass .int ∈ tbg := tb1 95 (by decide +kernel) (by decide +kernel)
theorem tm_1_36 : Cond.instanceMethod yX1_startWith ∈ tbg := tb1 36 (by decide +kernel) (by decide +kernel)
theorem tm_1_37 : Cond.selects RX1 yX1_startWith yX1_startWith ∈ tbg := tb1 37 (by decide +kernel) (by decide +kernel)
theorem tm_1_38 : Cond.code yX1_startWith cX1_startWith 2 none ∈ tbg := tb1 38 (by decide +kernel) (by decide +kernel)
theorem gv_X1_startWith {own : String} {idx : Nat} (h : Cond.methodLink own idx yX1_startWith ∈ tbg) : GoodIn tbg (wsV own idx RX1 yX1_startWith (.code yX1_startWith cX1_startWith 2 none :: tbg)) := z_goodV h tm_1_36 tm_1_37 tm_1_2 tm_1_38
theorem ds_X1_startWith : dsc yX1_startWith 1 := ⟨by decide +kernel, by decide +kernel, by decide +kernel⟩
theorem dX1_init_0 : decode cX1_init 0 = .ok (.aload_n 0, 1) := by decide +kernel
theorem dX1_init_1 : decode cX1_init 1 = .ok (.invokespecial 3, 3) := by decide +kernel
theorem dX1_init_4 : decode cX1_init 4 = .ok (.aload_n 0, 1) := by decide +kernel
theorem dX1_init_5 : decode cX1_init 5 = .ok (.iconst 4, 1) := by decide +kernel
theorem dX1_init_6 : decode cX1_init 6 = .ok (.newarray .int, 2) := by decide +kernel
theorem dX1_init_8 : decode cX1_init 8 = .ok (.putfield 9, 3) := by decide +kernel
theorem dX1_init_11 : decode cX1_init 11 = .ok (.aload_n 0, 1) := by decide +kernel
theorem dX1_init_12 : decode cX1_init 12 = .ok (.bipush 8, 2) := by decide +kernel
theorem dX1_init_14 : decode cX1_init 14 = .ok (.bipush 8, 2) := by decide +kernel
theorem dX1_init_16 : decode cX1_init 16 = .ok (.multianewarray 15 2, 4) := by decide +kernel
theorem dX1_init_20 : decode cX1_init 20 = .ok (.putfield 17, 3) := by decide +kernel
theorem dX1_init_23 : decode cX1_init 23 = .ok (.aload_n 0, 1) := by decide +kernel
theorem dX1_init_24 : decode cX1_init 24 = .ok (.bipush 40, 2) := by decide +kernel
theorem dX1_init_26 : decode cX1_init 26 = .ok (.bipush 10, 2) := by decide +kernel
theorem dX1_init_28 : decode cX1_init 28 = .ok (.multianewarray 15 2, 4) := by decide +kernel
theorem dX1_init_32 : decode cX1_init 32 = .ok (.putfield 20, 3) := by decide +kernel
theorem dX1_init_35 : decode cX1_init 35 = .ok (.aload_n 0, 1) := by decide +kernel
theorem dX1_init_36 : decode cX1_init 36 = .ok (.iconst 4, 1) := by decide +kernel
theorem dX1_init_37 : decode cX1_init 37 = .ok (.newarray .int, 2) := by decide +kernel
theorem dX1_init_39 : decode cX1_init 39 = .ok (.putfield 23, 3) := by decide +kernel
theorem dX1_init_42 : decode cX1_init 42 = .ok (.aload_n 0, 1) := by decide +kernel
theorem dX1_init_43 : decode cX1_init 43 = .ok (.bipush 40, 2) := by decide +kernel
theorem dX1_init_45 : decode cX1_init 45 = .ok (.newarray .int, 2) := by decide +kernel
theorem dX1_init_47 : decode cX1_init 47 = .ok (.putfield 26, 3) := by decide +kernel
theorem dX1_init_50 : decode cX1_init 50 = .ok (.aload_n 0, 1) := by decide +kernel
theorem dX1_init_51 : decode cX1_init 51 = .ok (.bipush 32, 2) := by decide +kernel
theorem dX1_init_53 : decode cX1_init 53 = .ok (.invokevirtual 29, 3) := by decide +kernel
theorem dX1_init_56 : decode cX1_init 56 = .ok (.return_, 1) := by decide +kernel
theorem pm_led {α : Type} (o q45 q37 q28 : α) (R40 : List α) (q16 : α) (R8 : List α) (q6 : α) (Y : List α) : (o :: q45 :: q37 :: q28 :: (R40 ++ (q16 :: (R8 ++ (q6 :: Y))))).Perm (o :: q6 :: q45 :: q37 :: q28 :: (R40 ++ (q16 :: (R8 ++ Y)))) := by
  refine List.Perm.cons _ ?_
  have e1 : q45 :: q37 :: q28 :: (R40 ++ (q16 :: (R8 ++ (q6 :: Y)))) = (q45 :: q37 :: q28 :: (R40 ++ (q16 :: R8))) ++ q6 :: Y := by simp
  have e2 : q45 :: q37 :: q28 :: (R40 ++ (q16 :: (R8 ++ Y))) = (q45 :: q37 :: q28 :: (R40 ++ (q16 :: R8))) ++ Y := by simp
  rw [e1, e2]
  exact List.perm_middle
theorem pm_led2 {α : Type} (o q6 q45 q37 q28 : α) (R40 : List α) (q16 : α) (R8 : List α) (Y : List α) : (o :: q6 :: q45 :: q37 :: q28 :: (R40 ++ (q16 :: (R8 ++ Y)))).Perm (o :: q6 :: q16 :: q28 :: q37 :: q45 :: (R8 ++ (R40 ++ Y))) := by
  refine List.Perm.cons _ (List.Perm.cons _ ?_)
  have e1 : q45 :: q37 :: q28 :: (R40 ++ (q16 :: (R8 ++ Y))) = (q45 :: q37 :: q28 :: R40) ++ q16 :: (R8 ++ Y) := by simp
  rw [e1]
  refine List.perm_middle.trans (List.Perm.cons _ ?_)
  show (q45 :: q37 :: q28 :: (R40 ++ (R8 ++ Y))).Perm _
  refine (List.Perm.swap q37 q45 _).trans ?_
  refine (List.Perm.cons _ (List.Perm.swap q28 q45 _)).trans ?_
  refine (List.Perm.swap q28 q37 _).trans ?_
  exact List.Perm.cons _ (List.Perm.cons _ (List.Perm.cons _ (List.perm_append_comm_assoc R40 R8 Y)))
set_option maxRecDepth 100000 in
set_option maxHeartbeats 4000000 in
theorem kr_X1_startWith (l : Launch) {G : zG} (hg : 116 ≤ gn G) {a q : Nat} {x1 x2 x3 x4 : Value} {y5 y6 y7 y8 y9 y10 n : Int32} {f : Nat → Int32} {Y : va_W} : Mr l yX1_startWith cX1_startWith 2 none 1 64 0 0 G [.ref a, .int n] (eO a 1 [.ref q, x1, x2, x3, x4, .int y5, .int y6, .int y7, .int y8, .int y9, .int y10] :: eA (gcA G 0) q 4 f :: Y) (QvR G (fun W1 => W1 = eO a 1 [.ref q, x1, x2, x3, x4, .int n, .int 0, .int 0, .int 0, .int 0, .int 0] :: eA (gcA G 0) q 4 (fun j => if j < 4 then f4 5 10 4 3 j else f j) :: Y)) := by
  refine r_ofW hg (by decide) (Nat.le_of_ble_eq_true rfl) ?_
  intro p e s m args below meth c ls C0 Z hl
  have hx := C0.1
  have hb := C0.2.1
  replace hl : lv_has ls 2 [(0, .ref a), (1, .int n)] := hl
  generalize s.heap = H at Z ⊢
  generalize ([] : List Loc) = locs at Z ⊢
  refine lv_aload_n hx hb dX1_startWith_0 rfl (lv_at hl 0 rfl) ?_
  refine lv_iload_n hx hb dX1_startWith_1 rfl (lv_at hl 1 rfl) ?_
  refine r_put C0 Z in_X1 tyX1_ok nmX1 rfl 5 (by decide) rfl rfl tm_1_55 (x := .int n) rfl rfl (Nat.le_of_ble_eq_true rfl) dX1_startWith_2 (fun H locs Z => ?_)
  replace Z : Zr G s (eO a 1 [.ref q, x1, x2, x3, x4, .int n, .int y6, .int y7, .int y8, .int y9, .int y10] :: eA (gcA G 0) q 4 f :: Y) H locs := Z
  refine lv_aload_n hx hb dX1_startWith_5 rfl (lv_at hl 0 rfl) ?_
  refine lv_iconst (v := 0) hx hb dX1_startWith_6 (by decide) ?_
  refine r_put C0 Z in_X1 tyX1_ok nmX1 rfl 6 (by decide) rfl rfl tm_1_57 (x := .int 0) rfl rfl (Nat.le_of_ble_eq_true rfl) dX1_startWith_7 (fun H locs Z => ?_)
  replace Z : Zr G s (eO a 1 [.ref q, x1, x2, x3, x4, .int n, .int 0, .int y7, .int y8, .int y9, .int y10] :: eA (gcA G 0) q 4 f :: Y) H locs := Z
  refine lv_aload_n hx hb dX1_startWith_10 rfl (lv_at hl 0 rfl) ?_
  refine lv_iconst (v := 0) hx hb dX1_startWith_11 (by decide) ?_
  refine r_put C0 Z in_X1 tyX1_ok nmX1 rfl 7 (by decide) rfl rfl tm_1_60 (x := .int 0) rfl rfl (Nat.le_of_ble_eq_true rfl) dX1_startWith_12 (fun H locs Z => ?_)
  replace Z : Zr G s (eO a 1 [.ref q, x1, x2, x3, x4, .int n, .int 0, .int 0, .int y8, .int y9, .int y10] :: eA (gcA G 0) q 4 f :: Y) H locs := Z
  refine lv_aload_n hx hb dX1_startWith_15 rfl (lv_at hl 0 rfl) ?_
  refine lv_iconst (v := 0) hx hb dX1_startWith_16 (by decide) ?_
  refine r_put C0 Z in_X1 tyX1_ok nmX1 rfl 8 (by decide) rfl rfl tm_1_62 (x := .int 0) rfl rfl (Nat.le_of_ble_eq_true rfl) dX1_startWith_17 (fun H locs Z => ?_)
  replace Z : Zr G s (eO a 1 [.ref q, x1, x2, x3, x4, .int n, .int 0, .int 0, .int 0, .int y9, .int y10] :: eA (gcA G 0) q 4 f :: Y) H locs := Z
  refine lv_aload_n hx hb dX1_startWith_20 rfl (lv_at hl 0 rfl) ?_
  refine lv_iconst (v := 0) hx hb dX1_startWith_21 (by decide) ?_
  refine r_put C0 Z in_X1 tyX1_ok nmX1 rfl 9 (by decide) rfl rfl tm_1_65 (x := .int 0) rfl rfl (Nat.le_of_ble_eq_true rfl) dX1_startWith_22 (fun H locs Z => ?_)
  replace Z : Zr G s (eO a 1 [.ref q, x1, x2, x3, x4, .int n, .int 0, .int 0, .int 0, .int 0, .int y10] :: eA (gcA G 0) q 4 f :: Y) H locs := Z
  refine lv_aload_n hx hb dX1_startWith_25 rfl (lv_at hl 0 rfl) ?_
  refine lv_iconst (v := 0) hx hb dX1_startWith_26 (by decide) ?_
  refine r_put C0 Z in_X1 tyX1_ok nmX1 rfl 10 (by decide) rfl rfl tm_1_68 (x := .int 0) rfl rfl (Nat.le_of_ble_eq_true rfl) dX1_startWith_27 (fun H locs Z => ?_)
  replace Z : Zr G s (eO a 1 [.ref q, x1, x2, x3, x4, .int n, .int 0, .int 0, .int 0, .int 0, .int 0] :: eA (gcA G 0) q 4 f :: Y) H locs := Z
  refine r_getsN0 C0 Z (by decide +kernel) dX1_startWith_30 ?_
  refine lv_iconst (v := 0) hx hb dX1_startWith_33 (by decide) ?_
  refine lv_aload_n hx hb dX1_startWith_34 rfl (lv_at hl 0 rfl) ?_
  refine r_get C0 Z in_X1 rfl 0 (by decide) rfl tm_1_44 (i0 := 0) rfl (x := .ref q) rfl dX1_startWith_35 ?_
  refine lv_iconst (v := 0) hx hb dX1_startWith_38 (by decide) ?_
  refine lv_iconst (v := 4) hx hb dX1_startWith_39 (by decide) ?_
  refine r_copyT0 C0 Z hl.1 (i0 := 1) (Nb := 4) tm_1_41 rfl (Nat.le_of_ble_eq_true rfl) (Nat.le_of_ble_eq_true rfl) (Nat.le_of_ble_eq_true rfl) dX1_startWith_40 (fun H locs Z => ?_)
  replace Z : Zr G s (eO a 1 [.ref q, x1, x2, x3, x4, .int n, .int 0, .int 0, .int 0, .int 0, .int 0] :: eA (gcA G 0) q 4 (fun j => if j < 4 then f4 5 10 4 3 j else f j) :: Y) H locs := Z
  exact r_vret C0 Z rfl dX1_startWith_43
set_option maxRecDepth 100000 in
set_option maxHeartbeats 4000000 in
theorem k_X1_init (l : Launch) {G : zG} (hg : 116 ≤ gn G) {a : Nat} {Y : va_W} : Mr l yX1_init cX1_init 1 none 2 100 53 560 G [.ref a] (eO a 1 fsX10 :: Y) (QvR G (fun W1 => ∃ ad : Nat → Nat, ad 0 = a ∧ W1 = LLx G ad ++ Y)) := by
  refine r_ofI hg (by decide) (Nat.le_of_ble_eq_true rfl) ?_
  intro p e s m args below meth c ls hin2 C0 Z hl
  have hx := C0.1
  have hb := C0.2.1
  replace hl : lv_has ls 1 [(0, .ref a)] := hl
  replace hin2 : meth.name = "<init>" := hin2
  generalize s.heap = H at Z ⊢
  generalize ([] : List Loc) = locs at Z ⊢
  refine lv_aload_n hx hb dX1_init_0 rfl (lv_at hl 0 rfl) ?_
  refine r_objInit C0 hl.1 tm_1_32 tm_1_19 tm_1_20 (Nat.le_of_ble_eq_true rfl) (Nat.le_of_ble_eq_true rfl) dX1_init_1 ?_
  refine lv_aload_n hx hb dX1_init_4 rfl (lv_at hl 0 rfl) ?_
  refine lv_iconst (v := 4) hx hb dX1_init_5 (by decide) ?_
  refine r_newa (X := [eO a 1 [.null, .null, .null, .null, .null, .int 0, .int 0, .int 0, .int 0, .int 0, .int 0]]) (Y := Y) (ty := .int) (t0 := 0) (atype := .int) (N' := 4) (a0 := (4, .inl (fun _ => 0))) C0 Z rfl tm_1_95 rfl (fun _ => rfl) (by decide) (by decide) (Nat.le_of_ble_eq_true rfl) (Nat.le_of_ble_eq_true rfl) (Nat.le_of_ble_eq_true rfl) dX1_init_6 (fun q6 H Z => ?_)
  replace Z : Zr G s (eO a 1 [.null, .null, .null, .null, .null, .int 0, .int 0, .int 0, .int 0, .int 0, .int 0] :: eA (gcA G 0) q6 4 (fun _ => 0) :: Y) H locs := Z
  refine W.widen (k := 1) (n := 4) (Nat.le_of_ble_eq_true rfl) (Nat.le_of_ble_eq_true rfl) ?_
  refine r_putF C0 hin2 Z in_X1 tyX1_ok nmX1 rfl 0 (by decide) rfl rfl rfl tm_1_44 (x := .ref q6) rfl rfl (Nat.le_of_ble_eq_true rfl) dX1_init_8 (fun H locs Z => ?_)
  replace Z : Zr G s (eO a 1 [.ref q6, .null, .null, .null, .null, .int 0, .int 0, .int 0, .int 0, .int 0, .int 0] :: eA (gcA G 0) q6 4 (fun _ => 0) :: Y) H locs := Z
  refine lv_aload_n hx hb dX1_init_11 rfl (lv_at hl 0 rfl) ?_
  refine lv_bipush (v := 8) hx hb dX1_init_12 (by decide) ?_
  refine lv_bipush (v := 8) hx hb dX1_init_14 (by decide) ?_
  refine r_mna2 (X := [eO a 1 [.ref q6, .null, .null, .null, .null, .int 0, .int 0, .int 0, .int 0, .int 0, .int 0]]) (Y := eA (gcA G 0) q6 4 (fun _ => 0) :: Y) (n := 8) (k := 8) (N' := 8) (K' := 8) C0 Z tm_1_33 tm_1_95 (by decide) (by decide) (by decide) (by decide) (Nat.le_of_ble_eq_true rfl) (Nat.le_of_ble_eq_true rfl) (Nat.le_of_ble_eq_true rfl) (Nat.le_of_ble_eq_true rfl) (Nat.le_of_ble_eq_true rfl) dX1_init_16 (fun q16 r16 H Z => ?_)
  replace Z : Zr G s (eO a 1 [.ref q6, .null, .null, .null, .null, .int 0, .int 0, .int 0, .int 0, .int 0, .int 0] :: eQ (gcA G 5) q16 8 r16 :: (rowsI G 8 8 r16 ++ (eA (gcA G 0) q6 4 (fun _ => 0) :: Y))) H locs := Z
  refine W.widen (k := 10) (n := 76) (Nat.le_of_ble_eq_true rfl) (Nat.le_of_ble_eq_true rfl) ?_
  refine r_putF C0 hin2 Z in_X1 tyX1_ok nmX1 rfl 1 (by decide) rfl rfl rfl tm_1_46 (x := .ref q16) rfl rfl (Nat.le_of_ble_eq_true rfl) dX1_init_20 (fun H locs Z => ?_)
  replace Z : Zr G s (eO a 1 [.ref q6, .ref q16, .null, .null, .null, .int 0, .int 0, .int 0, .int 0, .int 0, .int 0] :: eQ (gcA G 5) q16 8 r16 :: (rowsI G 8 8 r16 ++ (eA (gcA G 0) q6 4 (fun _ => 0) :: Y))) H locs := Z
  refine lv_aload_n hx hb dX1_init_23 rfl (lv_at hl 0 rfl) ?_
  refine lv_bipush (v := 40) hx hb dX1_init_24 (by decide) ?_
  refine lv_bipush (v := 10) hx hb dX1_init_26 (by decide) ?_
  refine r_mna2 (X := [eO a 1 [.ref q6, .ref q16, .null, .null, .null, .int 0, .int 0, .int 0, .int 0, .int 0, .int 0]]) (Y := eQ (gcA G 5) q16 8 r16 :: (rowsI G 8 8 r16 ++ (eA (gcA G 0) q6 4 (fun _ => 0) :: Y))) (n := 40) (k := 10) (N' := 40) (K' := 10) C0 Z tm_1_33 tm_1_95 (by decide) (by decide) (by decide) (by decide) (Nat.le_of_ble_eq_true rfl) (Nat.le_of_ble_eq_true rfl) (Nat.le_of_ble_eq_true rfl) (Nat.le_of_ble_eq_true rfl) (Nat.le_of_ble_eq_true rfl) dX1_init_28 (fun q28 r28 H Z => ?_)
  replace Z : Zr G s (eO a 1 [.ref q6, .ref q16, .null, .null, .null, .int 0, .int 0, .int 0, .int 0, .int 0, .int 0] :: eQ (gcA G 5) q28 40 r28 :: (rowsI G 40 10 r28 ++ (eQ (gcA G 5) q16 8 r16 :: (rowsI G 8 8 r16 ++ (eA (gcA G 0) q6 4 (fun _ => 0) :: Y))))) H locs := Z
  refine W.widen (k := 51) (n := 516) (Nat.le_of_ble_eq_true rfl) (Nat.le_of_ble_eq_true rfl) ?_
  refine r_putF C0 hin2 Z in_X1 tyX1_ok nmX1 rfl 2 (by decide) rfl rfl rfl tm_1_49 (x := .ref q28) rfl rfl (Nat.le_of_ble_eq_true rfl) dX1_init_32 (fun H locs Z => ?_)
  replace Z : Zr G s (eO a 1 [.ref q6, .ref q16, .ref q28, .null, .null, .int 0, .int 0, .int 0, .int 0, .int 0, .int 0] :: eQ (gcA G 5) q28 40 r28 :: (rowsI G 40 10 r28 ++ (eQ (gcA G 5) q16 8 r16 :: (rowsI G 8 8 r16 ++ (eA (gcA G 0) q6 4 (fun _ => 0) :: Y))))) H locs := Z
  refine lv_aload_n hx hb dX1_init_35 rfl (lv_at hl 0 rfl) ?_
  refine lv_iconst (v := 4) hx hb dX1_init_36 (by decide) ?_
  refine r_newa (X := [eO a 1 [.ref q6, .ref q16, .ref q28, .null, .null, .int 0, .int 0, .int 0, .int 0, .int 0, .int 0]]) (Y := eQ (gcA G 5) q28 40 r28 :: (rowsI G 40 10 r28 ++ (eQ (gcA G 5) q16 8 r16 :: (rowsI G 8 8 r16 ++ (eA (gcA G 0) q6 4 (fun _ => 0) :: Y))))) (ty := .int) (t0 := 0) (atype := .int) (N' := 4) (a0 := (4, .inl (fun _ => 0))) C0 Z rfl tm_1_95 rfl (fun _ => rfl) (by decide) (by decide) (Nat.le_of_ble_eq_true rfl) (Nat.le_of_ble_eq_true rfl) (Nat.le_of_ble_eq_true rfl) dX1_init_37 (fun q37 H Z => ?_)
  replace Z : Zr G s (eO a 1 [.ref q6, .ref q16, .ref q28, .null, .null, .int 0, .int 0, .int 0, .int 0, .int 0, .int 0] :: eA (gcA G 0) q37 4 (fun _ => 0) :: eQ (gcA G 5) q28 40 r28 :: (rowsI G 40 10 r28 ++ (eQ (gcA G 5) q16 8 r16 :: (rowsI G 8 8 r16 ++ (eA (gcA G 0) q6 4 (fun _ => 0) :: Y))))) H locs := Z
  refine W.widen (k := 52) (n := 520) (Nat.le_of_ble_eq_true rfl) (Nat.le_of_ble_eq_true rfl) ?_
  refine r_putF C0 hin2 Z in_X1 tyX1_ok nmX1 rfl 3 (by decide) rfl rfl rfl tm_1_52 (x := .ref q37) rfl rfl (Nat.le_of_ble_eq_true rfl) dX1_init_39 (fun H locs Z => ?_)
  replace Z : Zr G s (eO a 1 [.ref q6, .ref q16, .ref q28, .ref q37, .null, .int 0, .int 0, .int 0, .int 0, .int 0, .int 0] :: eA (gcA G 0) q37 4 (fun _ => 0) :: eQ (gcA G 5) q28 40 r28 :: (rowsI G 40 10 r28 ++ (eQ (gcA G 5) q16 8 r16 :: (rowsI G 8 8 r16 ++ (eA (gcA G 0) q6 4 (fun _ => 0) :: Y))))) H locs := Z
  refine lv_aload_n hx hb dX1_init_42 rfl (lv_at hl 0 rfl) ?_
  refine lv_bipush (v := 40) hx hb dX1_init_43 (by decide) ?_
  refine r_newa (X := [eO a 1 [.ref q6, .ref q16, .ref q28, .ref q37, .null, .int 0, .int 0, .int 0, .int 0, .int 0, .int 0]]) (Y := eA (gcA G 0) q37 4 (fun _ => 0) :: eQ (gcA G 5) q28 40 r28 :: (rowsI G 40 10 r28 ++ (eQ (gcA G 5) q16 8 r16 :: (rowsI G 8 8 r16 ++ (eA (gcA G 0) q6 4 (fun _ => 0) :: Y))))) (ty := .int) (t0 := 0) (atype := .int) (N' := 40) (a0 := (40, .inl (fun _ => 0))) C0 Z rfl tm_1_95 rfl (fun _ => rfl) (by decide) (by decide) (Nat.le_of_ble_eq_true rfl) (Nat.le_of_ble_eq_true rfl) (Nat.le_of_ble_eq_true rfl) dX1_init_45 (fun q45 H Z => ?_)
  replace Z : Zr G s (eO a 1 [.ref q6, .ref q16, .ref q28, .ref q37, .null, .int 0, .int 0, .int 0, .int 0, .int 0, .int 0] :: eA (gcA G 0) q45 40 (fun _ => 0) :: eA (gcA G 0) q37 4 (fun _ => 0) :: eQ (gcA G 5) q28 40 r28 :: (rowsI G 40 10 r28 ++ (eQ (gcA G 5) q16 8 r16 :: (rowsI G 8 8 r16 ++ (eA (gcA G 0) q6 4 (fun _ => 0) :: Y))))) H locs := Z
  refine W.widen (k := 53) (n := 560) (Nat.le_of_ble_eq_true rfl) (Nat.le_of_ble_eq_true rfl) ?_
  refine r_putF C0 hin2 Z in_X1 tyX1_ok nmX1 rfl 4 (by decide) rfl rfl rfl tm_1_54 (x := .ref q45) rfl rfl (Nat.le_of_ble_eq_true rfl) dX1_init_47 (fun H locs Z => ?_)
  replace Z : Zr G s (eO a 1 [.ref q6, .ref q16, .ref q28, .ref q37, .ref q45, .int 0, .int 0, .int 0, .int 0, .int 0, .int 0] :: eA (gcA G 0) q45 40 (fun _ => 0) :: eA (gcA G 0) q37 4 (fun _ => 0) :: eQ (gcA G 5) q28 40 r28 :: (rowsI G 40 10 r28 ++ (eQ (gcA G 5) q16 8 r16 :: (rowsI G 8 8 r16 ++ (eA (gcA G 0) q6 4 (fun _ => 0) :: Y))))) H locs := Z
  refine lv_aload_n hx hb dX1_init_50 rfl (lv_at hl 0 rfl) ?_
  refine lv_bipush (v := 32) hx hb dX1_init_51 (by decide) ?_
  have hpm : ((eO a 1 [.ref q6, .ref q16, .ref q28, .ref q37, .ref q45, .int 0, .int 0, .int 0, .int 0, .int 0, .int 0]) :: eA (gcA G 0) q45 40 (fun _ => 0) :: eA (gcA G 0) q37 4 (fun _ => 0) :: eQ (gcA G 5) q28 40 r28 :: (rowsI G 40 10 r28 ++ (eQ (gcA G 5) q16 8 r16 :: (rowsI G 8 8 r16 ++ (eA (gcA G 0) q6 4 (fun _ => 0) :: Y))))).Perm (eO a 1 [.ref q6, .ref q16, .ref q28, .ref q37, .ref q45, .int 0, .int 0, .int 0, .int 0, .int 0, .int 0] :: eA (gcA G 0) q6 4 (fun _ => 0) :: eA (gcA G 0) q45 40 (fun _ => 0) :: eA (gcA G 0) q37 4 (fun _ => 0) :: eQ (gcA G 5) q28 40 r28 :: (rowsI G 40 10 r28 ++ (eQ (gcA G 5) q16 8 r16 :: (rowsI G 8 8 r16 ++ (Y))))) := pm_led _ _ _ _ _ _ _ _ _
  replace Z : Zr G s (eO a 1 [.ref q6, .ref q16, .ref q28, .ref q37, .ref q45, .int 0, .int 0, .int 0, .int 0, .int 0, .int 0] :: eA (gcA G 0) q6 4 (fun _ => 0) :: eA (gcA G 0) q45 40 (fun _ => 0) :: eA (gcA G 0) q37 4 (fun _ => 0) :: eQ (gcA G 5) q28 40 r28 :: (rowsI G 40 10 r28 ++ (eQ (gcA G 5) q16 8 r16 :: (rowsI G 8 8 r16 ++ (Y))))) H locs := Z.perm hpm
  refine r_callVv C0 Z hl.1 (As := [.int 32]) (rest := []) (q0 := 0) (kr_X1_startWith l hg) (gv_X1_startWith tm_1_35) rfl ds_X1_startWith ⟨(Nat.le_of_ble_eq_true rfl), (Nat.le_of_ble_eq_true rfl)⟩ (ci := 1) rfl rfl rfl rfl (Nat.le_of_ble_eq_true rfl) ⟨(Nat.le_of_ble_eq_true rfl), (Nat.le_of_ble_eq_true rfl)⟩ dX1_init_53 (fun u H locs hu Z => ?_)
  subst hu
  refine W.widen (k := 53) (n := 560) (Nat.le_of_ble_eq_true rfl) (Nat.le_of_ble_eq_true rfl) ?_
  refine r_vret C0 ((Z.perm (pm_led2 _ _ _ _ _ _ _ _ _)).cv ?_) ⟨adL a q6 q16 q28 q37 q45 r16 r28, rfl, rfl⟩ dX1_init_56
  refine Cv.cons rfl (Eqv.of rfl) (Cv.cons rfl (Eqv.i (fun j hj => rfl)) (Cv.cons rfl (Eqv.q (fun j hj => congrArg some (adL_r hj).symm)) (Cv.cons rfl (Eqv.q (fun j hj => congrArg some adL_b.symm)) (Cv.cons rfl (Eqv.of rfl) (Cv.cons rfl (Eqv.of rfl) ?_)))))
  show Cv (rowsI G 8 8 r16 ++ (rowsI G 40 10 r28 ++ Y)) ((rowsI G 8 8 (fun i => adL a q6 q16 q28 q37 q45 r16 r28 (6 + i)) ++ rowsI G 40 10 (fun i => adL a q6 q16 q28 q37 q45 r16 r28 (14 + i))) ++ Y)
  rw [List.append_assoc]
  exact (Cv.rows (fun i hi => (adL_r hi).symm)).app ((Cv.rows (fun i hi => adL_b.symm)).app (Cv.rf Y))
