-- X0_priceOf: room (2, 48)
theorem dX0_priceOf_0 : decode cX0_priceOf 0 = .ok (.aload_n 0, 1) := by decide +kernel
theorem dX0_priceOf_1 : decode cX0_priceOf 1 = .ok (.getfield 15, 3) := by decide +kernel
theorem dX0_priceOf_4 : decode cX0_priceOf 4 = .ok (.getfield 19, 3) := by decide +kernel
theorem dX0_priceOf_7 : decode cX0_priceOf 7 = .ok (.iload_n 2, 1) := by decide +kernel
theorem dX0_priceOf_8 : decode cX0_priceOf 8 = .ok (.aaload, 1) := by decide +kernel
theorem dX0_priceOf_9 : decode cX0_priceOf 9 = .ok (.bipush 8, 2) := by decide +kernel
theorem dX0_priceOf_11 : decode cX0_priceOf 11 = .ok (.iaload, 1) := by decide +kernel
theorem dX0_priceOf_12 : decode cX0_priceOf 12 = .ok (.istore_n 3, 1) := by decide +kernel
theorem dX0_priceOf_13 : decode cX0_priceOf 13 = .ok (.aload_n 0, 1) := by decide +kernel
theorem dX0_priceOf_14 : decode cX0_priceOf 14 = .ok (.getfield 15, 3) := by decide +kernel
theorem dX0_priceOf_17 : decode cX0_priceOf 17 = .ok (.iload_n 1, 1) := by decide +kernel
theorem dX0_priceOf_18 : decode cX0_priceOf 18 = .ok (.iload_n 3, 1) := by decide +kernel
theorem dX0_priceOf_19 : decode cX0_priceOf 19 = .ok (.invokevirtual 29, 3) := by decide +kernel
theorem dX0_priceOf_22 : decode cX0_priceOf 22 = .ok (.aload_n 0, 1) := by decide +kernel
theorem dX0_priceOf_23 : decode cX0_priceOf 23 = .ok (.getfield 15, 3) := by decide +kernel
theorem dX0_priceOf_26 : decode cX0_priceOf 26 = .ok (.iload_n 2, 1) := by decide +kernel
theorem dX0_priceOf_27 : decode cX0_priceOf 27 = .ok (.iload_n 3, 1) := by decide +kernel
theorem dX0_priceOf_28 : decode cX0_priceOf 28 = .ok (.invokevirtual 29, 3) := by decide +kernel
theorem dX0_priceOf_31 : decode cX0_priceOf 31 = .ok (.iadd, 1) := by decide +kernel
theorem dX0_priceOf_32 : decode cX0_priceOf 32 = .ok (.iconst 2, 1) := by decide +kernel
theorem dX0_priceOf_33 : decode cX0_priceOf 33 = .ok (.idiv, 1) := by decide +kernel
theorem dX0_priceOf_34 : decode cX0_priceOf 34 = .ok (.ireturn, 1) := by decide +kernel
def w_X0_priceOf (a1 : Int32) (a2 : Int32) (v : V3) (Q : Int32 → V3 → Prop) : Prop := vp_in a2 40 ∧ w_X1_joyAt 8 a1 (v (8 + 14 + (ix a2)) 8) v (fun r4 v3 => w_X1_joyAt 8 a2 (v (8 + 14 + (ix a2)) 8) v3 (fun r6 v5 => Q ((r4 + r6) / 2) v5))
set_option maxRecDepth 100000 in
set_option maxHeartbeats 4000000 in
theorem k_X0_priceOf (l : Launch) {G : zG} (hg : 116 ≤ gn G) {a1 : Int32} {a2 : Int32}  {v : V3} {Q : Int32 → V3 → Prop} (hw : w_X0_priceOf a1 a2 v Q) : Mz l yX0_priceOf cX0_priceOf 4 (some .int) 2 48 G [.ref (gad G 4), .int a1, .int a2] v (QiZ G Q) := by
  rw [w_X0_priceOf] at hw
  refine z_ofW hg (by decide) (Nat.le_of_ble_eq_true rfl) ?_
  intro p e s m args below meth c ls C0 Z hl
  have hx := C0.1
  have hb := C0.2.1
  replace hl : lv_has ls 4 [(0, .ref (gad G 4)), (1, .int a1), (2, .int a2)] := hl
  generalize s.heap = H at Z ⊢
  generalize ([] : List Loc) = locs at Z ⊢
  refine lv_aload_n hx hb dX0_priceOf_0 rfl (lv_at hl 0 rfl) ?_
  refine z_get C0 Z in_X0 rfl 0 (by decide) rfl tm_1_103 (cx_lt C0 (by decide)) rfl rfl dX0_priceOf_1 ?_
  refine z_get C0 Z in_X1 rfl 2 (by decide) rfl tm_1_50 (isL_lt0 (isL8 (cx_g C0))) (ent_L (isL8 (cx_g C0))) rfl dX0_priceOf_4 ?_
  refine lv_iload_n hx hb dX0_priceOf_7 rfl (lv_at hl 2 rfl) ?_
  obtain ⟨h1, hw⟩ := hw
  have h2 := vp_lt h1
  refine z_aald C0 Z (isL_lt (isL8 (cx_g C0)) 3 (by decide)) (ent_L3 (isL8 (cx_g C0))) h1 dX0_priceOf_8 ?_
  refine lv_bipush (v := 8) hx hb dX0_priceOf_9 (by decide) ?_
  refine z_ialdk C0 Z (isL_B (isL8 (cx_g C0)) h2) (ent_B (isL8 (cx_g C0)) h2) in_8_10 nc_8 dX0_priceOf_11 ?_
  refine lv_istore_n (lv' := [(3, .int (v (8 + 14 + (ix a2)) 8)), (0, .ref (gad G 4)), (1, .int a1), (2, .int a2)]) hx hb dX0_priceOf_12 rfl hl (by decide) rfl (fun ls hl => ?_)
  refine lv_aload_n hx hb dX0_priceOf_13 rfl (lv_at hl 1 rfl) ?_
  refine z_get C0 Z in_X0 rfl 0 (by decide) rfl tm_1_103 (cx_lt C0 (by decide)) rfl rfl dX0_priceOf_14 ?_
  refine lv_iload_n hx hb dX0_priceOf_17 rfl (lv_at hl 2 rfl) ?_
  refine lv_iload_n hx hb dX0_priceOf_18 rfl (lv_at hl 0 rfl) ?_
  refine z_callVi C0 Z hl.1 (As := [.int a1, .int (v (8 + 14 + (ix a2)) 8)]) (rest := []) (k_X1_joyAt l (cx_g C0) (isL8 (cx_g C0)) hw) (gv_X1_joyAt tm_3_84) rfl ds_X1_joyAt ⟨Nat.le_of_ble_eq_true rfl, Nat.le_of_ble_eq_true rfl⟩ (ci := 1) rfl (isL_lt0 (isL8 (cx_g C0))) (ent_L (isL8 (cx_g C0))) rfl rfl (Nat.le_of_ble_eq_true rfl) ⟨Nat.le_of_ble_eq_true rfl, Nat.le_of_ble_eq_true rfl⟩ dX0_priceOf_19 (fun r4 v3 H locs hw Z => ?_)
  refine lv_aload_n hx hb dX0_priceOf_22 rfl (lv_at hl 1 rfl) ?_
  refine z_get C0 Z in_X0 rfl 0 (by decide) rfl tm_1_103 (cx_lt C0 (by decide)) rfl rfl dX0_priceOf_23 ?_
  refine lv_iload_n hx hb dX0_priceOf_26 rfl (lv_at hl 3 rfl) ?_
  refine lv_iload_n hx hb dX0_priceOf_27 rfl (lv_at hl 0 rfl) ?_
  refine z_callVi C0 Z hl.1 (As := [.int a2, .int (v (8 + 14 + (ix a2)) 8)]) (rest := [.int r4]) (k_X1_joyAt l (cx_g C0) (isL8 (cx_g C0)) hw) (gv_X1_joyAt tm_3_84) rfl ds_X1_joyAt ⟨Nat.le_of_ble_eq_true rfl, Nat.le_of_ble_eq_true rfl⟩ (ci := 1) rfl (isL_lt0 (isL8 (cx_g C0))) (ent_L (isL8 (cx_g C0))) rfl rfl (Nat.le_of_ble_eq_true rfl) ⟨Nat.le_of_ble_eq_true rfl, Nat.le_of_ble_eq_true rfl⟩ dX0_priceOf_28 (fun r6 v5 H locs hw Z => ?_)
  refine lv_iadd hx hb dX0_priceOf_31 ?_
  refine lv_iconst (v := 2) hx hb dX0_priceOf_32 (by decide) ?_
  refine lv_idiv hx hb dX0_priceOf_33 (by decide) ?_
  exact z_iret C0 Z hw dX0_priceOf_34
-- X0_swapGain: room (2, 53)
theorem dX0_swapGain_0 : decode cX0_swapGain 0 = .ok (.aload_n 0, 1) := by decide +kernel
theorem dX0_swapGain_1 : decode cX0_swapGain 1 = .ok (.getfield 15, 3) := by decide +kernel
theorem dX0_swapGain_4 : decode cX0_swapGain 4 = .ok (.getfield 19, 3) := by decide +kernel
theorem dX0_swapGain_7 : decode cX0_swapGain 7 = .ok (.iload_n 1, 1) := by decide +kernel
theorem dX0_swapGain_8 : decode cX0_swapGain 8 = .ok (.aaload, 1) := by decide +kernel
theorem dX0_swapGain_9 : decode cX0_swapGain 9 = .ok (.astore_n 3, 1) := by decide +kernel
theorem dX0_swapGain_10 : decode cX0_swapGain 10 = .ok (.aload_n 0, 1) := by decide +kernel
theorem dX0_swapGain_11 : decode cX0_swapGain 11 = .ok (.getfield 15, 3) := by decide +kernel
theorem dX0_swapGain_14 : decode cX0_swapGain 14 = .ok (.getfield 19, 3) := by decide +kernel
theorem dX0_swapGain_17 : decode cX0_swapGain 17 = .ok (.iload_n 2, 1) := by decide +kernel
theorem dX0_swapGain_18 : decode cX0_swapGain 18 = .ok (.aaload, 1) := by decide +kernel
theorem dX0_swapGain_19 : decode cX0_swapGain 19 = .ok (.astore 4, 2) := by decide +kernel
theorem dX0_swapGain_21 : decode cX0_swapGain 21 = .ok (.aload_n 3, 1) := by decide +kernel
theorem dX0_swapGain_22 : decode cX0_swapGain 22 = .ok (.bipush 9, 2) := by decide +kernel
theorem dX0_swapGain_24 : decode cX0_swapGain 24 = .ok (.iaload, 1) := by decide +kernel
theorem dX0_swapGain_25 : decode cX0_swapGain 25 = .ok (.aload_n 3, 1) := by decide +kernel
theorem dX0_swapGain_26 : decode cX0_swapGain 26 = .ok (.bipush 8, 2) := by decide +kernel
theorem dX0_swapGain_28 : decode cX0_swapGain 28 = .ok (.iaload, 1) := by decide +kernel
theorem dX0_swapGain_29 : decode cX0_swapGain 29 = .ok (.isub, 1) := by decide +kernel
theorem dX0_swapGain_30 : decode cX0_swapGain 30 = .ok (.aload 4, 2) := by decide +kernel
theorem dX0_swapGain_32 : decode cX0_swapGain 32 = .ok (.bipush 9, 2) := by decide +kernel
theorem dX0_swapGain_34 : decode cX0_swapGain 34 = .ok (.iaload, 1) := by decide +kernel
theorem dX0_swapGain_35 : decode cX0_swapGain 35 = .ok (.aload 4, 2) := by decide +kernel
theorem dX0_swapGain_37 : decode cX0_swapGain 37 = .ok (.bipush 8, 2) := by decide +kernel
theorem dX0_swapGain_39 : decode cX0_swapGain 39 = .ok (.iaload, 1) := by decide +kernel
theorem dX0_swapGain_40 : decode cX0_swapGain 40 = .ok (.isub, 1) := by decide +kernel
theorem dX0_swapGain_41 : decode cX0_swapGain 41 = .ok (.if_icmp .ne 32, 3) := by decide +kernel
theorem dX0_swapGain_44 : decode cX0_swapGain 44 = .ok (.aload_n 3, 1) := by decide +kernel
theorem dX0_swapGain_45 : decode cX0_swapGain 45 = .ok (.bipush 8, 2) := by decide +kernel
theorem dX0_swapGain_47 : decode cX0_swapGain 47 = .ok (.iaload, 1) := by decide +kernel
theorem dX0_swapGain_48 : decode cX0_swapGain 48 = .ok (.aload_n 0, 1) := by decide +kernel
theorem dX0_swapGain_49 : decode cX0_swapGain 49 = .ok (.getfield 15, 3) := by decide +kernel
theorem dX0_swapGain_52 : decode cX0_swapGain 52 = .ok (.getfield 25, 3) := by decide +kernel
theorem dX0_swapGain_55 : decode cX0_swapGain 55 = .ok (.if_icmp .lt 18, 3) := by decide +kernel
theorem dX0_swapGain_58 : decode cX0_swapGain 58 = .ok (.aload 4, 2) := by decide +kernel
theorem dX0_swapGain_60 : decode cX0_swapGain 60 = .ok (.bipush 8, 2) := by decide +kernel
theorem dX0_swapGain_62 : decode cX0_swapGain 62 = .ok (.iaload, 1) := by decide +kernel
theorem dX0_swapGain_63 : decode cX0_swapGain 63 = .ok (.aload_n 0, 1) := by decide +kernel
theorem dX0_swapGain_64 : decode cX0_swapGain 64 = .ok (.getfield 15, 3) := by decide +kernel
theorem dX0_swapGain_67 : decode cX0_swapGain 67 = .ok (.getfield 25, 3) := by decide +kernel
theorem dX0_swapGain_70 : decode cX0_swapGain 70 = .ok (.if_icmp .ge 5, 3) := by decide +kernel
theorem dX0_swapGain_73 : decode cX0_swapGain 73 = .ok (.iconst 0, 1) := by decide +kernel
theorem dX0_swapGain_74 : decode cX0_swapGain 74 = .ok (.ireturn, 1) := by decide +kernel
theorem dX0_swapGain_75 : decode cX0_swapGain 75 = .ok (.aload_n 0, 1) := by decide +kernel
theorem dX0_swapGain_76 : decode cX0_swapGain 76 = .ok (.getfield 15, 3) := by decide +kernel
theorem dX0_swapGain_79 : decode cX0_swapGain 79 = .ok (.iload_n 1, 1) := by decide +kernel
theorem dX0_swapGain_80 : decode cX0_swapGain 80 = .ok (.aload 4, 2) := by decide +kernel
theorem dX0_swapGain_82 : decode cX0_swapGain 82 = .ok (.bipush 8, 2) := by decide +kernel
theorem dX0_swapGain_84 : decode cX0_swapGain 84 = .ok (.iaload, 1) := by decide +kernel
theorem dX0_swapGain_85 : decode cX0_swapGain 85 = .ok (.invokevirtual 29, 3) := by decide +kernel
theorem dX0_swapGain_88 : decode cX0_swapGain 88 = .ok (.aload_n 0, 1) := by decide +kernel
theorem dX0_swapGain_89 : decode cX0_swapGain 89 = .ok (.getfield 15, 3) := by decide +kernel
theorem dX0_swapGain_92 : decode cX0_swapGain 92 = .ok (.iload_n 1, 1) := by decide +kernel
theorem dX0_swapGain_93 : decode cX0_swapGain 93 = .ok (.aload_n 3, 1) := by decide +kernel
theorem dX0_swapGain_94 : decode cX0_swapGain 94 = .ok (.bipush 8, 2) := by decide +kernel
theorem dX0_swapGain_96 : decode cX0_swapGain 96 = .ok (.iaload, 1) := by decide +kernel
theorem dX0_swapGain_97 : decode cX0_swapGain 97 = .ok (.invokevirtual 29, 3) := by decide +kernel
theorem dX0_swapGain_100 : decode cX0_swapGain 100 = .ok (.isub, 1) := by decide +kernel
theorem dX0_swapGain_101 : decode cX0_swapGain 101 = .ok (.istore 5, 2) := by decide +kernel
theorem dX0_swapGain_103 : decode cX0_swapGain 103 = .ok (.aload_n 0, 1) := by decide +kernel
theorem dX0_swapGain_104 : decode cX0_swapGain 104 = .ok (.getfield 15, 3) := by decide +kernel
theorem dX0_swapGain_107 : decode cX0_swapGain 107 = .ok (.iload_n 2, 1) := by decide +kernel
theorem dX0_swapGain_108 : decode cX0_swapGain 108 = .ok (.aload_n 3, 1) := by decide +kernel
theorem dX0_swapGain_109 : decode cX0_swapGain 109 = .ok (.bipush 8, 2) := by decide +kernel
theorem dX0_swapGain_111 : decode cX0_swapGain 111 = .ok (.iaload, 1) := by decide +kernel
theorem dX0_swapGain_112 : decode cX0_swapGain 112 = .ok (.invokevirtual 29, 3) := by decide +kernel
theorem dX0_swapGain_115 : decode cX0_swapGain 115 = .ok (.aload_n 0, 1) := by decide +kernel
theorem dX0_swapGain_116 : decode cX0_swapGain 116 = .ok (.getfield 15, 3) := by decide +kernel
theorem dX0_swapGain_119 : decode cX0_swapGain 119 = .ok (.iload_n 2, 1) := by decide +kernel
theorem dX0_swapGain_120 : decode cX0_swapGain 120 = .ok (.aload 4, 2) := by decide +kernel
theorem dX0_swapGain_122 : decode cX0_swapGain 122 = .ok (.bipush 8, 2) := by decide +kernel
theorem dX0_swapGain_124 : decode cX0_swapGain 124 = .ok (.iaload, 1) := by decide +kernel
theorem dX0_swapGain_125 : decode cX0_swapGain 125 = .ok (.invokevirtual 29, 3) := by decide +kernel
theorem dX0_swapGain_128 : decode cX0_swapGain 128 = .ok (.isub, 1) := by decide +kernel
theorem dX0_swapGain_129 : decode cX0_swapGain 129 = .ok (.istore 6, 2) := by decide +kernel
theorem dX0_swapGain_131 : decode cX0_swapGain 131 = .ok (.iload 5, 2) := by decide +kernel
theorem dX0_swapGain_133 : decode cX0_swapGain 133 = .ok (.ifCond .le 50, 3) := by decide +kernel
theorem dX0_swapGain_136 : decode cX0_swapGain 136 = .ok (.iload 6, 2) := by decide +kernel
theorem dX0_swapGain_138 : decode cX0_swapGain 138 = .ok (.ifCond .le 45, 3) := by decide +kernel
theorem dX0_swapGain_141 : decode cX0_swapGain 141 = .ok (.aload_n 0, 1) := by decide +kernel
theorem dX0_swapGain_142 : decode cX0_swapGain 142 = .ok (.getfield 15, 3) := by decide +kernel
theorem dX0_swapGain_145 : decode cX0_swapGain 145 = .ok (.iload_n 1, 1) := by decide +kernel
theorem dX0_swapGain_146 : decode cX0_swapGain 146 = .ok (.aload 4, 2) := by decide +kernel
theorem dX0_swapGain_148 : decode cX0_swapGain 148 = .ok (.bipush 8, 2) := by decide +kernel
theorem dX0_swapGain_150 : decode cX0_swapGain 150 = .ok (.iaload, 1) := by decide +kernel
theorem dX0_swapGain_151 : decode cX0_swapGain 151 = .ok (.aload 4, 2) := by decide +kernel
theorem dX0_swapGain_153 : decode cX0_swapGain 153 = .ok (.bipush 9, 2) := by decide +kernel
theorem dX0_swapGain_155 : decode cX0_swapGain 155 = .ok (.iaload, 1) := by decide +kernel
theorem dX0_swapGain_156 : decode cX0_swapGain 156 = .ok (.iload_n 2, 1) := by decide +kernel
theorem dX0_swapGain_157 : decode cX0_swapGain 157 = .ok (.invokevirtual 33, 3) := by decide +kernel
theorem dX0_swapGain_160 : decode cX0_swapGain 160 = .ok (.ifCond .ne 23, 3) := by decide +kernel
theorem dX0_swapGain_163 : decode cX0_swapGain 163 = .ok (.aload_n 0, 1) := by decide +kernel
theorem dX0_swapGain_164 : decode cX0_swapGain 164 = .ok (.getfield 15, 3) := by decide +kernel
theorem dX0_swapGain_167 : decode cX0_swapGain 167 = .ok (.iload_n 2, 1) := by decide +kernel
theorem dX0_swapGain_168 : decode cX0_swapGain 168 = .ok (.aload_n 3, 1) := by decide +kernel
theorem dX0_swapGain_169 : decode cX0_swapGain 169 = .ok (.bipush 8, 2) := by decide +kernel
theorem dX0_swapGain_171 : decode cX0_swapGain 171 = .ok (.iaload, 1) := by decide +kernel
theorem dX0_swapGain_172 : decode cX0_swapGain 172 = .ok (.aload_n 3, 1) := by decide +kernel
theorem dX0_swapGain_173 : decode cX0_swapGain 173 = .ok (.bipush 9, 2) := by decide +kernel
theorem dX0_swapGain_175 : decode cX0_swapGain 175 = .ok (.iaload, 1) := by decide +kernel
theorem dX0_swapGain_176 : decode cX0_swapGain 176 = .ok (.iload_n 1, 1) := by decide +kernel
theorem dX0_swapGain_177 : decode cX0_swapGain 177 = .ok (.invokevirtual 33, 3) := by decide +kernel
theorem dX0_swapGain_180 : decode cX0_swapGain 180 = .ok (.ifCond .eq 5, 3) := by decide +kernel
theorem dX0_swapGain_183 : decode cX0_swapGain 183 = .ok (.iconst 0, 1) := by decide +kernel
theorem dX0_swapGain_184 : decode cX0_swapGain 184 = .ok (.ireturn, 1) := by decide +kernel
theorem dX0_swapGain_185 : decode cX0_swapGain 185 = .ok (.iload 5, 2) := by decide +kernel
theorem dX0_swapGain_187 : decode cX0_swapGain 187 = .ok (.iload 6, 2) := by decide +kernel
theorem dX0_swapGain_189 : decode cX0_swapGain 189 = .ok (.iadd, 1) := by decide +kernel
theorem dX0_swapGain_190 : decode cX0_swapGain 190 = .ok (.ireturn, 1) := by decide +kernel
def w_X0_swapGain_73  (Q : Int32 → V3 → Prop) (v : V3) : Prop := Q 0 v
def w_X0_swapGain_183  (Q : Int32 → V3 → Prop) (v : V3) : Prop := Q 0 v
def w_X0_swapGain (a1 : Int32) (a2 : Int32) (v : V3) (Q : Int32 → V3 → Prop) : Prop := vp_in a1 40 ∧ vp_in a2 40 ∧ ((¬ ((v (8 + 14 + (ix a1)) 9) - (v (8 + 14 + (ix a1)) 8)) = ((v (8 + 14 + (ix a2)) 9) - (v (8 + 14 + (ix a2)) 8)) → w_X0_swapGain_73 Q v) ∧ (((v (8 + 14 + (ix a1)) 9) - (v (8 + 14 + (ix a1)) 8)) = ((v (8 + 14 + (ix a2)) 9) - (v (8 + 14 + (ix a2)) 8)) → (((v (8 + 14 + (ix a1)) 8) < (v 8 6) → w_X0_swapGain_73 Q v) ∧ (¬ (v (8 + 14 + (ix a1)) 8) < (v 8 6) → (((v 8 6) ≤ (v (8 + 14 + (ix a2)) 8) → w_X1_joyAt 8 a1 (v (8 + 14 + (ix a2)) 8) v (fun r9 v8 => w_X1_joyAt 8 a1 (v8 (8 + 14 + (ix a1)) 8) v8 (fun r11 v10 => w_X1_joyAt 8 a2 (v10 (8 + 14 + (ix a1)) 8) v10 (fun r13 v12 => w_X1_joyAt 8 a2 (v12 (8 + 14 + (ix a2)) 8) v12 (fun r15 v14 => (((r9 - r11) ≤ 0 → w_X0_swapGain_183 Q v14) ∧ (¬ (r9 - r11) ≤ 0 → (((r13 - r15) ≤ 0 → w_X0_swapGain_183 Q v14) ∧ (¬ (r13 - r15) ≤ 0 → w_X1_wouldClash 8 a1 (v14 (8 + 14 + (ix a2)) 8) (v14 (8 + 14 + (ix a2)) 9) a2 v14 (fun r19 v18 => ((¬ r19 = 0 → w_X0_swapGain_183 Q v18) ∧ (r19 = 0 → w_X1_wouldClash 8 a2 (v18 (8 + 14 + (ix a1)) 8) (v18 (8 + 14 + (ix a1)) 9) a1 v18 (fun r22 v21 => ((r22 = 0 → Q ((r9 - r11) + (r13 - r15)) v21) ∧ (¬ r22 = 0 → w_X0_swapGain_183 Q v21))))))))))))))) ∧ (¬ (v 8 6) ≤ (v (8 + 14 + (ix a2)) 8) → w_X0_swapGain_73 Q v))))))
set_option maxRecDepth 100000 in
set_option maxHeartbeats 4000000 in
theorem b_X0_swapGain_73 {p : Program} (l : Launch) {e : Env} {s : State} {m : MethodId} {args : Array Value} {below : List Frame} {meth : Method} {c : Code} {G : zG}   (C0 : Cx G RX0 cX0_swapGain 7 (some .int) p s m args meth c) {Q : Int32 → V3 → Prop} : ∀ (v : V3) (H : Heap) (locs : List Loc) (ls : Array Slot), w_X0_swapGain_73 Q v → Zs G s v H locs → lv_has ls 7 [] → W p l e { frames := 2, cells := 0, slots := 0, locals := 53 } s m args below meth c H locs 0 0 (MQ below (QiZ G Q) args s 0 0 (zA G)) (F0 m 73 ls []) := by
  have hx := C0.1
  have hb := C0.2.1
  intro v H locs ls hw Z hl
  rw [w_X0_swapGain_73] at hw
  refine lv_iconst (v := 0) hx hb dX0_swapGain_73 (by decide) ?_
  exact z_iret C0 Z hw dX0_swapGain_74
set_option maxRecDepth 100000 in
set_option maxHeartbeats 4000000 in
theorem b_X0_swapGain_183 {p : Program} (l : Launch) {e : Env} {s : State} {m : MethodId} {args : Array Value} {below : List Frame} {meth : Method} {c : Code} {G : zG}   (C0 : Cx G RX0 cX0_swapGain 7 (some .int) p s m args meth c) {Q : Int32 → V3 → Prop} : ∀ (v : V3) (H : Heap) (locs : List Loc) (ls : Array Slot), w_X0_swapGain_183 Q v → Zs G s v H locs → lv_has ls 7 [] → W p l e { frames := 2, cells := 0, slots := 0, locals := 53 } s m args below meth c H locs 0 0 (MQ below (QiZ G Q) args s 0 0 (zA G)) (F0 m 183 ls []) := by
  have hx := C0.1
  have hb := C0.2.1
  intro v H locs ls hw Z hl
  rw [w_X0_swapGain_183] at hw
  refine lv_iconst (v := 0) hx hb dX0_swapGain_183 (by decide) ?_
  exact z_iret C0 Z hw dX0_swapGain_184
set_option maxRecDepth 100000 in
set_option maxHeartbeats 4000000 in
theorem k_X0_swapGain (l : Launch) {G : zG} (hg : 116 ≤ gn G) {a1 : Int32} {a2 : Int32}  {v : V3} {Q : Int32 → V3 → Prop} (hw : w_X0_swapGain a1 a2 v Q) : Mz l yX0_swapGain cX0_swapGain 7 (some .int) 2 53 G [.ref (gad G 4), .int a1, .int a2] v (QiZ G Q) := by
  rw [w_X0_swapGain] at hw
  refine z_ofW hg (by decide) (Nat.le_of_ble_eq_true rfl) ?_
  intro p e s m args below meth c ls C0 Z hl
  have hx := C0.1
  have hb := C0.2.1
  replace hl : lv_has ls 7 [(0, .ref (gad G 4)), (1, .int a1), (2, .int a2)] := hl
  generalize s.heap = H at Z ⊢
  generalize ([] : List Loc) = locs at Z ⊢
  refine lv_aload_n hx hb dX0_swapGain_0 rfl (lv_at hl 0 rfl) ?_
  refine z_get C0 Z in_X0 rfl 0 (by decide) rfl tm_1_103 (cx_lt C0 (by decide)) rfl rfl dX0_swapGain_1 ?_
  refine z_get C0 Z in_X1 rfl 2 (by decide) rfl tm_1_50 (isL_lt0 (isL8 (cx_g C0))) (ent_L (isL8 (cx_g C0))) rfl dX0_swapGain_4 ?_
  refine lv_iload_n hx hb dX0_swapGain_7 rfl (lv_at hl 1 rfl) ?_
  obtain ⟨h1, hw⟩ := hw
  have h2 := vp_lt h1
  refine z_aald C0 Z (isL_lt (isL8 (cx_g C0)) 3 (by decide)) (ent_L3 (isL8 (cx_g C0))) h1 dX0_swapGain_8 ?_
  refine lv_astore_n (lv' := [(3, .ref (gad G (8 + 14 + (ix a1)))), (0, .ref (gad G 4)), (1, .int a1), (2, .int a2)]) hx hb dX0_swapGain_9 rfl hl (by decide) rfl (fun ls hl => ?_)
  refine lv_aload_n hx hb dX0_swapGain_10 rfl (lv_at hl 1 rfl) ?_
  refine z_get C0 Z in_X0 rfl 0 (by decide) rfl tm_1_103 (cx_lt C0 (by decide)) rfl rfl dX0_swapGain_11 ?_
  refine z_get C0 Z in_X1 rfl 2 (by decide) rfl tm_1_50 (isL_lt0 (isL8 (cx_g C0))) (ent_L (isL8 (cx_g C0))) rfl dX0_swapGain_14 ?_
  refine lv_iload_n hx hb dX0_swapGain_17 rfl (lv_at hl 3 rfl) ?_
  obtain ⟨h3, hw⟩ := hw
  have h4 := vp_lt h3
  refine z_aald C0 Z (isL_lt (isL8 (cx_g C0)) 3 (by decide)) (ent_L3 (isL8 (cx_g C0))) h3 dX0_swapGain_18 ?_
  refine lv_astore (lv' := [(4, .ref (gad G (8 + 14 + (ix a2)))), (3, .ref (gad G (8 + 14 + (ix a1)))), (0, .ref (gad G 4)), (1, .int a1), (2, .int a2)]) hx hb dX0_swapGain_19 hl (by decide) rfl (fun ls hl => ?_)
  refine lv_aload_n hx hb dX0_swapGain_21 rfl (lv_at hl 1 rfl) ?_
  refine lv_bipush (v := 9) hx hb dX0_swapGain_22 (by decide) ?_
  refine z_ialdk C0 Z (isL_B (isL8 (cx_g C0)) h2) (ent_B (isL8 (cx_g C0)) h2) in_9_10 nc_9 dX0_swapGain_24 ?_
  refine lv_aload_n hx hb dX0_swapGain_25 rfl (lv_at hl 1 rfl) ?_
  refine lv_bipush (v := 8) hx hb dX0_swapGain_26 (by decide) ?_
  refine z_ialdk C0 Z (isL_B (isL8 (cx_g C0)) h2) (ent_B (isL8 (cx_g C0)) h2) in_8_10 nc_8 dX0_swapGain_28 ?_
  refine lv_isub hx hb dX0_swapGain_29 ?_
  refine lv_aload hx hb dX0_swapGain_30 (lv_at hl 0 rfl) ?_
  refine lv_bipush (v := 9) hx hb dX0_swapGain_32 (by decide) ?_
  refine z_ialdk C0 Z (isL_B (isL8 (cx_g C0)) h4) (ent_B (isL8 (cx_g C0)) h4) in_9_10 nc_9 dX0_swapGain_34 ?_
  refine lv_aload hx hb dX0_swapGain_35 (lv_at hl 0 rfl) ?_
  refine lv_bipush (v := 8) hx hb dX0_swapGain_37 (by decide) ?_
  refine z_ialdk C0 Z (isL_B (isL8 (cx_g C0)) h4) (ent_B (isL8 (cx_g C0)) h4) in_8_10 nc_8 dX0_swapGain_39 ?_
  refine lv_isub hx hb dX0_swapGain_40 ?_
  refine lv_icmp_ne (tgt := 73) hx hb dX0_swapGain_41 (by decide) (fun c5 => ?_) (fun c5 => ?_)
  · replace hw := hw.1 c5
    exact b_X0_swapGain_73 l C0 _ _ _ _ hw Z (lv_sub hl [] rfl)
  · replace hw := hw.2 c5
    refine lv_aload_n hx hb dX0_swapGain_44 rfl (lv_at hl 1 rfl) ?_
    refine lv_bipush (v := 8) hx hb dX0_swapGain_45 (by decide) ?_
    refine z_ialdk C0 Z (isL_B (isL8 (cx_g C0)) h2) (ent_B (isL8 (cx_g C0)) h2) in_8_10 nc_8 dX0_swapGain_47 ?_
    refine lv_aload_n hx hb dX0_swapGain_48 rfl (lv_at hl 2 rfl) ?_
    refine z_get C0 Z in_X0 rfl 0 (by decide) rfl tm_1_103 (cx_lt C0 (by decide)) rfl rfl dX0_swapGain_49 ?_
    refine z_get C0 Z in_X1 rfl 6 (by decide) rfl tm_1_58 (isL_lt0 (isL8 (cx_g C0))) (ent_L (isL8 (cx_g C0))) rfl dX0_swapGain_52 ?_
    refine lv_icmp_lt (tgt := 73) hx hb dX0_swapGain_55 (by decide) (fun c6 => ?_) (fun c6 => ?_)
    · replace hw := hw.1 c6
      exact b_X0_swapGain_73 l C0 _ _ _ _ hw Z (lv_sub hl [] rfl)
    · replace hw := hw.2 c6
      refine lv_aload hx hb dX0_swapGain_58 (lv_at hl 0 rfl) ?_
      refine lv_bipush (v := 8) hx hb dX0_swapGain_60 (by decide) ?_
      refine z_ialdk C0 Z (isL_B (isL8 (cx_g C0)) h4) (ent_B (isL8 (cx_g C0)) h4) in_8_10 nc_8 dX0_swapGain_62 ?_
      refine lv_aload_n hx hb dX0_swapGain_63 rfl (lv_at hl 2 rfl) ?_
      refine z_get C0 Z in_X0 rfl 0 (by decide) rfl tm_1_103 (cx_lt C0 (by decide)) rfl rfl dX0_swapGain_64 ?_
      refine z_get C0 Z in_X1 rfl 6 (by decide) rfl tm_1_58 (isL_lt0 (isL8 (cx_g C0))) (ent_L (isL8 (cx_g C0))) rfl dX0_swapGain_67 ?_
      refine lv_icmp_ge (tgt := 75) hx hb dX0_swapGain_70 (by decide) (fun c7 => ?_) (fun c7 => ?_)
      · replace hw := hw.1 c7
        refine lv_aload_n hx hb dX0_swapGain_75 rfl (lv_at hl 2 rfl) ?_
        refine z_get C0 Z in_X0 rfl 0 (by decide) rfl tm_1_103 (cx_lt C0 (by decide)) rfl rfl dX0_swapGain_76 ?_
        refine lv_iload_n hx hb dX0_swapGain_79 rfl (lv_at hl 3 rfl) ?_
        refine lv_aload hx hb dX0_swapGain_80 (lv_at hl 0 rfl) ?_
        refine lv_bipush (v := 8) hx hb dX0_swapGain_82 (by decide) ?_
        refine z_ialdk C0 Z (isL_B (isL8 (cx_g C0)) h4) (ent_B (isL8 (cx_g C0)) h4) in_8_10 nc_8 dX0_swapGain_84 ?_
        refine z_callVi C0 Z hl.1 (As := [.int a1, .int (v (8 + 14 + (ix a2)) 8)]) (rest := []) (k_X1_joyAt l (cx_g C0) (isL8 (cx_g C0)) hw) (gv_X1_joyAt tm_3_84) rfl ds_X1_joyAt ⟨Nat.le_of_ble_eq_true rfl, Nat.le_of_ble_eq_true rfl⟩ (ci := 1) rfl (isL_lt0 (isL8 (cx_g C0))) (ent_L (isL8 (cx_g C0))) rfl rfl (Nat.le_of_ble_eq_true rfl) ⟨Nat.le_of_ble_eq_true rfl, Nat.le_of_ble_eq_true rfl⟩ dX0_swapGain_85 (fun r9 v8 H locs hw Z => ?_)
        refine lv_aload_n hx hb dX0_swapGain_88 rfl (lv_at hl 2 rfl) ?_
        refine z_get C0 Z in_X0 rfl 0 (by decide) rfl tm_1_103 (cx_lt C0 (by decide)) rfl rfl dX0_swapGain_89 ?_
        refine lv_iload_n hx hb dX0_swapGain_92 rfl (lv_at hl 3 rfl) ?_
        refine lv_aload_n hx hb dX0_swapGain_93 rfl (lv_at hl 1 rfl) ?_
        refine lv_bipush (v := 8) hx hb dX0_swapGain_94 (by decide) ?_
        refine z_ialdk C0 Z (isL_B (isL8 (cx_g C0)) h2) (ent_B (isL8 (cx_g C0)) h2) in_8_10 nc_8 dX0_swapGain_96 ?_
        refine z_callVi C0 Z hl.1 (As := [.int a1, .int (v8 (8 + 14 + (ix a1)) 8)]) (rest := [.int r9]) (k_X1_joyAt l (cx_g C0) (isL8 (cx_g C0)) hw) (gv_X1_joyAt tm_3_84) rfl ds_X1_joyAt ⟨Nat.le_of_ble_eq_true rfl, Nat.le_of_ble_eq_true rfl⟩ (ci := 1) rfl (isL_lt0 (isL8 (cx_g C0))) (ent_L (isL8 (cx_g C0))) rfl rfl (Nat.le_of_ble_eq_true rfl) ⟨Nat.le_of_ble_eq_true rfl, Nat.le_of_ble_eq_true rfl⟩ dX0_swapGain_97 (fun r11 v10 H locs hw Z => ?_)
        refine lv_isub hx hb dX0_swapGain_100 ?_
        refine lv_istore (lv' := [(5, .int (r9 - r11)), (4, .ref (gad G (8 + 14 + (ix a2)))), (3, .ref (gad G (8 + 14 + (ix a1)))), (0, .ref (gad G 4)), (1, .int a1), (2, .int a2)]) hx hb dX0_swapGain_101 hl (by decide) rfl (fun ls hl => ?_)
        refine lv_aload_n hx hb dX0_swapGain_103 rfl (lv_at hl 3 rfl) ?_
        refine z_get C0 Z in_X0 rfl 0 (by decide) rfl tm_1_103 (cx_lt C0 (by decide)) rfl rfl dX0_swapGain_104 ?_
        refine lv_iload_n hx hb dX0_swapGain_107 rfl (lv_at hl 5 rfl) ?_
        refine lv_aload_n hx hb dX0_swapGain_108 rfl (lv_at hl 2 rfl) ?_
        refine lv_bipush (v := 8) hx hb dX0_swapGain_109 (by decide) ?_
        refine z_ialdk C0 Z (isL_B (isL8 (cx_g C0)) h2) (ent_B (isL8 (cx_g C0)) h2) in_8_10 nc_8 dX0_swapGain_111 ?_
        refine z_callVi C0 Z hl.1 (As := [.int a2, .int (v10 (8 + 14 + (ix a1)) 8)]) (rest := []) (k_X1_joyAt l (cx_g C0) (isL8 (cx_g C0)) hw) (gv_X1_joyAt tm_3_84) rfl ds_X1_joyAt ⟨Nat.le_of_ble_eq_true rfl, Nat.le_of_ble_eq_true rfl⟩ (ci := 1) rfl (isL_lt0 (isL8 (cx_g C0))) (ent_L (isL8 (cx_g C0))) rfl rfl (Nat.le_of_ble_eq_true rfl) ⟨Nat.le_of_ble_eq_true rfl, Nat.le_of_ble_eq_true rfl⟩ dX0_swapGain_112 (fun r13 v12 H locs hw Z => ?_)
        refine lv_aload_n hx hb dX0_swapGain_115 rfl (lv_at hl 3 rfl) ?_
        refine z_get C0 Z in_X0 rfl 0 (by decide) rfl tm_1_103 (cx_lt C0 (by decide)) rfl rfl dX0_swapGain_116 ?_
        refine lv_iload_n hx hb dX0_swapGain_119 rfl (lv_at hl 5 rfl) ?_
        refine lv_aload hx hb dX0_swapGain_120 (lv_at hl 1 rfl) ?_
        refine lv_bipush (v := 8) hx hb dX0_swapGain_122 (by decide) ?_
        refine z_ialdk C0 Z (isL_B (isL8 (cx_g C0)) h4) (ent_B (isL8 (cx_g C0)) h4) in_8_10 nc_8 dX0_swapGain_124 ?_
        refine z_callVi C0 Z hl.1 (As := [.int a2, .int (v12 (8 + 14 + (ix a2)) 8)]) (rest := [.int r13]) (k_X1_joyAt l (cx_g C0) (isL8 (cx_g C0)) hw) (gv_X1_joyAt tm_3_84) rfl ds_X1_joyAt ⟨Nat.le_of_ble_eq_true rfl, Nat.le_of_ble_eq_true rfl⟩ (ci := 1) rfl (isL_lt0 (isL8 (cx_g C0))) (ent_L (isL8 (cx_g C0))) rfl rfl (Nat.le_of_ble_eq_true rfl) ⟨Nat.le_of_ble_eq_true rfl, Nat.le_of_ble_eq_true rfl⟩ dX0_swapGain_125 (fun r15 v14 H locs hw Z => ?_)
        refine lv_isub hx hb dX0_swapGain_128 ?_
        refine lv_istore (lv' := [(6, .int (r13 - r15)), (5, .int (r9 - r11)), (4, .ref (gad G (8 + 14 + (ix a2)))), (3, .ref (gad G (8 + 14 + (ix a1)))), (0, .ref (gad G 4)), (1, .int a1), (2, .int a2)]) hx hb dX0_swapGain_129 hl (by decide) rfl (fun ls hl => ?_)
        refine lv_iload hx hb dX0_swapGain_131 (lv_at hl 1 rfl) ?_
        refine lv_if_le (tgt := 183) hx hb dX0_swapGain_133 (by decide) (fun c16 => ?_) (fun c16 => ?_)
        · replace hw := hw.1 c16
          exact b_X0_swapGain_183 l C0 _ _ _ _ hw Z (lv_sub hl [] rfl)
        · replace hw := hw.2 c16
          refine lv_iload hx hb dX0_swapGain_136 (lv_at hl 0 rfl) ?_
          refine lv_if_le (tgt := 183) hx hb dX0_swapGain_138 (by decide) (fun c17 => ?_) (fun c17 => ?_)
          · replace hw := hw.1 c17
            exact b_X0_swapGain_183 l C0 _ _ _ _ hw Z (lv_sub hl [] rfl)
          · replace hw := hw.2 c17
            refine lv_aload_n hx hb dX0_swapGain_141 rfl (lv_at hl 4 rfl) ?_
            refine z_get C0 Z in_X0 rfl 0 (by decide) rfl tm_1_103 (cx_lt C0 (by decide)) rfl rfl dX0_swapGain_142 ?_
            refine lv_iload_n hx hb dX0_swapGain_145 rfl (lv_at hl 5 rfl) ?_
            refine lv_aload hx hb dX0_swapGain_146 (lv_at hl 2 rfl) ?_
            refine lv_bipush (v := 8) hx hb dX0_swapGain_148 (by decide) ?_
            refine z_ialdk C0 Z (isL_B (isL8 (cx_g C0)) h4) (ent_B (isL8 (cx_g C0)) h4) in_8_10 nc_8 dX0_swapGain_150 ?_
            refine lv_aload hx hb dX0_swapGain_151 (lv_at hl 2 rfl) ?_
            refine lv_bipush (v := 9) hx hb dX0_swapGain_153 (by decide) ?_
            refine z_ialdk C0 Z (isL_B (isL8 (cx_g C0)) h4) (ent_B (isL8 (cx_g C0)) h4) in_9_10 nc_9 dX0_swapGain_155 ?_
            refine lv_iload_n hx hb dX0_swapGain_156 rfl (lv_at hl 6 rfl) ?_
            refine z_callVi C0 Z hl.1 (As := [.int a1, .int (v14 (8 + 14 + (ix a2)) 8), .int (v14 (8 + 14 + (ix a2)) 9), .int a2]) (rest := []) (k_X1_wouldClash l (cx_g C0) (isL8 (cx_g C0)) hw) (gv_X1_wouldClash tm_3_85) rfl ds_X1_wouldClash ⟨Nat.le_of_ble_eq_true rfl, Nat.le_of_ble_eq_true rfl⟩ (ci := 1) rfl (isL_lt0 (isL8 (cx_g C0))) (ent_L (isL8 (cx_g C0))) rfl rfl (Nat.le_of_ble_eq_true rfl) ⟨Nat.le_of_ble_eq_true rfl, Nat.le_of_ble_eq_true rfl⟩ dX0_swapGain_157 (fun r19 v18 H locs hw Z => ?_)
            refine lv_if_ne (tgt := 183) hx hb dX0_swapGain_160 (by decide) (fun c20 => ?_) (fun c20 => ?_)
            · replace hw := hw.1 c20
              exact b_X0_swapGain_183 l C0 _ _ _ _ hw Z (lv_sub hl [] rfl)
            · replace hw := hw.2 c20
              refine lv_aload_n hx hb dX0_swapGain_163 rfl (lv_at hl 4 rfl) ?_
              refine z_get C0 Z in_X0 rfl 0 (by decide) rfl tm_1_103 (cx_lt C0 (by decide)) rfl rfl dX0_swapGain_164 ?_
              refine lv_iload_n hx hb dX0_swapGain_167 rfl (lv_at hl 6 rfl) ?_
              refine lv_aload_n hx hb dX0_swapGain_168 rfl (lv_at hl 3 rfl) ?_
              refine lv_bipush (v := 8) hx hb dX0_swapGain_169 (by decide) ?_
              refine z_ialdk C0 Z (isL_B (isL8 (cx_g C0)) h2) (ent_B (isL8 (cx_g C0)) h2) in_8_10 nc_8 dX0_swapGain_171 ?_
              refine lv_aload_n hx hb dX0_swapGain_172 rfl (lv_at hl 3 rfl) ?_
              refine lv_bipush (v := 9) hx hb dX0_swapGain_173 (by decide) ?_
              refine z_ialdk C0 Z (isL_B (isL8 (cx_g C0)) h2) (ent_B (isL8 (cx_g C0)) h2) in_9_10 nc_9 dX0_swapGain_175 ?_
              refine lv_iload_n hx hb dX0_swapGain_176 rfl (lv_at hl 5 rfl) ?_
              refine z_callVi C0 Z hl.1 (As := [.int a2, .int (v18 (8 + 14 + (ix a1)) 8), .int (v18 (8 + 14 + (ix a1)) 9), .int a1]) (rest := []) (k_X1_wouldClash l (cx_g C0) (isL8 (cx_g C0)) hw) (gv_X1_wouldClash tm_3_85) rfl ds_X1_wouldClash ⟨Nat.le_of_ble_eq_true rfl, Nat.le_of_ble_eq_true rfl⟩ (ci := 1) rfl (isL_lt0 (isL8 (cx_g C0))) (ent_L (isL8 (cx_g C0))) rfl rfl (Nat.le_of_ble_eq_true rfl) ⟨Nat.le_of_ble_eq_true rfl, Nat.le_of_ble_eq_true rfl⟩ dX0_swapGain_177 (fun r22 v21 H locs hw Z => ?_)
              refine lv_if_eq (tgt := 185) hx hb dX0_swapGain_180 (by decide) (fun c23 => ?_) (fun c23 => ?_)
              · replace hw := hw.1 c23
                refine lv_iload hx hb dX0_swapGain_185 (lv_at hl 1 rfl) ?_
                refine lv_iload hx hb dX0_swapGain_187 (lv_at hl 0 rfl) ?_
                refine lv_iadd hx hb dX0_swapGain_189 ?_
                exact z_iret C0 Z hw dX0_swapGain_190
              · replace hw := hw.2 c23
                exact b_X0_swapGain_183 l C0 _ _ _ _ hw Z (lv_sub hl [] rfl)
      · replace hw := hw.2 c7
        exact b_X0_swapGain_73 l C0 _ _ _ _ hw Z (lv_sub hl [] rfl)
-- X0_buyoutGain: room (3, 71)
theorem dX0_buyoutGain_0 : decode cX0_buyoutGain 0 = .ok (.aload_n 0, 1) := by decide +kernel
theorem dX0_buyoutGain_1 : decode cX0_buyoutGain 1 = .ok (.getfield 15, 3) := by decide +kernel
theorem dX0_buyoutGain_4 : decode cX0_buyoutGain 4 = .ok (.getfield 19, 3) := by decide +kernel
theorem dX0_buyoutGain_7 : decode cX0_buyoutGain 7 = .ok (.iload_n 1, 1) := by decide +kernel
theorem dX0_buyoutGain_8 : decode cX0_buyoutGain 8 = .ok (.aaload, 1) := by decide +kernel
theorem dX0_buyoutGain_9 : decode cX0_buyoutGain 9 = .ok (.astore_n 3, 1) := by decide +kernel
theorem dX0_buyoutGain_10 : decode cX0_buyoutGain 10 = .ok (.aload_n 0, 1) := by decide +kernel
theorem dX0_buyoutGain_11 : decode cX0_buyoutGain 11 = .ok (.getfield 15, 3) := by decide +kernel
theorem dX0_buyoutGain_14 : decode cX0_buyoutGain 14 = .ok (.getfield 19, 3) := by decide +kernel
theorem dX0_buyoutGain_17 : decode cX0_buyoutGain 17 = .ok (.iload_n 2, 1) := by decide +kernel
theorem dX0_buyoutGain_18 : decode cX0_buyoutGain 18 = .ok (.aaload, 1) := by decide +kernel
theorem dX0_buyoutGain_19 : decode cX0_buyoutGain 19 = .ok (.bipush 8, 2) := by decide +kernel
theorem dX0_buyoutGain_21 : decode cX0_buyoutGain 21 = .ok (.iaload, 1) := by decide +kernel
theorem dX0_buyoutGain_22 : decode cX0_buyoutGain 22 = .ok (.istore 4, 2) := by decide +kernel
theorem dX0_buyoutGain_24 : decode cX0_buyoutGain 24 = .ok (.iload 4, 2) := by decide +kernel
theorem dX0_buyoutGain_26 : decode cX0_buyoutGain 26 = .ok (.aload_n 0, 1) := by decide +kernel
theorem dX0_buyoutGain_27 : decode cX0_buyoutGain 27 = .ok (.getfield 15, 3) := by decide +kernel
theorem dX0_buyoutGain_30 : decode cX0_buyoutGain 30 = .ok (.getfield 25, 3) := by decide +kernel
theorem dX0_buyoutGain_33 : decode cX0_buyoutGain 33 = .ok (.if_icmp .lt 18, 3) := by decide +kernel
theorem dX0_buyoutGain_36 : decode cX0_buyoutGain 36 = .ok (.iload 4, 2) := by decide +kernel
theorem dX0_buyoutGain_38 : decode cX0_buyoutGain 38 = .ok (.aload_n 3, 1) := by decide +kernel
theorem dX0_buyoutGain_39 : decode cX0_buyoutGain 39 = .ok (.iconst 4, 1) := by decide +kernel
theorem dX0_buyoutGain_40 : decode cX0_buyoutGain 40 = .ok (.iaload, 1) := by decide +kernel
theorem dX0_buyoutGain_41 : decode cX0_buyoutGain 41 = .ok (.isub, 1) := by decide +kernel
theorem dX0_buyoutGain_42 : decode cX0_buyoutGain 42 = .ok (.invokestatic 37, 3) := by decide +kernel
theorem dX0_buyoutGain_45 : decode cX0_buyoutGain 45 = .ok (.aload_n 3, 1) := by decide +kernel
theorem dX0_buyoutGain_46 : decode cX0_buyoutGain 46 = .ok (.iconst 5, 1) := by decide +kernel
theorem dX0_buyoutGain_47 : decode cX0_buyoutGain 47 = .ok (.iaload, 1) := by decide +kernel
theorem dX0_buyoutGain_48 : decode cX0_buyoutGain 48 = .ok (.if_icmp .le 5, 3) := by decide +kernel
theorem dX0_buyoutGain_51 : decode cX0_buyoutGain 51 = .ok (.iconst 0, 1) := by decide +kernel
theorem dX0_buyoutGain_52 : decode cX0_buyoutGain 52 = .ok (.ireturn, 1) := by decide +kernel
theorem dX0_buyoutGain_53 : decode cX0_buyoutGain 53 = .ok (.aload_n 0, 1) := by decide +kernel
theorem dX0_buyoutGain_54 : decode cX0_buyoutGain 54 = .ok (.getfield 15, 3) := by decide +kernel
theorem dX0_buyoutGain_57 : decode cX0_buyoutGain 57 = .ok (.iload_n 2, 1) := by decide +kernel
theorem dX0_buyoutGain_58 : decode cX0_buyoutGain 58 = .ok (.iload 4, 2) := by decide +kernel
theorem dX0_buyoutGain_60 : decode cX0_buyoutGain 60 = .ok (.invokevirtual 29, 3) := by decide +kernel
theorem dX0_buyoutGain_63 : decode cX0_buyoutGain 63 = .ok (.istore 5, 2) := by decide +kernel
theorem dX0_buyoutGain_65 : decode cX0_buyoutGain 65 = .ok (.aload_n 0, 1) := by decide +kernel
theorem dX0_buyoutGain_66 : decode cX0_buyoutGain 66 = .ok (.getfield 15, 3) := by decide +kernel
theorem dX0_buyoutGain_69 : decode cX0_buyoutGain 69 = .ok (.iload_n 1, 1) := by decide +kernel
theorem dX0_buyoutGain_70 : decode cX0_buyoutGain 70 = .ok (.iload 4, 2) := by decide +kernel
theorem dX0_buyoutGain_72 : decode cX0_buyoutGain 72 = .ok (.invokevirtual 29, 3) := by decide +kernel
theorem dX0_buyoutGain_75 : decode cX0_buyoutGain 75 = .ok (.istore 6, 2) := by decide +kernel
theorem dX0_buyoutGain_77 : decode cX0_buyoutGain 77 = .ok (.aload_n 0, 1) := by decide +kernel
theorem dX0_buyoutGain_78 : decode cX0_buyoutGain 78 = .ok (.iload_n 1, 1) := by decide +kernel
theorem dX0_buyoutGain_79 : decode cX0_buyoutGain 79 = .ok (.iload_n 2, 1) := by decide +kernel
theorem dX0_buyoutGain_80 : decode cX0_buyoutGain 80 = .ok (.invokevirtual 43, 3) := by decide +kernel
theorem dX0_buyoutGain_83 : decode cX0_buyoutGain 83 = .ok (.istore 7, 2) := by decide +kernel
theorem dX0_buyoutGain_85 : decode cX0_buyoutGain 85 = .ok (.iload 7, 2) := by decide +kernel
theorem dX0_buyoutGain_87 : decode cX0_buyoutGain 87 = .ok (.iload 5, 2) := by decide +kernel
theorem dX0_buyoutGain_89 : decode cX0_buyoutGain 89 = .ok (.if_icmp .le 48, 3) := by decide +kernel
theorem dX0_buyoutGain_92 : decode cX0_buyoutGain 92 = .ok (.iload 7, 2) := by decide +kernel
theorem dX0_buyoutGain_94 : decode cX0_buyoutGain 94 = .ok (.iload 6, 2) := by decide +kernel
theorem dX0_buyoutGain_96 : decode cX0_buyoutGain 96 = .ok (.if_icmp .ge 41, 3) := by decide +kernel
theorem dX0_buyoutGain_99 : decode cX0_buyoutGain 99 = .ok (.aload_n 0, 1) := by decide +kernel
theorem dX0_buyoutGain_100 : decode cX0_buyoutGain 100 = .ok (.getfield 15, 3) := by decide +kernel
theorem dX0_buyoutGain_103 : decode cX0_buyoutGain 103 = .ok (.getfield 46, 3) := by decide +kernel
theorem dX0_buyoutGain_106 : decode cX0_buyoutGain 106 = .ok (.aload_n 3, 1) := by decide +kernel
theorem dX0_buyoutGain_107 : decode cX0_buyoutGain 107 = .ok (.iconst 0, 1) := by decide +kernel
theorem dX0_buyoutGain_108 : decode cX0_buyoutGain 108 = .ok (.iaload, 1) := by decide +kernel
theorem dX0_buyoutGain_109 : decode cX0_buyoutGain 109 = .ok (.aaload, 1) := by decide +kernel
theorem dX0_buyoutGain_110 : decode cX0_buyoutGain 110 = .ok (.iconst 0, 1) := by decide +kernel
theorem dX0_buyoutGain_111 : decode cX0_buyoutGain 111 = .ok (.iaload, 1) := by decide +kernel
theorem dX0_buyoutGain_112 : decode cX0_buyoutGain 112 = .ok (.iload 7, 2) := by decide +kernel
theorem dX0_buyoutGain_114 : decode cX0_buyoutGain 114 = .ok (.if_icmp .lt 23, 3) := by decide +kernel
theorem dX0_buyoutGain_117 : decode cX0_buyoutGain 117 = .ok (.aload_n 0, 1) := by decide +kernel
theorem dX0_buyoutGain_118 : decode cX0_buyoutGain 118 = .ok (.getfield 15, 3) := by decide +kernel
theorem dX0_buyoutGain_121 : decode cX0_buyoutGain 121 = .ok (.iload_n 1, 1) := by decide +kernel
theorem dX0_buyoutGain_122 : decode cX0_buyoutGain 122 = .ok (.iload 4, 2) := by decide +kernel
theorem dX0_buyoutGain_124 : decode cX0_buyoutGain 124 = .ok (.iload 4, 2) := by decide +kernel
theorem dX0_buyoutGain_126 : decode cX0_buyoutGain 126 = .ok (.aload_n 3, 1) := by decide +kernel
theorem dX0_buyoutGain_127 : decode cX0_buyoutGain 127 = .ok (.iconst 3, 1) := by decide +kernel
theorem dX0_buyoutGain_128 : decode cX0_buyoutGain 128 = .ok (.iaload, 1) := by decide +kernel
theorem dX0_buyoutGain_129 : decode cX0_buyoutGain 129 = .ok (.iadd, 1) := by decide +kernel
theorem dX0_buyoutGain_130 : decode cX0_buyoutGain 130 = .ok (.iload_n 2, 1) := by decide +kernel
theorem dX0_buyoutGain_131 : decode cX0_buyoutGain 131 = .ok (.invokevirtual 33, 3) := by decide +kernel
theorem dX0_buyoutGain_134 : decode cX0_buyoutGain 134 = .ok (.ifCond .eq 5, 3) := by decide +kernel
theorem dX0_buyoutGain_137 : decode cX0_buyoutGain 137 = .ok (.iconst 0, 1) := by decide +kernel
theorem dX0_buyoutGain_138 : decode cX0_buyoutGain 138 = .ok (.ireturn, 1) := by decide +kernel
theorem dX0_buyoutGain_139 : decode cX0_buyoutGain 139 = .ok (.iload 6, 2) := by decide +kernel
theorem dX0_buyoutGain_141 : decode cX0_buyoutGain 141 = .ok (.iload 5, 2) := by decide +kernel
theorem dX0_buyoutGain_143 : decode cX0_buyoutGain 143 = .ok (.isub, 1) := by decide +kernel
theorem dX0_buyoutGain_144 : decode cX0_buyoutGain 144 = .ok (.ireturn, 1) := by decide +kernel
def w_X0_buyoutGain_51  (Q : Int32 → V3 → Prop) (v : V3) : Prop := Q 0 v
def w_X0_buyoutGain_137  (Q : Int32 → V3 → Prop) (v : V3) : Prop := Q 0 v
def w_X0_buyoutGain (a1 : Int32) (a2 : Int32) (v : V3) (Q : Int32 → V3 → Prop) : Prop := vp_in a1 40 ∧ vp_in a2 40 ∧ (((v (8 + 14 + (ix a2)) 8) < (v 8 6) → w_X0_buyoutGain_51 Q v) ∧ (¬ (v (8 + 14 + (ix a2)) 8) < (v 8 6) → (((zabs ((v (8 + 14 + (ix a2)) 8) - (v (8 + 14 + (ix a1)) 4))) ≤ (v (8 + 14 + (ix a1)) 5) → w_X1_joyAt 8 a2 (v (8 + 14 + (ix a2)) 8) v (fun r8 v7 => w_X1_joyAt 8 a1 (v (8 + 14 + (ix a2)) 8) v7 (fun r10 v9 => w_X0_priceOf a1 a2 v9 (fun r12 v11 => ((r12 ≤ r8 → w_X0_buyoutGain_137 Q v11) ∧ (¬ r12 ≤ r8 → ((r10 ≤ r12 → w_X0_buyoutGain_137 Q v11) ∧ (¬ r10 ≤ r12 → vp_in (v11 (8 + 14 + (ix a1)) 0) 8 ∧ (((v11 (8 + 6 + (ix (v11 (8 + 14 + (ix a1)) 0))) 0) < r12 → w_X0_buyoutGain_137 Q v11) ∧ (¬ (v11 (8 + 6 + (ix (v11 (8 + 14 + (ix a1)) 0))) 0) < r12 → w_X1_wouldClash 8 a1 (v (8 + 14 + (ix a2)) 8) ((v (8 + 14 + (ix a2)) 8) + (v11 (8 + 14 + (ix a1)) 3)) a2 v11 (fun r19 v18 => ((r19 = 0 → Q (r10 - r8) v18) ∧ (¬ r19 = 0 → w_X0_buyoutGain_137 Q v18))))))))))))) ∧ (¬ (zabs ((v (8 + 14 + (ix a2)) 8) - (v (8 + 14 + (ix a1)) 4))) ≤ (v (8 + 14 + (ix a1)) 5) → w_X0_buyoutGain_51 Q v))))
set_option maxRecDepth 100000 in
set_option maxHeartbeats 4000000 in
theorem b_X0_buyoutGain_51 {p : Program} (l : Launch) {e : Env} {s : State} {m : MethodId} {args : Array Value} {below : List Frame} {meth : Method} {c : Code} {G : zG}   (C0 : Cx G RX0 cX0_buyoutGain 8 (some .int) p s m args meth c) {Q : Int32 → V3 → Prop} : ∀ (v : V3) (H : Heap) (locs : List Loc) (ls : Array Slot), w_X0_buyoutGain_51 Q v → Zs G s v H locs → lv_has ls 8 [] → W p l e { frames := 3, cells := 0, slots := 0, locals := 71 } s m args below meth c H locs 0 0 (MQ below (QiZ G Q) args s 0 0 (zA G)) (F0 m 51 ls []) := by
  have hx := C0.1
  have hb := C0.2.1
  intro v H locs ls hw Z hl
  rw [w_X0_buyoutGain_51] at hw
  refine lv_iconst (v := 0) hx hb dX0_buyoutGain_51 (by decide) ?_
  exact z_iret C0 Z hw dX0_buyoutGain_52
set_option maxRecDepth 100000 in
set_option maxHeartbeats 4000000 in
theorem b_X0_buyoutGain_137 {p : Program} (l : Launch) {e : Env} {s : State} {m : MethodId} {args : Array Value} {below : List Frame} {meth : Method} {c : Code} {G : zG}   (C0 : Cx G RX0 cX0_buyoutGain 8 (some .int) p s m args meth c) {Q : Int32 → V3 → Prop} : ∀ (v : V3) (H : Heap) (locs : List Loc) (ls : Array Slot), w_X0_buyoutGain_137 Q v → Zs G s v H locs → lv_has ls 8 [] → W p l e { frames := 3, cells := 0, slots := 0, locals := 71 } s m args below meth c H locs 0 0 (MQ below (QiZ G Q) args s 0 0 (zA G)) (F0 m 137 ls []) := by
  have hx := C0.1
  have hb := C0.2.1
  intro v H locs ls hw Z hl
  rw [w_X0_buyoutGain_137] at hw
  refine lv_iconst (v := 0) hx hb dX0_buyoutGain_137 (by decide) ?_
  exact z_iret C0 Z hw dX0_buyoutGain_138
set_option maxRecDepth 100000 in
set_option maxHeartbeats 4000000 in
theorem k_X0_buyoutGain (l : Launch) {G : zG} (hg : 116 ≤ gn G) {a1 : Int32} {a2 : Int32}  {v : V3} {Q : Int32 → V3 → Prop} (hw : w_X0_buyoutGain a1 a2 v Q) : Mz l yX0_buyoutGain cX0_buyoutGain 8 (some .int) 3 71 G [.ref (gad G 4), .int a1, .int a2] v (QiZ G Q) := by
  rw [w_X0_buyoutGain] at hw
  refine z_ofW hg (by decide) (Nat.le_of_ble_eq_true rfl) ?_
  intro p e s m args below meth c ls C0 Z hl
  have hx := C0.1
  have hb := C0.2.1
  replace hl : lv_has ls 8 [(0, .ref (gad G 4)), (1, .int a1), (2, .int a2)] := hl
  generalize s.heap = H at Z ⊢
  generalize ([] : List Loc) = locs at Z ⊢
  refine lv_aload_n hx hb dX0_buyoutGain_0 rfl (lv_at hl 0 rfl) ?_
  refine z_get C0 Z in_X0 rfl 0 (by decide) rfl tm_1_103 (cx_lt C0 (by decide)) rfl rfl dX0_buyoutGain_1 ?_
  refine z_get C0 Z in_X1 rfl 2 (by decide) rfl tm_1_50 (isL_lt0 (isL8 (cx_g C0))) (ent_L (isL8 (cx_g C0))) rfl dX0_buyoutGain_4 ?_
  refine lv_iload_n hx hb dX0_buyoutGain_7 rfl (lv_at hl 1 rfl) ?_
  obtain ⟨h1, hw⟩ := hw
  have h2 := vp_lt h1
  refine z_aald C0 Z (isL_lt (isL8 (cx_g C0)) 3 (by decide)) (ent_L3 (isL8 (cx_g C0))) h1 dX0_buyoutGain_8 ?_
  refine lv_astore_n (lv' := [(3, .ref (gad G (8 + 14 + (ix a1)))), (0, .ref (gad G 4)), (1, .int a1), (2, .int a2)]) hx hb dX0_buyoutGain_9 rfl hl (by decide) rfl (fun ls hl => ?_)
  refine lv_aload_n hx hb dX0_buyoutGain_10 rfl (lv_at hl 1 rfl) ?_
  refine z_get C0 Z in_X0 rfl 0 (by decide) rfl tm_1_103 (cx_lt C0 (by decide)) rfl rfl dX0_buyoutGain_11 ?_
  refine z_get C0 Z in_X1 rfl 2 (by decide) rfl tm_1_50 (isL_lt0 (isL8 (cx_g C0))) (ent_L (isL8 (cx_g C0))) rfl dX0_buyoutGain_14 ?_
  refine lv_iload_n hx hb dX0_buyoutGain_17 rfl (lv_at hl 3 rfl) ?_
  obtain ⟨h3, hw⟩ := hw
  have h4 := vp_lt h3
  refine z_aald C0 Z (isL_lt (isL8 (cx_g C0)) 3 (by decide)) (ent_L3 (isL8 (cx_g C0))) h3 dX0_buyoutGain_18 ?_
  refine lv_bipush (v := 8) hx hb dX0_buyoutGain_19 (by decide) ?_
  refine z_ialdk C0 Z (isL_B (isL8 (cx_g C0)) h4) (ent_B (isL8 (cx_g C0)) h4) in_8_10 nc_8 dX0_buyoutGain_21 ?_
  refine lv_istore (lv' := [(4, .int (v (8 + 14 + (ix a2)) 8)), (3, .ref (gad G (8 + 14 + (ix a1)))), (0, .ref (gad G 4)), (1, .int a1), (2, .int a2)]) hx hb dX0_buyoutGain_22 hl (by decide) rfl (fun ls hl => ?_)
  refine lv_iload hx hb dX0_buyoutGain_24 (lv_at hl 0 rfl) ?_
  refine lv_aload_n hx hb dX0_buyoutGain_26 rfl (lv_at hl 2 rfl) ?_
  refine z_get C0 Z in_X0 rfl 0 (by decide) rfl tm_1_103 (cx_lt C0 (by decide)) rfl rfl dX0_buyoutGain_27 ?_
  refine z_get C0 Z in_X1 rfl 6 (by decide) rfl tm_1_58 (isL_lt0 (isL8 (cx_g C0))) (ent_L (isL8 (cx_g C0))) rfl dX0_buyoutGain_30 ?_
  refine lv_icmp_lt (tgt := 51) hx hb dX0_buyoutGain_33 (by decide) (fun c5 => ?_) (fun c5 => ?_)
  · replace hw := hw.1 c5
    exact b_X0_buyoutGain_51 l C0 _ _ _ _ hw Z (lv_sub hl [] rfl)
  · replace hw := hw.2 c5
    refine lv_iload hx hb dX0_buyoutGain_36 (lv_at hl 0 rfl) ?_
    refine lv_aload_n hx hb dX0_buyoutGain_38 rfl (lv_at hl 1 rfl) ?_
    refine lv_iconst (v := 4) hx hb dX0_buyoutGain_39 (by decide) ?_
    refine z_ialdk C0 Z (isL_B (isL8 (cx_g C0)) h2) (ent_B (isL8 (cx_g C0)) h2) in_4_10 nc_4 dX0_buyoutGain_40 ?_
    refine lv_isub hx hb dX0_buyoutGain_41 ?_
    refine z_abs C0 hl.1 tm_3_90 (Nat.le_of_ble_eq_true rfl) (Nat.le_of_ble_eq_true rfl) (Nat.le_of_ble_eq_true rfl) (Nat.le_of_ble_eq_true rfl) dX0_buyoutGain_42 ?_
    refine lv_aload_n hx hb dX0_buyoutGain_45 rfl (lv_at hl 1 rfl) ?_
    refine lv_iconst (v := 5) hx hb dX0_buyoutGain_46 (by decide) ?_
    refine z_ialdk C0 Z (isL_B (isL8 (cx_g C0)) h2) (ent_B (isL8 (cx_g C0)) h2) in_5_10 nc_5 dX0_buyoutGain_47 ?_
    refine lv_icmp_le (tgt := 53) hx hb dX0_buyoutGain_48 (by decide) (fun c6 => ?_) (fun c6 => ?_)
    · replace hw := hw.1 c6
      refine lv_aload_n hx hb dX0_buyoutGain_53 rfl (lv_at hl 2 rfl) ?_
      refine z_get C0 Z in_X0 rfl 0 (by decide) rfl tm_1_103 (cx_lt C0 (by decide)) rfl rfl dX0_buyoutGain_54 ?_
      refine lv_iload_n hx hb dX0_buyoutGain_57 rfl (lv_at hl 4 rfl) ?_
      refine lv_iload hx hb dX0_buyoutGain_58 (lv_at hl 0 rfl) ?_
      refine z_callVi C0 Z hl.1 (As := [.int a2, .int (v (8 + 14 + (ix a2)) 8)]) (rest := []) (k_X1_joyAt l (cx_g C0) (isL8 (cx_g C0)) hw) (gv_X1_joyAt tm_3_84) rfl ds_X1_joyAt ⟨Nat.le_of_ble_eq_true rfl, Nat.le_of_ble_eq_true rfl⟩ (ci := 1) rfl (isL_lt0 (isL8 (cx_g C0))) (ent_L (isL8 (cx_g C0))) rfl rfl (Nat.le_of_ble_eq_true rfl) ⟨Nat.le_of_ble_eq_true rfl, Nat.le_of_ble_eq_true rfl⟩ dX0_buyoutGain_60 (fun r8 v7 H locs hw Z => ?_)
      refine lv_istore (lv' := [(5, .int r8), (4, .int (v (8 + 14 + (ix a2)) 8)), (3, .ref (gad G (8 + 14 + (ix a1)))), (0, .ref (gad G 4)), (1, .int a1), (2, .int a2)]) hx hb dX0_buyoutGain_63 hl (by decide) rfl (fun ls hl => ?_)
      refine lv_aload_n hx hb dX0_buyoutGain_65 rfl (lv_at hl 3 rfl) ?_
      refine z_get C0 Z in_X0 rfl 0 (by decide) rfl tm_1_103 (cx_lt C0 (by decide)) rfl rfl dX0_buyoutGain_66 ?_
      refine lv_iload_n hx hb dX0_buyoutGain_69 rfl (lv_at hl 4 rfl) ?_
      refine lv_iload hx hb dX0_buyoutGain_70 (lv_at hl 1 rfl) ?_
      refine z_callVi C0 Z hl.1 (As := [.int a1, .int (v (8 + 14 + (ix a2)) 8)]) (rest := []) (k_X1_joyAt l (cx_g C0) (isL8 (cx_g C0)) hw) (gv_X1_joyAt tm_3_84) rfl ds_X1_joyAt ⟨Nat.le_of_ble_eq_true rfl, Nat.le_of_ble_eq_true rfl⟩ (ci := 1) rfl (isL_lt0 (isL8 (cx_g C0))) (ent_L (isL8 (cx_g C0))) rfl rfl (Nat.le_of_ble_eq_true rfl) ⟨Nat.le_of_ble_eq_true rfl, Nat.le_of_ble_eq_true rfl⟩ dX0_buyoutGain_72 (fun r10 v9 H locs hw Z => ?_)
      refine lv_istore (lv' := [(6, .int r10), (5, .int r8), (4, .int (v (8 + 14 + (ix a2)) 8)), (3, .ref (gad G (8 + 14 + (ix a1)))), (0, .ref (gad G 4)), (1, .int a1), (2, .int a2)]) hx hb dX0_buyoutGain_75 hl (by decide) rfl (fun ls hl => ?_)
      refine lv_aload_n hx hb dX0_buyoutGain_77 rfl (lv_at hl 4 rfl) ?_
      refine lv_iload_n hx hb dX0_buyoutGain_78 rfl (lv_at hl 5 rfl) ?_
      refine lv_iload_n hx hb dX0_buyoutGain_79 rfl (lv_at hl 6 rfl) ?_
      refine z_callVi C0 Z hl.1 (As := [.int a1, .int a2]) (rest := []) (k_X0_priceOf l (cx_g C0) hw) (gv_X0_priceOf tm_3_91) rfl ds_X0_priceOf ⟨Nat.le_of_ble_eq_true rfl, Nat.le_of_ble_eq_true rfl⟩ (ci := 0) rfl (cx_lt C0 (by decide)) rfl rfl rfl (Nat.le_of_ble_eq_true rfl) ⟨Nat.le_of_ble_eq_true rfl, Nat.le_of_ble_eq_true rfl⟩ dX0_buyoutGain_80 (fun r12 v11 H locs hw Z => ?_)
      refine lv_istore (lv' := [(7, .int r12), (6, .int r10), (5, .int r8), (4, .int (v (8 + 14 + (ix a2)) 8)), (3, .ref (gad G (8 + 14 + (ix a1)))), (0, .ref (gad G 4)), (1, .int a1), (2, .int a2)]) hx hb dX0_buyoutGain_83 hl (by decide) rfl (fun ls hl => ?_)
      refine lv_iload hx hb dX0_buyoutGain_85 (lv_at hl 0 rfl) ?_
      refine lv_iload hx hb dX0_buyoutGain_87 (lv_at hl 2 rfl) ?_
      refine lv_icmp_le (tgt := 137) hx hb dX0_buyoutGain_89 (by decide) (fun c13 => ?_) (fun c13 => ?_)
      · replace hw := hw.1 c13
        exact b_X0_buyoutGain_137 l C0 _ _ _ _ hw Z (lv_sub hl [] rfl)
      · replace hw := hw.2 c13
        refine lv_iload hx hb dX0_buyoutGain_92 (lv_at hl 0 rfl) ?_
        refine lv_iload hx hb dX0_buyoutGain_94 (lv_at hl 1 rfl) ?_
        refine lv_icmp_ge (tgt := 137) hx hb dX0_buyoutGain_96 (by decide) (fun c14 => ?_) (fun c14 => ?_)
        · replace hw := hw.1 c14
          exact b_X0_buyoutGain_137 l C0 _ _ _ _ hw Z (lv_sub hl [] rfl)
        · replace hw := hw.2 c14
          refine lv_aload_n hx hb dX0_buyoutGain_99 rfl (lv_at hl 5 rfl) ?_
          refine z_get C0 Z in_X0 rfl 0 (by decide) rfl tm_1_103 (cx_lt C0 (by decide)) rfl rfl dX0_buyoutGain_100 ?_
          refine z_get C0 Z in_X1 rfl 1 (by decide) rfl tm_1_47 (isL_lt0 (isL8 (cx_g C0))) (ent_L (isL8 (cx_g C0))) rfl dX0_buyoutGain_103 ?_
          refine lv_aload_n hx hb dX0_buyoutGain_106 rfl (lv_at hl 4 rfl) ?_
          refine lv_iconst (v := 0) hx hb dX0_buyoutGain_107 (by decide) ?_
          refine z_ialdk C0 Z (isL_B (isL8 (cx_g C0)) h2) (ent_B (isL8 (cx_g C0)) h2) in_0_10 nc_0 dX0_buyoutGain_108 ?_
          obtain ⟨h15, hw⟩ := hw
          have h16 := vp_lt h15
          refine z_aald C0 Z (isL_lt (isL8 (cx_g C0)) 2 (by decide)) (ent_L2 (isL8 (cx_g C0))) h15 dX0_buyoutGain_109 ?_
          refine lv_iconst (v := 0) hx hb dX0_buyoutGain_110 (by decide) ?_
          refine z_ialdk C0 Z (isL_O (isL8 (cx_g C0)) h16) (ent_O (isL8 (cx_g C0)) h16) in_0_8 nc_0 dX0_buyoutGain_111 ?_
          refine lv_iload hx hb dX0_buyoutGain_112 (lv_at hl 0 rfl) ?_
          refine lv_icmp_lt (tgt := 137) hx hb dX0_buyoutGain_114 (by decide) (fun c17 => ?_) (fun c17 => ?_)
          · replace hw := hw.1 c17
            exact b_X0_buyoutGain_137 l C0 _ _ _ _ hw Z (lv_sub hl [] rfl)
          · replace hw := hw.2 c17
            refine lv_aload_n hx hb dX0_buyoutGain_117 rfl (lv_at hl 5 rfl) ?_
            refine z_get C0 Z in_X0 rfl 0 (by decide) rfl tm_1_103 (cx_lt C0 (by decide)) rfl rfl dX0_buyoutGain_118 ?_
            refine lv_iload_n hx hb dX0_buyoutGain_121 rfl (lv_at hl 6 rfl) ?_
            refine lv_iload hx hb dX0_buyoutGain_122 (lv_at hl 3 rfl) ?_
            refine lv_iload hx hb dX0_buyoutGain_124 (lv_at hl 3 rfl) ?_
            refine lv_aload_n hx hb dX0_buyoutGain_126 rfl (lv_at hl 4 rfl) ?_
            refine lv_iconst (v := 3) hx hb dX0_buyoutGain_127 (by decide) ?_
            refine z_ialdk C0 Z (isL_B (isL8 (cx_g C0)) h2) (ent_B (isL8 (cx_g C0)) h2) in_3_10 nc_3 dX0_buyoutGain_128 ?_
            refine lv_iadd hx hb dX0_buyoutGain_129 ?_
            refine lv_iload_n hx hb dX0_buyoutGain_130 rfl (lv_at hl 7 rfl) ?_
            refine z_callVi C0 Z hl.1 (As := [.int a1, .int (v (8 + 14 + (ix a2)) 8), .int ((v (8 + 14 + (ix a2)) 8) + (v11 (8 + 14 + (ix a1)) 3)), .int a2]) (rest := []) (k_X1_wouldClash l (cx_g C0) (isL8 (cx_g C0)) hw) (gv_X1_wouldClash tm_3_85) rfl ds_X1_wouldClash ⟨Nat.le_of_ble_eq_true rfl, Nat.le_of_ble_eq_true rfl⟩ (ci := 1) rfl (isL_lt0 (isL8 (cx_g C0))) (ent_L (isL8 (cx_g C0))) rfl rfl (Nat.le_of_ble_eq_true rfl) ⟨Nat.le_of_ble_eq_true rfl, Nat.le_of_ble_eq_true rfl⟩ dX0_buyoutGain_131 (fun r19 v18 H locs hw Z => ?_)
            refine lv_if_eq (tgt := 139) hx hb dX0_buyoutGain_134 (by decide) (fun c20 => ?_) (fun c20 => ?_)
            · replace hw := hw.1 c20
              refine lv_iload hx hb dX0_buyoutGain_139 (lv_at hl 1 rfl) ?_
              refine lv_iload hx hb dX0_buyoutGain_141 (lv_at hl 2 rfl) ?_
              refine lv_isub hx hb dX0_buyoutGain_143 ?_
              exact z_iret C0 Z hw dX0_buyoutGain_144
            · replace hw := hw.2 c20
              exact b_X0_buyoutGain_137 l C0 _ _ _ _ hw Z (lv_sub hl [] rfl)
    · replace hw := hw.2 c6
      exact b_X0_buyoutGain_51 l C0 _ _ _ _ hw Z (lv_sub hl [] rfl)
-- X0_countBargain: room (0, 0)
theorem dX0_countBargain_0 : decode cX0_countBargain 0 = .ok (.aload_n 0, 1) := by decide +kernel
theorem dX0_countBargain_1 : decode cX0_countBargain 1 = .ok (.getfield 15, 3) := by decide +kernel
theorem dX0_countBargain_4 : decode cX0_countBargain 4 = .ok (.getfield 46, 3) := by decide +kernel
theorem dX0_countBargain_7 : decode cX0_countBargain 7 = .ok (.aload_n 0, 1) := by decide +kernel
theorem dX0_countBargain_8 : decode cX0_countBargain 8 = .ok (.getfield 15, 3) := by decide +kernel
theorem dX0_countBargain_11 : decode cX0_countBargain 11 = .ok (.getfield 19, 3) := by decide +kernel
theorem dX0_countBargain_14 : decode cX0_countBargain 14 = .ok (.iload_n 1, 1) := by decide +kernel
theorem dX0_countBargain_15 : decode cX0_countBargain 15 = .ok (.aaload, 1) := by decide +kernel
theorem dX0_countBargain_16 : decode cX0_countBargain 16 = .ok (.iconst 0, 1) := by decide +kernel
theorem dX0_countBargain_17 : decode cX0_countBargain 17 = .ok (.iaload, 1) := by decide +kernel
theorem dX0_countBargain_18 : decode cX0_countBargain 18 = .ok (.aaload, 1) := by decide +kernel
theorem dX0_countBargain_19 : decode cX0_countBargain 19 = .ok (.bipush 7, 2) := by decide +kernel
theorem dX0_countBargain_21 : decode cX0_countBargain 21 = .ok (.dup2, 1) := by decide +kernel
theorem dX0_countBargain_22 : decode cX0_countBargain 22 = .ok (.iaload, 1) := by decide +kernel
theorem dX0_countBargain_23 : decode cX0_countBargain 23 = .ok (.iconst 1, 1) := by decide +kernel
theorem dX0_countBargain_24 : decode cX0_countBargain 24 = .ok (.iadd, 1) := by decide +kernel
theorem dX0_countBargain_25 : decode cX0_countBargain 25 = .ok (.iastore, 1) := by decide +kernel
theorem dX0_countBargain_26 : decode cX0_countBargain 26 = .ok (.aload_n 0, 1) := by decide +kernel
theorem dX0_countBargain_27 : decode cX0_countBargain 27 = .ok (.getfield 15, 3) := by decide +kernel
theorem dX0_countBargain_30 : decode cX0_countBargain 30 = .ok (.getfield 46, 3) := by decide +kernel
theorem dX0_countBargain_33 : decode cX0_countBargain 33 = .ok (.aload_n 0, 1) := by decide +kernel
theorem dX0_countBargain_34 : decode cX0_countBargain 34 = .ok (.getfield 15, 3) := by decide +kernel
theorem dX0_countBargain_37 : decode cX0_countBargain 37 = .ok (.getfield 19, 3) := by decide +kernel
theorem dX0_countBargain_40 : decode cX0_countBargain 40 = .ok (.iload_n 2, 1) := by decide +kernel
theorem dX0_countBargain_41 : decode cX0_countBargain 41 = .ok (.aaload, 1) := by decide +kernel
theorem dX0_countBargain_42 : decode cX0_countBargain 42 = .ok (.iconst 0, 1) := by decide +kernel
theorem dX0_countBargain_43 : decode cX0_countBargain 43 = .ok (.iaload, 1) := by decide +kernel
theorem dX0_countBargain_44 : decode cX0_countBargain 44 = .ok (.aaload, 1) := by decide +kernel
theorem dX0_countBargain_45 : decode cX0_countBargain 45 = .ok (.bipush 7, 2) := by decide +kernel
theorem dX0_countBargain_47 : decode cX0_countBargain 47 = .ok (.dup2, 1) := by decide +kernel
theorem dX0_countBargain_48 : decode cX0_countBargain 48 = .ok (.iaload, 1) := by decide +kernel
theorem dX0_countBargain_49 : decode cX0_countBargain 49 = .ok (.iconst 1, 1) := by decide +kernel
theorem dX0_countBargain_50 : decode cX0_countBargain 50 = .ok (.iadd, 1) := by decide +kernel
theorem dX0_countBargain_51 : decode cX0_countBargain 51 = .ok (.iastore, 1) := by decide +kernel
theorem dX0_countBargain_52 : decode cX0_countBargain 52 = .ok (.return_, 1) := by decide +kernel
def w_X0_countBargain (a1 : Int32) (a2 : Int32) (v : V3) (Q : V3 → Prop) : Prop := vp_in a1 40 ∧ vp_in (v (8 + 14 + (ix a1)) 0) 8 ∧ ∀ v5 : V3, v5 = up2 v (8 + 6 + (ix (v (8 + 14 + (ix a1)) 0))) 7 ((v (8 + 6 + (ix (v (8 + 14 + (ix a1)) 0))) 7) + 1) → vp_in a2 40 ∧ vp_in (v5 (8 + 14 + (ix a2)) 0) 8 ∧ ∀ v10 : V3, v10 = up2 v5 (8 + 6 + (ix (v5 (8 + 14 + (ix a2)) 0))) 7 ((v5 (8 + 6 + (ix (v5 (8 + 14 + (ix a2)) 0))) 7) + 1) → Q v10
set_option maxRecDepth 100000 in
set_option maxHeartbeats 4000000 in
theorem k_X0_countBargain (l : Launch) {G : zG} (hg : 116 ≤ gn G) {a1 : Int32} {a2 : Int32}  {v : V3} {Q : V3 → Prop} (hw : w_X0_countBargain a1 a2 v Q) : Mz l yX0_countBargain cX0_countBargain 3 none 0 0 G [.ref (gad G 4), .int a1, .int a2] v (QvZ G Q) := by
  rw [w_X0_countBargain] at hw
  refine z_ofW hg (by decide) (Nat.le_of_ble_eq_true rfl) ?_
  intro p e s m args below meth c ls C0 Z hl
  have hx := C0.1
  have hb := C0.2.1
  replace hl : lv_has ls 3 [(0, .ref (gad G 4)), (1, .int a1), (2, .int a2)] := hl
  generalize s.heap = H at Z ⊢
  generalize ([] : List Loc) = locs at Z ⊢
  refine lv_aload_n hx hb dX0_countBargain_0 rfl (lv_at hl 0 rfl) ?_
  refine z_get C0 Z in_X0 rfl 0 (by decide) rfl tm_1_103 (cx_lt C0 (by decide)) rfl rfl dX0_countBargain_1 ?_
  refine z_get C0 Z in_X1 rfl 1 (by decide) rfl tm_1_47 (isL_lt0 (isL8 (cx_g C0))) (ent_L (isL8 (cx_g C0))) rfl dX0_countBargain_4 ?_
  refine lv_aload_n hx hb dX0_countBargain_7 rfl (lv_at hl 0 rfl) ?_
  refine z_get C0 Z in_X0 rfl 0 (by decide) rfl tm_1_103 (cx_lt C0 (by decide)) rfl rfl dX0_countBargain_8 ?_
  refine z_get C0 Z in_X1 rfl 2 (by decide) rfl tm_1_50 (isL_lt0 (isL8 (cx_g C0))) (ent_L (isL8 (cx_g C0))) rfl dX0_countBargain_11 ?_
  refine lv_iload_n hx hb dX0_countBargain_14 rfl (lv_at hl 1 rfl) ?_
  obtain ⟨h1, hw⟩ := hw
  have h2 := vp_lt h1
  refine z_aald C0 Z (isL_lt (isL8 (cx_g C0)) 3 (by decide)) (ent_L3 (isL8 (cx_g C0))) h1 dX0_countBargain_15 ?_
  refine lv_iconst (v := 0) hx hb dX0_countBargain_16 (by decide) ?_
  refine z_ialdk C0 Z (isL_B (isL8 (cx_g C0)) h2) (ent_B (isL8 (cx_g C0)) h2) in_0_10 nc_0 dX0_countBargain_17 ?_
  obtain ⟨h3, hw⟩ := hw
  have h4 := vp_lt h3
  refine z_aald C0 Z (isL_lt (isL8 (cx_g C0)) 2 (by decide)) (ent_L2 (isL8 (cx_g C0))) h3 dX0_countBargain_18 ?_
  refine lv_bipush (v := 7) hx hb dX0_countBargain_19 (by decide) ?_
  refine lv_dup2_11 hx hb dX0_countBargain_21 rfl rfl ?_
  refine z_ialdk C0 Z (isL_O (isL8 (cx_g C0)) h4) (ent_O (isL8 (cx_g C0)) h4) in_7_8 nc_7 dX0_countBargain_22 ?_
  refine lv_iconst (v := 1) hx hb dX0_countBargain_23 (by decide) ?_
  refine lv_iadd hx hb dX0_countBargain_24 ?_
  refine z_iastk C0 Z (isL_O (isL8 (cx_g C0)) h4) (fun _ => ent_O (isL8 (cx_g C0)) h4) in_7_8 nc_7 dX0_countBargain_25 (fun H locs Z => ?_)
  obtain ⟨v5, ev5⟩ : ∃ z : V3, z = up2 v (8 + 6 + (ix (v (8 + 14 + (ix a1)) 0))) 7 ((v (8 + 6 + (ix (v (8 + 14 + (ix a1)) 0))) 7) + 1) := ⟨_, rfl⟩
  rw [← ev5] at Z
  replace hw := hw v5 ev5
  refine lv_aload_n hx hb dX0_countBargain_26 rfl (lv_at hl 0 rfl) ?_
  refine z_get C0 Z in_X0 rfl 0 (by decide) rfl tm_1_103 (cx_lt C0 (by decide)) rfl rfl dX0_countBargain_27 ?_
  refine z_get C0 Z in_X1 rfl 1 (by decide) rfl tm_1_47 (isL_lt0 (isL8 (cx_g C0))) (ent_L (isL8 (cx_g C0))) rfl dX0_countBargain_30 ?_
  refine lv_aload_n hx hb dX0_countBargain_33 rfl (lv_at hl 0 rfl) ?_
  refine z_get C0 Z in_X0 rfl 0 (by decide) rfl tm_1_103 (cx_lt C0 (by decide)) rfl rfl dX0_countBargain_34 ?_
  refine z_get C0 Z in_X1 rfl 2 (by decide) rfl tm_1_50 (isL_lt0 (isL8 (cx_g C0))) (ent_L (isL8 (cx_g C0))) rfl dX0_countBargain_37 ?_
  refine lv_iload_n hx hb dX0_countBargain_40 rfl (lv_at hl 2 rfl) ?_
  obtain ⟨h6, hw⟩ := hw
  have h7 := vp_lt h6
  refine z_aald C0 Z (isL_lt (isL8 (cx_g C0)) 3 (by decide)) (ent_L3 (isL8 (cx_g C0))) h6 dX0_countBargain_41 ?_
  refine lv_iconst (v := 0) hx hb dX0_countBargain_42 (by decide) ?_
  refine z_ialdk C0 Z (isL_B (isL8 (cx_g C0)) h7) (ent_B (isL8 (cx_g C0)) h7) in_0_10 nc_0 dX0_countBargain_43 ?_
  obtain ⟨h8, hw⟩ := hw
  have h9 := vp_lt h8
  refine z_aald C0 Z (isL_lt (isL8 (cx_g C0)) 2 (by decide)) (ent_L2 (isL8 (cx_g C0))) h8 dX0_countBargain_44 ?_
  refine lv_bipush (v := 7) hx hb dX0_countBargain_45 (by decide) ?_
  refine lv_dup2_11 hx hb dX0_countBargain_47 rfl rfl ?_
  refine z_ialdk C0 Z (isL_O (isL8 (cx_g C0)) h9) (ent_O (isL8 (cx_g C0)) h9) in_7_8 nc_7 dX0_countBargain_48 ?_
  refine lv_iconst (v := 1) hx hb dX0_countBargain_49 (by decide) ?_
  refine lv_iadd hx hb dX0_countBargain_50 ?_
  refine z_iastk C0 Z (isL_O (isL8 (cx_g C0)) h9) (fun _ => ent_O (isL8 (cx_g C0)) h9) in_7_8 nc_7 dX0_countBargain_51 (fun H locs Z => ?_)
  obtain ⟨v10, ev10⟩ : ∃ z : V3, z = up2 v5 (8 + 6 + (ix (v5 (8 + 14 + (ix a2)) 0))) 7 ((v5 (8 + 6 + (ix (v5 (8 + 14 + (ix a2)) 0))) 7) + 1) := ⟨_, rfl⟩
  rw [← ev10] at Z
  replace hw := hw v10 ev10
  exact z_vret C0 Z hw dX0_countBargain_52
-- X0_makeSwap: room (1, 22)
theorem dX0_makeSwap_0 : decode cX0_makeSwap 0 = .ok (.aload_n 0, 1) := by decide +kernel
theorem dX0_makeSwap_1 : decode cX0_makeSwap 1 = .ok (.getfield 15, 3) := by decide +kernel
theorem dX0_makeSwap_4 : decode cX0_makeSwap 4 = .ok (.getfield 19, 3) := by decide +kernel
theorem dX0_makeSwap_7 : decode cX0_makeSwap 7 = .ok (.iload_n 1, 1) := by decide +kernel
theorem dX0_makeSwap_8 : decode cX0_makeSwap 8 = .ok (.aaload, 1) := by decide +kernel
theorem dX0_makeSwap_9 : decode cX0_makeSwap 9 = .ok (.astore_n 3, 1) := by decide +kernel
theorem dX0_makeSwap_10 : decode cX0_makeSwap 10 = .ok (.aload_n 0, 1) := by decide +kernel
theorem dX0_makeSwap_11 : decode cX0_makeSwap 11 = .ok (.getfield 15, 3) := by decide +kernel
theorem dX0_makeSwap_14 : decode cX0_makeSwap 14 = .ok (.getfield 19, 3) := by decide +kernel
theorem dX0_makeSwap_17 : decode cX0_makeSwap 17 = .ok (.iload_n 2, 1) := by decide +kernel
theorem dX0_makeSwap_18 : decode cX0_makeSwap 18 = .ok (.aaload, 1) := by decide +kernel
theorem dX0_makeSwap_19 : decode cX0_makeSwap 19 = .ok (.astore 4, 2) := by decide +kernel
theorem dX0_makeSwap_21 : decode cX0_makeSwap 21 = .ok (.aload_n 3, 1) := by decide +kernel
theorem dX0_makeSwap_22 : decode cX0_makeSwap 22 = .ok (.bipush 8, 2) := by decide +kernel
theorem dX0_makeSwap_24 : decode cX0_makeSwap 24 = .ok (.iaload, 1) := by decide +kernel
theorem dX0_makeSwap_25 : decode cX0_makeSwap 25 = .ok (.istore 5, 2) := by decide +kernel
theorem dX0_makeSwap_27 : decode cX0_makeSwap 27 = .ok (.aload_n 3, 1) := by decide +kernel
theorem dX0_makeSwap_28 : decode cX0_makeSwap 28 = .ok (.bipush 9, 2) := by decide +kernel
theorem dX0_makeSwap_30 : decode cX0_makeSwap 30 = .ok (.iaload, 1) := by decide +kernel
theorem dX0_makeSwap_31 : decode cX0_makeSwap 31 = .ok (.istore 6, 2) := by decide +kernel
theorem dX0_makeSwap_33 : decode cX0_makeSwap 33 = .ok (.aload_n 3, 1) := by decide +kernel
theorem dX0_makeSwap_34 : decode cX0_makeSwap 34 = .ok (.bipush 8, 2) := by decide +kernel
theorem dX0_makeSwap_36 : decode cX0_makeSwap 36 = .ok (.aload 4, 2) := by decide +kernel
theorem dX0_makeSwap_38 : decode cX0_makeSwap 38 = .ok (.bipush 8, 2) := by decide +kernel
theorem dX0_makeSwap_40 : decode cX0_makeSwap 40 = .ok (.iaload, 1) := by decide +kernel
theorem dX0_makeSwap_41 : decode cX0_makeSwap 41 = .ok (.iastore, 1) := by decide +kernel
theorem dX0_makeSwap_42 : decode cX0_makeSwap 42 = .ok (.aload_n 3, 1) := by decide +kernel
theorem dX0_makeSwap_43 : decode cX0_makeSwap 43 = .ok (.bipush 9, 2) := by decide +kernel
theorem dX0_makeSwap_45 : decode cX0_makeSwap 45 = .ok (.aload 4, 2) := by decide +kernel
theorem dX0_makeSwap_47 : decode cX0_makeSwap 47 = .ok (.bipush 9, 2) := by decide +kernel
theorem dX0_makeSwap_49 : decode cX0_makeSwap 49 = .ok (.iaload, 1) := by decide +kernel
theorem dX0_makeSwap_50 : decode cX0_makeSwap 50 = .ok (.iastore, 1) := by decide +kernel
theorem dX0_makeSwap_51 : decode cX0_makeSwap 51 = .ok (.aload 4, 2) := by decide +kernel
theorem dX0_makeSwap_53 : decode cX0_makeSwap 53 = .ok (.bipush 8, 2) := by decide +kernel
theorem dX0_makeSwap_55 : decode cX0_makeSwap 55 = .ok (.iload 5, 2) := by decide +kernel
theorem dX0_makeSwap_57 : decode cX0_makeSwap 57 = .ok (.iastore, 1) := by decide +kernel
theorem dX0_makeSwap_58 : decode cX0_makeSwap 58 = .ok (.aload 4, 2) := by decide +kernel
theorem dX0_makeSwap_60 : decode cX0_makeSwap 60 = .ok (.bipush 9, 2) := by decide +kernel
theorem dX0_makeSwap_62 : decode cX0_makeSwap 62 = .ok (.iload 6, 2) := by decide +kernel
theorem dX0_makeSwap_64 : decode cX0_makeSwap 64 = .ok (.iastore, 1) := by decide +kernel
theorem dX0_makeSwap_65 : decode cX0_makeSwap 65 = .ok (.aload_n 0, 1) := by decide +kernel
theorem dX0_makeSwap_66 : decode cX0_makeSwap 66 = .ok (.iload_n 1, 1) := by decide +kernel
theorem dX0_makeSwap_67 : decode cX0_makeSwap 67 = .ok (.iload_n 2, 1) := by decide +kernel
theorem dX0_makeSwap_68 : decode cX0_makeSwap 68 = .ok (.invokevirtual 49, 3) := by decide +kernel
theorem dX0_makeSwap_71 : decode cX0_makeSwap 71 = .ok (.aload_n 0, 1) := by decide +kernel
theorem dX0_makeSwap_72 : decode cX0_makeSwap 72 = .ok (.getfield 15, 3) := by decide +kernel
theorem dX0_makeSwap_75 : decode cX0_makeSwap 75 = .ok (.dup, 1) := by decide +kernel
theorem dX0_makeSwap_76 : decode cX0_makeSwap 76 = .ok (.getfield 53, 3) := by decide +kernel
theorem dX0_makeSwap_79 : decode cX0_makeSwap 79 = .ok (.iconst 1, 1) := by decide +kernel
theorem dX0_makeSwap_80 : decode cX0_makeSwap 80 = .ok (.iadd, 1) := by decide +kernel
theorem dX0_makeSwap_81 : decode cX0_makeSwap 81 = .ok (.putfield 53, 3) := by decide +kernel
theorem dX0_makeSwap_84 : decode cX0_makeSwap 84 = .ok (.return_, 1) := by decide +kernel
def w_X0_makeSwap (a1 : Int32) (a2 : Int32) (v : V3) (Q : V3 → Prop) : Prop := vp_in a1 40 ∧ vp_in a2 40 ∧ ∀ v5 : V3, v5 = up2 v (8 + 14 + (ix a1)) 8 (v (8 + 14 + (ix a2)) 8) → ∀ v6 : V3, v6 = up2 v5 (8 + 14 + (ix a1)) 9 (v5 (8 + 14 + (ix a2)) 9) → ∀ v7 : V3, v7 = up2 v6 (8 + 14 + (ix a2)) 8 (v (8 + 14 + (ix a1)) 8) → ∀ v8 : V3, v8 = up2 v7 (8 + 14 + (ix a2)) 9 (v (8 + 14 + (ix a1)) 9) → w_X0_countBargain a1 a2 v8 (fun v9 => ∀ v10 : V3, v10 = up2 v9 8 9 ((v9 8 9) + 1) → Q v10)
set_option maxRecDepth 100000 in
set_option maxHeartbeats 4000000 in
theorem k_X0_makeSwap (l : Launch) {G : zG} (hg : 116 ≤ gn G) {a1 : Int32} {a2 : Int32}  {v : V3} {Q : V3 → Prop} (hw : w_X0_makeSwap a1 a2 v Q) : Mz l yX0_makeSwap cX0_makeSwap 7 none 1 22 G [.ref (gad G 4), .int a1, .int a2] v (QvZ G Q) := by
  rw [w_X0_makeSwap] at hw
  refine z_ofW hg (by decide) (Nat.le_of_ble_eq_true rfl) ?_
  intro p e s m args below meth c ls C0 Z hl
  have hx := C0.1
  have hb := C0.2.1
  replace hl : lv_has ls 7 [(0, .ref (gad G 4)), (1, .int a1), (2, .int a2)] := hl
  generalize s.heap = H at Z ⊢
  generalize ([] : List Loc) = locs at Z ⊢
  refine lv_aload_n hx hb dX0_makeSwap_0 rfl (lv_at hl 0 rfl) ?_
  refine z_get C0 Z in_X0 rfl 0 (by decide) rfl tm_1_103 (cx_lt C0 (by decide)) rfl rfl dX0_makeSwap_1 ?_
  refine z_get C0 Z in_X1 rfl 2 (by decide) rfl tm_1_50 (isL_lt0 (isL8 (cx_g C0))) (ent_L (isL8 (cx_g C0))) rfl dX0_makeSwap_4 ?_
  refine lv_iload_n hx hb dX0_makeSwap_7 rfl (lv_at hl 1 rfl) ?_
  obtain ⟨h1, hw⟩ := hw
  have h2 := vp_lt h1
  refine z_aald C0 Z (isL_lt (isL8 (cx_g C0)) 3 (by decide)) (ent_L3 (isL8 (cx_g C0))) h1 dX0_makeSwap_8 ?_
  refine lv_astore_n (lv' := [(3, .ref (gad G (8 + 14 + (ix a1)))), (0, .ref (gad G 4)), (1, .int a1), (2, .int a2)]) hx hb dX0_makeSwap_9 rfl hl (by decide) rfl (fun ls hl => ?_)
  refine lv_aload_n hx hb dX0_makeSwap_10 rfl (lv_at hl 1 rfl) ?_
  refine z_get C0 Z in_X0 rfl 0 (by decide) rfl tm_1_103 (cx_lt C0 (by decide)) rfl rfl dX0_makeSwap_11 ?_
  refine z_get C0 Z in_X1 rfl 2 (by decide) rfl tm_1_50 (isL_lt0 (isL8 (cx_g C0))) (ent_L (isL8 (cx_g C0))) rfl dX0_makeSwap_14 ?_
  refine lv_iload_n hx hb dX0_makeSwap_17 rfl (lv_at hl 3 rfl) ?_
  obtain ⟨h3, hw⟩ := hw
  have h4 := vp_lt h3
  refine z_aald C0 Z (isL_lt (isL8 (cx_g C0)) 3 (by decide)) (ent_L3 (isL8 (cx_g C0))) h3 dX0_makeSwap_18 ?_
  refine lv_astore (lv' := [(4, .ref (gad G (8 + 14 + (ix a2)))), (3, .ref (gad G (8 + 14 + (ix a1)))), (0, .ref (gad G 4)), (1, .int a1), (2, .int a2)]) hx hb dX0_makeSwap_19 hl (by decide) rfl (fun ls hl => ?_)
  refine lv_aload_n hx hb dX0_makeSwap_21 rfl (lv_at hl 1 rfl) ?_
  refine lv_bipush (v := 8) hx hb dX0_makeSwap_22 (by decide) ?_
  refine z_ialdk C0 Z (isL_B (isL8 (cx_g C0)) h2) (ent_B (isL8 (cx_g C0)) h2) in_8_10 nc_8 dX0_makeSwap_24 ?_
  refine lv_istore (lv' := [(5, .int (v (8 + 14 + (ix a1)) 8)), (4, .ref (gad G (8 + 14 + (ix a2)))), (3, .ref (gad G (8 + 14 + (ix a1)))), (0, .ref (gad G 4)), (1, .int a1), (2, .int a2)]) hx hb dX0_makeSwap_25 hl (by decide) rfl (fun ls hl => ?_)
  refine lv_aload_n hx hb dX0_makeSwap_27 rfl (lv_at hl 2 rfl) ?_
  refine lv_bipush (v := 9) hx hb dX0_makeSwap_28 (by decide) ?_
  refine z_ialdk C0 Z (isL_B (isL8 (cx_g C0)) h2) (ent_B (isL8 (cx_g C0)) h2) in_9_10 nc_9 dX0_makeSwap_30 ?_
  refine lv_istore (lv' := [(6, .int (v (8 + 14 + (ix a1)) 9)), (5, .int (v (8 + 14 + (ix a1)) 8)), (4, .ref (gad G (8 + 14 + (ix a2)))), (3, .ref (gad G (8 + 14 + (ix a1)))), (0, .ref (gad G 4)), (1, .int a1), (2, .int a2)]) hx hb dX0_makeSwap_31 hl (by decide) rfl (fun ls hl => ?_)
  refine lv_aload_n hx hb dX0_makeSwap_33 rfl (lv_at hl 3 rfl) ?_
  refine lv_bipush (v := 8) hx hb dX0_makeSwap_34 (by decide) ?_
  refine lv_aload hx hb dX0_makeSwap_36 (lv_at hl 2 rfl) ?_
  refine lv_bipush (v := 8) hx hb dX0_makeSwap_38 (by decide) ?_
  refine z_ialdk C0 Z (isL_B (isL8 (cx_g C0)) h4) (ent_B (isL8 (cx_g C0)) h4) in_8_10 nc_8 dX0_makeSwap_40 ?_
  refine z_iastk C0 Z (isL_B (isL8 (cx_g C0)) h2) (fun _ => ent_B (isL8 (cx_g C0)) h2) in_8_10 nc_8 dX0_makeSwap_41 (fun H locs Z => ?_)
  obtain ⟨v5, ev5⟩ : ∃ z : V3, z = up2 v (8 + 14 + (ix a1)) 8 (v (8 + 14 + (ix a2)) 8) := ⟨_, rfl⟩
  rw [← ev5] at Z
  replace hw := hw v5 ev5
  refine lv_aload_n hx hb dX0_makeSwap_42 rfl (lv_at hl 3 rfl) ?_
  refine lv_bipush (v := 9) hx hb dX0_makeSwap_43 (by decide) ?_
  refine lv_aload hx hb dX0_makeSwap_45 (lv_at hl 2 rfl) ?_
  refine lv_bipush (v := 9) hx hb dX0_makeSwap_47 (by decide) ?_
  refine z_ialdk C0 Z (isL_B (isL8 (cx_g C0)) h4) (ent_B (isL8 (cx_g C0)) h4) in_9_10 nc_9 dX0_makeSwap_49 ?_
  refine z_iastk C0 Z (isL_B (isL8 (cx_g C0)) h2) (fun _ => ent_B (isL8 (cx_g C0)) h2) in_9_10 nc_9 dX0_makeSwap_50 (fun H locs Z => ?_)
  obtain ⟨v6, ev6⟩ : ∃ z : V3, z = up2 v5 (8 + 14 + (ix a1)) 9 (v5 (8 + 14 + (ix a2)) 9) := ⟨_, rfl⟩
  rw [← ev6] at Z
  replace hw := hw v6 ev6
  refine lv_aload hx hb dX0_makeSwap_51 (lv_at hl 2 rfl) ?_
  refine lv_bipush (v := 8) hx hb dX0_makeSwap_53 (by decide) ?_
  refine lv_iload hx hb dX0_makeSwap_55 (lv_at hl 1 rfl) ?_
  refine z_iastk C0 Z (isL_B (isL8 (cx_g C0)) h4) (fun _ => ent_B (isL8 (cx_g C0)) h4) in_8_10 nc_8 dX0_makeSwap_57 (fun H locs Z => ?_)
  obtain ⟨v7, ev7⟩ : ∃ z : V3, z = up2 v6 (8 + 14 + (ix a2)) 8 (v (8 + 14 + (ix a1)) 8) := ⟨_, rfl⟩
  rw [← ev7] at Z
  replace hw := hw v7 ev7
  refine lv_aload hx hb dX0_makeSwap_58 (lv_at hl 2 rfl) ?_
  refine lv_bipush (v := 9) hx hb dX0_makeSwap_60 (by decide) ?_
  refine lv_iload hx hb dX0_makeSwap_62 (lv_at hl 0 rfl) ?_
  refine z_iastk C0 Z (isL_B (isL8 (cx_g C0)) h4) (fun _ => ent_B (isL8 (cx_g C0)) h4) in_9_10 nc_9 dX0_makeSwap_64 (fun H locs Z => ?_)
  obtain ⟨v8, ev8⟩ : ∃ z : V3, z = up2 v7 (8 + 14 + (ix a2)) 9 (v (8 + 14 + (ix a1)) 9) := ⟨_, rfl⟩
  rw [← ev8] at Z
  replace hw := hw v8 ev8
  refine lv_aload_n hx hb dX0_makeSwap_65 rfl (lv_at hl 4 rfl) ?_
  refine lv_iload_n hx hb dX0_makeSwap_66 rfl (lv_at hl 5 rfl) ?_
  refine lv_iload_n hx hb dX0_makeSwap_67 rfl (lv_at hl 6 rfl) ?_
  refine z_callVv C0 Z hl.1 (As := [.int a1, .int a2]) (rest := []) (k_X0_countBargain l (cx_g C0) hw) (gv_X0_countBargain tm_3_133) rfl ds_X0_countBargain ⟨Nat.le_of_ble_eq_true rfl, Nat.le_of_ble_eq_true rfl⟩ (ci := 0) rfl (cx_lt C0 (by decide)) rfl rfl rfl (Nat.le_of_ble_eq_true rfl) ⟨Nat.le_of_ble_eq_true rfl, Nat.le_of_ble_eq_true rfl⟩ dX0_makeSwap_68 (fun v9 H locs hw Z => ?_)
  refine lv_aload_n hx hb dX0_makeSwap_71 rfl (lv_at hl 4 rfl) ?_
  refine z_get C0 Z in_X0 rfl 0 (by decide) rfl tm_1_103 (cx_lt C0 (by decide)) rfl rfl dX0_makeSwap_72 ?_
  refine lv_dup hx hb dX0_makeSwap_75 rfl ?_
  refine z_get C0 Z in_X1 rfl 9 (by decide) rfl tm_1_66 (isL_lt0 (isL8 (cx_g C0))) (ent_L (isL8 (cx_g C0))) rfl dX0_makeSwap_76 ?_
  refine lv_iconst (v := 1) hx hb dX0_makeSwap_79 (by decide) ?_
  refine lv_iadd hx hb dX0_makeSwap_80 ?_
  refine z_put C0 Z in_X1 tyX1_ok nmX1 rfl 9 (by decide) rfl rfl tm_1_66 (isL_lt0 (isL8 (cx_g C0))) (ent_L (isL8 (cx_g C0))) (p_X1_9 (isL8 (cx_g C0))) (fun c' h => up2_off _ _ _ h) rfl rfl (Nat.le_of_ble_eq_true rfl) dX0_makeSwap_81 (fun H locs Z => ?_)
  obtain ⟨v10, ev10⟩ : ∃ z : V3, z = up2 v9 8 9 ((v9 8 9) + 1) := ⟨_, rfl⟩
  rw [← ev10] at Z
  replace hw := hw v10 ev10
  exact z_vret C0 Z hw dX0_makeSwap_84
-- X0_makeBuyout: room (3, 71)
theorem dX0_makeBuyout_0 : decode cX0_makeBuyout 0 = .ok (.aload_n 0, 1) := by decide +kernel
theorem dX0_makeBuyout_1 : decode cX0_makeBuyout 1 = .ok (.iload_n 1, 1) := by decide +kernel
theorem dX0_makeBuyout_2 : decode cX0_makeBuyout 2 = .ok (.iload_n 2, 1) := by decide +kernel
theorem dX0_makeBuyout_3 : decode cX0_makeBuyout 3 = .ok (.invokevirtual 43, 3) := by decide +kernel
theorem dX0_makeBuyout_6 : decode cX0_makeBuyout 6 = .ok (.istore_n 3, 1) := by decide +kernel
theorem dX0_makeBuyout_7 : decode cX0_makeBuyout 7 = .ok (.aload_n 0, 1) := by decide +kernel
theorem dX0_makeBuyout_8 : decode cX0_makeBuyout 8 = .ok (.getfield 15, 3) := by decide +kernel
theorem dX0_makeBuyout_11 : decode cX0_makeBuyout 11 = .ok (.getfield 19, 3) := by decide +kernel
theorem dX0_makeBuyout_14 : decode cX0_makeBuyout 14 = .ok (.iload_n 2, 1) := by decide +kernel
theorem dX0_makeBuyout_15 : decode cX0_makeBuyout 15 = .ok (.aaload, 1) := by decide +kernel
theorem dX0_makeBuyout_16 : decode cX0_makeBuyout 16 = .ok (.bipush 8, 2) := by decide +kernel
theorem dX0_makeBuyout_18 : decode cX0_makeBuyout 18 = .ok (.iaload, 1) := by decide +kernel
theorem dX0_makeBuyout_19 : decode cX0_makeBuyout 19 = .ok (.istore 4, 2) := by decide +kernel
theorem dX0_makeBuyout_21 : decode cX0_makeBuyout 21 = .ok (.aload_n 0, 1) := by decide +kernel
theorem dX0_makeBuyout_22 : decode cX0_makeBuyout 22 = .ok (.getfield 15, 3) := by decide +kernel
theorem dX0_makeBuyout_25 : decode cX0_makeBuyout 25 = .ok (.iload_n 2, 1) := by decide +kernel
theorem dX0_makeBuyout_26 : decode cX0_makeBuyout 26 = .ok (.invokevirtual 56, 3) := by decide +kernel
theorem dX0_makeBuyout_29 : decode cX0_makeBuyout 29 = .ok (.aload_n 0, 1) := by decide +kernel
theorem dX0_makeBuyout_30 : decode cX0_makeBuyout 30 = .ok (.getfield 15, 3) := by decide +kernel
theorem dX0_makeBuyout_33 : decode cX0_makeBuyout 33 = .ok (.iload_n 1, 1) := by decide +kernel
theorem dX0_makeBuyout_34 : decode cX0_makeBuyout 34 = .ok (.iload 4, 2) := by decide +kernel
theorem dX0_makeBuyout_36 : decode cX0_makeBuyout 36 = .ok (.invokevirtual 60, 3) := by decide +kernel
theorem dX0_makeBuyout_39 : decode cX0_makeBuyout 39 = .ok (.pop, 1) := by decide +kernel
theorem dX0_makeBuyout_40 : decode cX0_makeBuyout 40 = .ok (.aload_n 0, 1) := by decide +kernel
theorem dX0_makeBuyout_41 : decode cX0_makeBuyout 41 = .ok (.getfield 15, 3) := by decide +kernel
theorem dX0_makeBuyout_44 : decode cX0_makeBuyout 44 = .ok (.getfield 46, 3) := by decide +kernel
theorem dX0_makeBuyout_47 : decode cX0_makeBuyout 47 = .ok (.aload_n 0, 1) := by decide +kernel
theorem dX0_makeBuyout_48 : decode cX0_makeBuyout 48 = .ok (.getfield 15, 3) := by decide +kernel
theorem dX0_makeBuyout_51 : decode cX0_makeBuyout 51 = .ok (.getfield 19, 3) := by decide +kernel
theorem dX0_makeBuyout_54 : decode cX0_makeBuyout 54 = .ok (.iload_n 1, 1) := by decide +kernel
theorem dX0_makeBuyout_55 : decode cX0_makeBuyout 55 = .ok (.aaload, 1) := by decide +kernel
theorem dX0_makeBuyout_56 : decode cX0_makeBuyout 56 = .ok (.iconst 0, 1) := by decide +kernel
theorem dX0_makeBuyout_57 : decode cX0_makeBuyout 57 = .ok (.iaload, 1) := by decide +kernel
theorem dX0_makeBuyout_58 : decode cX0_makeBuyout 58 = .ok (.aaload, 1) := by decide +kernel
theorem dX0_makeBuyout_59 : decode cX0_makeBuyout 59 = .ok (.iconst 0, 1) := by decide +kernel
theorem dX0_makeBuyout_60 : decode cX0_makeBuyout 60 = .ok (.dup2, 1) := by decide +kernel
theorem dX0_makeBuyout_61 : decode cX0_makeBuyout 61 = .ok (.iaload, 1) := by decide +kernel
theorem dX0_makeBuyout_62 : decode cX0_makeBuyout 62 = .ok (.iload_n 3, 1) := by decide +kernel
theorem dX0_makeBuyout_63 : decode cX0_makeBuyout 63 = .ok (.isub, 1) := by decide +kernel
theorem dX0_makeBuyout_64 : decode cX0_makeBuyout 64 = .ok (.iastore, 1) := by decide +kernel
theorem dX0_makeBuyout_65 : decode cX0_makeBuyout 65 = .ok (.aload_n 0, 1) := by decide +kernel
theorem dX0_makeBuyout_66 : decode cX0_makeBuyout 66 = .ok (.getfield 15, 3) := by decide +kernel
theorem dX0_makeBuyout_69 : decode cX0_makeBuyout 69 = .ok (.getfield 46, 3) := by decide +kernel
theorem dX0_makeBuyout_72 : decode cX0_makeBuyout 72 = .ok (.aload_n 0, 1) := by decide +kernel
theorem dX0_makeBuyout_73 : decode cX0_makeBuyout 73 = .ok (.getfield 15, 3) := by decide +kernel
theorem dX0_makeBuyout_76 : decode cX0_makeBuyout 76 = .ok (.getfield 19, 3) := by decide +kernel
theorem dX0_makeBuyout_79 : decode cX0_makeBuyout 79 = .ok (.iload_n 2, 1) := by decide +kernel
theorem dX0_makeBuyout_80 : decode cX0_makeBuyout 80 = .ok (.aaload, 1) := by decide +kernel
theorem dX0_makeBuyout_81 : decode cX0_makeBuyout 81 = .ok (.iconst 0, 1) := by decide +kernel
theorem dX0_makeBuyout_82 : decode cX0_makeBuyout 82 = .ok (.iaload, 1) := by decide +kernel
theorem dX0_makeBuyout_83 : decode cX0_makeBuyout 83 = .ok (.aaload, 1) := by decide +kernel
theorem dX0_makeBuyout_84 : decode cX0_makeBuyout 84 = .ok (.iconst 0, 1) := by decide +kernel
theorem dX0_makeBuyout_85 : decode cX0_makeBuyout 85 = .ok (.dup2, 1) := by decide +kernel
theorem dX0_makeBuyout_86 : decode cX0_makeBuyout 86 = .ok (.iaload, 1) := by decide +kernel
theorem dX0_makeBuyout_87 : decode cX0_makeBuyout 87 = .ok (.iload_n 3, 1) := by decide +kernel
theorem dX0_makeBuyout_88 : decode cX0_makeBuyout 88 = .ok (.iadd, 1) := by decide +kernel
theorem dX0_makeBuyout_89 : decode cX0_makeBuyout 89 = .ok (.iastore, 1) := by decide +kernel
theorem dX0_makeBuyout_90 : decode cX0_makeBuyout 90 = .ok (.aload_n 0, 1) := by decide +kernel
theorem dX0_makeBuyout_91 : decode cX0_makeBuyout 91 = .ok (.iload_n 1, 1) := by decide +kernel
theorem dX0_makeBuyout_92 : decode cX0_makeBuyout 92 = .ok (.iload_n 2, 1) := by decide +kernel
theorem dX0_makeBuyout_93 : decode cX0_makeBuyout 93 = .ok (.invokevirtual 49, 3) := by decide +kernel
theorem dX0_makeBuyout_96 : decode cX0_makeBuyout 96 = .ok (.aload_n 0, 1) := by decide +kernel
theorem dX0_makeBuyout_97 : decode cX0_makeBuyout 97 = .ok (.getfield 15, 3) := by decide +kernel
theorem dX0_makeBuyout_100 : decode cX0_makeBuyout 100 = .ok (.dup, 1) := by decide +kernel
theorem dX0_makeBuyout_101 : decode cX0_makeBuyout 101 = .ok (.getfield 64, 3) := by decide +kernel
theorem dX0_makeBuyout_104 : decode cX0_makeBuyout 104 = .ok (.iconst 1, 1) := by decide +kernel
theorem dX0_makeBuyout_105 : decode cX0_makeBuyout 105 = .ok (.iadd, 1) := by decide +kernel
theorem dX0_makeBuyout_106 : decode cX0_makeBuyout 106 = .ok (.putfield 64, 3) := by decide +kernel
theorem dX0_makeBuyout_109 : decode cX0_makeBuyout 109 = .ok (.return_, 1) := by decide +kernel
def w_X0_makeBuyout (a1 : Int32) (a2 : Int32) (v : V3) (Q : V3 → Prop) : Prop := w_X0_priceOf a1 a2 v (fun r2 v1 => vp_in a2 40 ∧ w_X1_letWait 8 a2 v1 (fun v5 => w_X1_bookAt 8 a1 (v1 (8 + 14 + (ix a2)) 8) v5 (fun r7 v6 => vp_in a1 40 ∧ vp_in (v6 (8 + 14 + (ix a1)) 0) 8 ∧ ∀ v12 : V3, v12 = up2 v6 (8 + 6 + (ix (v6 (8 + 14 + (ix a1)) 0))) 0 ((v6 (8 + 6 + (ix (v6 (8 + 14 + (ix a1)) 0))) 0) - r2) → vp_in a2 40 ∧ vp_in (v12 (8 + 14 + (ix a2)) 0) 8 ∧ ∀ v17 : V3, v17 = up2 v12 (8 + 6 + (ix (v12 (8 + 14 + (ix a2)) 0))) 0 ((v12 (8 + 6 + (ix (v12 (8 + 14 + (ix a2)) 0))) 0) + r2) → w_X0_countBargain a1 a2 v17 (fun v18 => ∀ v19 : V3, v19 = up2 v18 8 10 ((v18 8 10) + 1) → Q v19))))
set_option maxRecDepth 100000 in
set_option maxHeartbeats 4000000 in
theorem k_X0_makeBuyout (l : Launch) {G : zG} (hg : 116 ≤ gn G) {a1 : Int32} {a2 : Int32}  {v : V3} {Q : V3 → Prop} (hw : w_X0_makeBuyout a1 a2 v Q) : Mz l yX0_makeBuyout cX0_makeBuyout 5 none 3 71 G [.ref (gad G 4), .int a1, .int a2] v (QvZ G Q) := by
  rw [w_X0_makeBuyout] at hw
  refine z_ofW hg (by decide) (Nat.le_of_ble_eq_true rfl) ?_
  intro p e s m args below meth c ls C0 Z hl
  have hx := C0.1
  have hb := C0.2.1
  replace hl : lv_has ls 5 [(0, .ref (gad G 4)), (1, .int a1), (2, .int a2)] := hl
  generalize s.heap = H at Z ⊢
  generalize ([] : List Loc) = locs at Z ⊢
  refine lv_aload_n hx hb dX0_makeBuyout_0 rfl (lv_at hl 0 rfl) ?_
  refine lv_iload_n hx hb dX0_makeBuyout_1 rfl (lv_at hl 1 rfl) ?_
  refine lv_iload_n hx hb dX0_makeBuyout_2 rfl (lv_at hl 2 rfl) ?_
  refine z_callVi C0 Z hl.1 (As := [.int a1, .int a2]) (rest := []) (k_X0_priceOf l (cx_g C0) hw) (gv_X0_priceOf tm_3_91) rfl ds_X0_priceOf ⟨Nat.le_of_ble_eq_true rfl, Nat.le_of_ble_eq_true rfl⟩ (ci := 0) rfl (cx_lt C0 (by decide)) rfl rfl rfl (Nat.le_of_ble_eq_true rfl) ⟨Nat.le_of_ble_eq_true rfl, Nat.le_of_ble_eq_true rfl⟩ dX0_makeBuyout_3 (fun r2 v1 H locs hw Z => ?_)
  refine lv_istore_n (lv' := [(3, .int r2), (0, .ref (gad G 4)), (1, .int a1), (2, .int a2)]) hx hb dX0_makeBuyout_6 rfl hl (by decide) rfl (fun ls hl => ?_)
  refine lv_aload_n hx hb dX0_makeBuyout_7 rfl (lv_at hl 1 rfl) ?_
  refine z_get C0 Z in_X0 rfl 0 (by decide) rfl tm_1_103 (cx_lt C0 (by decide)) rfl rfl dX0_makeBuyout_8 ?_
  refine z_get C0 Z in_X1 rfl 2 (by decide) rfl tm_1_50 (isL_lt0 (isL8 (cx_g C0))) (ent_L (isL8 (cx_g C0))) rfl dX0_makeBuyout_11 ?_
  refine lv_iload_n hx hb dX0_makeBuyout_14 rfl (lv_at hl 3 rfl) ?_
  obtain ⟨h3, hw⟩ := hw
  have h4 := vp_lt h3
  refine z_aald C0 Z (isL_lt (isL8 (cx_g C0)) 3 (by decide)) (ent_L3 (isL8 (cx_g C0))) h3 dX0_makeBuyout_15 ?_
  refine lv_bipush (v := 8) hx hb dX0_makeBuyout_16 (by decide) ?_
  refine z_ialdk C0 Z (isL_B (isL8 (cx_g C0)) h4) (ent_B (isL8 (cx_g C0)) h4) in_8_10 nc_8 dX0_makeBuyout_18 ?_
  refine lv_istore (lv' := [(4, .int (v1 (8 + 14 + (ix a2)) 8)), (3, .int r2), (0, .ref (gad G 4)), (1, .int a1), (2, .int a2)]) hx hb dX0_makeBuyout_19 hl (by decide) rfl (fun ls hl => ?_)
  refine lv_aload_n hx hb dX0_makeBuyout_21 rfl (lv_at hl 2 rfl) ?_
  refine z_get C0 Z in_X0 rfl 0 (by decide) rfl tm_1_103 (cx_lt C0 (by decide)) rfl rfl dX0_makeBuyout_22 ?_
  refine lv_iload_n hx hb dX0_makeBuyout_25 rfl (lv_at hl 4 rfl) ?_
  refine z_callVv C0 Z hl.1 (As := [.int a2]) (rest := []) (k_X1_letWait l (cx_g C0) (isL8 (cx_g C0)) hw) (gv_X1_letWait tm_3_148) rfl ds_X1_letWait ⟨Nat.le_of_ble_eq_true rfl, Nat.le_of_ble_eq_true rfl⟩ (ci := 1) rfl (isL_lt0 (isL8 (cx_g C0))) (ent_L (isL8 (cx_g C0))) rfl rfl (Nat.le_of_ble_eq_true rfl) ⟨Nat.le_of_ble_eq_true rfl, Nat.le_of_ble_eq_true rfl⟩ dX0_makeBuyout_26 (fun v5 H locs hw Z => ?_)
  refine lv_aload_n hx hb dX0_makeBuyout_29 rfl (lv_at hl 2 rfl) ?_
  refine z_get C0 Z in_X0 rfl 0 (by decide) rfl tm_1_103 (cx_lt C0 (by decide)) rfl rfl dX0_makeBuyout_30 ?_
  refine lv_iload_n hx hb dX0_makeBuyout_33 rfl (lv_at hl 3 rfl) ?_
  refine lv_iload hx hb dX0_makeBuyout_34 (lv_at hl 0 rfl) ?_
  refine z_callVi C0 Z hl.1 (As := [.int a1, .int (v1 (8 + 14 + (ix a2)) 8)]) (rest := []) (k_X1_bookAt l (cx_g C0) (isL8 (cx_g C0)) hw) (gv_X1_bookAt tm_3_149) rfl ds_X1_bookAt ⟨Nat.le_of_ble_eq_true rfl, Nat.le_of_ble_eq_true rfl⟩ (ci := 1) rfl (isL_lt0 (isL8 (cx_g C0))) (ent_L (isL8 (cx_g C0))) rfl rfl (Nat.le_of_ble_eq_true rfl) ⟨Nat.le_of_ble_eq_true rfl, Nat.le_of_ble_eq_true rfl⟩ dX0_makeBuyout_36 (fun r7 v6 H locs hw Z => ?_)
  refine lv_pop hx hb dX0_makeBuyout_39 rfl ?_
  refine lv_aload_n hx hb dX0_makeBuyout_40 rfl (lv_at hl 2 rfl) ?_
  refine z_get C0 Z in_X0 rfl 0 (by decide) rfl tm_1_103 (cx_lt C0 (by decide)) rfl rfl dX0_makeBuyout_41 ?_
  refine z_get C0 Z in_X1 rfl 1 (by decide) rfl tm_1_47 (isL_lt0 (isL8 (cx_g C0))) (ent_L (isL8 (cx_g C0))) rfl dX0_makeBuyout_44 ?_
  refine lv_aload_n hx hb dX0_makeBuyout_47 rfl (lv_at hl 2 rfl) ?_
  refine z_get C0 Z in_X0 rfl 0 (by decide) rfl tm_1_103 (cx_lt C0 (by decide)) rfl rfl dX0_makeBuyout_48 ?_
  refine z_get C0 Z in_X1 rfl 2 (by decide) rfl tm_1_50 (isL_lt0 (isL8 (cx_g C0))) (ent_L (isL8 (cx_g C0))) rfl dX0_makeBuyout_51 ?_
  refine lv_iload_n hx hb dX0_makeBuyout_54 rfl (lv_at hl 3 rfl) ?_
  obtain ⟨h8, hw⟩ := hw
  have h9 := vp_lt h8
  refine z_aald C0 Z (isL_lt (isL8 (cx_g C0)) 3 (by decide)) (ent_L3 (isL8 (cx_g C0))) h8 dX0_makeBuyout_55 ?_
  refine lv_iconst (v := 0) hx hb dX0_makeBuyout_56 (by decide) ?_
  refine z_ialdk C0 Z (isL_B (isL8 (cx_g C0)) h9) (ent_B (isL8 (cx_g C0)) h9) in_0_10 nc_0 dX0_makeBuyout_57 ?_
  obtain ⟨h10, hw⟩ := hw
  have h11 := vp_lt h10
  refine z_aald C0 Z (isL_lt (isL8 (cx_g C0)) 2 (by decide)) (ent_L2 (isL8 (cx_g C0))) h10 dX0_makeBuyout_58 ?_
  refine lv_iconst (v := 0) hx hb dX0_makeBuyout_59 (by decide) ?_
  refine lv_dup2_11 hx hb dX0_makeBuyout_60 rfl rfl ?_
  refine z_ialdk C0 Z (isL_O (isL8 (cx_g C0)) h11) (ent_O (isL8 (cx_g C0)) h11) in_0_8 nc_0 dX0_makeBuyout_61 ?_
  refine lv_iload_n hx hb dX0_makeBuyout_62 rfl (lv_at hl 1 rfl) ?_
  refine lv_isub hx hb dX0_makeBuyout_63 ?_
  refine z_iastk C0 Z (isL_O (isL8 (cx_g C0)) h11) (fun _ => ent_O (isL8 (cx_g C0)) h11) in_0_8 nc_0 dX0_makeBuyout_64 (fun H locs Z => ?_)
  obtain ⟨v12, ev12⟩ : ∃ z : V3, z = up2 v6 (8 + 6 + (ix (v6 (8 + 14 + (ix a1)) 0))) 0 ((v6 (8 + 6 + (ix (v6 (8 + 14 + (ix a1)) 0))) 0) - r2) := ⟨_, rfl⟩
  rw [← ev12] at Z
  replace hw := hw v12 ev12
  refine lv_aload_n hx hb dX0_makeBuyout_65 rfl (lv_at hl 2 rfl) ?_
  refine z_get C0 Z in_X0 rfl 0 (by decide) rfl tm_1_103 (cx_lt C0 (by decide)) rfl rfl dX0_makeBuyout_66 ?_
  refine z_get C0 Z in_X1 rfl 1 (by decide) rfl tm_1_47 (isL_lt0 (isL8 (cx_g C0))) (ent_L (isL8 (cx_g C0))) rfl dX0_makeBuyout_69 ?_
  refine lv_aload_n hx hb dX0_makeBuyout_72 rfl (lv_at hl 2 rfl) ?_
  refine z_get C0 Z in_X0 rfl 0 (by decide) rfl tm_1_103 (cx_lt C0 (by decide)) rfl rfl dX0_makeBuyout_73 ?_
  refine z_get C0 Z in_X1 rfl 2 (by decide) rfl tm_1_50 (isL_lt0 (isL8 (cx_g C0))) (ent_L (isL8 (cx_g C0))) rfl dX0_makeBuyout_76 ?_
  refine lv_iload_n hx hb dX0_makeBuyout_79 rfl (lv_at hl 4 rfl) ?_
  obtain ⟨h13, hw⟩ := hw
  have h14 := vp_lt h13
  refine z_aald C0 Z (isL_lt (isL8 (cx_g C0)) 3 (by decide)) (ent_L3 (isL8 (cx_g C0))) h13 dX0_makeBuyout_80 ?_
  refine lv_iconst (v := 0) hx hb dX0_makeBuyout_81 (by decide) ?_
  refine z_ialdk C0 Z (isL_B (isL8 (cx_g C0)) h14) (ent_B (isL8 (cx_g C0)) h14) in_0_10 nc_0 dX0_makeBuyout_82 ?_
  obtain ⟨h15, hw⟩ := hw
  have h16 := vp_lt h15
  refine z_aald C0 Z (isL_lt (isL8 (cx_g C0)) 2 (by decide)) (ent_L2 (isL8 (cx_g C0))) h15 dX0_makeBuyout_83 ?_
  refine lv_iconst (v := 0) hx hb dX0_makeBuyout_84 (by decide) ?_
  refine lv_dup2_11 hx hb dX0_makeBuyout_85 rfl rfl ?_
  refine z_ialdk C0 Z (isL_O (isL8 (cx_g C0)) h16) (ent_O (isL8 (cx_g C0)) h16) in_0_8 nc_0 dX0_makeBuyout_86 ?_
  refine lv_iload_n hx hb dX0_makeBuyout_87 rfl (lv_at hl 1 rfl) ?_
  refine lv_iadd hx hb dX0_makeBuyout_88 ?_
  refine z_iastk C0 Z (isL_O (isL8 (cx_g C0)) h16) (fun _ => ent_O (isL8 (cx_g C0)) h16) in_0_8 nc_0 dX0_makeBuyout_89 (fun H locs Z => ?_)
  obtain ⟨v17, ev17⟩ : ∃ z : V3, z = up2 v12 (8 + 6 + (ix (v12 (8 + 14 + (ix a2)) 0))) 0 ((v12 (8 + 6 + (ix (v12 (8 + 14 + (ix a2)) 0))) 0) + r2) := ⟨_, rfl⟩
  rw [← ev17] at Z
  replace hw := hw v17 ev17
  refine lv_aload_n hx hb dX0_makeBuyout_90 rfl (lv_at hl 2 rfl) ?_
  refine lv_iload_n hx hb dX0_makeBuyout_91 rfl (lv_at hl 3 rfl) ?_
  refine lv_iload_n hx hb dX0_makeBuyout_92 rfl (lv_at hl 4 rfl) ?_
  refine z_callVv C0 Z hl.1 (As := [.int a1, .int a2]) (rest := []) (k_X0_countBargain l (cx_g C0) hw) (gv_X0_countBargain tm_3_133) rfl ds_X0_countBargain ⟨Nat.le_of_ble_eq_true rfl, Nat.le_of_ble_eq_true rfl⟩ (ci := 0) rfl (cx_lt C0 (by decide)) rfl rfl rfl (Nat.le_of_ble_eq_true rfl) ⟨Nat.le_of_ble_eq_true rfl, Nat.le_of_ble_eq_true rfl⟩ dX0_makeBuyout_93 (fun v18 H locs hw Z => ?_)
  refine lv_aload_n hx hb dX0_makeBuyout_96 rfl (lv_at hl 2 rfl) ?_
  refine z_get C0 Z in_X0 rfl 0 (by decide) rfl tm_1_103 (cx_lt C0 (by decide)) rfl rfl dX0_makeBuyout_97 ?_
  refine lv_dup hx hb dX0_makeBuyout_100 rfl ?_
  refine z_get C0 Z in_X1 rfl 10 (by decide) rfl tm_1_69 (isL_lt0 (isL8 (cx_g C0))) (ent_L (isL8 (cx_g C0))) rfl dX0_makeBuyout_101 ?_
  refine lv_iconst (v := 1) hx hb dX0_makeBuyout_104 (by decide) ?_
  refine lv_iadd hx hb dX0_makeBuyout_105 ?_
  refine z_put C0 Z in_X1 tyX1_ok nmX1 rfl 10 (by decide) rfl rfl tm_1_69 (isL_lt0 (isL8 (cx_g C0))) (ent_L (isL8 (cx_g C0))) (p_X1_10 (isL8 (cx_g C0))) (fun c' h => up2_off _ _ _ h) rfl rfl (Nat.le_of_ble_eq_true rfl) dX0_makeBuyout_106 (fun H locs Z => ?_)
  obtain ⟨v19, ev19⟩ : ∃ z : V3, z = up2 v18 8 10 ((v18 8 10) + 1) := ⟨_, rfl⟩
  rw [← ev19] at Z
  replace hw := hw v19 ev19
  exact z_vret C0 Z hw dX0_makeBuyout_109
