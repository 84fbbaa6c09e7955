/-! THE LAW'S CASE load -/
theorem tm_1_193 : Cond.methodLink RL 133 yX3_load ∈ tbg := tb1 193 (by decide +kernel) (by decide +kernel)
theorem tm_1_194 : Cond.instanceMethod yX3_load ∈ tbg := tb1 194 (by decide +kernel) (by decide +kernel)
theorem tm_1_195 : Cond.selects RX3 yX3_load yX3_load ∈ tbg := tb1 195 (by decide +kernel) (by decide +kernel)
theorem tm_1_196 : Cond.code yX3_load cX3_load 2 (some .int) ∈ tbg := tb1 196 (by decide +kernel) (by decide +kernel)
theorem tm_5_86 : Cond.methodLink RL 136 yX4_load ∈ tbg := tb5 86 (by decide +kernel) (by decide +kernel)
theorem tm_5_87 : Cond.instanceMethod yX4_load ∈ tbg := tb5 87 (by decide +kernel) (by decide +kernel)
theorem tm_5_88 : Cond.selects RX4 yX4_load yX4_load ∈ tbg := tb5 88 (by decide +kernel) (by decide +kernel)
theorem tm_5_89 : Cond.code yX4_load cX4_load 4 (some .int) ∈ tbg := tb5 89 (by decide +kernel) (by decide +kernel)
theorem gv_X3_load {own : String} {idx : Nat} (h : Cond.methodLink own idx yX3_load ∈ tbg) : GoodIn tbg (wsV own idx RX3 yX3_load (.code yX3_load cX3_load 2 (some .int) :: tbg)) := z_goodV h tm_1_194 tm_1_195 tm_1_1 tm_1_196
theorem ds_X3_load : dsc yX3_load 0 := ⟨by decide +kernel, by decide +kernel, by decide +kernel⟩
theorem gv_X4_load {own : String} {idx : Nat} (h : Cond.methodLink own idx yX4_load ∈ tbg) : GoodIn tbg (wsV own idx RX4 yX4_load (.code yX4_load cX4_load 4 (some .int) :: tbg)) := z_goodV h tm_5_87 tm_5_88 tm_1_6 tm_5_89
theorem ds_X4_load : dsc yX4_load 0 := ⟨by decide +kernel, by decide +kernel, by decide +kernel⟩
set_option maxRecDepth 100000 in
set_option maxHeartbeats 4000000 in
theorem lc_load {p : Program} (l : Launch) (hst : l.stackTraces = false) {e : Env} {s : State} {m : MethodId} {below : List Frame} {meth : Method} {c : Code} {G : zG} {b L : Nat} {xs : Nat → Int32} (C0 : Cx G RL cL_law 9 (some .boolean) p s m #[Value.ref b] meth c) {v : V3} {H : Heap} {locs : List Loc} (Z : Zs G s v H locs) (hX : va_X b L xs s s.heap) (hbl : b < s.heap.size) (hbA : ¬ zA G b) {i : Nat} (hiL : i + 5 ≤ L) (hL : L ≤ 2560) {g : Nat} {B : Int} (h : IV v g B) (hB : B + 99 ≤ 900000) {kc ks : Nat} (hkc : kc + 60 ≤ 601024) (hks : ks + 700 ≤ 7293034) {Q : State → Prop} {ls : Array Slot} (hl : lv_has ls 9 [(0, .ref b), (1, .ref (gad G 0)), (2, .ref (gad G 7)), (3, .ref (gad G 19)), (4, .ref (gad G 20)), (5, .int (nI i))]) (kk : ∀ (v' : V3) (H1 : Heap) (locs1 : List Loc) (ls1 : Array Slot), IV v' g (B + 99) → Zs G s v' H1 locs1 → lv_has ls1 9 [(0, .ref b), (1, .ref (gad G 0)), (2, .ref (gad G 7)), (3, .ref (gad G 19)), (4, .ref (gad G 20)), (5, .int (nI i))] → W p l e room_1 s m #[Value.ref b] below meth c H1 locs1 (kc + 60) (ks + 700) Q (F0 m 2228 ls1 [])) : W p l e room_1 s m #[Value.ref b] below meth c H locs kc ks Q (F0 m 320 ls []) := by
  have hx := C0.1
  have hb := C0.2.1
  have hg := cx_g C0
  refine lv_aload_n hx hb dL_law_320 rfl (lv_at hl 1 rfl) ?_
  refine z_callVi C0 Z hl.1 (As := []) (rest := []) (k_X3_load l hg (ca_load h hB)) (gv_X3_load tm_1_193) rfl ds_X3_load ⟨Nat.le_of_ble_eq_true rfl, Nat.le_of_ble_eq_true rfl⟩ (ci := 3) rfl (cx_lt C0 (by decide)) rfl rfl rfl (Nat.le_of_ble_eq_true rfl) ⟨by show kc ≤ 601024; omega, by show ks ≤ 7293034; omega⟩ dL_law_321 (fun r u H locs hw Z => ?_)
  refine lv_aload_n hx hb dL_law_324 rfl (lv_at hl 2 rfl) ?_
  refine z_callVi C0 Z hl.1 (As := []) (rest := [.int r]) (k_X4_load l hg (hw u (fun _ _ _ => rfl))) (gv_X4_load tm_5_86) rfl ds_X4_load ⟨Nat.le_of_ble_eq_true rfl, Nat.le_of_ble_eq_true rfl⟩ (ci := 4) rfl (cx_lt C0 (by decide)) rfl rfl rfl (Nat.le_of_ble_eq_true rfl) ⟨by show kc ≤ 601024; omega, by show ks ≤ 7293034; omega⟩ dL_law_325 (fun b2 u2 H locs hw Z => ?_)
  obtain ⟨h11, hbr, hi, i19, i20⟩ := hw
  refine lv_icmp_eq (tgt := 2228) hx hb dL_law_328 (by decide) (fun _ => ?_) (fun c => absurd hbr.symm c)
  refine W.widen (k := kc + 60) (n := ks + 700) (by omega) (by omega) ?_
  exact kk _ _ _ _ hi Z (lv_sub hl [0, 1, 2, 3, 4, 5] rfl)
