/-! THE LAW'S CASES, 2 -/
set_option maxRecDepth 100000 in
set_option maxHeartbeats 4000000 in
theorem lc_extend {p : Program} (l : Launch) (hst : l.stackTraces = false) {e : Env} {s : State} {m : MethodId} {below : List Frame} {meth : Method} {c : Code} {G : zG} {b L : Nat} {xs : Nat → Int32} (C0 : Cx G RL cL_law 9 (some .boolean) p s m #[Value.ref b] meth c) {v : V3} {H : Heap} {locs : List Loc} (Z : Zs G s v H locs) (hX : va_X b L xs s s.heap) (hbl : b < s.heap.size) (hbA : ¬ zA G b) {i : Nat} (hiL : i + 5 ≤ L) (hL : L ≤ 2560) {g : Nat} {B : Int} (h : IV v g B) (hB : B + 99 ≤ 900000) {kc ks : Nat} (hkc : kc + 60 ≤ 601024) (hks : ks + 700 ≤ 7293034) {Q : State → Prop} {ls : Array Slot} (hl : lv_has ls 9 [(0, .ref b), (1, .ref (gad G 0)), (2, .ref (gad G 7)), (3, .ref (gad G 19)), (4, .ref (gad G 20)), (5, .int (nI i))]) (kk : ∀ (v' : V3) (H1 : Heap) (locs1 : List Loc) (ls1 : Array Slot), IV v' g (B + 99) → Zs G s v' H1 locs1 → lv_has ls1 9 [(0, .ref b), (1, .ref (gad G 0)), (2, .ref (gad G 7)), (3, .ref (gad G 19)), (4, .ref (gad G 20)), (5, .int (nI i))] → W p l e room_1 s m #[Value.ref b] below meth c H1 locs1 (kc + 60) (ks + 700) Q (F0 m 2228 ls1 [])) : W p l e room_1 s m #[Value.ref b] below meth c H locs kc ks Q (F0 m 1141 ls []) := by
  have hx := C0.1
  have hb := C0.2.1
  have hg := cx_g C0
  refine lv_aload_n hx hb dL_law_1141 rfl (lv_at hl 1 rfl) ?_
  refine lv_aload_n hx hb dL_law_1142 rfl (lv_at hl 0 rfl) ?_
  refine lv_iload hx hb dL_law_1143 (lv_at hl 5 rfl) ?_
  refine lv_iconst (v := 1) hx hb dL_law_1145 (by decide) ?_
  refine lv_iadd hx hb dL_law_1146 ?_
  refine va_sld hx hb hX hbl hbA Z.2.2 (show vp_in (nI i + 1) L by rw [show (1 : Int32) = nI 1 from rfl, nI_add]; exact vp_in_nI (by omega) (by omega)) dL_law_1147 ?_
  refine lv_aload_n hx hb dL_law_1148 rfl (lv_at hl 0 rfl) ?_
  refine lv_iload hx hb dL_law_1149 (lv_at hl 5 rfl) ?_
  refine lv_iconst (v := 2) hx hb dL_law_1151 (by decide) ?_
  refine lv_iadd hx hb dL_law_1152 ?_
  refine va_sld hx hb hX hbl hbA Z.2.2 (show vp_in (nI i + 2) L by rw [show (2 : Int32) = nI 2 from rfl, nI_add]; exact vp_in_nI (by omega) (by omega)) dL_law_1153 ?_
  refine lv_aload_n hx hb dL_law_1154 rfl (lv_at hl 3 rfl) ?_
  refine z_callH C0 Z hl.1 (As := [.ref (gad G 0), .int (xs (nI i + 1).toNatClampNeg), .int (xs (nI i + 2).toNatClampNeg), .ref (gad G 19)]) (rest := []) (k_L_extend l hst hg (ca_extend h hB _ _)) (gv_L_extend tm_4_27) ds_L_extend ⟨Nat.le_of_ble_eq_true rfl, Nat.le_of_ble_eq_true rfl⟩ rfl rfl (Nat.le_of_ble_eq_true rfl) ⟨by show kc + 2 ≤ 601024; omega, by show ks + 12 ≤ 7293034; omega⟩ dL_law_1155 (fun k u H locs hw Z => ?_)
  refine lv_istore (lv' := [(6, .int k), (0, .ref b), (1, .ref (gad G 0)), (2, .ref (gad G 7)), (3, .ref (gad G 19)), (4, .ref (gad G 20)), (5, .int (nI i))]) hx hb dL_law_1158 hl (by decide) rfl (fun ls hl => ?_)
  rcases hw with ⟨hk, r, e19, hw⟩ | ⟨hk, hw⟩
  · subst hk
    refine lv_aload_n hx hb dL_law_1160 rfl (lv_at hl 3 rfl) ?_
    refine lv_aload_n hx hb dL_law_1161 rfl (lv_at hl 1 rfl) ?_
    refine lv_iload hx hb dL_law_1162 (lv_at hl 6 rfl) ?_
    refine lv_iconst (v := 1) hx hb dL_law_1164 (by decide) ?_
    refine lv_iadd hx hb dL_law_1165 ?_
    refine va_sld hx hb hX hbl hbA Z.2.2 (show vp_in (nI i + 1) L by rw [show (1 : Int32) = nI 1 from rfl, nI_add]; exact vp_in_nI (by omega) (by omega)) dL_law_1166 ?_
    refine lv_aload_n hx hb dL_law_1167 rfl (lv_at hl 1 rfl) ?_
    refine lv_iload hx hb dL_law_1168 (lv_at hl 6 rfl) ?_
    refine lv_iconst (v := 2) hx hb dL_law_1170 (by decide) ?_
    refine lv_iadd hx hb dL_law_1171 ?_
    refine va_sld hx hb hX hbl hbA Z.2.2 (show vp_in (nI i + 2) L by rw [show (2 : Int32) = nI 2 from rfl, nI_add]; exact vp_in_nI (by omega) (by omega)) dL_law_1172 ?_
    refine z_callVi C0 Z hl.1 (As := [.int (xs (nI i + 1).toNatClampNeg), .int (xs (nI i + 2).toNatClampNeg)]) (rest := []) (k_X4_extend l hg hw) (gv_X4_extend tm_6_111) rfl ds_X4_extend ⟨Nat.le_of_ble_eq_true rfl, Nat.le_of_ble_eq_true rfl⟩ (ci := 4) rfl (cx_lt C0 (by decide)) rfl rfl rfl (Nat.le_of_ble_eq_true rfl) ⟨by show kc + 2 ≤ 601024; omega, by show ks + 12 ≤ 7293034; omega⟩ dL_law_1173 (fun b2 u2 H locs hw Z => ?_)
    refine lv_istore (lv' := [(7, .int b2), (6, .int 0), (0, .ref b), (1, .ref (gad G 0)), (2, .ref (gad G 7)), (3, .ref (gad G 19)), (4, .ref (gad G 20)), (5, .int (nI i))]) hx hb dL_law_1176 hl (by decide) rfl (fun ls hl => ?_)
    obtain ⟨h11, hbr, hi, i19, i20⟩ := hw
    refine lv_aload_n hx hb dL_law_1178 rfl (lv_at hl 4 rfl) ?_
    refine z_callVi C0 Z hl.1 (As := []) (rest := []) (k_X4_thrown l hg (Q := fun t w => w = u2 ∧ t = u2 7 11) ⟨rfl, rfl⟩) (gv_X4_thrown tm_5_67) rfl ds_X4_thrown ⟨Nat.le_of_ble_eq_true rfl, Nat.le_of_ble_eq_true rfl⟩ (ci := 4) rfl (cx_lt C0 (by decide)) rfl rfl rfl (Nat.le_of_ble_eq_true rfl) ⟨by show kc + 2 ≤ 601024; omega, by show ks + 12 ≤ 7293034; omega⟩ dL_law_1179 (fun t u3 H locs hw Z => ?_)
    obtain ⟨e3, ht⟩ := hw
    rw [e3] at Z
    refine lv_iload hx hb dL_law_1182 (lv_at hl 1 rfl) ?_
    refine lv_icmp_eq (tgt := 1189) hx hb dL_law_1184 (by decide) (fun _ => ?_) (fun c => absurd (ht.trans h11) c)
    refine lv_iload hx hb dL_law_1189 (lv_at hl 1 rfl) ?_
    refine lv_if_ne (tgt := 1206) hx hb dL_law_1191 (by decide) (fun c => absurd rfl c) (fun _ => ?_)
    refine lv_aload_n hx hb dL_law_1194 rfl (lv_at hl 5 rfl) ?_
    refine lv_iconst (v := 0) hx hb dL_law_1195 (by decide) ?_
    refine z_lald C0 Z dL_law_1196 ?_
    refine lv_iload hx hb dL_law_1197 (lv_at hl 0 rfl) ?_
    refine lv_i2l (v := b2.toInt64) hx hb dL_law_1199 rfl ?_
    refine W.lcmp hx hb dL_law_1200 ?_
    refine lv_if_eq (tgt := 1206) hx hb dL_law_1201 (by decide) (fun _ => ?_) (fun c => absurd ((lg_cmp_eq _ _).mpr (by rw [i19, e19, hbr])) c)
    refine lv_goto (tgt := 2228) hx hb dL_law_1206 (by decide) ?_
    refine W.widen (k := kc + 60) (n := ks + 700) (by omega) (by omega) ?_
    exact kk _ _ _ _ hi Z (lv_sub hl [2, 3, 4, 5, 6, 7] rfl)
  · refine lv_aload_n hx hb dL_law_1160 rfl (lv_at hl 3 rfl) ?_
    refine lv_aload_n hx hb dL_law_1161 rfl (lv_at hl 1 rfl) ?_
    refine lv_iload hx hb dL_law_1162 (lv_at hl 6 rfl) ?_
    refine lv_iconst (v := 1) hx hb dL_law_1164 (by decide) ?_
    refine lv_iadd hx hb dL_law_1165 ?_
    refine va_sld hx hb hX hbl hbA Z.2.2 (show vp_in (nI i + 1) L by rw [show (1 : Int32) = nI 1 from rfl, nI_add]; exact vp_in_nI (by omega) (by omega)) dL_law_1166 ?_
    refine lv_aload_n hx hb dL_law_1167 rfl (lv_at hl 1 rfl) ?_
    refine lv_iload hx hb dL_law_1168 (lv_at hl 6 rfl) ?_
    refine lv_iconst (v := 2) hx hb dL_law_1170 (by decide) ?_
    refine lv_iadd hx hb dL_law_1171 ?_
    refine va_sld hx hb hX hbl hbA Z.2.2 (show vp_in (nI i + 2) L by rw [show (2 : Int32) = nI 2 from rfl, nI_add]; exact vp_in_nI (by omega) (by omega)) dL_law_1172 ?_
    refine z_callVi C0 Z hl.1 (As := [.int (xs (nI i + 1).toNatClampNeg), .int (xs (nI i + 2).toNatClampNeg)]) (rest := []) (k_X4_extend l hg hw) (gv_X4_extend tm_6_111) rfl ds_X4_extend ⟨Nat.le_of_ble_eq_true rfl, Nat.le_of_ble_eq_true rfl⟩ (ci := 4) rfl (cx_lt C0 (by decide)) rfl rfl rfl (Nat.le_of_ble_eq_true rfl) ⟨by show kc + 2 ≤ 601024; omega, by show ks + 12 ≤ 7293034; omega⟩ dL_law_1173 (fun b2 u2 H locs hw Z => ?_)
    refine lv_istore (lv' := [(7, .int b2), (6, .int k), (0, .ref b), (1, .ref (gad G 0)), (2, .ref (gad G 7)), (3, .ref (gad G 19)), (4, .ref (gad G 20)), (5, .int (nI i))]) hx hb dL_law_1176 hl (by decide) rfl (fun ls hl => ?_)
    obtain ⟨h11, hi, i19, i20⟩ := hw
    refine lv_aload_n hx hb dL_law_1178 rfl (lv_at hl 4 rfl) ?_
    refine z_callVi C0 Z hl.1 (As := []) (rest := []) (k_X4_thrown l hg (Q := fun t w => w = u2 ∧ t = u2 7 11) ⟨rfl, rfl⟩) (gv_X4_thrown tm_5_67) rfl ds_X4_thrown ⟨Nat.le_of_ble_eq_true rfl, Nat.le_of_ble_eq_true rfl⟩ (ci := 4) rfl (cx_lt C0 (by decide)) rfl rfl rfl (Nat.le_of_ble_eq_true rfl) ⟨by show kc + 2 ≤ 601024; omega, by show ks + 12 ≤ 7293034; omega⟩ dL_law_1179 (fun t u3 H locs hw Z => ?_)
    obtain ⟨e3, ht⟩ := hw
    rw [e3] at Z
    refine lv_iload hx hb dL_law_1182 (lv_at hl 1 rfl) ?_
    refine lv_icmp_eq (tgt := 1189) hx hb dL_law_1184 (by decide) (fun _ => ?_) (fun c => absurd (ht.trans h11) c)
    refine lv_iload hx hb dL_law_1189 (lv_at hl 1 rfl) ?_
    refine lv_if_ne (tgt := 1206) hx hb dL_law_1191 (by decide) (fun _ => ?_) (fun c => absurd c hk)
    refine lv_goto (tgt := 2228) hx hb dL_law_1206 (by decide) ?_
    refine W.widen (k := kc + 60) (n := ks + 700) (by omega) (by omega) ?_
    exact kk _ _ _ _ hi Z (lv_sub hl [2, 3, 4, 5, 6, 7] rfl)
set_option maxRecDepth 100000 in
set_option maxHeartbeats 4000000 in
theorem lc_cancel {p : Program} (l : Launch) (hst : l.stackTraces = false) {e : Env} {s : State} {m : MethodId} {below : List Frame} {meth : Method} {c : Code} {G : zG} {b L : Nat} {xs : Nat → Int32} (C0 : Cx G RL cL_law 9 (some .boolean) p s m #[Value.ref b] meth c) {v : V3} {H : Heap} {locs : List Loc} (Z : Zs G s v H locs) (hX : va_X b L xs s s.heap) (hbl : b < s.heap.size) (hbA : ¬ zA G b) {i : Nat} (hiL : i + 5 ≤ L) (hL : L ≤ 2560) {g : Nat} {B : Int} (h : IV v g B) (hB : B + 99 ≤ 900000) {kc ks : Nat} (hkc : kc + 60 ≤ 601024) (hks : ks + 700 ≤ 7293034) {Q : State → Prop} {ls : Array Slot} (hl : lv_has ls 9 [(0, .ref b), (1, .ref (gad G 0)), (2, .ref (gad G 7)), (3, .ref (gad G 19)), (4, .ref (gad G 20)), (5, .int (nI i))]) (kk : ∀ (v' : V3) (H1 : Heap) (locs1 : List Loc) (ls1 : Array Slot), IV v' g (B + 99) → Zs G s v' H1 locs1 → lv_has ls1 9 [(0, .ref b), (1, .ref (gad G 0)), (2, .ref (gad G 7)), (3, .ref (gad G 19)), (4, .ref (gad G 20)), (5, .int (nI i))] → W p l e room_1 s m #[Value.ref b] below meth c H1 locs1 (kc + 60) (ks + 700) Q (F0 m 2228 ls1 [])) : W p l e room_1 s m #[Value.ref b] below meth c H locs kc ks Q (F0 m 1209 ls []) := by
  have hx := C0.1
  have hb := C0.2.1
  have hg := cx_g C0
  refine lv_aload_n hx hb dL_law_1209 rfl (lv_at hl 1 rfl) ?_
  refine lv_aload_n hx hb dL_law_1210 rfl (lv_at hl 0 rfl) ?_
  refine lv_iload hx hb dL_law_1211 (lv_at hl 5 rfl) ?_
  refine lv_iconst (v := 1) hx hb dL_law_1213 (by decide) ?_
  refine lv_iadd hx hb dL_law_1214 ?_
  refine va_sld hx hb hX hbl hbA Z.2.2 (show vp_in (nI i + 1) L by rw [show (1 : Int32) = nI 1 from rfl, nI_add]; exact vp_in_nI (by omega) (by omega)) dL_law_1215 ?_
  refine lv_aload_n hx hb dL_law_1216 rfl (lv_at hl 3 rfl) ?_
  refine z_callH C0 Z hl.1 (As := [.ref (gad G 0), .int (xs (nI i + 1).toNatClampNeg), .ref (gad G 19)]) (rest := []) (k_L_cancel l hst hg (ca_cancel h hB _)) (gv_L_cancel tm_4_35) ds_L_cancel ⟨Nat.le_of_ble_eq_true rfl, Nat.le_of_ble_eq_true rfl⟩ rfl rfl (Nat.le_of_ble_eq_true rfl) ⟨by show kc + 1 ≤ 601024; omega, by show ks + 6 ≤ 7293034; omega⟩ dL_law_1217 (fun k u H locs hw Z => ?_)
  refine lv_istore (lv' := [(6, .int k), (0, .ref b), (1, .ref (gad G 0)), (2, .ref (gad G 7)), (3, .ref (gad G 19)), (4, .ref (gad G 20)), (5, .int (nI i))]) hx hb dL_law_1220 hl (by decide) rfl (fun ls hl => ?_)
  rcases hw with ⟨hk, r, e19, hw⟩ | ⟨hk, hw⟩
  · subst hk
    refine lv_aload_n hx hb dL_law_1222 rfl (lv_at hl 3 rfl) ?_
    refine lv_aload_n hx hb dL_law_1223 rfl (lv_at hl 1 rfl) ?_
    refine lv_iload hx hb dL_law_1224 (lv_at hl 6 rfl) ?_
    refine lv_iconst (v := 1) hx hb dL_law_1226 (by decide) ?_
    refine lv_iadd hx hb dL_law_1227 ?_
    refine va_sld hx hb hX hbl hbA Z.2.2 (show vp_in (nI i + 1) L by rw [show (1 : Int32) = nI 1 from rfl, nI_add]; exact vp_in_nI (by omega) (by omega)) dL_law_1228 ?_
    refine z_callVi C0 Z hl.1 (As := [.int (xs (nI i + 1).toNatClampNeg)]) (rest := []) (k_X4_cancel l hg hw) (gv_X4_cancel tm_6_115) rfl ds_X4_cancel ⟨Nat.le_of_ble_eq_true rfl, Nat.le_of_ble_eq_true rfl⟩ (ci := 4) rfl (cx_lt C0 (by decide)) rfl rfl rfl (Nat.le_of_ble_eq_true rfl) ⟨by show kc + 1 ≤ 601024; omega, by show ks + 6 ≤ 7293034; omega⟩ dL_law_1229 (fun b2 u2 H locs hw Z => ?_)
    refine lv_istore (lv' := [(7, .int b2), (6, .int 0), (0, .ref b), (1, .ref (gad G 0)), (2, .ref (gad G 7)), (3, .ref (gad G 19)), (4, .ref (gad G 20)), (5, .int (nI i))]) hx hb dL_law_1232 hl (by decide) rfl (fun ls hl => ?_)
    obtain ⟨h11, hbr, hi, i19, i20⟩ := hw
    refine lv_aload_n hx hb dL_law_1234 rfl (lv_at hl 4 rfl) ?_
    refine z_callVi C0 Z hl.1 (As := []) (rest := []) (k_X4_thrown l hg (Q := fun t w => w = u2 ∧ t = u2 7 11) ⟨rfl, rfl⟩) (gv_X4_thrown tm_5_67) rfl ds_X4_thrown ⟨Nat.le_of_ble_eq_true rfl, Nat.le_of_ble_eq_true rfl⟩ (ci := 4) rfl (cx_lt C0 (by decide)) rfl rfl rfl (Nat.le_of_ble_eq_true rfl) ⟨by show kc + 1 ≤ 601024; omega, by show ks + 6 ≤ 7293034; omega⟩ dL_law_1235 (fun t u3 H locs hw Z => ?_)
    obtain ⟨e3, ht⟩ := hw
    rw [e3] at Z
    refine lv_iload hx hb dL_law_1238 (lv_at hl 1 rfl) ?_
    refine lv_icmp_eq (tgt := 1245) hx hb dL_law_1240 (by decide) (fun _ => ?_) (fun c => absurd (ht.trans h11) c)
    refine lv_iload hx hb dL_law_1245 (lv_at hl 1 rfl) ?_
    refine lv_if_ne (tgt := 1262) hx hb dL_law_1247 (by decide) (fun c => absurd rfl c) (fun _ => ?_)
    refine lv_aload_n hx hb dL_law_1250 rfl (lv_at hl 5 rfl) ?_
    refine lv_iconst (v := 0) hx hb dL_law_1251 (by decide) ?_
    refine z_lald C0 Z dL_law_1252 ?_
    refine lv_iload hx hb dL_law_1253 (lv_at hl 0 rfl) ?_
    refine lv_i2l (v := b2.toInt64) hx hb dL_law_1255 rfl ?_
    refine W.lcmp hx hb dL_law_1256 ?_
    refine lv_if_eq (tgt := 1262) hx hb dL_law_1257 (by decide) (fun _ => ?_) (fun c => absurd ((lg_cmp_eq _ _).mpr (by rw [i19, e19, hbr])) c)
    refine lv_goto (tgt := 2228) hx hb dL_law_1262 (by decide) ?_
    refine W.widen (k := kc + 60) (n := ks + 700) (by omega) (by omega) ?_
    exact kk _ _ _ _ hi Z (lv_sub hl [2, 3, 4, 5, 6, 7] rfl)
  · refine lv_aload_n hx hb dL_law_1222 rfl (lv_at hl 3 rfl) ?_
    refine lv_aload_n hx hb dL_law_1223 rfl (lv_at hl 1 rfl) ?_
    refine lv_iload hx hb dL_law_1224 (lv_at hl 6 rfl) ?_
    refine lv_iconst (v := 1) hx hb dL_law_1226 (by decide) ?_
    refine lv_iadd hx hb dL_law_1227 ?_
    refine va_sld hx hb hX hbl hbA Z.2.2 (show vp_in (nI i + 1) L by rw [show (1 : Int32) = nI 1 from rfl, nI_add]; exact vp_in_nI (by omega) (by omega)) dL_law_1228 ?_
    refine z_callVi C0 Z hl.1 (As := [.int (xs (nI i + 1).toNatClampNeg)]) (rest := []) (k_X4_cancel l hg hw) (gv_X4_cancel tm_6_115) rfl ds_X4_cancel ⟨Nat.le_of_ble_eq_true rfl, Nat.le_of_ble_eq_true rfl⟩ (ci := 4) rfl (cx_lt C0 (by decide)) rfl rfl rfl (Nat.le_of_ble_eq_true rfl) ⟨by show kc + 1 ≤ 601024; omega, by show ks + 6 ≤ 7293034; omega⟩ dL_law_1229 (fun b2 u2 H locs hw Z => ?_)
    refine lv_istore (lv' := [(7, .int b2), (6, .int k), (0, .ref b), (1, .ref (gad G 0)), (2, .ref (gad G 7)), (3, .ref (gad G 19)), (4, .ref (gad G 20)), (5, .int (nI i))]) hx hb dL_law_1232 hl (by decide) rfl (fun ls hl => ?_)
    obtain ⟨h11, hi, i19, i20⟩ := hw
    refine lv_aload_n hx hb dL_law_1234 rfl (lv_at hl 4 rfl) ?_
    refine z_callVi C0 Z hl.1 (As := []) (rest := []) (k_X4_thrown l hg (Q := fun t w => w = u2 ∧ t = u2 7 11) ⟨rfl, rfl⟩) (gv_X4_thrown tm_5_67) rfl ds_X4_thrown ⟨Nat.le_of_ble_eq_true rfl, Nat.le_of_ble_eq_true rfl⟩ (ci := 4) rfl (cx_lt C0 (by decide)) rfl rfl rfl (Nat.le_of_ble_eq_true rfl) ⟨by show kc + 1 ≤ 601024; omega, by show ks + 6 ≤ 7293034; omega⟩ dL_law_1235 (fun t u3 H locs hw Z => ?_)
    obtain ⟨e3, ht⟩ := hw
    rw [e3] at Z
    refine lv_iload hx hb dL_law_1238 (lv_at hl 1 rfl) ?_
    refine lv_icmp_eq (tgt := 1245) hx hb dL_law_1240 (by decide) (fun _ => ?_) (fun c => absurd (ht.trans h11) c)
    refine lv_iload hx hb dL_law_1245 (lv_at hl 1 rfl) ?_
    refine lv_if_ne (tgt := 1262) hx hb dL_law_1247 (by decide) (fun _ => ?_) (fun c => absurd c hk)
    refine lv_goto (tgt := 2228) hx hb dL_law_1262 (by decide) ?_
    refine W.widen (k := kc + 60) (n := ks + 700) (by omega) (by omega) ?_
    exact kk _ _ _ _ hi Z (lv_sub hl [2, 3, 4, 5, 6, 7] rfl)
set_option maxRecDepth 100000 in
set_option maxHeartbeats 4000000 in
theorem lc_evict {p : Program} (l : Launch) (hst : l.stackTraces = false) {e : Env} {s : State} {m : MethodId} {below : List Frame} {meth : Method} {c : Code} {G : zG} {b L : Nat} {xs : Nat → Int32} (C0 : Cx G RL cL_law 9 (some .boolean) p s m #[Value.ref b] meth c) {v : V3} {H : Heap} {locs : List Loc} (Z : Zs G s v H locs) (hX : va_X b L xs s s.heap) (hbl : b < s.heap.size) (hbA : ¬ zA G b) {i : Nat} (hiL : i + 5 ≤ L) (hL : L ≤ 2560) {g : Nat} {B : Int} (h : IV v g B) (hB : B + 99 ≤ 900000) {kc ks : Nat} (hkc : kc + 60 ≤ 601024) (hks : ks + 700 ≤ 7293034) {Q : State → Prop} {ls : Array Slot} (hl : lv_has ls 9 [(0, .ref b), (1, .ref (gad G 0)), (2, .ref (gad G 7)), (3, .ref (gad G 19)), (4, .ref (gad G 20)), (5, .int (nI i))]) (kk : ∀ (v' : V3) (H1 : Heap) (locs1 : List Loc) (ls1 : Array Slot), IV v' g (B + 99) → Zs G s v' H1 locs1 → lv_has ls1 9 [(0, .ref b), (1, .ref (gad G 0)), (2, .ref (gad G 7)), (3, .ref (gad G 19)), (4, .ref (gad G 20)), (5, .int (nI i))] → W p l e room_1 s m #[Value.ref b] below meth c H1 locs1 (kc + 60) (ks + 700) Q (F0 m 2228 ls1 [])) : W p l e room_1 s m #[Value.ref b] below meth c H locs kc ks Q (F0 m 1265 ls []) := by
  have hx := C0.1
  have hb := C0.2.1
  have hg := cx_g C0
  refine lv_aload_n hx hb dL_law_1265 rfl (lv_at hl 1 rfl) ?_
  refine lv_aload_n hx hb dL_law_1266 rfl (lv_at hl 0 rfl) ?_
  refine lv_iload hx hb dL_law_1267 (lv_at hl 5 rfl) ?_
  refine lv_iconst (v := 1) hx hb dL_law_1269 (by decide) ?_
  refine lv_iadd hx hb dL_law_1270 ?_
  refine va_sld hx hb hX hbl hbA Z.2.2 (show vp_in (nI i + 1) L by rw [show (1 : Int32) = nI 1 from rfl, nI_add]; exact vp_in_nI (by omega) (by omega)) dL_law_1271 ?_
  refine lv_aload_n hx hb dL_law_1272 rfl (lv_at hl 3 rfl) ?_
  refine z_callH C0 Z hl.1 (As := [.ref (gad G 0), .int (xs (nI i + 1).toNatClampNeg), .ref (gad G 19)]) (rest := []) (k_L_evict l hst hg (ca_evict h hB _)) (gv_L_evict tm_4_42) ds_L_evict ⟨Nat.le_of_ble_eq_true rfl, Nat.le_of_ble_eq_true rfl⟩ rfl rfl (Nat.le_of_ble_eq_true rfl) ⟨by show kc + 1 ≤ 601024; omega, by show ks + 6 ≤ 7293034; omega⟩ dL_law_1273 (fun k u H locs hw Z => ?_)
  refine lv_istore (lv' := [(6, .int k), (0, .ref b), (1, .ref (gad G 0)), (2, .ref (gad G 7)), (3, .ref (gad G 19)), (4, .ref (gad G 20)), (5, .int (nI i))]) hx hb dL_law_1276 hl (by decide) rfl (fun ls hl => ?_)
  rcases hw with ⟨hk, r, e19, hw⟩ | ⟨hk, hw⟩
  · subst hk
    refine lv_aload_n hx hb dL_law_1278 rfl (lv_at hl 3 rfl) ?_
    refine lv_aload_n hx hb dL_law_1279 rfl (lv_at hl 1 rfl) ?_
    refine lv_iload hx hb dL_law_1280 (lv_at hl 6 rfl) ?_
    refine lv_iconst (v := 1) hx hb dL_law_1282 (by decide) ?_
    refine lv_iadd hx hb dL_law_1283 ?_
    refine va_sld hx hb hX hbl hbA Z.2.2 (show vp_in (nI i + 1) L by rw [show (1 : Int32) = nI 1 from rfl, nI_add]; exact vp_in_nI (by omega) (by omega)) dL_law_1284 ?_
    refine z_callVi C0 Z hl.1 (As := [.int (xs (nI i + 1).toNatClampNeg)]) (rest := []) (k_X4_evict l hg hw) (gv_X4_evict tm_6_119) rfl ds_X4_evict ⟨Nat.le_of_ble_eq_true rfl, Nat.le_of_ble_eq_true rfl⟩ (ci := 4) rfl (cx_lt C0 (by decide)) rfl rfl rfl (Nat.le_of_ble_eq_true rfl) ⟨by show kc + 1 ≤ 601024; omega, by show ks + 6 ≤ 7293034; omega⟩ dL_law_1285 (fun b2 u2 H locs hw Z => ?_)
    refine lv_istore (lv' := [(7, .int b2), (6, .int 0), (0, .ref b), (1, .ref (gad G 0)), (2, .ref (gad G 7)), (3, .ref (gad G 19)), (4, .ref (gad G 20)), (5, .int (nI i))]) hx hb dL_law_1288 hl (by decide) rfl (fun ls hl => ?_)
    obtain ⟨h11, hbr, hi, i19, i20⟩ := hw
    refine lv_aload_n hx hb dL_law_1290 rfl (lv_at hl 4 rfl) ?_
    refine z_callVi C0 Z hl.1 (As := []) (rest := []) (k_X4_thrown l hg (Q := fun t w => w = u2 ∧ t = u2 7 11) ⟨rfl, rfl⟩) (gv_X4_thrown tm_5_67) rfl ds_X4_thrown ⟨Nat.le_of_ble_eq_true rfl, Nat.le_of_ble_eq_true rfl⟩ (ci := 4) rfl (cx_lt C0 (by decide)) rfl rfl rfl (Nat.le_of_ble_eq_true rfl) ⟨by show kc + 1 ≤ 601024; omega, by show ks + 6 ≤ 7293034; omega⟩ dL_law_1291 (fun t u3 H locs hw Z => ?_)
    obtain ⟨e3, ht⟩ := hw
    rw [e3] at Z
    refine lv_iload hx hb dL_law_1294 (lv_at hl 1 rfl) ?_
    refine lv_icmp_eq (tgt := 1301) hx hb dL_law_1296 (by decide) (fun _ => ?_) (fun c => absurd (ht.trans h11) c)
    refine lv_iload hx hb dL_law_1301 (lv_at hl 1 rfl) ?_
    refine lv_if_ne (tgt := 1318) hx hb dL_law_1303 (by decide) (fun c => absurd rfl c) (fun _ => ?_)
    refine lv_aload_n hx hb dL_law_1306 rfl (lv_at hl 5 rfl) ?_
    refine lv_iconst (v := 0) hx hb dL_law_1307 (by decide) ?_
    refine z_lald C0 Z dL_law_1308 ?_
    refine lv_iload hx hb dL_law_1309 (lv_at hl 0 rfl) ?_
    refine lv_i2l (v := b2.toInt64) hx hb dL_law_1311 rfl ?_
    refine W.lcmp hx hb dL_law_1312 ?_
    refine lv_if_eq (tgt := 1318) hx hb dL_law_1313 (by decide) (fun _ => ?_) (fun c => absurd ((lg_cmp_eq _ _).mpr (by rw [i19, e19, hbr])) c)
    refine lv_goto (tgt := 2228) hx hb dL_law_1318 (by decide) ?_
    refine W.widen (k := kc + 60) (n := ks + 700) (by omega) (by omega) ?_
    exact kk _ _ _ _ hi Z (lv_sub hl [2, 3, 4, 5, 6, 7] rfl)
  · refine lv_aload_n hx hb dL_law_1278 rfl (lv_at hl 3 rfl) ?_
    refine lv_aload_n hx hb dL_law_1279 rfl (lv_at hl 1 rfl) ?_
    refine lv_iload hx hb dL_law_1280 (lv_at hl 6 rfl) ?_
    refine lv_iconst (v := 1) hx hb dL_law_1282 (by decide) ?_
    refine lv_iadd hx hb dL_law_1283 ?_
    refine va_sld hx hb hX hbl hbA Z.2.2 (show vp_in (nI i + 1) L by rw [show (1 : Int32) = nI 1 from rfl, nI_add]; exact vp_in_nI (by omega) (by omega)) dL_law_1284 ?_
    refine z_callVi C0 Z hl.1 (As := [.int (xs (nI i + 1).toNatClampNeg)]) (rest := []) (k_X4_evict l hg hw) (gv_X4_evict tm_6_119) rfl ds_X4_evict ⟨Nat.le_of_ble_eq_true rfl, Nat.le_of_ble_eq_true rfl⟩ (ci := 4) rfl (cx_lt C0 (by decide)) rfl rfl rfl (Nat.le_of_ble_eq_true rfl) ⟨by show kc + 1 ≤ 601024; omega, by show ks + 6 ≤ 7293034; omega⟩ dL_law_1285 (fun b2 u2 H locs hw Z => ?_)
    refine lv_istore (lv' := [(7, .int b2), (6, .int k), (0, .ref b), (1, .ref (gad G 0)), (2, .ref (gad G 7)), (3, .ref (gad G 19)), (4, .ref (gad G 20)), (5, .int (nI i))]) hx hb dL_law_1288 hl (by decide) rfl (fun ls hl => ?_)
    obtain ⟨h11, hi, i19, i20⟩ := hw
    refine lv_aload_n hx hb dL_law_1290 rfl (lv_at hl 4 rfl) ?_
    refine z_callVi C0 Z hl.1 (As := []) (rest := []) (k_X4_thrown l hg (Q := fun t w => w = u2 ∧ t = u2 7 11) ⟨rfl, rfl⟩) (gv_X4_thrown tm_5_67) rfl ds_X4_thrown ⟨Nat.le_of_ble_eq_true rfl, Nat.le_of_ble_eq_true rfl⟩ (ci := 4) rfl (cx_lt C0 (by decide)) rfl rfl rfl (Nat.le_of_ble_eq_true rfl) ⟨by show kc + 1 ≤ 601024; omega, by show ks + 6 ≤ 7293034; omega⟩ dL_law_1291 (fun t u3 H locs hw Z => ?_)
    obtain ⟨e3, ht⟩ := hw
    rw [e3] at Z
    refine lv_iload hx hb dL_law_1294 (lv_at hl 1 rfl) ?_
    refine lv_icmp_eq (tgt := 1301) hx hb dL_law_1296 (by decide) (fun _ => ?_) (fun c => absurd (ht.trans h11) c)
    refine lv_iload hx hb dL_law_1301 (lv_at hl 1 rfl) ?_
    refine lv_if_ne (tgt := 1318) hx hb dL_law_1303 (by decide) (fun _ => ?_) (fun c => absurd c hk)
    refine lv_goto (tgt := 2228) hx hb dL_law_1318 (by decide) ?_
    refine W.widen (k := kc + 60) (n := ks + 700) (by omega) (by omega) ?_
    exact kk _ _ _ _ hi Z (lv_sub hl [2, 3, 4, 5, 6, 7] rfl)
set_option maxRecDepth 100000 in
set_option maxHeartbeats 4000000 in
theorem lc_swap {p : Program} (l : Launch) (hst : l.stackTraces = false) {e : Env} {s : State} {m : MethodId} {below : List Frame} {meth : Method} {c : Code} {G : zG} {b L : Nat} {xs : Nat → Int32} (C0 : Cx G RL cL_law 9 (some .boolean) p s m #[Value.ref b] meth c) {v : V3} {H : Heap} {locs : List Loc} (Z : Zs G s v H locs) (hX : va_X b L xs s s.heap) (hbl : b < s.heap.size) (hbA : ¬ zA G b) {i : Nat} (hiL : i + 5 ≤ L) (hL : L ≤ 2560) {g : Nat} {B : Int} (h : IV v g B) (hB : B + 99 ≤ 900000) {kc ks : Nat} (hkc : kc + 60 ≤ 601024) (hks : ks + 700 ≤ 7293034) {Q : State → Prop} {ls : Array Slot} (hl : lv_has ls 9 [(0, .ref b), (1, .ref (gad G 0)), (2, .ref (gad G 7)), (3, .ref (gad G 19)), (4, .ref (gad G 20)), (5, .int (nI i))]) (kk : ∀ (v' : V3) (H1 : Heap) (locs1 : List Loc) (ls1 : Array Slot), IV v' g (B + 99) → Zs G s v' H1 locs1 → lv_has ls1 9 [(0, .ref b), (1, .ref (gad G 0)), (2, .ref (gad G 7)), (3, .ref (gad G 19)), (4, .ref (gad G 20)), (5, .int (nI i))] → W p l e room_1 s m #[Value.ref b] below meth c H1 locs1 (kc + 60) (ks + 700) Q (F0 m 2228 ls1 [])) : W p l e room_1 s m #[Value.ref b] below meth c H locs kc ks Q (F0 m 1321 ls []) := by
  have hx := C0.1
  have hb := C0.2.1
  have hg := cx_g C0
  refine lv_aload_n hx hb dL_law_1321 rfl (lv_at hl 1 rfl) ?_
  refine lv_aload_n hx hb dL_law_1322 rfl (lv_at hl 0 rfl) ?_
  refine lv_iload hx hb dL_law_1323 (lv_at hl 5 rfl) ?_
  refine lv_iconst (v := 1) hx hb dL_law_1325 (by decide) ?_
  refine lv_iadd hx hb dL_law_1326 ?_
  refine va_sld hx hb hX hbl hbA Z.2.2 (show vp_in (nI i + 1) L by rw [show (1 : Int32) = nI 1 from rfl, nI_add]; exact vp_in_nI (by omega) (by omega)) dL_law_1327 ?_
  refine lv_aload_n hx hb dL_law_1328 rfl (lv_at hl 0 rfl) ?_
  refine lv_iload hx hb dL_law_1329 (lv_at hl 5 rfl) ?_
  refine lv_iconst (v := 2) hx hb dL_law_1331 (by decide) ?_
  refine lv_iadd hx hb dL_law_1332 ?_
  refine va_sld hx hb hX hbl hbA Z.2.2 (show vp_in (nI i + 2) L by rw [show (2 : Int32) = nI 2 from rfl, nI_add]; exact vp_in_nI (by omega) (by omega)) dL_law_1333 ?_
  refine lv_aload_n hx hb dL_law_1334 rfl (lv_at hl 3 rfl) ?_
  refine z_callH C0 Z hl.1 (As := [.ref (gad G 0), .int (xs (nI i + 1).toNatClampNeg), .int (xs (nI i + 2).toNatClampNeg), .ref (gad G 19)]) (rest := []) (k_L_swap l hst hg (ca_swap h hB _ _)) (gv_L_swap tm_4_50) ds_L_swap ⟨Nat.le_of_ble_eq_true rfl, Nat.le_of_ble_eq_true rfl⟩ rfl rfl (Nat.le_of_ble_eq_true rfl) ⟨by show kc + 3 ≤ 601024; omega, by show ks + 18 ≤ 7293034; omega⟩ dL_law_1335 (fun k u H locs hw Z => ?_)
  refine lv_istore (lv' := [(6, .int k), (0, .ref b), (1, .ref (gad G 0)), (2, .ref (gad G 7)), (3, .ref (gad G 19)), (4, .ref (gad G 20)), (5, .int (nI i))]) hx hb dL_law_1338 hl (by decide) rfl (fun ls hl => ?_)
  rcases hw with ⟨hk, r, e19, hw⟩ | ⟨hk, hw⟩
  · subst hk
    refine lv_aload_n hx hb dL_law_1340 rfl (lv_at hl 3 rfl) ?_
    refine lv_aload_n hx hb dL_law_1341 rfl (lv_at hl 1 rfl) ?_
    refine lv_iload hx hb dL_law_1342 (lv_at hl 6 rfl) ?_
    refine lv_iconst (v := 1) hx hb dL_law_1344 (by decide) ?_
    refine lv_iadd hx hb dL_law_1345 ?_
    refine va_sld hx hb hX hbl hbA Z.2.2 (show vp_in (nI i + 1) L by rw [show (1 : Int32) = nI 1 from rfl, nI_add]; exact vp_in_nI (by omega) (by omega)) dL_law_1346 ?_
    refine lv_aload_n hx hb dL_law_1347 rfl (lv_at hl 1 rfl) ?_
    refine lv_iload hx hb dL_law_1348 (lv_at hl 6 rfl) ?_
    refine lv_iconst (v := 2) hx hb dL_law_1350 (by decide) ?_
    refine lv_iadd hx hb dL_law_1351 ?_
    refine va_sld hx hb hX hbl hbA Z.2.2 (show vp_in (nI i + 2) L by rw [show (2 : Int32) = nI 2 from rfl, nI_add]; exact vp_in_nI (by omega) (by omega)) dL_law_1352 ?_
    refine z_callVi C0 Z hl.1 (As := [.int (xs (nI i + 1).toNatClampNeg), .int (xs (nI i + 2).toNatClampNeg)]) (rest := []) (k_X4_swap l hg hw) (gv_X4_swap tm_6_123) rfl ds_X4_swap ⟨Nat.le_of_ble_eq_true rfl, Nat.le_of_ble_eq_true rfl⟩ (ci := 4) rfl (cx_lt C0 (by decide)) rfl rfl rfl (Nat.le_of_ble_eq_true rfl) ⟨by show kc + 3 ≤ 601024; omega, by show ks + 18 ≤ 7293034; omega⟩ dL_law_1353 (fun b2 u2 H locs hw Z => ?_)
    refine lv_istore (lv' := [(7, .int b2), (6, .int 0), (0, .ref b), (1, .ref (gad G 0)), (2, .ref (gad G 7)), (3, .ref (gad G 19)), (4, .ref (gad G 20)), (5, .int (nI i))]) hx hb dL_law_1356 hl (by decide) rfl (fun ls hl => ?_)
    obtain ⟨h11, hbr, hi, i19, i20⟩ := hw
    refine lv_aload_n hx hb dL_law_1358 rfl (lv_at hl 4 rfl) ?_
    refine z_callVi C0 Z hl.1 (As := []) (rest := []) (k_X4_thrown l hg (Q := fun t w => w = u2 ∧ t = u2 7 11) ⟨rfl, rfl⟩) (gv_X4_thrown tm_5_67) rfl ds_X4_thrown ⟨Nat.le_of_ble_eq_true rfl, Nat.le_of_ble_eq_true rfl⟩ (ci := 4) rfl (cx_lt C0 (by decide)) rfl rfl rfl (Nat.le_of_ble_eq_true rfl) ⟨by show kc + 3 ≤ 601024; omega, by show ks + 18 ≤ 7293034; omega⟩ dL_law_1359 (fun t u3 H locs hw Z => ?_)
    obtain ⟨e3, ht⟩ := hw
    rw [e3] at Z
    refine lv_iload hx hb dL_law_1362 (lv_at hl 1 rfl) ?_
    refine lv_icmp_eq (tgt := 1369) hx hb dL_law_1364 (by decide) (fun _ => ?_) (fun c => absurd (ht.trans h11) c)
    refine lv_iload hx hb dL_law_1369 (lv_at hl 1 rfl) ?_
    refine lv_if_ne (tgt := 1386) hx hb dL_law_1371 (by decide) (fun c => absurd rfl c) (fun _ => ?_)
    refine lv_aload_n hx hb dL_law_1374 rfl (lv_at hl 5 rfl) ?_
    refine lv_iconst (v := 0) hx hb dL_law_1375 (by decide) ?_
    refine z_lald C0 Z dL_law_1376 ?_
    refine lv_iload hx hb dL_law_1377 (lv_at hl 0 rfl) ?_
    refine lv_i2l (v := b2.toInt64) hx hb dL_law_1379 rfl ?_
    refine W.lcmp hx hb dL_law_1380 ?_
    refine lv_if_eq (tgt := 1386) hx hb dL_law_1381 (by decide) (fun _ => ?_) (fun c => absurd ((lg_cmp_eq _ _).mpr (by rw [i19, e19, hbr])) c)
    refine lv_goto (tgt := 2228) hx hb dL_law_1386 (by decide) ?_
    refine W.widen (k := kc + 60) (n := ks + 700) (by omega) (by omega) ?_
    exact kk _ _ _ _ hi Z (lv_sub hl [2, 3, 4, 5, 6, 7] rfl)
  · refine lv_aload_n hx hb dL_law_1340 rfl (lv_at hl 3 rfl) ?_
    refine lv_aload_n hx hb dL_law_1341 rfl (lv_at hl 1 rfl) ?_
    refine lv_iload hx hb dL_law_1342 (lv_at hl 6 rfl) ?_
    refine lv_iconst (v := 1) hx hb dL_law_1344 (by decide) ?_
    refine lv_iadd hx hb dL_law_1345 ?_
    refine va_sld hx hb hX hbl hbA Z.2.2 (show vp_in (nI i + 1) L by rw [show (1 : Int32) = nI 1 from rfl, nI_add]; exact vp_in_nI (by omega) (by omega)) dL_law_1346 ?_
    refine lv_aload_n hx hb dL_law_1347 rfl (lv_at hl 1 rfl) ?_
    refine lv_iload hx hb dL_law_1348 (lv_at hl 6 rfl) ?_
    refine lv_iconst (v := 2) hx hb dL_law_1350 (by decide) ?_
    refine lv_iadd hx hb dL_law_1351 ?_
    refine va_sld hx hb hX hbl hbA Z.2.2 (show vp_in (nI i + 2) L by rw [show (2 : Int32) = nI 2 from rfl, nI_add]; exact vp_in_nI (by omega) (by omega)) dL_law_1352 ?_
    refine z_callVi C0 Z hl.1 (As := [.int (xs (nI i + 1).toNatClampNeg), .int (xs (nI i + 2).toNatClampNeg)]) (rest := []) (k_X4_swap l hg hw) (gv_X4_swap tm_6_123) rfl ds_X4_swap ⟨Nat.le_of_ble_eq_true rfl, Nat.le_of_ble_eq_true rfl⟩ (ci := 4) rfl (cx_lt C0 (by decide)) rfl rfl rfl (Nat.le_of_ble_eq_true rfl) ⟨by show kc + 3 ≤ 601024; omega, by show ks + 18 ≤ 7293034; omega⟩ dL_law_1353 (fun b2 u2 H locs hw Z => ?_)
    refine lv_istore (lv' := [(7, .int b2), (6, .int k), (0, .ref b), (1, .ref (gad G 0)), (2, .ref (gad G 7)), (3, .ref (gad G 19)), (4, .ref (gad G 20)), (5, .int (nI i))]) hx hb dL_law_1356 hl (by decide) rfl (fun ls hl => ?_)
    obtain ⟨h11, hi, i19, i20⟩ := hw
    refine lv_aload_n hx hb dL_law_1358 rfl (lv_at hl 4 rfl) ?_
    refine z_callVi C0 Z hl.1 (As := []) (rest := []) (k_X4_thrown l hg (Q := fun t w => w = u2 ∧ t = u2 7 11) ⟨rfl, rfl⟩) (gv_X4_thrown tm_5_67) rfl ds_X4_thrown ⟨Nat.le_of_ble_eq_true rfl, Nat.le_of_ble_eq_true rfl⟩ (ci := 4) rfl (cx_lt C0 (by decide)) rfl rfl rfl (Nat.le_of_ble_eq_true rfl) ⟨by show kc + 3 ≤ 601024; omega, by show ks + 18 ≤ 7293034; omega⟩ dL_law_1359 (fun t u3 H locs hw Z => ?_)
    obtain ⟨e3, ht⟩ := hw
    rw [e3] at Z
    refine lv_iload hx hb dL_law_1362 (lv_at hl 1 rfl) ?_
    refine lv_icmp_eq (tgt := 1369) hx hb dL_law_1364 (by decide) (fun _ => ?_) (fun c => absurd (ht.trans h11) c)
    refine lv_iload hx hb dL_law_1369 (lv_at hl 1 rfl) ?_
    refine lv_if_ne (tgt := 1386) hx hb dL_law_1371 (by decide) (fun _ => ?_) (fun c => absurd c hk)
    refine lv_goto (tgt := 2228) hx hb dL_law_1386 (by decide) ?_
    refine W.widen (k := kc + 60) (n := ks + 700) (by omega) (by omega) ?_
    exact kk _ _ _ _ hi Z (lv_sub hl [2, 3, 4, 5, 6, 7] rfl)
set_option maxRecDepth 100000 in
set_option maxHeartbeats 4000000 in
theorem lc_buy {p : Program} (l : Launch) (hst : l.stackTraces = false) {e : Env} {s : State} {m : MethodId} {below : List Frame} {meth : Method} {c : Code} {G : zG} {b L : Nat} {xs : Nat → Int32} (C0 : Cx G RL cL_law 9 (some .boolean) p s m #[Value.ref b] meth c) {v : V3} {H : Heap} {locs : List Loc} (Z : Zs G s v H locs) (hX : va_X b L xs s s.heap) (hbl : b < s.heap.size) (hbA : ¬ zA G b) {i : Nat} (hiL : i + 5 ≤ L) (hL : L ≤ 2560) {g : Nat} {B : Int} (h : IV v g B) (hB : B + 99 ≤ 900000) {kc ks : Nat} (hkc : kc + 60 ≤ 601024) (hks : ks + 700 ≤ 7293034) {Q : State → Prop} {ls : Array Slot} (hl : lv_has ls 9 [(0, .ref b), (1, .ref (gad G 0)), (2, .ref (gad G 7)), (3, .ref (gad G 19)), (4, .ref (gad G 20)), (5, .int (nI i))]) (kk : ∀ (v' : V3) (H1 : Heap) (locs1 : List Loc) (ls1 : Array Slot), IV v' g (B + 99) → Zs G s v' H1 locs1 → lv_has ls1 9 [(0, .ref b), (1, .ref (gad G 0)), (2, .ref (gad G 7)), (3, .ref (gad G 19)), (4, .ref (gad G 20)), (5, .int (nI i))] → W p l e room_1 s m #[Value.ref b] below meth c H1 locs1 (kc + 60) (ks + 700) Q (F0 m 2228 ls1 [])) : W p l e room_1 s m #[Value.ref b] below meth c H locs kc ks Q (F0 m 1389 ls []) := by
  have hx := C0.1
  have hb := C0.2.1
  have hg := cx_g C0
  refine lv_aload_n hx hb dL_law_1389 rfl (lv_at hl 1 rfl) ?_
  refine lv_aload_n hx hb dL_law_1390 rfl (lv_at hl 0 rfl) ?_
  refine lv_iload hx hb dL_law_1391 (lv_at hl 5 rfl) ?_
  refine lv_iconst (v := 1) hx hb dL_law_1393 (by decide) ?_
  refine lv_iadd hx hb dL_law_1394 ?_
  refine va_sld hx hb hX hbl hbA Z.2.2 (show vp_in (nI i + 1) L by rw [show (1 : Int32) = nI 1 from rfl, nI_add]; exact vp_in_nI (by omega) (by omega)) dL_law_1395 ?_
  refine lv_aload_n hx hb dL_law_1396 rfl (lv_at hl 0 rfl) ?_
  refine lv_iload hx hb dL_law_1397 (lv_at hl 5 rfl) ?_
  refine lv_iconst (v := 2) hx hb dL_law_1399 (by decide) ?_
  refine lv_iadd hx hb dL_law_1400 ?_
  refine va_sld hx hb hX hbl hbA Z.2.2 (show vp_in (nI i + 2) L by rw [show (2 : Int32) = nI 2 from rfl, nI_add]; exact vp_in_nI (by omega) (by omega)) dL_law_1401 ?_
  refine lv_aload_n hx hb dL_law_1402 rfl (lv_at hl 3 rfl) ?_
  refine z_callH C0 Z hl.1 (As := [.ref (gad G 0), .int (xs (nI i + 1).toNatClampNeg), .int (xs (nI i + 2).toNatClampNeg), .ref (gad G 19)]) (rest := []) (k_L_buy l hst hg (ca_buy h hB _ _)) (gv_L_buy tm_4_60) ds_L_buy ⟨Nat.le_of_ble_eq_true rfl, Nat.le_of_ble_eq_true rfl⟩ rfl rfl (Nat.le_of_ble_eq_true rfl) ⟨by show kc + 2 ≤ 601024; omega, by show ks + 12 ≤ 7293034; omega⟩ dL_law_1403 (fun k u H locs hw Z => ?_)
  refine lv_istore (lv' := [(6, .int k), (0, .ref b), (1, .ref (gad G 0)), (2, .ref (gad G 7)), (3, .ref (gad G 19)), (4, .ref (gad G 20)), (5, .int (nI i))]) hx hb dL_law_1406 hl (by decide) rfl (fun ls hl => ?_)
  rcases hw with ⟨hk, r, e19, hw⟩ | ⟨hk, hw⟩
  · subst hk
    refine lv_aload_n hx hb dL_law_1408 rfl (lv_at hl 3 rfl) ?_
    refine lv_aload_n hx hb dL_law_1409 rfl (lv_at hl 1 rfl) ?_
    refine lv_iload hx hb dL_law_1410 (lv_at hl 6 rfl) ?_
    refine lv_iconst (v := 1) hx hb dL_law_1412 (by decide) ?_
    refine lv_iadd hx hb dL_law_1413 ?_
    refine va_sld hx hb hX hbl hbA Z.2.2 (show vp_in (nI i + 1) L by rw [show (1 : Int32) = nI 1 from rfl, nI_add]; exact vp_in_nI (by omega) (by omega)) dL_law_1414 ?_
    refine lv_aload_n hx hb dL_law_1415 rfl (lv_at hl 1 rfl) ?_
    refine lv_iload hx hb dL_law_1416 (lv_at hl 6 rfl) ?_
    refine lv_iconst (v := 2) hx hb dL_law_1418 (by decide) ?_
    refine lv_iadd hx hb dL_law_1419 ?_
    refine va_sld hx hb hX hbl hbA Z.2.2 (show vp_in (nI i + 2) L by rw [show (2 : Int32) = nI 2 from rfl, nI_add]; exact vp_in_nI (by omega) (by omega)) dL_law_1420 ?_
    refine z_callVi C0 Z hl.1 (As := [.int (xs (nI i + 1).toNatClampNeg), .int (xs (nI i + 2).toNatClampNeg)]) (rest := []) (k_X4_buy l hg hw) (gv_X4_buy tm_6_143) rfl ds_X4_buy ⟨Nat.le_of_ble_eq_true rfl, Nat.le_of_ble_eq_true rfl⟩ (ci := 4) rfl (cx_lt C0 (by decide)) rfl rfl rfl (Nat.le_of_ble_eq_true rfl) ⟨by show kc + 2 ≤ 601024; omega, by show ks + 12 ≤ 7293034; omega⟩ dL_law_1421 (fun b2 u2 H locs hw Z => ?_)
    refine lv_istore (lv' := [(7, .int b2), (6, .int 0), (0, .ref b), (1, .ref (gad G 0)), (2, .ref (gad G 7)), (3, .ref (gad G 19)), (4, .ref (gad G 20)), (5, .int (nI i))]) hx hb dL_law_1424 hl (by decide) rfl (fun ls hl => ?_)
    obtain ⟨h11, hbr, hi, i19, i20⟩ := hw
    refine lv_aload_n hx hb dL_law_1426 rfl (lv_at hl 4 rfl) ?_
    refine z_callVi C0 Z hl.1 (As := []) (rest := []) (k_X4_thrown l hg (Q := fun t w => w = u2 ∧ t = u2 7 11) ⟨rfl, rfl⟩) (gv_X4_thrown tm_5_67) rfl ds_X4_thrown ⟨Nat.le_of_ble_eq_true rfl, Nat.le_of_ble_eq_true rfl⟩ (ci := 4) rfl (cx_lt C0 (by decide)) rfl rfl rfl (Nat.le_of_ble_eq_true rfl) ⟨by show kc + 2 ≤ 601024; omega, by show ks + 12 ≤ 7293034; omega⟩ dL_law_1427 (fun t u3 H locs hw Z => ?_)
    obtain ⟨e3, ht⟩ := hw
    rw [e3] at Z
    refine lv_iload hx hb dL_law_1430 (lv_at hl 1 rfl) ?_
    refine lv_icmp_eq (tgt := 1437) hx hb dL_law_1432 (by decide) (fun _ => ?_) (fun c => absurd (ht.trans h11) c)
    refine lv_iload hx hb dL_law_1437 (lv_at hl 1 rfl) ?_
    refine lv_if_ne (tgt := 1454) hx hb dL_law_1439 (by decide) (fun c => absurd rfl c) (fun _ => ?_)
    refine lv_aload_n hx hb dL_law_1442 rfl (lv_at hl 5 rfl) ?_
    refine lv_iconst (v := 0) hx hb dL_law_1443 (by decide) ?_
    refine z_lald C0 Z dL_law_1444 ?_
    refine lv_iload hx hb dL_law_1445 (lv_at hl 0 rfl) ?_
    refine lv_i2l (v := b2.toInt64) hx hb dL_law_1447 rfl ?_
    refine W.lcmp hx hb dL_law_1448 ?_
    refine lv_if_eq (tgt := 1454) hx hb dL_law_1449 (by decide) (fun _ => ?_) (fun c => absurd ((lg_cmp_eq _ _).mpr (by rw [i19, e19, hbr])) c)
    refine lv_goto (tgt := 2228) hx hb dL_law_1454 (by decide) ?_
    refine W.widen (k := kc + 60) (n := ks + 700) (by omega) (by omega) ?_
    exact kk _ _ _ _ hi Z (lv_sub hl [2, 3, 4, 5, 6, 7] rfl)
  · refine lv_aload_n hx hb dL_law_1408 rfl (lv_at hl 3 rfl) ?_
    refine lv_aload_n hx hb dL_law_1409 rfl (lv_at hl 1 rfl) ?_
    refine lv_iload hx hb dL_law_1410 (lv_at hl 6 rfl) ?_
    refine lv_iconst (v := 1) hx hb dL_law_1412 (by decide) ?_
    refine lv_iadd hx hb dL_law_1413 ?_
    refine va_sld hx hb hX hbl hbA Z.2.2 (show vp_in (nI i + 1) L by rw [show (1 : Int32) = nI 1 from rfl, nI_add]; exact vp_in_nI (by omega) (by omega)) dL_law_1414 ?_
    refine lv_aload_n hx hb dL_law_1415 rfl (lv_at hl 1 rfl) ?_
    refine lv_iload hx hb dL_law_1416 (lv_at hl 6 rfl) ?_
    refine lv_iconst (v := 2) hx hb dL_law_1418 (by decide) ?_
    refine lv_iadd hx hb dL_law_1419 ?_
    refine va_sld hx hb hX hbl hbA Z.2.2 (show vp_in (nI i + 2) L by rw [show (2 : Int32) = nI 2 from rfl, nI_add]; exact vp_in_nI (by omega) (by omega)) dL_law_1420 ?_
    refine z_callVi C0 Z hl.1 (As := [.int (xs (nI i + 1).toNatClampNeg), .int (xs (nI i + 2).toNatClampNeg)]) (rest := []) (k_X4_buy l hg hw) (gv_X4_buy tm_6_143) rfl ds_X4_buy ⟨Nat.le_of_ble_eq_true rfl, Nat.le_of_ble_eq_true rfl⟩ (ci := 4) rfl (cx_lt C0 (by decide)) rfl rfl rfl (Nat.le_of_ble_eq_true rfl) ⟨by show kc + 2 ≤ 601024; omega, by show ks + 12 ≤ 7293034; omega⟩ dL_law_1421 (fun b2 u2 H locs hw Z => ?_)
    refine lv_istore (lv' := [(7, .int b2), (6, .int k), (0, .ref b), (1, .ref (gad G 0)), (2, .ref (gad G 7)), (3, .ref (gad G 19)), (4, .ref (gad G 20)), (5, .int (nI i))]) hx hb dL_law_1424 hl (by decide) rfl (fun ls hl => ?_)
    obtain ⟨h11, hi, i19, i20⟩ := hw
    refine lv_aload_n hx hb dL_law_1426 rfl (lv_at hl 4 rfl) ?_
    refine z_callVi C0 Z hl.1 (As := []) (rest := []) (k_X4_thrown l hg (Q := fun t w => w = u2 ∧ t = u2 7 11) ⟨rfl, rfl⟩) (gv_X4_thrown tm_5_67) rfl ds_X4_thrown ⟨Nat.le_of_ble_eq_true rfl, Nat.le_of_ble_eq_true rfl⟩ (ci := 4) rfl (cx_lt C0 (by decide)) rfl rfl rfl (Nat.le_of_ble_eq_true rfl) ⟨by show kc + 2 ≤ 601024; omega, by show ks + 12 ≤ 7293034; omega⟩ dL_law_1427 (fun t u3 H locs hw Z => ?_)
    obtain ⟨e3, ht⟩ := hw
    rw [e3] at Z
    refine lv_iload hx hb dL_law_1430 (lv_at hl 1 rfl) ?_
    refine lv_icmp_eq (tgt := 1437) hx hb dL_law_1432 (by decide) (fun _ => ?_) (fun c => absurd (ht.trans h11) c)
    refine lv_iload hx hb dL_law_1437 (lv_at hl 1 rfl) ?_
    refine lv_if_ne (tgt := 1454) hx hb dL_law_1439 (by decide) (fun _ => ?_) (fun c => absurd c hk)
    refine lv_goto (tgt := 2228) hx hb dL_law_1454 (by decide) ?_
    refine W.widen (k := kc + 60) (n := ks + 700) (by omega) (by omega) ?_
    exact kk _ _ _ _ hi Z (lv_sub hl [2, 3, 4, 5, 6, 7] rfl)
set_option maxRecDepth 100000 in
set_option maxHeartbeats 4000000 in
theorem lc_bargain {p : Program} (l : Launch) (hst : l.stackTraces = false) {e : Env} {s : State} {m : MethodId} {below : List Frame} {meth : Method} {c : Code} {G : zG} {b L : Nat} {xs : Nat → Int32} (C0 : Cx G RL cL_law 9 (some .boolean) p s m #[Value.ref b] meth c) {v : V3} {H : Heap} {locs : List Loc} (Z : Zs G s v H locs) (hX : va_X b L xs s s.heap) (hbl : b < s.heap.size) (hbA : ¬ zA G b) {i : Nat} (hiL : i + 5 ≤ L) (hL : L ≤ 2560) {g : Nat} {B : Int} (h : IV v g B) (hB : B + 99 ≤ 900000) {kc ks : Nat} (hkc : kc + 60 ≤ 601024) (hks : ks + 700 ≤ 7293034) {Q : State → Prop} {ls : Array Slot} (hl : lv_has ls 9 [(0, .ref b), (1, .ref (gad G 0)), (2, .ref (gad G 7)), (3, .ref (gad G 19)), (4, .ref (gad G 20)), (5, .int (nI i))]) (kk : ∀ (v' : V3) (H1 : Heap) (locs1 : List Loc) (ls1 : Array Slot), IV v' g (B + 99) → Zs G s v' H1 locs1 → lv_has ls1 9 [(0, .ref b), (1, .ref (gad G 0)), (2, .ref (gad G 7)), (3, .ref (gad G 19)), (4, .ref (gad G 20)), (5, .int (nI i))] → W p l e room_1 s m #[Value.ref b] below meth c H1 locs1 (kc + 60) (ks + 700) Q (F0 m 2228 ls1 [])) : W p l e room_1 s m #[Value.ref b] below meth c H locs kc ks Q (F0 m 1457 ls []) := by
  have hx := C0.1
  have hb := C0.2.1
  have hg := cx_g C0
  refine lv_aload_n hx hb dL_law_1457 rfl (lv_at hl 1 rfl) ?_
  refine z_callVi C0 Z hl.1 (As := []) (rest := []) (k_X3_bargain l hg (ca_bargain h hB)) (gv_X3_bargain tm_2_161) rfl ds_X3_bargain ⟨Nat.le_of_ble_eq_true rfl, Nat.le_of_ble_eq_true rfl⟩ (ci := 3) rfl (cx_lt C0 (by decide)) rfl rfl rfl (Nat.le_of_ble_eq_true rfl) ⟨by show kc ≤ 601024; omega, by show ks ≤ 7293034; omega⟩ dL_law_1458 (fun r u H locs hw Z => ?_)
  refine lv_aload_n hx hb dL_law_1461 rfl (lv_at hl 2 rfl) ?_
  refine z_callVi C0 Z hl.1 (As := []) (rest := [.int r]) (k_X4_bargain l hg (hw u (fun _ _ _ => rfl))) (gv_X4_bargain tm_6_159) rfl ds_X4_bargain ⟨Nat.le_of_ble_eq_true rfl, Nat.le_of_ble_eq_true rfl⟩ (ci := 4) rfl (cx_lt C0 (by decide)) rfl rfl rfl (Nat.le_of_ble_eq_true rfl) ⟨by show kc ≤ 601024; omega, by show ks ≤ 7293034; omega⟩ dL_law_1462 (fun b2 u2 H locs hw Z => ?_)
  obtain ⟨h11, hbr, hi, i19, i20⟩ := hw
  refine lv_icmp_eq (tgt := 2228) hx hb dL_law_1465 (by decide) (fun _ => ?_) (fun c => absurd hbr.symm c)
  refine W.widen (k := kc + 60) (n := ks + 700) (by omega) (by omega) ?_
  exact kk _ _ _ _ hi Z (lv_sub hl [0, 1, 2, 3, 4, 5] rfl)
set_option maxRecDepth 100000 in
set_option maxHeartbeats 4000000 in
theorem lc_pass {p : Program} (l : Launch) (hst : l.stackTraces = false) {e : Env} {s : State} {m : MethodId} {below : List Frame} {meth : Method} {c : Code} {G : zG} {b L : Nat} {xs : Nat → Int32} (C0 : Cx G RL cL_law 9 (some .boolean) p s m #[Value.ref b] meth c) {v : V3} {H : Heap} {locs : List Loc} (Z : Zs G s v H locs) (hX : va_X b L xs s s.heap) (hbl : b < s.heap.size) (hbA : ¬ zA G b) {i : Nat} (hiL : i + 5 ≤ L) (hL : L ≤ 2560) {g : Nat} {B : Int} (h : IV v g B) (hB : B + 99 ≤ 900000) {kc ks : Nat} (hkc : kc + 60 ≤ 601024) (hks : ks + 700 ≤ 7293034) {Q : State → Prop} {ls : Array Slot} (hl : lv_has ls 9 [(0, .ref b), (1, .ref (gad G 0)), (2, .ref (gad G 7)), (3, .ref (gad G 19)), (4, .ref (gad G 20)), (5, .int (nI i))]) (kk : ∀ (v' : V3) (H1 : Heap) (locs1 : List Loc) (ls1 : Array Slot), IV v' g (B + 99) → Zs G s v' H1 locs1 → lv_has ls1 9 [(0, .ref b), (1, .ref (gad G 0)), (2, .ref (gad G 7)), (3, .ref (gad G 19)), (4, .ref (gad G 20)), (5, .int (nI i))] → W p l e room_1 s m #[Value.ref b] below meth c H1 locs1 (kc + 60) (ks + 700) Q (F0 m 2228 ls1 [])) : W p l e room_1 s m #[Value.ref b] below meth c H locs kc ks Q (F0 m 1470 ls []) := by
  have hx := C0.1
  have hb := C0.2.1
  have hg := cx_g C0
  refine lv_aload_n hx hb dL_law_1470 rfl (lv_at hl 1 rfl) ?_
  refine lv_aload_n hx hb dL_law_1471 rfl (lv_at hl 0 rfl) ?_
  refine lv_iload hx hb dL_law_1472 (lv_at hl 5 rfl) ?_
  refine lv_iconst (v := 1) hx hb dL_law_1474 (by decide) ?_
  refine lv_iadd hx hb dL_law_1475 ?_
  refine va_sld hx hb hX hbl hbA Z.2.2 (show vp_in (nI i + 1) L by rw [show (1 : Int32) = nI 1 from rfl, nI_add]; exact vp_in_nI (by omega) (by omega)) dL_law_1476 ?_
  refine lv_aload_n hx hb dL_law_1477 rfl (lv_at hl 3 rfl) ?_
  refine z_callH C0 Z hl.1 (As := [.ref (gad G 0), .int (xs (nI i + 1).toNatClampNeg), .ref (gad G 19)]) (rest := []) (k_L_pass l hst hg (ca_pass h hB _)) (gv_L_pass tm_4_69) ds_L_pass ⟨Nat.le_of_ble_eq_true rfl, Nat.le_of_ble_eq_true rfl⟩ rfl rfl (Nat.le_of_ble_eq_true rfl) ⟨by show kc + 2 ≤ 601024; omega, by show ks + 12 ≤ 7293034; omega⟩ dL_law_1478 (fun k u H locs hw Z => ?_)
  refine lv_istore (lv' := [(6, .int k), (0, .ref b), (1, .ref (gad G 0)), (2, .ref (gad G 7)), (3, .ref (gad G 19)), (4, .ref (gad G 20)), (5, .int (nI i))]) hx hb dL_law_1481 hl (by decide) rfl (fun ls hl => ?_)
  rcases hw with ⟨hk, r, e19, hw⟩ | ⟨hk, hw⟩
  · subst hk
    refine lv_aload_n hx hb dL_law_1483 rfl (lv_at hl 3 rfl) ?_
    refine lv_aload_n hx hb dL_law_1484 rfl (lv_at hl 1 rfl) ?_
    refine lv_iload hx hb dL_law_1485 (lv_at hl 6 rfl) ?_
    refine lv_iconst (v := 1) hx hb dL_law_1487 (by decide) ?_
    refine lv_iadd hx hb dL_law_1488 ?_
    refine va_sld hx hb hX hbl hbA Z.2.2 (show vp_in (nI i + 1) L by rw [show (1 : Int32) = nI 1 from rfl, nI_add]; exact vp_in_nI (by omega) (by omega)) dL_law_1489 ?_
    refine z_callVi C0 Z hl.1 (As := [.int (xs (nI i + 1).toNatClampNeg)]) (rest := []) (k_X4_pass l hg hw) (gv_X4_pass tm_6_175) rfl ds_X4_pass ⟨Nat.le_of_ble_eq_true rfl, Nat.le_of_ble_eq_true rfl⟩ (ci := 4) rfl (cx_lt C0 (by decide)) rfl rfl rfl (Nat.le_of_ble_eq_true rfl) ⟨by show kc + 2 ≤ 601024; omega, by show ks + 12 ≤ 7293034; omega⟩ dL_law_1490 (fun b2 u2 H locs hw Z => ?_)
    refine lv_istore (lv' := [(7, .int b2), (6, .int 0), (0, .ref b), (1, .ref (gad G 0)), (2, .ref (gad G 7)), (3, .ref (gad G 19)), (4, .ref (gad G 20)), (5, .int (nI i))]) hx hb dL_law_1493 hl (by decide) rfl (fun ls hl => ?_)
    obtain ⟨h11, hbr, hi, i19, i20⟩ := hw
    refine lv_aload_n hx hb dL_law_1495 rfl (lv_at hl 4 rfl) ?_
    refine z_callVi C0 Z hl.1 (As := []) (rest := []) (k_X4_thrown l hg (Q := fun t w => w = u2 ∧ t = u2 7 11) ⟨rfl, rfl⟩) (gv_X4_thrown tm_5_67) rfl ds_X4_thrown ⟨Nat.le_of_ble_eq_true rfl, Nat.le_of_ble_eq_true rfl⟩ (ci := 4) rfl (cx_lt C0 (by decide)) rfl rfl rfl (Nat.le_of_ble_eq_true rfl) ⟨by show kc + 2 ≤ 601024; omega, by show ks + 12 ≤ 7293034; omega⟩ dL_law_1496 (fun t u3 H locs hw Z => ?_)
    obtain ⟨e3, ht⟩ := hw
    rw [e3] at Z
    refine lv_iload hx hb dL_law_1499 (lv_at hl 1 rfl) ?_
    refine lv_icmp_eq (tgt := 1506) hx hb dL_law_1501 (by decide) (fun _ => ?_) (fun c => absurd (ht.trans h11) c)
    refine lv_iload hx hb dL_law_1506 (lv_at hl 1 rfl) ?_
    refine lv_if_ne (tgt := 1523) hx hb dL_law_1508 (by decide) (fun c => absurd rfl c) (fun _ => ?_)
    refine lv_aload_n hx hb dL_law_1511 rfl (lv_at hl 5 rfl) ?_
    refine lv_iconst (v := 0) hx hb dL_law_1512 (by decide) ?_
    refine z_lald C0 Z dL_law_1513 ?_
    refine lv_iload hx hb dL_law_1514 (lv_at hl 0 rfl) ?_
    refine lv_i2l (v := b2.toInt64) hx hb dL_law_1516 rfl ?_
    refine W.lcmp hx hb dL_law_1517 ?_
    refine lv_if_eq (tgt := 1523) hx hb dL_law_1518 (by decide) (fun _ => ?_) (fun c => absurd ((lg_cmp_eq _ _).mpr (by rw [i19, e19, hbr])) c)
    refine lv_goto (tgt := 2228) hx hb dL_law_1523 (by decide) ?_
    refine W.widen (k := kc + 60) (n := ks + 700) (by omega) (by omega) ?_
    exact kk _ _ _ _ hi Z (lv_sub hl [2, 3, 4, 5, 6, 7] rfl)
  · refine lv_aload_n hx hb dL_law_1483 rfl (lv_at hl 3 rfl) ?_
    refine lv_aload_n hx hb dL_law_1484 rfl (lv_at hl 1 rfl) ?_
    refine lv_iload hx hb dL_law_1485 (lv_at hl 6 rfl) ?_
    refine lv_iconst (v := 1) hx hb dL_law_1487 (by decide) ?_
    refine lv_iadd hx hb dL_law_1488 ?_
    refine va_sld hx hb hX hbl hbA Z.2.2 (show vp_in (nI i + 1) L by rw [show (1 : Int32) = nI 1 from rfl, nI_add]; exact vp_in_nI (by omega) (by omega)) dL_law_1489 ?_
    refine z_callVi C0 Z hl.1 (As := [.int (xs (nI i + 1).toNatClampNeg)]) (rest := []) (k_X4_pass l hg hw) (gv_X4_pass tm_6_175) rfl ds_X4_pass ⟨Nat.le_of_ble_eq_true rfl, Nat.le_of_ble_eq_true rfl⟩ (ci := 4) rfl (cx_lt C0 (by decide)) rfl rfl rfl (Nat.le_of_ble_eq_true rfl) ⟨by show kc + 2 ≤ 601024; omega, by show ks + 12 ≤ 7293034; omega⟩ dL_law_1490 (fun b2 u2 H locs hw Z => ?_)
    refine lv_istore (lv' := [(7, .int b2), (6, .int k), (0, .ref b), (1, .ref (gad G 0)), (2, .ref (gad G 7)), (3, .ref (gad G 19)), (4, .ref (gad G 20)), (5, .int (nI i))]) hx hb dL_law_1493 hl (by decide) rfl (fun ls hl => ?_)
    obtain ⟨h11, hi, i19, i20⟩ := hw
    refine lv_aload_n hx hb dL_law_1495 rfl (lv_at hl 4 rfl) ?_
    refine z_callVi C0 Z hl.1 (As := []) (rest := []) (k_X4_thrown l hg (Q := fun t w => w = u2 ∧ t = u2 7 11) ⟨rfl, rfl⟩) (gv_X4_thrown tm_5_67) rfl ds_X4_thrown ⟨Nat.le_of_ble_eq_true rfl, Nat.le_of_ble_eq_true rfl⟩ (ci := 4) rfl (cx_lt C0 (by decide)) rfl rfl rfl (Nat.le_of_ble_eq_true rfl) ⟨by show kc + 2 ≤ 601024; omega, by show ks + 12 ≤ 7293034; omega⟩ dL_law_1496 (fun t u3 H locs hw Z => ?_)
    obtain ⟨e3, ht⟩ := hw
    rw [e3] at Z
    refine lv_iload hx hb dL_law_1499 (lv_at hl 1 rfl) ?_
    refine lv_icmp_eq (tgt := 1506) hx hb dL_law_1501 (by decide) (fun _ => ?_) (fun c => absurd (ht.trans h11) c)
    refine lv_iload hx hb dL_law_1506 (lv_at hl 1 rfl) ?_
    refine lv_if_ne (tgt := 1523) hx hb dL_law_1508 (by decide) (fun _ => ?_) (fun c => absurd c hk)
    refine lv_goto (tgt := 2228) hx hb dL_law_1523 (by decide) ?_
    refine W.widen (k := kc + 60) (n := ks + 700) (by omega) (by omega) ?_
    exact kk _ _ _ _ hi Z (lv_sub hl [2, 3, 4, 5, 6, 7] rfl)
set_option maxRecDepth 100000 in
set_option maxHeartbeats 4000000 in
theorem lc_gain {p : Program} (l : Launch) (hst : l.stackTraces = false) {e : Env} {s : State} {m : MethodId} {below : List Frame} {meth : Method} {c : Code} {G : zG} {b L : Nat} {xs : Nat → Int32} (C0 : Cx G RL cL_law 9 (some .boolean) p s m #[Value.ref b] meth c) {v : V3} {H : Heap} {locs : List Loc} (Z : Zs G s v H locs) (hX : va_X b L xs s s.heap) (hbl : b < s.heap.size) (hbA : ¬ zA G b) {i : Nat} (hiL : i + 5 ≤ L) (hL : L ≤ 2560) {g : Nat} {B : Int} (h : IV v g B) (hB : B + 99 ≤ 900000) {kc ks : Nat} (hkc : kc + 60 ≤ 601024) (hks : ks + 700 ≤ 7293034) {Q : State → Prop} {ls : Array Slot} (hl : lv_has ls 9 [(0, .ref b), (1, .ref (gad G 0)), (2, .ref (gad G 7)), (3, .ref (gad G 19)), (4, .ref (gad G 20)), (5, .int (nI i))]) (kk : ∀ (v' : V3) (H1 : Heap) (locs1 : List Loc) (ls1 : Array Slot), IV v' g (B + 99) → Zs G s v' H1 locs1 → lv_has ls1 9 [(0, .ref b), (1, .ref (gad G 0)), (2, .ref (gad G 7)), (3, .ref (gad G 19)), (4, .ref (gad G 20)), (5, .int (nI i))] → W p l e room_1 s m #[Value.ref b] below meth c H1 locs1 (kc + 60) (ks + 700) Q (F0 m 2228 ls1 [])) : W p l e room_1 s m #[Value.ref b] below meth c H locs kc ks Q (F0 m 1526 ls []) := by
  have hx := C0.1
  have hb := C0.2.1
  have hg := cx_g C0
  refine lv_aload_n hx hb dL_law_1526 rfl (lv_at hl 1 rfl) ?_
  refine lv_aload_n hx hb dL_law_1527 rfl (lv_at hl 0 rfl) ?_
  refine lv_iload hx hb dL_law_1528 (lv_at hl 5 rfl) ?_
  refine lv_iconst (v := 1) hx hb dL_law_1530 (by decide) ?_
  refine lv_iadd hx hb dL_law_1531 ?_
  refine va_sld hx hb hX hbl hbA Z.2.2 (show vp_in (nI i + 1) L by rw [show (1 : Int32) = nI 1 from rfl, nI_add]; exact vp_in_nI (by omega) (by omega)) dL_law_1532 ?_
  refine lv_aload_n hx hb dL_law_1533 rfl (lv_at hl 0 rfl) ?_
  refine lv_iload hx hb dL_law_1534 (lv_at hl 5 rfl) ?_
  refine lv_iconst (v := 2) hx hb dL_law_1536 (by decide) ?_
  refine lv_iadd hx hb dL_law_1537 ?_
  refine va_sld hx hb hX hbl hbA Z.2.2 (show vp_in (nI i + 2) L by rw [show (2 : Int32) = nI 2 from rfl, nI_add]; exact vp_in_nI (by omega) (by omega)) dL_law_1538 ?_
  refine lv_aload_n hx hb dL_law_1539 rfl (lv_at hl 3 rfl) ?_
  refine z_callH C0 Z hl.1 (As := [.ref (gad G 0), .int (xs (nI i + 1).toNatClampNeg), .int (xs (nI i + 2).toNatClampNeg), .ref (gad G 19)]) (rest := []) (k_L_gain l hst hg (ca_gain h hB _ _)) (gv_L_gain tm_4_101) ds_L_gain ⟨Nat.le_of_ble_eq_true rfl, Nat.le_of_ble_eq_true rfl⟩ rfl rfl (Nat.le_of_ble_eq_true rfl) ⟨by show kc + 2 ≤ 601024; omega, by show ks + 12 ≤ 7293034; omega⟩ dL_law_1540 (fun k u H locs hw Z => ?_)
  refine lv_istore (lv' := [(6, .int k), (0, .ref b), (1, .ref (gad G 0)), (2, .ref (gad G 7)), (3, .ref (gad G 19)), (4, .ref (gad G 20)), (5, .int (nI i))]) hx hb dL_law_1543 hl (by decide) rfl (fun ls hl => ?_)
  rcases hw with ⟨hk, r, e19, hw⟩ | ⟨hk, hw⟩
  · subst hk
    refine lv_aload_n hx hb dL_law_1545 rfl (lv_at hl 3 rfl) ?_
    refine lv_aload_n hx hb dL_law_1546 rfl (lv_at hl 1 rfl) ?_
    refine lv_iload hx hb dL_law_1547 (lv_at hl 6 rfl) ?_
    refine lv_iconst (v := 1) hx hb dL_law_1549 (by decide) ?_
    refine lv_iadd hx hb dL_law_1550 ?_
    refine va_sld hx hb hX hbl hbA Z.2.2 (show vp_in (nI i + 1) L by rw [show (1 : Int32) = nI 1 from rfl, nI_add]; exact vp_in_nI (by omega) (by omega)) dL_law_1551 ?_
    refine lv_aload_n hx hb dL_law_1552 rfl (lv_at hl 1 rfl) ?_
    refine lv_iload hx hb dL_law_1553 (lv_at hl 6 rfl) ?_
    refine lv_iconst (v := 2) hx hb dL_law_1555 (by decide) ?_
    refine lv_iadd hx hb dL_law_1556 ?_
    refine va_sld hx hb hX hbl hbA Z.2.2 (show vp_in (nI i + 2) L by rw [show (2 : Int32) = nI 2 from rfl, nI_add]; exact vp_in_nI (by omega) (by omega)) dL_law_1557 ?_
    refine z_callVi C0 Z hl.1 (As := [.int (xs (nI i + 1).toNatClampNeg), .int (xs (nI i + 2).toNatClampNeg)]) (rest := []) (k_X4_gain l hg hw) (gv_X4_gain tm_6_200) rfl ds_X4_gain ⟨Nat.le_of_ble_eq_true rfl, Nat.le_of_ble_eq_true rfl⟩ (ci := 4) rfl (cx_lt C0 (by decide)) rfl rfl rfl (Nat.le_of_ble_eq_true rfl) ⟨by show kc + 2 ≤ 601024; omega, by show ks + 12 ≤ 7293034; omega⟩ dL_law_1558 (fun b2 u2 H locs hw Z => ?_)
    refine lv_istore (lv' := [(7, .int b2), (6, .int 0), (0, .ref b), (1, .ref (gad G 0)), (2, .ref (gad G 7)), (3, .ref (gad G 19)), (4, .ref (gad G 20)), (5, .int (nI i))]) hx hb dL_law_1561 hl (by decide) rfl (fun ls hl => ?_)
    obtain ⟨h11, hbr, hi, i19, i20⟩ := hw
    refine lv_aload_n hx hb dL_law_1563 rfl (lv_at hl 4 rfl) ?_
    refine z_callVi C0 Z hl.1 (As := []) (rest := []) (k_X4_thrown l hg (Q := fun t w => w = u2 ∧ t = u2 7 11) ⟨rfl, rfl⟩) (gv_X4_thrown tm_5_67) rfl ds_X4_thrown ⟨Nat.le_of_ble_eq_true rfl, Nat.le_of_ble_eq_true rfl⟩ (ci := 4) rfl (cx_lt C0 (by decide)) rfl rfl rfl (Nat.le_of_ble_eq_true rfl) ⟨by show kc + 2 ≤ 601024; omega, by show ks + 12 ≤ 7293034; omega⟩ dL_law_1564 (fun t u3 H locs hw Z => ?_)
    obtain ⟨e3, ht⟩ := hw
    rw [e3] at Z
    refine lv_iload hx hb dL_law_1567 (lv_at hl 1 rfl) ?_
    refine lv_icmp_eq (tgt := 1574) hx hb dL_law_1569 (by decide) (fun _ => ?_) (fun c => absurd (ht.trans h11) c)
    refine lv_iload hx hb dL_law_1574 (lv_at hl 1 rfl) ?_
    refine lv_if_ne (tgt := 1591) hx hb dL_law_1576 (by decide) (fun c => absurd rfl c) (fun _ => ?_)
    refine lv_aload_n hx hb dL_law_1579 rfl (lv_at hl 5 rfl) ?_
    refine lv_iconst (v := 0) hx hb dL_law_1580 (by decide) ?_
    refine z_lald C0 Z dL_law_1581 ?_
    refine lv_iload hx hb dL_law_1582 (lv_at hl 0 rfl) ?_
    refine lv_i2l (v := b2.toInt64) hx hb dL_law_1584 rfl ?_
    refine W.lcmp hx hb dL_law_1585 ?_
    refine lv_if_eq (tgt := 1591) hx hb dL_law_1586 (by decide) (fun _ => ?_) (fun c => absurd ((lg_cmp_eq _ _).mpr (by rw [i19, e19, hbr])) c)
    refine lv_goto (tgt := 2228) hx hb dL_law_1591 (by decide) ?_
    refine W.widen (k := kc + 60) (n := ks + 700) (by omega) (by omega) ?_
    exact kk _ _ _ _ hi Z (lv_sub hl [2, 3, 4, 5, 6, 7] rfl)
  · refine lv_aload_n hx hb dL_law_1545 rfl (lv_at hl 3 rfl) ?_
    refine lv_aload_n hx hb dL_law_1546 rfl (lv_at hl 1 rfl) ?_
    refine lv_iload hx hb dL_law_1547 (lv_at hl 6 rfl) ?_
    refine lv_iconst (v := 1) hx hb dL_law_1549 (by decide) ?_
    refine lv_iadd hx hb dL_law_1550 ?_
    refine va_sld hx hb hX hbl hbA Z.2.2 (show vp_in (nI i + 1) L by rw [show (1 : Int32) = nI 1 from rfl, nI_add]; exact vp_in_nI (by omega) (by omega)) dL_law_1551 ?_
    refine lv_aload_n hx hb dL_law_1552 rfl (lv_at hl 1 rfl) ?_
    refine lv_iload hx hb dL_law_1553 (lv_at hl 6 rfl) ?_
    refine lv_iconst (v := 2) hx hb dL_law_1555 (by decide) ?_
    refine lv_iadd hx hb dL_law_1556 ?_
    refine va_sld hx hb hX hbl hbA Z.2.2 (show vp_in (nI i + 2) L by rw [show (2 : Int32) = nI 2 from rfl, nI_add]; exact vp_in_nI (by omega) (by omega)) dL_law_1557 ?_
    refine z_callVi C0 Z hl.1 (As := [.int (xs (nI i + 1).toNatClampNeg), .int (xs (nI i + 2).toNatClampNeg)]) (rest := []) (k_X4_gain l hg hw) (gv_X4_gain tm_6_200) rfl ds_X4_gain ⟨Nat.le_of_ble_eq_true rfl, Nat.le_of_ble_eq_true rfl⟩ (ci := 4) rfl (cx_lt C0 (by decide)) rfl rfl rfl (Nat.le_of_ble_eq_true rfl) ⟨by show kc + 2 ≤ 601024; omega, by show ks + 12 ≤ 7293034; omega⟩ dL_law_1558 (fun b2 u2 H locs hw Z => ?_)
    refine lv_istore (lv' := [(7, .int b2), (6, .int k), (0, .ref b), (1, .ref (gad G 0)), (2, .ref (gad G 7)), (3, .ref (gad G 19)), (4, .ref (gad G 20)), (5, .int (nI i))]) hx hb dL_law_1561 hl (by decide) rfl (fun ls hl => ?_)
    obtain ⟨h11, hi, i19, i20⟩ := hw
    refine lv_aload_n hx hb dL_law_1563 rfl (lv_at hl 4 rfl) ?_
    refine z_callVi C0 Z hl.1 (As := []) (rest := []) (k_X4_thrown l hg (Q := fun t w => w = u2 ∧ t = u2 7 11) ⟨rfl, rfl⟩) (gv_X4_thrown tm_5_67) rfl ds_X4_thrown ⟨Nat.le_of_ble_eq_true rfl, Nat.le_of_ble_eq_true rfl⟩ (ci := 4) rfl (cx_lt C0 (by decide)) rfl rfl rfl (Nat.le_of_ble_eq_true rfl) ⟨by show kc + 2 ≤ 601024; omega, by show ks + 12 ≤ 7293034; omega⟩ dL_law_1564 (fun t u3 H locs hw Z => ?_)
    obtain ⟨e3, ht⟩ := hw
    rw [e3] at Z
    refine lv_iload hx hb dL_law_1567 (lv_at hl 1 rfl) ?_
    refine lv_icmp_eq (tgt := 1574) hx hb dL_law_1569 (by decide) (fun _ => ?_) (fun c => absurd (ht.trans h11) c)
    refine lv_iload hx hb dL_law_1574 (lv_at hl 1 rfl) ?_
    refine lv_if_ne (tgt := 1591) hx hb dL_law_1576 (by decide) (fun _ => ?_) (fun c => absurd c hk)
    refine lv_goto (tgt := 2228) hx hb dL_law_1591 (by decide) ?_
    refine W.widen (k := kc + 60) (n := ks + 700) (by omega) (by omega) ?_
    exact kk _ _ _ _ hi Z (lv_sub hl [2, 3, 4, 5, 6, 7] rfl)
set_option maxRecDepth 100000 in
set_option maxHeartbeats 4000000 in
theorem lc_best {p : Program} (l : Launch) (hst : l.stackTraces = false) {e : Env} {s : State} {m : MethodId} {below : List Frame} {meth : Method} {c : Code} {G : zG} {b L : Nat} {xs : Nat → Int32} (C0 : Cx G RL cL_law 9 (some .boolean) p s m #[Value.ref b] meth c) {v : V3} {H : Heap} {locs : List Loc} (Z : Zs G s v H locs) (hX : va_X b L xs s s.heap) (hbl : b < s.heap.size) (hbA : ¬ zA G b) {i : Nat} (hiL : i + 5 ≤ L) (hL : L ≤ 2560) {g : Nat} {B : Int} (h : IV v g B) (hB : B + 99 ≤ 900000) {kc ks : Nat} (hkc : kc + 60 ≤ 601024) (hks : ks + 700 ≤ 7293034) {Q : State → Prop} {ls : Array Slot} (hl : lv_has ls 9 [(0, .ref b), (1, .ref (gad G 0)), (2, .ref (gad G 7)), (3, .ref (gad G 19)), (4, .ref (gad G 20)), (5, .int (nI i))]) (kk : ∀ (v' : V3) (H1 : Heap) (locs1 : List Loc) (ls1 : Array Slot), IV v' g (B + 99) → Zs G s v' H1 locs1 → lv_has ls1 9 [(0, .ref b), (1, .ref (gad G 0)), (2, .ref (gad G 7)), (3, .ref (gad G 19)), (4, .ref (gad G 20)), (5, .int (nI i))] → W p l e room_1 s m #[Value.ref b] below meth c H1 locs1 (kc + 60) (ks + 700) Q (F0 m 2228 ls1 [])) : W p l e room_1 s m #[Value.ref b] below meth c H locs kc ks Q (F0 m 1594 ls []) := by
  have hx := C0.1
  have hb := C0.2.1
  have hg := cx_g C0
  refine lv_aload_n hx hb dL_law_1594 rfl (lv_at hl 1 rfl) ?_
  refine lv_aload_n hx hb dL_law_1595 rfl (lv_at hl 0 rfl) ?_
  refine lv_iload hx hb dL_law_1596 (lv_at hl 5 rfl) ?_
  refine lv_iconst (v := 1) hx hb dL_law_1598 (by decide) ?_
  refine lv_iadd hx hb dL_law_1599 ?_
  refine va_sld hx hb hX hbl hbA Z.2.2 (show vp_in (nI i + 1) L by rw [show (1 : Int32) = nI 1 from rfl, nI_add]; exact vp_in_nI (by omega) (by omega)) dL_law_1600 ?_
  refine lv_aload_n hx hb dL_law_1601 rfl (lv_at hl 3 rfl) ?_
  refine z_callH C0 Z hl.1 (As := [.ref (gad G 0), .int (xs (nI i + 1).toNatClampNeg), .ref (gad G 19)]) (rest := []) (k_L_best l hst hg (ca_best h hB _)) (gv_L_best tm_4_108) ds_L_best ⟨Nat.le_of_ble_eq_true rfl, Nat.le_of_ble_eq_true rfl⟩ rfl rfl (Nat.le_of_ble_eq_true rfl) ⟨by show kc + 1 ≤ 601024; omega, by show ks + 6 ≤ 7293034; omega⟩ dL_law_1602 (fun k u H locs hw Z => ?_)
  refine lv_istore (lv' := [(6, .int k), (0, .ref b), (1, .ref (gad G 0)), (2, .ref (gad G 7)), (3, .ref (gad G 19)), (4, .ref (gad G 20)), (5, .int (nI i))]) hx hb dL_law_1605 hl (by decide) rfl (fun ls hl => ?_)
  rcases hw with ⟨hk, r, e19, hw⟩ | ⟨hk, hw⟩
  · subst hk
    refine lv_aload_n hx hb dL_law_1607 rfl (lv_at hl 3 rfl) ?_
    refine lv_aload_n hx hb dL_law_1608 rfl (lv_at hl 1 rfl) ?_
    refine lv_iload hx hb dL_law_1609 (lv_at hl 6 rfl) ?_
    refine lv_iconst (v := 1) hx hb dL_law_1611 (by decide) ?_
    refine lv_iadd hx hb dL_law_1612 ?_
    refine va_sld hx hb hX hbl hbA Z.2.2 (show vp_in (nI i + 1) L by rw [show (1 : Int32) = nI 1 from rfl, nI_add]; exact vp_in_nI (by omega) (by omega)) dL_law_1613 ?_
    refine z_callVi C0 Z hl.1 (As := [.int (xs (nI i + 1).toNatClampNeg)]) (rest := []) (k_X4_best l hg hw) (gv_X4_best tm_6_204) rfl ds_X4_best ⟨Nat.le_of_ble_eq_true rfl, Nat.le_of_ble_eq_true rfl⟩ (ci := 4) rfl (cx_lt C0 (by decide)) rfl rfl rfl (Nat.le_of_ble_eq_true rfl) ⟨by show kc + 1 ≤ 601024; omega, by show ks + 6 ≤ 7293034; omega⟩ dL_law_1614 (fun b2 u2 H locs hw Z => ?_)
    refine lv_istore (lv' := [(7, .int b2), (6, .int 0), (0, .ref b), (1, .ref (gad G 0)), (2, .ref (gad G 7)), (3, .ref (gad G 19)), (4, .ref (gad G 20)), (5, .int (nI i))]) hx hb dL_law_1617 hl (by decide) rfl (fun ls hl => ?_)
    obtain ⟨h11, hbr, hi, i19, i20⟩ := hw
    refine lv_aload_n hx hb dL_law_1619 rfl (lv_at hl 4 rfl) ?_
    refine z_callVi C0 Z hl.1 (As := []) (rest := []) (k_X4_thrown l hg (Q := fun t w => w = u2 ∧ t = u2 7 11) ⟨rfl, rfl⟩) (gv_X4_thrown tm_5_67) rfl ds_X4_thrown ⟨Nat.le_of_ble_eq_true rfl, Nat.le_of_ble_eq_true rfl⟩ (ci := 4) rfl (cx_lt C0 (by decide)) rfl rfl rfl (Nat.le_of_ble_eq_true rfl) ⟨by show kc + 1 ≤ 601024; omega, by show ks + 6 ≤ 7293034; omega⟩ dL_law_1620 (fun t u3 H locs hw Z => ?_)
    obtain ⟨e3, ht⟩ := hw
    rw [e3] at Z
    refine lv_iload hx hb dL_law_1623 (lv_at hl 1 rfl) ?_
    refine lv_icmp_eq (tgt := 1630) hx hb dL_law_1625 (by decide) (fun _ => ?_) (fun c => absurd (ht.trans h11) c)
    refine lv_iload hx hb dL_law_1630 (lv_at hl 1 rfl) ?_
    refine lv_if_ne (tgt := 1647) hx hb dL_law_1632 (by decide) (fun c => absurd rfl c) (fun _ => ?_)
    refine lv_aload_n hx hb dL_law_1635 rfl (lv_at hl 5 rfl) ?_
    refine lv_iconst (v := 0) hx hb dL_law_1636 (by decide) ?_
    refine z_lald C0 Z dL_law_1637 ?_
    refine lv_iload hx hb dL_law_1638 (lv_at hl 0 rfl) ?_
    refine lv_i2l (v := b2.toInt64) hx hb dL_law_1640 rfl ?_
    refine W.lcmp hx hb dL_law_1641 ?_
    refine lv_if_eq (tgt := 1647) hx hb dL_law_1642 (by decide) (fun _ => ?_) (fun c => absurd ((lg_cmp_eq _ _).mpr (by rw [i19, e19, hbr])) c)
    refine lv_goto (tgt := 2228) hx hb dL_law_1647 (by decide) ?_
    refine W.widen (k := kc + 60) (n := ks + 700) (by omega) (by omega) ?_
    exact kk _ _ _ _ hi Z (lv_sub hl [2, 3, 4, 5, 6, 7] rfl)
  · refine lv_aload_n hx hb dL_law_1607 rfl (lv_at hl 3 rfl) ?_
    refine lv_aload_n hx hb dL_law_1608 rfl (lv_at hl 1 rfl) ?_
    refine lv_iload hx hb dL_law_1609 (lv_at hl 6 rfl) ?_
    refine lv_iconst (v := 1) hx hb dL_law_1611 (by decide) ?_
    refine lv_iadd hx hb dL_law_1612 ?_
    refine va_sld hx hb hX hbl hbA Z.2.2 (show vp_in (nI i + 1) L by rw [show (1 : Int32) = nI 1 from rfl, nI_add]; exact vp_in_nI (by omega) (by omega)) dL_law_1613 ?_
    refine z_callVi C0 Z hl.1 (As := [.int (xs (nI i + 1).toNatClampNeg)]) (rest := []) (k_X4_best l hg hw) (gv_X4_best tm_6_204) rfl ds_X4_best ⟨Nat.le_of_ble_eq_true rfl, Nat.le_of_ble_eq_true rfl⟩ (ci := 4) rfl (cx_lt C0 (by decide)) rfl rfl rfl (Nat.le_of_ble_eq_true rfl) ⟨by show kc + 1 ≤ 601024; omega, by show ks + 6 ≤ 7293034; omega⟩ dL_law_1614 (fun b2 u2 H locs hw Z => ?_)
    refine lv_istore (lv' := [(7, .int b2), (6, .int k), (0, .ref b), (1, .ref (gad G 0)), (2, .ref (gad G 7)), (3, .ref (gad G 19)), (4, .ref (gad G 20)), (5, .int (nI i))]) hx hb dL_law_1617 hl (by decide) rfl (fun ls hl => ?_)
    obtain ⟨h11, hi, i19, i20⟩ := hw
    refine lv_aload_n hx hb dL_law_1619 rfl (lv_at hl 4 rfl) ?_
    refine z_callVi C0 Z hl.1 (As := []) (rest := []) (k_X4_thrown l hg (Q := fun t w => w = u2 ∧ t = u2 7 11) ⟨rfl, rfl⟩) (gv_X4_thrown tm_5_67) rfl ds_X4_thrown ⟨Nat.le_of_ble_eq_true rfl, Nat.le_of_ble_eq_true rfl⟩ (ci := 4) rfl (cx_lt C0 (by decide)) rfl rfl rfl (Nat.le_of_ble_eq_true rfl) ⟨by show kc + 1 ≤ 601024; omega, by show ks + 6 ≤ 7293034; omega⟩ dL_law_1620 (fun t u3 H locs hw Z => ?_)
    obtain ⟨e3, ht⟩ := hw
    rw [e3] at Z
    refine lv_iload hx hb dL_law_1623 (lv_at hl 1 rfl) ?_
    refine lv_icmp_eq (tgt := 1630) hx hb dL_law_1625 (by decide) (fun _ => ?_) (fun c => absurd (ht.trans h11) c)
    refine lv_iload hx hb dL_law_1630 (lv_at hl 1 rfl) ?_
    refine lv_if_ne (tgt := 1647) hx hb dL_law_1632 (by decide) (fun _ => ?_) (fun c => absurd c hk)
    refine lv_goto (tgt := 2228) hx hb dL_law_1647 (by decide) ?_
    refine W.widen (k := kc + 60) (n := ks + 700) (by omega) (by omega) ?_
    exact kk _ _ _ _ hi Z (lv_sub hl [2, 3, 4, 5, 6, 7] rfl)
set_option maxRecDepth 100000 in
set_option maxHeartbeats 4000000 in
theorem lc_holder {p : Program} (l : Launch) (hst : l.stackTraces = false) {e : Env} {s : State} {m : MethodId} {below : List Frame} {meth : Method} {c : Code} {G : zG} {b L : Nat} {xs : Nat → Int32} (C0 : Cx G RL cL_law 9 (some .boolean) p s m #[Value.ref b] meth c) {v : V3} {H : Heap} {locs : List Loc} (Z : Zs G s v H locs) (hX : va_X b L xs s s.heap) (hbl : b < s.heap.size) (hbA : ¬ zA G b) {i : Nat} (hiL : i + 5 ≤ L) (hL : L ≤ 2560) {g : Nat} {B : Int} (h : IV v g B) (hB : B + 99 ≤ 900000) {kc ks : Nat} (hkc : kc + 60 ≤ 601024) (hks : ks + 700 ≤ 7293034) {Q : State → Prop} {ls : Array Slot} (hl : lv_has ls 9 [(0, .ref b), (1, .ref (gad G 0)), (2, .ref (gad G 7)), (3, .ref (gad G 19)), (4, .ref (gad G 20)), (5, .int (nI i))]) (kk : ∀ (v' : V3) (H1 : Heap) (locs1 : List Loc) (ls1 : Array Slot), IV v' g (B + 99) → Zs G s v' H1 locs1 → lv_has ls1 9 [(0, .ref b), (1, .ref (gad G 0)), (2, .ref (gad G 7)), (3, .ref (gad G 19)), (4, .ref (gad G 20)), (5, .int (nI i))] → W p l e room_1 s m #[Value.ref b] below meth c H1 locs1 (kc + 60) (ks + 700) Q (F0 m 2228 ls1 [])) : W p l e room_1 s m #[Value.ref b] below meth c H locs kc ks Q (F0 m 1650 ls []) := by
  have hx := C0.1
  have hb := C0.2.1
  have hg := cx_g C0
  refine lv_aload_n hx hb dL_law_1650 rfl (lv_at hl 1 rfl) ?_
  refine lv_aload_n hx hb dL_law_1651 rfl (lv_at hl 0 rfl) ?_
  refine lv_iload hx hb dL_law_1652 (lv_at hl 5 rfl) ?_
  refine lv_iconst (v := 1) hx hb dL_law_1654 (by decide) ?_
  refine lv_iadd hx hb dL_law_1655 ?_
  refine va_sld hx hb hX hbl hbA Z.2.2 (show vp_in (nI i + 1) L by rw [show (1 : Int32) = nI 1 from rfl, nI_add]; exact vp_in_nI (by omega) (by omega)) dL_law_1656 ?_
  refine lv_aload_n hx hb dL_law_1657 rfl (lv_at hl 0 rfl) ?_
  refine lv_iload hx hb dL_law_1658 (lv_at hl 5 rfl) ?_
  refine lv_iconst (v := 2) hx hb dL_law_1660 (by decide) ?_
  refine lv_iadd hx hb dL_law_1661 ?_
  refine va_sld hx hb hX hbl hbA Z.2.2 (show vp_in (nI i + 2) L by rw [show (2 : Int32) = nI 2 from rfl, nI_add]; exact vp_in_nI (by omega) (by omega)) dL_law_1662 ?_
  refine lv_aload_n hx hb dL_law_1663 rfl (lv_at hl 3 rfl) ?_
  refine z_callH C0 Z hl.1 (As := [.ref (gad G 0), .int (xs (nI i + 1).toNatClampNeg), .int (xs (nI i + 2).toNatClampNeg), .ref (gad G 19)]) (rest := []) (k_L_holder l hst hg (ca_holder h hB _ _)) (gv_L_holder tm_4_115) ds_L_holder ⟨Nat.le_of_ble_eq_true rfl, Nat.le_of_ble_eq_true rfl⟩ rfl rfl (Nat.le_of_ble_eq_true rfl) ⟨by show kc + 2 ≤ 601024; omega, by show ks + 12 ≤ 7293034; omega⟩ dL_law_1664 (fun k u H locs hw Z => ?_)
  refine lv_istore (lv' := [(6, .int k), (0, .ref b), (1, .ref (gad G 0)), (2, .ref (gad G 7)), (3, .ref (gad G 19)), (4, .ref (gad G 20)), (5, .int (nI i))]) hx hb dL_law_1667 hl (by decide) rfl (fun ls hl => ?_)
  rcases hw with ⟨hk, r, e19, hw⟩ | ⟨hk, hw⟩
  · subst hk
    refine lv_aload_n hx hb dL_law_1669 rfl (lv_at hl 3 rfl) ?_
    refine lv_aload_n hx hb dL_law_1670 rfl (lv_at hl 1 rfl) ?_
    refine lv_iload hx hb dL_law_1671 (lv_at hl 6 rfl) ?_
    refine lv_iconst (v := 1) hx hb dL_law_1673 (by decide) ?_
    refine lv_iadd hx hb dL_law_1674 ?_
    refine va_sld hx hb hX hbl hbA Z.2.2 (show vp_in (nI i + 1) L by rw [show (1 : Int32) = nI 1 from rfl, nI_add]; exact vp_in_nI (by omega) (by omega)) dL_law_1675 ?_
    refine lv_aload_n hx hb dL_law_1676 rfl (lv_at hl 1 rfl) ?_
    refine lv_iload hx hb dL_law_1677 (lv_at hl 6 rfl) ?_
    refine lv_iconst (v := 2) hx hb dL_law_1679 (by decide) ?_
    refine lv_iadd hx hb dL_law_1680 ?_
    refine va_sld hx hb hX hbl hbA Z.2.2 (show vp_in (nI i + 2) L by rw [show (2 : Int32) = nI 2 from rfl, nI_add]; exact vp_in_nI (by omega) (by omega)) dL_law_1681 ?_
    refine z_callVi C0 Z hl.1 (As := [.int (xs (nI i + 1).toNatClampNeg), .int (xs (nI i + 2).toNatClampNeg)]) (rest := []) (k_X4_holder l hg hw) (gv_X4_holder tm_6_209) rfl ds_X4_holder ⟨Nat.le_of_ble_eq_true rfl, Nat.le_of_ble_eq_true rfl⟩ (ci := 4) rfl (cx_lt C0 (by decide)) rfl rfl rfl (Nat.le_of_ble_eq_true rfl) ⟨by show kc + 2 ≤ 601024; omega, by show ks + 12 ≤ 7293034; omega⟩ dL_law_1682 (fun b2 u2 H locs hw Z => ?_)
    refine lv_istore (lv' := [(7, .int b2), (6, .int 0), (0, .ref b), (1, .ref (gad G 0)), (2, .ref (gad G 7)), (3, .ref (gad G 19)), (4, .ref (gad G 20)), (5, .int (nI i))]) hx hb dL_law_1685 hl (by decide) rfl (fun ls hl => ?_)
    obtain ⟨h11, hbr, hi, i19, i20⟩ := hw
    refine lv_aload_n hx hb dL_law_1687 rfl (lv_at hl 4 rfl) ?_
    refine z_callVi C0 Z hl.1 (As := []) (rest := []) (k_X4_thrown l hg (Q := fun t w => w = u2 ∧ t = u2 7 11) ⟨rfl, rfl⟩) (gv_X4_thrown tm_5_67) rfl ds_X4_thrown ⟨Nat.le_of_ble_eq_true rfl, Nat.le_of_ble_eq_true rfl⟩ (ci := 4) rfl (cx_lt C0 (by decide)) rfl rfl rfl (Nat.le_of_ble_eq_true rfl) ⟨by show kc + 2 ≤ 601024; omega, by show ks + 12 ≤ 7293034; omega⟩ dL_law_1688 (fun t u3 H locs hw Z => ?_)
    obtain ⟨e3, ht⟩ := hw
    rw [e3] at Z
    refine lv_iload hx hb dL_law_1691 (lv_at hl 1 rfl) ?_
    refine lv_icmp_eq (tgt := 1698) hx hb dL_law_1693 (by decide) (fun _ => ?_) (fun c => absurd (ht.trans h11) c)
    refine lv_iload hx hb dL_law_1698 (lv_at hl 1 rfl) ?_
    refine lv_if_ne (tgt := 1715) hx hb dL_law_1700 (by decide) (fun c => absurd rfl c) (fun _ => ?_)
    refine lv_aload_n hx hb dL_law_1703 rfl (lv_at hl 5 rfl) ?_
    refine lv_iconst (v := 0) hx hb dL_law_1704 (by decide) ?_
    refine z_lald C0 Z dL_law_1705 ?_
    refine lv_iload hx hb dL_law_1706 (lv_at hl 0 rfl) ?_
    refine lv_i2l (v := b2.toInt64) hx hb dL_law_1708 rfl ?_
    refine W.lcmp hx hb dL_law_1709 ?_
    refine lv_if_eq (tgt := 1715) hx hb dL_law_1710 (by decide) (fun _ => ?_) (fun c => absurd ((lg_cmp_eq _ _).mpr (by rw [i19, e19, hbr])) c)
    refine lv_goto (tgt := 2228) hx hb dL_law_1715 (by decide) ?_
    refine W.widen (k := kc + 60) (n := ks + 700) (by omega) (by omega) ?_
    exact kk _ _ _ _ hi Z (lv_sub hl [2, 3, 4, 5, 6, 7] rfl)
  · refine lv_aload_n hx hb dL_law_1669 rfl (lv_at hl 3 rfl) ?_
    refine lv_aload_n hx hb dL_law_1670 rfl (lv_at hl 1 rfl) ?_
    refine lv_iload hx hb dL_law_1671 (lv_at hl 6 rfl) ?_
    refine lv_iconst (v := 1) hx hb dL_law_1673 (by decide) ?_
    refine lv_iadd hx hb dL_law_1674 ?_
    refine va_sld hx hb hX hbl hbA Z.2.2 (show vp_in (nI i + 1) L by rw [show (1 : Int32) = nI 1 from rfl, nI_add]; exact vp_in_nI (by omega) (by omega)) dL_law_1675 ?_
    refine lv_aload_n hx hb dL_law_1676 rfl (lv_at hl 1 rfl) ?_
    refine lv_iload hx hb dL_law_1677 (lv_at hl 6 rfl) ?_
    refine lv_iconst (v := 2) hx hb dL_law_1679 (by decide) ?_
    refine lv_iadd hx hb dL_law_1680 ?_
    refine va_sld hx hb hX hbl hbA Z.2.2 (show vp_in (nI i + 2) L by rw [show (2 : Int32) = nI 2 from rfl, nI_add]; exact vp_in_nI (by omega) (by omega)) dL_law_1681 ?_
    refine z_callVi C0 Z hl.1 (As := [.int (xs (nI i + 1).toNatClampNeg), .int (xs (nI i + 2).toNatClampNeg)]) (rest := []) (k_X4_holder l hg hw) (gv_X4_holder tm_6_209) rfl ds_X4_holder ⟨Nat.le_of_ble_eq_true rfl, Nat.le_of_ble_eq_true rfl⟩ (ci := 4) rfl (cx_lt C0 (by decide)) rfl rfl rfl (Nat.le_of_ble_eq_true rfl) ⟨by show kc + 2 ≤ 601024; omega, by show ks + 12 ≤ 7293034; omega⟩ dL_law_1682 (fun b2 u2 H locs hw Z => ?_)
    refine lv_istore (lv' := [(7, .int b2), (6, .int k), (0, .ref b), (1, .ref (gad G 0)), (2, .ref (gad G 7)), (3, .ref (gad G 19)), (4, .ref (gad G 20)), (5, .int (nI i))]) hx hb dL_law_1685 hl (by decide) rfl (fun ls hl => ?_)
    obtain ⟨h11, hi, i19, i20⟩ := hw
    refine lv_aload_n hx hb dL_law_1687 rfl (lv_at hl 4 rfl) ?_
    refine z_callVi C0 Z hl.1 (As := []) (rest := []) (k_X4_thrown l hg (Q := fun t w => w = u2 ∧ t = u2 7 11) ⟨rfl, rfl⟩) (gv_X4_thrown tm_5_67) rfl ds_X4_thrown ⟨Nat.le_of_ble_eq_true rfl, Nat.le_of_ble_eq_true rfl⟩ (ci := 4) rfl (cx_lt C0 (by decide)) rfl rfl rfl (Nat.le_of_ble_eq_true rfl) ⟨by show kc + 2 ≤ 601024; omega, by show ks + 12 ≤ 7293034; omega⟩ dL_law_1688 (fun t u3 H locs hw Z => ?_)
    obtain ⟨e3, ht⟩ := hw
    rw [e3] at Z
    refine lv_iload hx hb dL_law_1691 (lv_at hl 1 rfl) ?_
    refine lv_icmp_eq (tgt := 1698) hx hb dL_law_1693 (by decide) (fun _ => ?_) (fun c => absurd (ht.trans h11) c)
    refine lv_iload hx hb dL_law_1698 (lv_at hl 1 rfl) ?_
    refine lv_if_ne (tgt := 1715) hx hb dL_law_1700 (by decide) (fun _ => ?_) (fun c => absurd c hk)
    refine lv_goto (tgt := 2228) hx hb dL_law_1715 (by decide) ?_
    refine W.widen (k := kc + 60) (n := ks + 700) (by omega) (by omega) ?_
    exact kk _ _ _ _ hi Z (lv_sub hl [2, 3, 4, 5, 6, 7] rfl)
set_option maxRecDepth 100000 in
set_option maxHeartbeats 4000000 in
theorem lc_nextFree {p : Program} (l : Launch) (hst : l.stackTraces = false) {e : Env} {s : State} {m : MethodId} {below : List Frame} {meth : Method} {c : Code} {G : zG} {b L : Nat} {xs : Nat → Int32} (C0 : Cx G RL cL_law 9 (some .boolean) p s m #[Value.ref b] meth c) {v : V3} {H : Heap} {locs : List Loc} (Z : Zs G s v H locs) (hX : va_X b L xs s s.heap) (hbl : b < s.heap.size) (hbA : ¬ zA G b) {i : Nat} (hiL : i + 5 ≤ L) (hL : L ≤ 2560) {g : Nat} {B : Int} (h : IV v g B) (hB : B + 99 ≤ 900000) {kc ks : Nat} (hkc : kc + 60 ≤ 601024) (hks : ks + 700 ≤ 7293034) {Q : State → Prop} {ls : Array Slot} (hl : lv_has ls 9 [(0, .ref b), (1, .ref (gad G 0)), (2, .ref (gad G 7)), (3, .ref (gad G 19)), (4, .ref (gad G 20)), (5, .int (nI i))]) (kk : ∀ (v' : V3) (H1 : Heap) (locs1 : List Loc) (ls1 : Array Slot), IV v' g (B + 99) → Zs G s v' H1 locs1 → lv_has ls1 9 [(0, .ref b), (1, .ref (gad G 0)), (2, .ref (gad G 7)), (3, .ref (gad G 19)), (4, .ref (gad G 20)), (5, .int (nI i))] → W p l e room_1 s m #[Value.ref b] below meth c H1 locs1 (kc + 60) (ks + 700) Q (F0 m 2228 ls1 [])) : W p l e room_1 s m #[Value.ref b] below meth c H locs kc ks Q (F0 m 1718 ls []) := by
  have hx := C0.1
  have hb := C0.2.1
  have hg := cx_g C0
  refine lv_aload_n hx hb dL_law_1718 rfl (lv_at hl 1 rfl) ?_
  refine lv_aload_n hx hb dL_law_1719 rfl (lv_at hl 0 rfl) ?_
  refine lv_iload hx hb dL_law_1720 (lv_at hl 5 rfl) ?_
  refine lv_iconst (v := 1) hx hb dL_law_1722 (by decide) ?_
  refine lv_iadd hx hb dL_law_1723 ?_
  refine va_sld hx hb hX hbl hbA Z.2.2 (show vp_in (nI i + 1) L by rw [show (1 : Int32) = nI 1 from rfl, nI_add]; exact vp_in_nI (by omega) (by omega)) dL_law_1724 ?_
  refine lv_aload_n hx hb dL_law_1725 rfl (lv_at hl 3 rfl) ?_
  refine z_callH C0 Z hl.1 (As := [.ref (gad G 0), .int (xs (nI i + 1).toNatClampNeg), .ref (gad G 19)]) (rest := []) (k_L_nextFree l hst hg (ca_nextFree h hB _)) (gv_L_nextFree tm_4_126) ds_L_nextFree ⟨Nat.le_of_ble_eq_true rfl, Nat.le_of_ble_eq_true rfl⟩ rfl rfl (Nat.le_of_ble_eq_true rfl) ⟨by show kc + 1 ≤ 601024; omega, by show ks + 6 ≤ 7293034; omega⟩ dL_law_1726 (fun k u H locs hw Z => ?_)
  refine lv_istore (lv' := [(6, .int k), (0, .ref b), (1, .ref (gad G 0)), (2, .ref (gad G 7)), (3, .ref (gad G 19)), (4, .ref (gad G 20)), (5, .int (nI i))]) hx hb dL_law_1729 hl (by decide) rfl (fun ls hl => ?_)
  rcases hw with ⟨hk, r, e19, hw⟩ | ⟨hk, hw⟩
  · subst hk
    refine lv_aload_n hx hb dL_law_1731 rfl (lv_at hl 3 rfl) ?_
    refine lv_aload_n hx hb dL_law_1732 rfl (lv_at hl 1 rfl) ?_
    refine lv_iload hx hb dL_law_1733 (lv_at hl 6 rfl) ?_
    refine lv_iconst (v := 1) hx hb dL_law_1735 (by decide) ?_
    refine lv_iadd hx hb dL_law_1736 ?_
    refine va_sld hx hb hX hbl hbA Z.2.2 (show vp_in (nI i + 1) L by rw [show (1 : Int32) = nI 1 from rfl, nI_add]; exact vp_in_nI (by omega) (by omega)) dL_law_1737 ?_
    refine z_callVi C0 Z hl.1 (As := [.int (xs (nI i + 1).toNatClampNeg)]) (rest := []) (k_X4_nextFree l hg hw) (gv_X4_nextFree tm_6_218) rfl ds_X4_nextFree ⟨Nat.le_of_ble_eq_true rfl, Nat.le_of_ble_eq_true rfl⟩ (ci := 4) rfl (cx_lt C0 (by decide)) rfl rfl rfl (Nat.le_of_ble_eq_true rfl) ⟨by show kc + 1 ≤ 601024; omega, by show ks + 6 ≤ 7293034; omega⟩ dL_law_1738 (fun b2 u2 H locs hw Z => ?_)
    refine lv_istore (lv' := [(7, .int b2), (6, .int 0), (0, .ref b), (1, .ref (gad G 0)), (2, .ref (gad G 7)), (3, .ref (gad G 19)), (4, .ref (gad G 20)), (5, .int (nI i))]) hx hb dL_law_1741 hl (by decide) rfl (fun ls hl => ?_)
    obtain ⟨h11, hbr, hi, i19, i20⟩ := hw
    refine lv_aload_n hx hb dL_law_1743 rfl (lv_at hl 4 rfl) ?_
    refine z_callVi C0 Z hl.1 (As := []) (rest := []) (k_X4_thrown l hg (Q := fun t w => w = u2 ∧ t = u2 7 11) ⟨rfl, rfl⟩) (gv_X4_thrown tm_5_67) rfl ds_X4_thrown ⟨Nat.le_of_ble_eq_true rfl, Nat.le_of_ble_eq_true rfl⟩ (ci := 4) rfl (cx_lt C0 (by decide)) rfl rfl rfl (Nat.le_of_ble_eq_true rfl) ⟨by show kc + 1 ≤ 601024; omega, by show ks + 6 ≤ 7293034; omega⟩ dL_law_1744 (fun t u3 H locs hw Z => ?_)
    obtain ⟨e3, ht⟩ := hw
    rw [e3] at Z
    refine lv_iload hx hb dL_law_1747 (lv_at hl 1 rfl) ?_
    refine lv_icmp_eq (tgt := 1754) hx hb dL_law_1749 (by decide) (fun _ => ?_) (fun c => absurd (ht.trans h11) c)
    refine lv_iload hx hb dL_law_1754 (lv_at hl 1 rfl) ?_
    refine lv_if_ne (tgt := 1771) hx hb dL_law_1756 (by decide) (fun c => absurd rfl c) (fun _ => ?_)
    refine lv_aload_n hx hb dL_law_1759 rfl (lv_at hl 5 rfl) ?_
    refine lv_iconst (v := 0) hx hb dL_law_1760 (by decide) ?_
    refine z_lald C0 Z dL_law_1761 ?_
    refine lv_iload hx hb dL_law_1762 (lv_at hl 0 rfl) ?_
    refine lv_i2l (v := b2.toInt64) hx hb dL_law_1764 rfl ?_
    refine W.lcmp hx hb dL_law_1765 ?_
    refine lv_if_eq (tgt := 1771) hx hb dL_law_1766 (by decide) (fun _ => ?_) (fun c => absurd ((lg_cmp_eq _ _).mpr (by rw [i19, e19, hbr])) c)
    refine lv_goto (tgt := 2228) hx hb dL_law_1771 (by decide) ?_
    refine W.widen (k := kc + 60) (n := ks + 700) (by omega) (by omega) ?_
    exact kk _ _ _ _ hi Z (lv_sub hl [2, 3, 4, 5, 6, 7] rfl)
  · refine lv_aload_n hx hb dL_law_1731 rfl (lv_at hl 3 rfl) ?_
    refine lv_aload_n hx hb dL_law_1732 rfl (lv_at hl 1 rfl) ?_
    refine lv_iload hx hb dL_law_1733 (lv_at hl 6 rfl) ?_
    refine lv_iconst (v := 1) hx hb dL_law_1735 (by decide) ?_
    refine lv_iadd hx hb dL_law_1736 ?_
    refine va_sld hx hb hX hbl hbA Z.2.2 (show vp_in (nI i + 1) L by rw [show (1 : Int32) = nI 1 from rfl, nI_add]; exact vp_in_nI (by omega) (by omega)) dL_law_1737 ?_
    refine z_callVi C0 Z hl.1 (As := [.int (xs (nI i + 1).toNatClampNeg)]) (rest := []) (k_X4_nextFree l hg hw) (gv_X4_nextFree tm_6_218) rfl ds_X4_nextFree ⟨Nat.le_of_ble_eq_true rfl, Nat.le_of_ble_eq_true rfl⟩ (ci := 4) rfl (cx_lt C0 (by decide)) rfl rfl rfl (Nat.le_of_ble_eq_true rfl) ⟨by show kc + 1 ≤ 601024; omega, by show ks + 6 ≤ 7293034; omega⟩ dL_law_1738 (fun b2 u2 H locs hw Z => ?_)
    refine lv_istore (lv' := [(7, .int b2), (6, .int k), (0, .ref b), (1, .ref (gad G 0)), (2, .ref (gad G 7)), (3, .ref (gad G 19)), (4, .ref (gad G 20)), (5, .int (nI i))]) hx hb dL_law_1741 hl (by decide) rfl (fun ls hl => ?_)
    obtain ⟨h11, hi, i19, i20⟩ := hw
    refine lv_aload_n hx hb dL_law_1743 rfl (lv_at hl 4 rfl) ?_
    refine z_callVi C0 Z hl.1 (As := []) (rest := []) (k_X4_thrown l hg (Q := fun t w => w = u2 ∧ t = u2 7 11) ⟨rfl, rfl⟩) (gv_X4_thrown tm_5_67) rfl ds_X4_thrown ⟨Nat.le_of_ble_eq_true rfl, Nat.le_of_ble_eq_true rfl⟩ (ci := 4) rfl (cx_lt C0 (by decide)) rfl rfl rfl (Nat.le_of_ble_eq_true rfl) ⟨by show kc + 1 ≤ 601024; omega, by show ks + 6 ≤ 7293034; omega⟩ dL_law_1744 (fun t u3 H locs hw Z => ?_)
    obtain ⟨e3, ht⟩ := hw
    rw [e3] at Z
    refine lv_iload hx hb dL_law_1747 (lv_at hl 1 rfl) ?_
    refine lv_icmp_eq (tgt := 1754) hx hb dL_law_1749 (by decide) (fun _ => ?_) (fun c => absurd (ht.trans h11) c)
    refine lv_iload hx hb dL_law_1754 (lv_at hl 1 rfl) ?_
    refine lv_if_ne (tgt := 1771) hx hb dL_law_1756 (by decide) (fun _ => ?_) (fun c => absurd c hk)
    refine lv_goto (tgt := 2228) hx hb dL_law_1771 (by decide) ?_
    refine W.widen (k := kc + 60) (n := ks + 700) (by omega) (by omega) ?_
    exact kk _ _ _ _ hi Z (lv_sub hl [2, 3, 4, 5, 6, 7] rfl)
set_option maxRecDepth 100000 in
set_option maxHeartbeats 4000000 in
theorem lc_mayWrite {p : Program} (l : Launch) (hst : l.stackTraces = false) {e : Env} {s : State} {m : MethodId} {below : List Frame} {meth : Method} {c : Code} {G : zG} {b L : Nat} {xs : Nat → Int32} (C0 : Cx G RL cL_law 9 (some .boolean) p s m #[Value.ref b] meth c) {v : V3} {H : Heap} {locs : List Loc} (Z : Zs G s v H locs) (hX : va_X b L xs s s.heap) (hbl : b < s.heap.size) (hbA : ¬ zA G b) {i : Nat} (hiL : i + 5 ≤ L) (hL : L ≤ 2560) {g : Nat} {B : Int} (h : IV v g B) (hB : B + 99 ≤ 900000) {kc ks : Nat} (hkc : kc + 60 ≤ 601024) (hks : ks + 700 ≤ 7293034) {Q : State → Prop} {ls : Array Slot} (hl : lv_has ls 9 [(0, .ref b), (1, .ref (gad G 0)), (2, .ref (gad G 7)), (3, .ref (gad G 19)), (4, .ref (gad G 20)), (5, .int (nI i))]) (kk : ∀ (v' : V3) (H1 : Heap) (locs1 : List Loc) (ls1 : Array Slot), IV v' g (B + 99) → Zs G s v' H1 locs1 → lv_has ls1 9 [(0, .ref b), (1, .ref (gad G 0)), (2, .ref (gad G 7)), (3, .ref (gad G 19)), (4, .ref (gad G 20)), (5, .int (nI i))] → W p l e room_1 s m #[Value.ref b] below meth c H1 locs1 (kc + 60) (ks + 700) Q (F0 m 2228 ls1 [])) : W p l e room_1 s m #[Value.ref b] below meth c H locs kc ks Q (F0 m 1774 ls []) := by
  have hx := C0.1
  have hb := C0.2.1
  have hg := cx_g C0
  refine lv_aload_n hx hb dL_law_1774 rfl (lv_at hl 1 rfl) ?_
  refine lv_aload_n hx hb dL_law_1775 rfl (lv_at hl 0 rfl) ?_
  refine lv_iload hx hb dL_law_1776 (lv_at hl 5 rfl) ?_
  refine lv_iconst (v := 1) hx hb dL_law_1778 (by decide) ?_
  refine lv_iadd hx hb dL_law_1779 ?_
  refine va_sld hx hb hX hbl hbA Z.2.2 (show vp_in (nI i + 1) L by rw [show (1 : Int32) = nI 1 from rfl, nI_add]; exact vp_in_nI (by omega) (by omega)) dL_law_1780 ?_
  refine lv_aload_n hx hb dL_law_1781 rfl (lv_at hl 0 rfl) ?_
  refine lv_iload hx hb dL_law_1782 (lv_at hl 5 rfl) ?_
  refine lv_iconst (v := 2) hx hb dL_law_1784 (by decide) ?_
  refine lv_iadd hx hb dL_law_1785 ?_
  refine va_sld hx hb hX hbl hbA Z.2.2 (show vp_in (nI i + 2) L by rw [show (2 : Int32) = nI 2 from rfl, nI_add]; exact vp_in_nI (by omega) (by omega)) dL_law_1786 ?_
  refine lv_aload_n hx hb dL_law_1787 rfl (lv_at hl 0 rfl) ?_
  refine lv_iload hx hb dL_law_1788 (lv_at hl 5 rfl) ?_
  refine lv_iconst (v := 3) hx hb dL_law_1790 (by decide) ?_
  refine lv_iadd hx hb dL_law_1791 ?_
  refine va_sld hx hb hX hbl hbA Z.2.2 (show vp_in (nI i + 3) L by rw [show (3 : Int32) = nI 3 from rfl, nI_add]; exact vp_in_nI (by omega) (by omega)) dL_law_1792 ?_
  refine lv_aload_n hx hb dL_law_1793 rfl (lv_at hl 3 rfl) ?_
  refine z_callH C0 Z hl.1 (As := [.ref (gad G 0), .int (xs (nI i + 1).toNatClampNeg), .int (xs (nI i + 2).toNatClampNeg), .int (xs (nI i + 3).toNatClampNeg), .ref (gad G 19)]) (rest := []) (k_L_mayWrite l hst hg (ca_mayWrite h hB _ _ _)) (gv_L_mayWrite tm_4_134) ds_L_mayWrite ⟨Nat.le_of_ble_eq_true rfl, Nat.le_of_ble_eq_true rfl⟩ rfl rfl (Nat.le_of_ble_eq_true rfl) ⟨by show kc + 3 ≤ 601024; omega, by show ks + 18 ≤ 7293034; omega⟩ dL_law_1794 (fun k u H locs hw Z => ?_)
  refine lv_istore (lv' := [(6, .int k), (0, .ref b), (1, .ref (gad G 0)), (2, .ref (gad G 7)), (3, .ref (gad G 19)), (4, .ref (gad G 20)), (5, .int (nI i))]) hx hb dL_law_1797 hl (by decide) rfl (fun ls hl => ?_)
  rcases hw with ⟨hk, r, e19, hw⟩ | ⟨hk, hw⟩
  · subst hk
    refine lv_aload_n hx hb dL_law_1799 rfl (lv_at hl 3 rfl) ?_
    refine lv_aload_n hx hb dL_law_1800 rfl (lv_at hl 1 rfl) ?_
    refine lv_iload hx hb dL_law_1801 (lv_at hl 6 rfl) ?_
    refine lv_iconst (v := 1) hx hb dL_law_1803 (by decide) ?_
    refine lv_iadd hx hb dL_law_1804 ?_
    refine va_sld hx hb hX hbl hbA Z.2.2 (show vp_in (nI i + 1) L by rw [show (1 : Int32) = nI 1 from rfl, nI_add]; exact vp_in_nI (by omega) (by omega)) dL_law_1805 ?_
    refine lv_aload_n hx hb dL_law_1806 rfl (lv_at hl 1 rfl) ?_
    refine lv_iload hx hb dL_law_1807 (lv_at hl 6 rfl) ?_
    refine lv_iconst (v := 2) hx hb dL_law_1809 (by decide) ?_
    refine lv_iadd hx hb dL_law_1810 ?_
    refine va_sld hx hb hX hbl hbA Z.2.2 (show vp_in (nI i + 2) L by rw [show (2 : Int32) = nI 2 from rfl, nI_add]; exact vp_in_nI (by omega) (by omega)) dL_law_1811 ?_
    refine lv_aload_n hx hb dL_law_1812 rfl (lv_at hl 1 rfl) ?_
    refine lv_iload hx hb dL_law_1813 (lv_at hl 6 rfl) ?_
    refine lv_iconst (v := 3) hx hb dL_law_1815 (by decide) ?_
    refine lv_iadd hx hb dL_law_1816 ?_
    refine va_sld hx hb hX hbl hbA Z.2.2 (show vp_in (nI i + 3) L by rw [show (3 : Int32) = nI 3 from rfl, nI_add]; exact vp_in_nI (by omega) (by omega)) dL_law_1817 ?_
    refine z_callVi C0 Z hl.1 (As := [.int (xs (nI i + 1).toNatClampNeg), .int (xs (nI i + 2).toNatClampNeg), .int (xs (nI i + 3).toNatClampNeg)]) (rest := []) (k_X4_mayWrite l hg hw) (gv_X4_mayWrite tm_6_223) rfl ds_X4_mayWrite ⟨Nat.le_of_ble_eq_true rfl, Nat.le_of_ble_eq_true rfl⟩ (ci := 4) rfl (cx_lt C0 (by decide)) rfl rfl rfl (Nat.le_of_ble_eq_true rfl) ⟨by show kc + 3 ≤ 601024; omega, by show ks + 18 ≤ 7293034; omega⟩ dL_law_1818 (fun b2 u2 H locs hw Z => ?_)
    refine lv_istore (lv' := [(7, .int b2), (6, .int 0), (0, .ref b), (1, .ref (gad G 0)), (2, .ref (gad G 7)), (3, .ref (gad G 19)), (4, .ref (gad G 20)), (5, .int (nI i))]) hx hb dL_law_1821 hl (by decide) rfl (fun ls hl => ?_)
    obtain ⟨h11, hbr, hi, i19, i20⟩ := hw
    refine lv_aload_n hx hb dL_law_1823 rfl (lv_at hl 4 rfl) ?_
    refine z_callVi C0 Z hl.1 (As := []) (rest := []) (k_X4_thrown l hg (Q := fun t w => w = u2 ∧ t = u2 7 11) ⟨rfl, rfl⟩) (gv_X4_thrown tm_5_67) rfl ds_X4_thrown ⟨Nat.le_of_ble_eq_true rfl, Nat.le_of_ble_eq_true rfl⟩ (ci := 4) rfl (cx_lt C0 (by decide)) rfl rfl rfl (Nat.le_of_ble_eq_true rfl) ⟨by show kc + 3 ≤ 601024; omega, by show ks + 18 ≤ 7293034; omega⟩ dL_law_1824 (fun t u3 H locs hw Z => ?_)
    obtain ⟨e3, ht⟩ := hw
    rw [e3] at Z
    refine lv_iload hx hb dL_law_1827 (lv_at hl 1 rfl) ?_
    refine lv_icmp_eq (tgt := 1834) hx hb dL_law_1829 (by decide) (fun _ => ?_) (fun c => absurd (ht.trans h11) c)
    refine lv_iload hx hb dL_law_1834 (lv_at hl 1 rfl) ?_
    refine lv_if_ne (tgt := 1858) hx hb dL_law_1836 (by decide) (fun c => absurd rfl c) (fun _ => ?_)
    refine lv_aload_n hx hb dL_law_1839 rfl (lv_at hl 5 rfl) ?_
    refine lv_iconst (v := 0) hx hb dL_law_1840 (by decide) ?_
    refine z_lald C0 Z dL_law_1841 ?_
    refine lv_iload hx hb dL_law_1842 (lv_at hl 0 rfl) ?_
    refine lv_if_eq (tgt := 1851) hx hb dL_law_1844 (by decide) (fun c1 => ?_) (fun c1 => ?_)
    · refine lv_lconst (v := 0) hx hb dL_law_1851 (by decide) ?_
      refine W.lcmp hx hb dL_law_1852 ?_
      refine lv_if_eq (tgt := 1858) hx hb dL_law_1853 (by decide) (fun _ => ?_) (fun c => absurd ((lg_cmp_eq _ _).mpr (by rw [i19, e19, ← hbr, if_pos c1])) c)
      refine lv_goto (tgt := 2228) hx hb dL_law_1858 (by decide) ?_
      refine W.widen (k := kc + 60) (n := ks + 700) (by omega) (by omega) ?_
      exact kk _ _ _ _ hi Z (lv_sub hl [2, 3, 4, 5, 6, 7] rfl)
    · refine lv_lconst (v := 1) hx hb dL_law_1847 (by decide) ?_
      refine lv_goto (tgt := 1852) hx hb dL_law_1848 (by decide) ?_
      refine W.lcmp hx hb dL_law_1852 ?_
      refine lv_if_eq (tgt := 1858) hx hb dL_law_1853 (by decide) (fun _ => ?_) (fun c => absurd ((lg_cmp_eq _ _).mpr (by rw [i19, e19, ← hbr, if_neg c1])) c)
      refine lv_goto (tgt := 2228) hx hb dL_law_1858 (by decide) ?_
      refine W.widen (k := kc + 60) (n := ks + 700) (by omega) (by omega) ?_
      exact kk _ _ _ _ hi Z (lv_sub hl [2, 3, 4, 5, 6, 7] rfl)
  · refine lv_aload_n hx hb dL_law_1799 rfl (lv_at hl 3 rfl) ?_
    refine lv_aload_n hx hb dL_law_1800 rfl (lv_at hl 1 rfl) ?_
    refine lv_iload hx hb dL_law_1801 (lv_at hl 6 rfl) ?_
    refine lv_iconst (v := 1) hx hb dL_law_1803 (by decide) ?_
    refine lv_iadd hx hb dL_law_1804 ?_
    refine va_sld hx hb hX hbl hbA Z.2.2 (show vp_in (nI i + 1) L by rw [show (1 : Int32) = nI 1 from rfl, nI_add]; exact vp_in_nI (by omega) (by omega)) dL_law_1805 ?_
    refine lv_aload_n hx hb dL_law_1806 rfl (lv_at hl 1 rfl) ?_
    refine lv_iload hx hb dL_law_1807 (lv_at hl 6 rfl) ?_
    refine lv_iconst (v := 2) hx hb dL_law_1809 (by decide) ?_
    refine lv_iadd hx hb dL_law_1810 ?_
    refine va_sld hx hb hX hbl hbA Z.2.2 (show vp_in (nI i + 2) L by rw [show (2 : Int32) = nI 2 from rfl, nI_add]; exact vp_in_nI (by omega) (by omega)) dL_law_1811 ?_
    refine lv_aload_n hx hb dL_law_1812 rfl (lv_at hl 1 rfl) ?_
    refine lv_iload hx hb dL_law_1813 (lv_at hl 6 rfl) ?_
    refine lv_iconst (v := 3) hx hb dL_law_1815 (by decide) ?_
    refine lv_iadd hx hb dL_law_1816 ?_
    refine va_sld hx hb hX hbl hbA Z.2.2 (show vp_in (nI i + 3) L by rw [show (3 : Int32) = nI 3 from rfl, nI_add]; exact vp_in_nI (by omega) (by omega)) dL_law_1817 ?_
    refine z_callVi C0 Z hl.1 (As := [.int (xs (nI i + 1).toNatClampNeg), .int (xs (nI i + 2).toNatClampNeg), .int (xs (nI i + 3).toNatClampNeg)]) (rest := []) (k_X4_mayWrite l hg hw) (gv_X4_mayWrite tm_6_223) rfl ds_X4_mayWrite ⟨Nat.le_of_ble_eq_true rfl, Nat.le_of_ble_eq_true rfl⟩ (ci := 4) rfl (cx_lt C0 (by decide)) rfl rfl rfl (Nat.le_of_ble_eq_true rfl) ⟨by show kc + 3 ≤ 601024; omega, by show ks + 18 ≤ 7293034; omega⟩ dL_law_1818 (fun b2 u2 H locs hw Z => ?_)
    refine lv_istore (lv' := [(7, .int b2), (6, .int k), (0, .ref b), (1, .ref (gad G 0)), (2, .ref (gad G 7)), (3, .ref (gad G 19)), (4, .ref (gad G 20)), (5, .int (nI i))]) hx hb dL_law_1821 hl (by decide) rfl (fun ls hl => ?_)
    obtain ⟨h11, hi, i19, i20⟩ := hw
    refine lv_aload_n hx hb dL_law_1823 rfl (lv_at hl 4 rfl) ?_
    refine z_callVi C0 Z hl.1 (As := []) (rest := []) (k_X4_thrown l hg (Q := fun t w => w = u2 ∧ t = u2 7 11) ⟨rfl, rfl⟩) (gv_X4_thrown tm_5_67) rfl ds_X4_thrown ⟨Nat.le_of_ble_eq_true rfl, Nat.le_of_ble_eq_true rfl⟩ (ci := 4) rfl (cx_lt C0 (by decide)) rfl rfl rfl (Nat.le_of_ble_eq_true rfl) ⟨by show kc + 3 ≤ 601024; omega, by show ks + 18 ≤ 7293034; omega⟩ dL_law_1824 (fun t u3 H locs hw Z => ?_)
    obtain ⟨e3, ht⟩ := hw
    rw [e3] at Z
    refine lv_iload hx hb dL_law_1827 (lv_at hl 1 rfl) ?_
    refine lv_icmp_eq (tgt := 1834) hx hb dL_law_1829 (by decide) (fun _ => ?_) (fun c => absurd (ht.trans h11) c)
    refine lv_iload hx hb dL_law_1834 (lv_at hl 1 rfl) ?_
    refine lv_if_ne (tgt := 1858) hx hb dL_law_1836 (by decide) (fun _ => ?_) (fun c => absurd c hk)
    refine lv_goto (tgt := 2228) hx hb dL_law_1858 (by decide) ?_
    refine W.widen (k := kc + 60) (n := ks + 700) (by omega) (by omega) ?_
    exact kk _ _ _ _ hi Z (lv_sub hl [2, 3, 4, 5, 6, 7] rfl)
set_option maxRecDepth 100000 in
set_option maxHeartbeats 4000000 in
theorem lc_usage {p : Program} (l : Launch) (hst : l.stackTraces = false) {e : Env} {s : State} {m : MethodId} {below : List Frame} {meth : Method} {c : Code} {G : zG} {b L : Nat} {xs : Nat → Int32} (C0 : Cx G RL cL_law 9 (some .boolean) p s m #[Value.ref b] meth c) {v : V3} {H : Heap} {locs : List Loc} (Z : Zs G s v H locs) (hX : va_X b L xs s s.heap) (hbl : b < s.heap.size) (hbA : ¬ zA G b) {i : Nat} (hiL : i + 5 ≤ L) (hL : L ≤ 2560) {g : Nat} {B : Int} (h : IV v g B) (hB : B + 99 ≤ 900000) {kc ks : Nat} (hkc : kc + 60 ≤ 601024) (hks : ks + 700 ≤ 7293034) {Q : State → Prop} {ls : Array Slot} (hl : lv_has ls 9 [(0, .ref b), (1, .ref (gad G 0)), (2, .ref (gad G 7)), (3, .ref (gad G 19)), (4, .ref (gad G 20)), (5, .int (nI i))]) (kk : ∀ (v' : V3) (H1 : Heap) (locs1 : List Loc) (ls1 : Array Slot), IV v' g (B + 99) → Zs G s v' H1 locs1 → lv_has ls1 9 [(0, .ref b), (1, .ref (gad G 0)), (2, .ref (gad G 7)), (3, .ref (gad G 19)), (4, .ref (gad G 20)), (5, .int (nI i))] → W p l e room_1 s m #[Value.ref b] below meth c H1 locs1 (kc + 60) (ks + 700) Q (F0 m 2228 ls1 [])) : W p l e room_1 s m #[Value.ref b] below meth c H locs kc ks Q (F0 m 1861 ls []) := by
  have hx := C0.1
  have hb := C0.2.1
  have hg := cx_g C0
  refine lv_aload_n hx hb dL_law_1861 rfl (lv_at hl 1 rfl) ?_
  refine lv_aload_n hx hb dL_law_1862 rfl (lv_at hl 0 rfl) ?_
  refine lv_iload hx hb dL_law_1863 (lv_at hl 5 rfl) ?_
  refine lv_iconst (v := 1) hx hb dL_law_1865 (by decide) ?_
  refine lv_iadd hx hb dL_law_1866 ?_
  refine va_sld hx hb hX hbl hbA Z.2.2 (show vp_in (nI i + 1) L by rw [show (1 : Int32) = nI 1 from rfl, nI_add]; exact vp_in_nI (by omega) (by omega)) dL_law_1867 ?_
  refine lv_aload hx hb dL_law_1868 (lv_at hl 4 rfl) ?_
  refine z_callH C0 Z hl.1 (As := [.ref (gad G 0), .int (xs (nI i + 1).toNatClampNeg), .ref (gad G 20)]) (rest := []) (k_L_usage l hst hg (ca_usage h hB _)) (gv_L_usage tm_4_146) ds_L_usage ⟨Nat.le_of_ble_eq_true rfl, Nat.le_of_ble_eq_true rfl⟩ rfl rfl (Nat.le_of_ble_eq_true rfl) ⟨by show kc + 1 ≤ 601024; omega, by show ks + 6 ≤ 7293034; omega⟩ dL_law_1870 (fun k u H locs hw Z => ?_)
  refine lv_istore (lv' := [(6, .int k), (0, .ref b), (1, .ref (gad G 0)), (2, .ref (gad G 7)), (3, .ref (gad G 19)), (4, .ref (gad G 20)), (5, .int (nI i))]) hx hb dL_law_1873 hl (by decide) rfl (fun ls hl => ?_)
  rcases hw with ⟨hk, r, e19, n19, hw⟩ | ⟨hk, hw⟩
  · subst hk
    refine lv_aload_n hx hb dL_law_1875 rfl (lv_at hl 3 rfl) ?_
    refine lv_aload_n hx hb dL_law_1876 rfl (lv_at hl 1 rfl) ?_
    refine lv_iload hx hb dL_law_1877 (lv_at hl 6 rfl) ?_
    refine lv_iconst (v := 1) hx hb dL_law_1879 (by decide) ?_
    refine lv_iadd hx hb dL_law_1880 ?_
    refine va_sld hx hb hX hbl hbA Z.2.2 (show vp_in (nI i + 1) L by rw [show (1 : Int32) = nI 1 from rfl, nI_add]; exact vp_in_nI (by omega) (by omega)) dL_law_1881 ?_
    refine z_callVf C0 Z hl.1 (As := [.int (xs (nI i + 1).toNatClampNeg)]) (rest := []) (k_X4_usage l hg hw) (gv_X4_usage tm_6_227) rfl ds_X4_usage ⟨Nat.le_of_ble_eq_true rfl, Nat.le_of_ble_eq_true rfl⟩ (ci := 4) rfl (cx_lt C0 (by decide)) rfl rfl rfl (Nat.le_of_ble_eq_true rfl) ⟨by show kc + 1 ≤ 601024; omega, by show ks + 6 ≤ 7293034; omega⟩ dL_law_1882 (fun b2 u2 H locs hw Z => ?_)
    refine lv_fstore (lv' := [(7, .float b2), (6, .int 0), (0, .ref b), (1, .ref (gad G 0)), (2, .ref (gad G 7)), (3, .ref (gad G 19)), (4, .ref (gad G 20)), (5, .int (nI i))]) hx hb dL_law_1885 hl (by decide) rfl (fun ls hl => ?_)
    obtain ⟨h11, hbr, hnn, hi, i19, i20⟩ := hw
    refine lv_aload_n hx hb dL_law_1887 rfl (lv_at hl 4 rfl) ?_
    refine z_callVi C0 Z hl.1 (As := []) (rest := []) (k_X4_thrown l hg (Q := fun t w => w = u2 ∧ t = u2 7 11) ⟨rfl, rfl⟩) (gv_X4_thrown tm_5_67) rfl ds_X4_thrown ⟨Nat.le_of_ble_eq_true rfl, Nat.le_of_ble_eq_true rfl⟩ (ci := 4) rfl (cx_lt C0 (by decide)) rfl rfl rfl (Nat.le_of_ble_eq_true rfl) ⟨by show kc + 1 ≤ 601024; omega, by show ks + 6 ≤ 7293034; omega⟩ dL_law_1888 (fun t u3 H locs hw Z => ?_)
    obtain ⟨e3, ht⟩ := hw
    rw [e3] at Z
    refine lv_iload hx hb dL_law_1891 (lv_at hl 1 rfl) ?_
    refine lv_icmp_eq (tgt := 1898) hx hb dL_law_1893 (by decide) (fun _ => ?_) (fun c => absurd (ht.trans h11) c)
    refine lv_iload hx hb dL_law_1898 (lv_at hl 1 rfl) ?_
    refine lv_if_ne (tgt := 1936) hx hb dL_law_1900 (by decide) (fun c => absurd rfl c) (fun _ => ?_)
    refine lv_aload hx hb dL_law_1903 (lv_at hl 6 rfl) ?_
    refine lv_iconst (v := 0) hx hb dL_law_1905 (by decide) ?_
    refine z_dald C0 Z dL_law_1906 ?_
    refine lv_fload hx hb dL_law_1907 (lv_at hl 0 rfl) ?_
    refine lv_f2d hx hb dL_law_1909 (by rw [hbr]; exact fp_f2d hnn) ?_
    refine lv_dcmp hx hb dL_law_1910 ?_
    refine lv_if_eq (tgt := 1936) hx hb dL_law_1911 (by decide) (fun _ => ?_) (fun c => absurd (by rw [i20, e19, hbr, fp_dcmp (fp_f2d hnn)]; rfl) c)
    refine lv_goto (tgt := 2228) hx hb dL_law_1936 (by decide) ?_
    refine W.widen (k := kc + 60) (n := ks + 700) (by omega) (by omega) ?_
    exact kk _ _ _ _ hi Z (lv_sub hl [2, 3, 4, 5, 6, 7] rfl)
  · refine lv_aload_n hx hb dL_law_1875 rfl (lv_at hl 3 rfl) ?_
    refine lv_aload_n hx hb dL_law_1876 rfl (lv_at hl 1 rfl) ?_
    refine lv_iload hx hb dL_law_1877 (lv_at hl 6 rfl) ?_
    refine lv_iconst (v := 1) hx hb dL_law_1879 (by decide) ?_
    refine lv_iadd hx hb dL_law_1880 ?_
    refine va_sld hx hb hX hbl hbA Z.2.2 (show vp_in (nI i + 1) L by rw [show (1 : Int32) = nI 1 from rfl, nI_add]; exact vp_in_nI (by omega) (by omega)) dL_law_1881 ?_
    refine z_callVf C0 Z hl.1 (As := [.int (xs (nI i + 1).toNatClampNeg)]) (rest := []) (k_X4_usage l hg hw) (gv_X4_usage tm_6_227) rfl ds_X4_usage ⟨Nat.le_of_ble_eq_true rfl, Nat.le_of_ble_eq_true rfl⟩ (ci := 4) rfl (cx_lt C0 (by decide)) rfl rfl rfl (Nat.le_of_ble_eq_true rfl) ⟨by show kc + 1 ≤ 601024; omega, by show ks + 6 ≤ 7293034; omega⟩ dL_law_1882 (fun b2 u2 H locs hw Z => ?_)
    refine lv_fstore (lv' := [(7, .float b2), (6, .int k), (0, .ref b), (1, .ref (gad G 0)), (2, .ref (gad G 7)), (3, .ref (gad G 19)), (4, .ref (gad G 20)), (5, .int (nI i))]) hx hb dL_law_1885 hl (by decide) rfl (fun ls hl => ?_)
    obtain ⟨h11, hi, i19, i20⟩ := hw
    refine lv_aload_n hx hb dL_law_1887 rfl (lv_at hl 4 rfl) ?_
    refine z_callVi C0 Z hl.1 (As := []) (rest := []) (k_X4_thrown l hg (Q := fun t w => w = u2 ∧ t = u2 7 11) ⟨rfl, rfl⟩) (gv_X4_thrown tm_5_67) rfl ds_X4_thrown ⟨Nat.le_of_ble_eq_true rfl, Nat.le_of_ble_eq_true rfl⟩ (ci := 4) rfl (cx_lt C0 (by decide)) rfl rfl rfl (Nat.le_of_ble_eq_true rfl) ⟨by show kc + 1 ≤ 601024; omega, by show ks + 6 ≤ 7293034; omega⟩ dL_law_1888 (fun t u3 H locs hw Z => ?_)
    obtain ⟨e3, ht⟩ := hw
    rw [e3] at Z
    refine lv_iload hx hb dL_law_1891 (lv_at hl 1 rfl) ?_
    refine lv_icmp_eq (tgt := 1898) hx hb dL_law_1893 (by decide) (fun _ => ?_) (fun c => absurd (ht.trans h11) c)
    refine lv_iload hx hb dL_law_1898 (lv_at hl 1 rfl) ?_
    refine lv_if_ne (tgt := 1936) hx hb dL_law_1900 (by decide) (fun _ => ?_) (fun c => absurd c hk)
    refine lv_goto (tgt := 2228) hx hb dL_law_1936 (by decide) ?_
    refine W.widen (k := kc + 60) (n := ks + 700) (by omega) (by omega) ?_
    exact kk _ _ _ _ hi Z (lv_sub hl [2, 3, 4, 5, 6, 7] rfl)
set_option maxRecDepth 100000 in
set_option maxHeartbeats 4000000 in
theorem lc_waitsFor {p : Program} (l : Launch) (hst : l.stackTraces = false) {e : Env} {s : State} {m : MethodId} {below : List Frame} {meth : Method} {c : Code} {G : zG} {b L : Nat} {xs : Nat → Int32} (C0 : Cx G RL cL_law 9 (some .boolean) p s m #[Value.ref b] meth c) {v : V3} {H : Heap} {locs : List Loc} (Z : Zs G s v H locs) (hX : va_X b L xs s s.heap) (hbl : b < s.heap.size) (hbA : ¬ zA G b) {i : Nat} (hiL : i + 5 ≤ L) (hL : L ≤ 2560) {g : Nat} {B : Int} (h : IV v g B) (hB : B + 99 ≤ 900000) {kc ks : Nat} (hkc : kc + 60 ≤ 601024) (hks : ks + 700 ≤ 7293034) {Q : State → Prop} {ls : Array Slot} (hl : lv_has ls 9 [(0, .ref b), (1, .ref (gad G 0)), (2, .ref (gad G 7)), (3, .ref (gad G 19)), (4, .ref (gad G 20)), (5, .int (nI i))]) (kk : ∀ (v' : V3) (H1 : Heap) (locs1 : List Loc) (ls1 : Array Slot), IV v' g (B + 99) → Zs G s v' H1 locs1 → lv_has ls1 9 [(0, .ref b), (1, .ref (gad G 0)), (2, .ref (gad G 7)), (3, .ref (gad G 19)), (4, .ref (gad G 20)), (5, .int (nI i))] → W p l e room_1 s m #[Value.ref b] below meth c H1 locs1 (kc + 60) (ks + 700) Q (F0 m 2228 ls1 [])) : W p l e room_1 s m #[Value.ref b] below meth c H locs kc ks Q (F0 m 1939 ls []) := by
  have hx := C0.1
  have hb := C0.2.1
  have hg := cx_g C0
  refine lv_aload_n hx hb dL_law_1939 rfl (lv_at hl 1 rfl) ?_
  refine lv_aload_n hx hb dL_law_1940 rfl (lv_at hl 0 rfl) ?_
  refine lv_iload hx hb dL_law_1941 (lv_at hl 5 rfl) ?_
  refine lv_iconst (v := 1) hx hb dL_law_1943 (by decide) ?_
  refine lv_iadd hx hb dL_law_1944 ?_
  refine va_sld hx hb hX hbl hbA Z.2.2 (show vp_in (nI i + 1) L by rw [show (1 : Int32) = nI 1 from rfl, nI_add]; exact vp_in_nI (by omega) (by omega)) dL_law_1945 ?_
  refine lv_aload_n hx hb dL_law_1946 rfl (lv_at hl 0 rfl) ?_
  refine lv_iload hx hb dL_law_1947 (lv_at hl 5 rfl) ?_
  refine lv_iconst (v := 2) hx hb dL_law_1949 (by decide) ?_
  refine lv_iadd hx hb dL_law_1950 ?_
  refine va_sld hx hb hX hbl hbA Z.2.2 (show vp_in (nI i + 2) L by rw [show (2 : Int32) = nI 2 from rfl, nI_add]; exact vp_in_nI (by omega) (by omega)) dL_law_1951 ?_
  refine lv_aload_n hx hb dL_law_1952 rfl (lv_at hl 3 rfl) ?_
  refine z_callH C0 Z hl.1 (As := [.ref (gad G 0), .int (xs (nI i + 1).toNatClampNeg), .int (xs (nI i + 2).toNatClampNeg), .ref (gad G 19)]) (rest := []) (k_L_waitsFor l hst hg (ca_waitsFor h hB _ _)) (gv_L_waitsFor tm_4_153) ds_L_waitsFor ⟨Nat.le_of_ble_eq_true rfl, Nat.le_of_ble_eq_true rfl⟩ rfl rfl (Nat.le_of_ble_eq_true rfl) ⟨by show kc + 2 ≤ 601024; omega, by show ks + 12 ≤ 7293034; omega⟩ dL_law_1953 (fun k u H locs hw Z => ?_)
  refine lv_istore (lv' := [(6, .int k), (0, .ref b), (1, .ref (gad G 0)), (2, .ref (gad G 7)), (3, .ref (gad G 19)), (4, .ref (gad G 20)), (5, .int (nI i))]) hx hb dL_law_1956 hl (by decide) rfl (fun ls hl => ?_)
  rcases hw with ⟨hk, r, e19, hw⟩ | ⟨hk, hw⟩
  · subst hk
    refine lv_aload_n hx hb dL_law_1958 rfl (lv_at hl 3 rfl) ?_
    refine lv_aload_n hx hb dL_law_1959 rfl (lv_at hl 1 rfl) ?_
    refine lv_iload hx hb dL_law_1960 (lv_at hl 6 rfl) ?_
    refine lv_iconst (v := 1) hx hb dL_law_1962 (by decide) ?_
    refine lv_iadd hx hb dL_law_1963 ?_
    refine va_sld hx hb hX hbl hbA Z.2.2 (show vp_in (nI i + 1) L by rw [show (1 : Int32) = nI 1 from rfl, nI_add]; exact vp_in_nI (by omega) (by omega)) dL_law_1964 ?_
    refine lv_aload_n hx hb dL_law_1965 rfl (lv_at hl 1 rfl) ?_
    refine lv_iload hx hb dL_law_1966 (lv_at hl 6 rfl) ?_
    refine lv_iconst (v := 2) hx hb dL_law_1968 (by decide) ?_
    refine lv_iadd hx hb dL_law_1969 ?_
    refine va_sld hx hb hX hbl hbA Z.2.2 (show vp_in (nI i + 2) L by rw [show (2 : Int32) = nI 2 from rfl, nI_add]; exact vp_in_nI (by omega) (by omega)) dL_law_1970 ?_
    refine z_callVi C0 Z hl.1 (As := [.int (xs (nI i + 1).toNatClampNeg), .int (xs (nI i + 2).toNatClampNeg)]) (rest := []) (k_X4_waitsFor l hg hw) (gv_X4_waitsFor tm_6_231) rfl ds_X4_waitsFor ⟨Nat.le_of_ble_eq_true rfl, Nat.le_of_ble_eq_true rfl⟩ (ci := 4) rfl (cx_lt C0 (by decide)) rfl rfl rfl (Nat.le_of_ble_eq_true rfl) ⟨by show kc + 2 ≤ 601024; omega, by show ks + 12 ≤ 7293034; omega⟩ dL_law_1971 (fun b2 u2 H locs hw Z => ?_)
    refine lv_istore (lv' := [(7, .int b2), (6, .int 0), (0, .ref b), (1, .ref (gad G 0)), (2, .ref (gad G 7)), (3, .ref (gad G 19)), (4, .ref (gad G 20)), (5, .int (nI i))]) hx hb dL_law_1974 hl (by decide) rfl (fun ls hl => ?_)
    obtain ⟨h11, hbr, hi, i19, i20⟩ := hw
    refine lv_aload_n hx hb dL_law_1976 rfl (lv_at hl 4 rfl) ?_
    refine z_callVi C0 Z hl.1 (As := []) (rest := []) (k_X4_thrown l hg (Q := fun t w => w = u2 ∧ t = u2 7 11) ⟨rfl, rfl⟩) (gv_X4_thrown tm_5_67) rfl ds_X4_thrown ⟨Nat.le_of_ble_eq_true rfl, Nat.le_of_ble_eq_true rfl⟩ (ci := 4) rfl (cx_lt C0 (by decide)) rfl rfl rfl (Nat.le_of_ble_eq_true rfl) ⟨by show kc + 2 ≤ 601024; omega, by show ks + 12 ≤ 7293034; omega⟩ dL_law_1977 (fun t u3 H locs hw Z => ?_)
    obtain ⟨e3, ht⟩ := hw
    rw [e3] at Z
    refine lv_iload hx hb dL_law_1980 (lv_at hl 1 rfl) ?_
    refine lv_icmp_eq (tgt := 1987) hx hb dL_law_1982 (by decide) (fun _ => ?_) (fun c => absurd (ht.trans h11) c)
    refine lv_iload hx hb dL_law_1987 (lv_at hl 1 rfl) ?_
    refine lv_if_ne (tgt := 2004) hx hb dL_law_1989 (by decide) (fun c => absurd rfl c) (fun _ => ?_)
    refine lv_aload_n hx hb dL_law_1992 rfl (lv_at hl 5 rfl) ?_
    refine lv_iconst (v := 0) hx hb dL_law_1993 (by decide) ?_
    refine z_lald C0 Z dL_law_1994 ?_
    refine lv_iload hx hb dL_law_1995 (lv_at hl 0 rfl) ?_
    refine lv_i2l (v := b2.toInt64) hx hb dL_law_1997 rfl ?_
    refine W.lcmp hx hb dL_law_1998 ?_
    refine lv_if_eq (tgt := 2004) hx hb dL_law_1999 (by decide) (fun _ => ?_) (fun c => absurd ((lg_cmp_eq _ _).mpr (by rw [i19, e19, hbr])) c)
    refine lv_goto (tgt := 2228) hx hb dL_law_2004 (by decide) ?_
    refine W.widen (k := kc + 60) (n := ks + 700) (by omega) (by omega) ?_
    exact kk _ _ _ _ hi Z (lv_sub hl [2, 3, 4, 5, 6, 7] rfl)
  · refine lv_aload_n hx hb dL_law_1958 rfl (lv_at hl 3 rfl) ?_
    refine lv_aload_n hx hb dL_law_1959 rfl (lv_at hl 1 rfl) ?_
    refine lv_iload hx hb dL_law_1960 (lv_at hl 6 rfl) ?_
    refine lv_iconst (v := 1) hx hb dL_law_1962 (by decide) ?_
    refine lv_iadd hx hb dL_law_1963 ?_
    refine va_sld hx hb hX hbl hbA Z.2.2 (show vp_in (nI i + 1) L by rw [show (1 : Int32) = nI 1 from rfl, nI_add]; exact vp_in_nI (by omega) (by omega)) dL_law_1964 ?_
    refine lv_aload_n hx hb dL_law_1965 rfl (lv_at hl 1 rfl) ?_
    refine lv_iload hx hb dL_law_1966 (lv_at hl 6 rfl) ?_
    refine lv_iconst (v := 2) hx hb dL_law_1968 (by decide) ?_
    refine lv_iadd hx hb dL_law_1969 ?_
    refine va_sld hx hb hX hbl hbA Z.2.2 (show vp_in (nI i + 2) L by rw [show (2 : Int32) = nI 2 from rfl, nI_add]; exact vp_in_nI (by omega) (by omega)) dL_law_1970 ?_
    refine z_callVi C0 Z hl.1 (As := [.int (xs (nI i + 1).toNatClampNeg), .int (xs (nI i + 2).toNatClampNeg)]) (rest := []) (k_X4_waitsFor l hg hw) (gv_X4_waitsFor tm_6_231) rfl ds_X4_waitsFor ⟨Nat.le_of_ble_eq_true rfl, Nat.le_of_ble_eq_true rfl⟩ (ci := 4) rfl (cx_lt C0 (by decide)) rfl rfl rfl (Nat.le_of_ble_eq_true rfl) ⟨by show kc + 2 ≤ 601024; omega, by show ks + 12 ≤ 7293034; omega⟩ dL_law_1971 (fun b2 u2 H locs hw Z => ?_)
    refine lv_istore (lv' := [(7, .int b2), (6, .int k), (0, .ref b), (1, .ref (gad G 0)), (2, .ref (gad G 7)), (3, .ref (gad G 19)), (4, .ref (gad G 20)), (5, .int (nI i))]) hx hb dL_law_1974 hl (by decide) rfl (fun ls hl => ?_)
    obtain ⟨h11, hi, i19, i20⟩ := hw
    refine lv_aload_n hx hb dL_law_1976 rfl (lv_at hl 4 rfl) ?_
    refine z_callVi C0 Z hl.1 (As := []) (rest := []) (k_X4_thrown l hg (Q := fun t w => w = u2 ∧ t = u2 7 11) ⟨rfl, rfl⟩) (gv_X4_thrown tm_5_67) rfl ds_X4_thrown ⟨Nat.le_of_ble_eq_true rfl, Nat.le_of_ble_eq_true rfl⟩ (ci := 4) rfl (cx_lt C0 (by decide)) rfl rfl rfl (Nat.le_of_ble_eq_true rfl) ⟨by show kc + 2 ≤ 601024; omega, by show ks + 12 ≤ 7293034; omega⟩ dL_law_1977 (fun t u3 H locs hw Z => ?_)
    obtain ⟨e3, ht⟩ := hw
    rw [e3] at Z
    refine lv_iload hx hb dL_law_1980 (lv_at hl 1 rfl) ?_
    refine lv_icmp_eq (tgt := 1987) hx hb dL_law_1982 (by decide) (fun _ => ?_) (fun c => absurd (ht.trans h11) c)
    refine lv_iload hx hb dL_law_1987 (lv_at hl 1 rfl) ?_
    refine lv_if_ne (tgt := 2004) hx hb dL_law_1989 (by decide) (fun _ => ?_) (fun c => absurd c hk)
    refine lv_goto (tgt := 2228) hx hb dL_law_2004 (by decide) ?_
    refine W.widen (k := kc + 60) (n := ks + 700) (by omega) (by omega) ?_
    exact kk _ _ _ _ hi Z (lv_sub hl [2, 3, 4, 5, 6, 7] rfl)
set_option maxRecDepth 100000 in
set_option maxHeartbeats 4000000 in
theorem lc_ahead {p : Program} (l : Launch) (hst : l.stackTraces = false) {e : Env} {s : State} {m : MethodId} {below : List Frame} {meth : Method} {c : Code} {G : zG} {b L : Nat} {xs : Nat → Int32} (C0 : Cx G RL cL_law 9 (some .boolean) p s m #[Value.ref b] meth c) {v : V3} {H : Heap} {locs : List Loc} (Z : Zs G s v H locs) (hX : va_X b L xs s s.heap) (hbl : b < s.heap.size) (hbA : ¬ zA G b) {i : Nat} (hiL : i + 5 ≤ L) (hL : L ≤ 2560) {g : Nat} {B : Int} (h : IV v g B) (hB : B + 99 ≤ 900000) {kc ks : Nat} (hkc : kc + 60 ≤ 601024) (hks : ks + 700 ≤ 7293034) {Q : State → Prop} {ls : Array Slot} (hl : lv_has ls 9 [(0, .ref b), (1, .ref (gad G 0)), (2, .ref (gad G 7)), (3, .ref (gad G 19)), (4, .ref (gad G 20)), (5, .int (nI i))]) (kk : ∀ (v' : V3) (H1 : Heap) (locs1 : List Loc) (ls1 : Array Slot), IV v' g (B + 99) → Zs G s v' H1 locs1 → lv_has ls1 9 [(0, .ref b), (1, .ref (gad G 0)), (2, .ref (gad G 7)), (3, .ref (gad G 19)), (4, .ref (gad G 20)), (5, .int (nI i))] → W p l e room_1 s m #[Value.ref b] below meth c H1 locs1 (kc + 60) (ks + 700) Q (F0 m 2228 ls1 [])) : W p l e room_1 s m #[Value.ref b] below meth c H locs kc ks Q (F0 m 2007 ls []) := by
  have hx := C0.1
  have hb := C0.2.1
  have hg := cx_g C0
  refine lv_aload_n hx hb dL_law_2007 rfl (lv_at hl 1 rfl) ?_
  refine lv_aload_n hx hb dL_law_2008 rfl (lv_at hl 0 rfl) ?_
  refine lv_iload hx hb dL_law_2009 (lv_at hl 5 rfl) ?_
  refine lv_iconst (v := 1) hx hb dL_law_2011 (by decide) ?_
  refine lv_iadd hx hb dL_law_2012 ?_
  refine va_sld hx hb hX hbl hbA Z.2.2 (show vp_in (nI i + 1) L by rw [show (1 : Int32) = nI 1 from rfl, nI_add]; exact vp_in_nI (by omega) (by omega)) dL_law_2013 ?_
  refine lv_aload_n hx hb dL_law_2014 rfl (lv_at hl 0 rfl) ?_
  refine lv_iload hx hb dL_law_2015 (lv_at hl 5 rfl) ?_
  refine lv_iconst (v := 2) hx hb dL_law_2017 (by decide) ?_
  refine lv_iadd hx hb dL_law_2018 ?_
  refine va_sld hx hb hX hbl hbA Z.2.2 (show vp_in (nI i + 2) L by rw [show (2 : Int32) = nI 2 from rfl, nI_add]; exact vp_in_nI (by omega) (by omega)) dL_law_2019 ?_
  refine lv_aload_n hx hb dL_law_2020 rfl (lv_at hl 3 rfl) ?_
  refine z_callH C0 Z hl.1 (As := [.ref (gad G 0), .int (xs (nI i + 1).toNatClampNeg), .int (xs (nI i + 2).toNatClampNeg), .ref (gad G 19)]) (rest := []) (k_L_ahead l hst hg (ca_ahead h hB _ _)) (gv_L_ahead tm_4_160) ds_L_ahead ⟨Nat.le_of_ble_eq_true rfl, Nat.le_of_ble_eq_true rfl⟩ rfl rfl (Nat.le_of_ble_eq_true rfl) ⟨by show kc + 2 ≤ 601024; omega, by show ks + 12 ≤ 7293034; omega⟩ dL_law_2021 (fun k u H locs hw Z => ?_)
  refine lv_istore (lv' := [(6, .int k), (0, .ref b), (1, .ref (gad G 0)), (2, .ref (gad G 7)), (3, .ref (gad G 19)), (4, .ref (gad G 20)), (5, .int (nI i))]) hx hb dL_law_2024 hl (by decide) rfl (fun ls hl => ?_)
  rcases hw with ⟨hk, r, e19, hw⟩ | ⟨hk, hw⟩
  · subst hk
    refine lv_aload_n hx hb dL_law_2026 rfl (lv_at hl 3 rfl) ?_
    refine lv_aload_n hx hb dL_law_2027 rfl (lv_at hl 1 rfl) ?_
    refine lv_iload hx hb dL_law_2028 (lv_at hl 6 rfl) ?_
    refine lv_iconst (v := 1) hx hb dL_law_2030 (by decide) ?_
    refine lv_iadd hx hb dL_law_2031 ?_
    refine va_sld hx hb hX hbl hbA Z.2.2 (show vp_in (nI i + 1) L by rw [show (1 : Int32) = nI 1 from rfl, nI_add]; exact vp_in_nI (by omega) (by omega)) dL_law_2032 ?_
    refine lv_aload_n hx hb dL_law_2033 rfl (lv_at hl 1 rfl) ?_
    refine lv_iload hx hb dL_law_2034 (lv_at hl 6 rfl) ?_
    refine lv_iconst (v := 2) hx hb dL_law_2036 (by decide) ?_
    refine lv_iadd hx hb dL_law_2037 ?_
    refine va_sld hx hb hX hbl hbA Z.2.2 (show vp_in (nI i + 2) L by rw [show (2 : Int32) = nI 2 from rfl, nI_add]; exact vp_in_nI (by omega) (by omega)) dL_law_2038 ?_
    refine z_callVi C0 Z hl.1 (As := [.int (xs (nI i + 1).toNatClampNeg), .int (xs (nI i + 2).toNatClampNeg)]) (rest := []) (k_X4_ahead l hg hw) (gv_X4_ahead tm_6_235) rfl ds_X4_ahead ⟨Nat.le_of_ble_eq_true rfl, Nat.le_of_ble_eq_true rfl⟩ (ci := 4) rfl (cx_lt C0 (by decide)) rfl rfl rfl (Nat.le_of_ble_eq_true rfl) ⟨by show kc + 2 ≤ 601024; omega, by show ks + 12 ≤ 7293034; omega⟩ dL_law_2039 (fun b2 u2 H locs hw Z => ?_)
    refine lv_istore (lv' := [(7, .int b2), (6, .int 0), (0, .ref b), (1, .ref (gad G 0)), (2, .ref (gad G 7)), (3, .ref (gad G 19)), (4, .ref (gad G 20)), (5, .int (nI i))]) hx hb dL_law_2042 hl (by decide) rfl (fun ls hl => ?_)
    obtain ⟨h11, hbr, hi, i19, i20⟩ := hw
    refine lv_aload_n hx hb dL_law_2044 rfl (lv_at hl 4 rfl) ?_
    refine z_callVi C0 Z hl.1 (As := []) (rest := []) (k_X4_thrown l hg (Q := fun t w => w = u2 ∧ t = u2 7 11) ⟨rfl, rfl⟩) (gv_X4_thrown tm_5_67) rfl ds_X4_thrown ⟨Nat.le_of_ble_eq_true rfl, Nat.le_of_ble_eq_true rfl⟩ (ci := 4) rfl (cx_lt C0 (by decide)) rfl rfl rfl (Nat.le_of_ble_eq_true rfl) ⟨by show kc + 2 ≤ 601024; omega, by show ks + 12 ≤ 7293034; omega⟩ dL_law_2045 (fun t u3 H locs hw Z => ?_)
    obtain ⟨e3, ht⟩ := hw
    rw [e3] at Z
    refine lv_iload hx hb dL_law_2048 (lv_at hl 1 rfl) ?_
    refine lv_icmp_eq (tgt := 2055) hx hb dL_law_2050 (by decide) (fun _ => ?_) (fun c => absurd (ht.trans h11) c)
    refine lv_iload hx hb dL_law_2055 (lv_at hl 1 rfl) ?_
    refine lv_if_ne (tgt := 2072) hx hb dL_law_2057 (by decide) (fun c => absurd rfl c) (fun _ => ?_)
    refine lv_aload_n hx hb dL_law_2060 rfl (lv_at hl 5 rfl) ?_
    refine lv_iconst (v := 0) hx hb dL_law_2061 (by decide) ?_
    refine z_lald C0 Z dL_law_2062 ?_
    refine lv_iload hx hb dL_law_2063 (lv_at hl 0 rfl) ?_
    refine lv_i2l (v := b2.toInt64) hx hb dL_law_2065 rfl ?_
    refine W.lcmp hx hb dL_law_2066 ?_
    refine lv_if_eq (tgt := 2072) hx hb dL_law_2067 (by decide) (fun _ => ?_) (fun c => absurd ((lg_cmp_eq _ _).mpr (by rw [i19, e19, hbr])) c)
    refine lv_goto (tgt := 2228) hx hb dL_law_2072 (by decide) ?_
    refine W.widen (k := kc + 60) (n := ks + 700) (by omega) (by omega) ?_
    exact kk _ _ _ _ hi Z (lv_sub hl [2, 3, 4, 5, 6, 7] rfl)
  · refine lv_aload_n hx hb dL_law_2026 rfl (lv_at hl 3 rfl) ?_
    refine lv_aload_n hx hb dL_law_2027 rfl (lv_at hl 1 rfl) ?_
    refine lv_iload hx hb dL_law_2028 (lv_at hl 6 rfl) ?_
    refine lv_iconst (v := 1) hx hb dL_law_2030 (by decide) ?_
    refine lv_iadd hx hb dL_law_2031 ?_
    refine va_sld hx hb hX hbl hbA Z.2.2 (show vp_in (nI i + 1) L by rw [show (1 : Int32) = nI 1 from rfl, nI_add]; exact vp_in_nI (by omega) (by omega)) dL_law_2032 ?_
    refine lv_aload_n hx hb dL_law_2033 rfl (lv_at hl 1 rfl) ?_
    refine lv_iload hx hb dL_law_2034 (lv_at hl 6 rfl) ?_
    refine lv_iconst (v := 2) hx hb dL_law_2036 (by decide) ?_
    refine lv_iadd hx hb dL_law_2037 ?_
    refine va_sld hx hb hX hbl hbA Z.2.2 (show vp_in (nI i + 2) L by rw [show (2 : Int32) = nI 2 from rfl, nI_add]; exact vp_in_nI (by omega) (by omega)) dL_law_2038 ?_
    refine z_callVi C0 Z hl.1 (As := [.int (xs (nI i + 1).toNatClampNeg), .int (xs (nI i + 2).toNatClampNeg)]) (rest := []) (k_X4_ahead l hg hw) (gv_X4_ahead tm_6_235) rfl ds_X4_ahead ⟨Nat.le_of_ble_eq_true rfl, Nat.le_of_ble_eq_true rfl⟩ (ci := 4) rfl (cx_lt C0 (by decide)) rfl rfl rfl (Nat.le_of_ble_eq_true rfl) ⟨by show kc + 2 ≤ 601024; omega, by show ks + 12 ≤ 7293034; omega⟩ dL_law_2039 (fun b2 u2 H locs hw Z => ?_)
    refine lv_istore (lv' := [(7, .int b2), (6, .int k), (0, .ref b), (1, .ref (gad G 0)), (2, .ref (gad G 7)), (3, .ref (gad G 19)), (4, .ref (gad G 20)), (5, .int (nI i))]) hx hb dL_law_2042 hl (by decide) rfl (fun ls hl => ?_)
    obtain ⟨h11, hi, i19, i20⟩ := hw
    refine lv_aload_n hx hb dL_law_2044 rfl (lv_at hl 4 rfl) ?_
    refine z_callVi C0 Z hl.1 (As := []) (rest := []) (k_X4_thrown l hg (Q := fun t w => w = u2 ∧ t = u2 7 11) ⟨rfl, rfl⟩) (gv_X4_thrown tm_5_67) rfl ds_X4_thrown ⟨Nat.le_of_ble_eq_true rfl, Nat.le_of_ble_eq_true rfl⟩ (ci := 4) rfl (cx_lt C0 (by decide)) rfl rfl rfl (Nat.le_of_ble_eq_true rfl) ⟨by show kc + 2 ≤ 601024; omega, by show ks + 12 ≤ 7293034; omega⟩ dL_law_2045 (fun t u3 H locs hw Z => ?_)
    obtain ⟨e3, ht⟩ := hw
    rw [e3] at Z
    refine lv_iload hx hb dL_law_2048 (lv_at hl 1 rfl) ?_
    refine lv_icmp_eq (tgt := 2055) hx hb dL_law_2050 (by decide) (fun _ => ?_) (fun c => absurd (ht.trans h11) c)
    refine lv_iload hx hb dL_law_2055 (lv_at hl 1 rfl) ?_
    refine lv_if_ne (tgt := 2072) hx hb dL_law_2057 (by decide) (fun _ => ?_) (fun c => absurd c hk)
    refine lv_goto (tgt := 2228) hx hb dL_law_2072 (by decide) ?_
    refine W.widen (k := kc + 60) (n := ks + 700) (by omega) (by omega) ?_
    exact kk _ _ _ _ hi Z (lv_sub hl [2, 3, 4, 5, 6, 7] rfl)
set_option maxRecDepth 100000 in
set_option maxHeartbeats 4000000 in
theorem lc_show {p : Program} (l : Launch) (hst : l.stackTraces = false) {e : Env} {s : State} {m : MethodId} {below : List Frame} {meth : Method} {c : Code} {G : zG} {b L : Nat} {xs : Nat → Int32} (C0 : Cx G RL cL_law 9 (some .boolean) p s m #[Value.ref b] meth c) {v : V3} {H : Heap} {locs : List Loc} (Z : Zs G s v H locs) (hX : va_X b L xs s s.heap) (hbl : b < s.heap.size) (hbA : ¬ zA G b) {i : Nat} (hiL : i + 5 ≤ L) (hL : L ≤ 2560) {g : Nat} {B : Int} (h : IV v g B) (hB : B + 99 ≤ 900000) {kc ks : Nat} (hkc : kc + 60 ≤ 601024) (hks : ks + 700 ≤ 7293034) {Q : State → Prop} {ls : Array Slot} (hl : lv_has ls 9 [(0, .ref b), (1, .ref (gad G 0)), (2, .ref (gad G 7)), (3, .ref (gad G 19)), (4, .ref (gad G 20)), (5, .int (nI i))]) (kk : ∀ (v' : V3) (H1 : Heap) (locs1 : List Loc) (ls1 : Array Slot), IV v' g (B + 99) → Zs G s v' H1 locs1 → lv_has ls1 9 [(0, .ref b), (1, .ref (gad G 0)), (2, .ref (gad G 7)), (3, .ref (gad G 19)), (4, .ref (gad G 20)), (5, .int (nI i))] → W p l e room_1 s m #[Value.ref b] below meth c H1 locs1 (kc + 60) (ks + 700) Q (F0 m 2228 ls1 [])) : W p l e room_1 s m #[Value.ref b] below meth c H locs kc ks Q (F0 m 2075 ls []) := by
  have hx := C0.1
  have hb := C0.2.1
  have hg := cx_g C0
  refine lv_aload_n hx hb dL_law_2075 rfl (lv_at hl 1 rfl) ?_
  refine lv_aload_n hx hb dL_law_2076 rfl (lv_at hl 0 rfl) ?_
  refine lv_iload hx hb dL_law_2077 (lv_at hl 5 rfl) ?_
  refine lv_iconst (v := 1) hx hb dL_law_2079 (by decide) ?_
  refine lv_iadd hx hb dL_law_2080 ?_
  refine va_sld hx hb hX hbl hbA Z.2.2 (show vp_in (nI i + 1) L by rw [show (1 : Int32) = nI 1 from rfl, nI_add]; exact vp_in_nI (by omega) (by omega)) dL_law_2081 ?_
  refine lv_aload_n hx hb dL_law_2082 rfl (lv_at hl 3 rfl) ?_
  refine z_callH C0 Z hl.1 (As := [.ref (gad G 0), .int (xs (nI i + 1).toNatClampNeg), .ref (gad G 19)]) (rest := []) (k_L_show l hst hg (ca_show h hB _)) (gv_L_show tm_4_167) ds_L_show ⟨Nat.le_of_ble_eq_true rfl, Nat.le_of_ble_eq_true rfl⟩ rfl rfl (Nat.le_of_ble_eq_true rfl) ⟨by show kc + 1 ≤ 601024; omega, by show ks + 6 ≤ 7293034; omega⟩ dL_law_2083 (fun k u H locs hw Z => ?_)
  refine lv_istore (lv' := [(6, .int k), (0, .ref b), (1, .ref (gad G 0)), (2, .ref (gad G 7)), (3, .ref (gad G 19)), (4, .ref (gad G 20)), (5, .int (nI i))]) hx hb dL_law_2086 hl (by decide) rfl (fun ls hl => ?_)
  rcases hw with ⟨hk, r, e19, hw⟩ | ⟨hk, hw⟩
  · subst hk
    refine lv_aload_n hx hb dL_law_2088 rfl (lv_at hl 3 rfl) ?_
    refine lv_aload_n hx hb dL_law_2089 rfl (lv_at hl 1 rfl) ?_
    refine lv_iload hx hb dL_law_2090 (lv_at hl 6 rfl) ?_
    refine lv_iconst (v := 1) hx hb dL_law_2092 (by decide) ?_
    refine lv_iadd hx hb dL_law_2093 ?_
    refine va_sld hx hb hX hbl hbA Z.2.2 (show vp_in (nI i + 1) L by rw [show (1 : Int32) = nI 1 from rfl, nI_add]; exact vp_in_nI (by omega) (by omega)) dL_law_2094 ?_
    refine z_callVi C0 Z hl.1 (As := [.int (xs (nI i + 1).toNatClampNeg)]) (rest := []) (k_X4_show l hg hw) (gv_X4_show tm_6_239) rfl ds_X4_show ⟨Nat.le_of_ble_eq_true rfl, Nat.le_of_ble_eq_true rfl⟩ (ci := 4) rfl (cx_lt C0 (by decide)) rfl rfl rfl (Nat.le_of_ble_eq_true rfl) ⟨by show kc + 1 ≤ 601024; omega, by show ks + 6 ≤ 7293034; omega⟩ dL_law_2095 (fun b2 u2 H locs hw Z => ?_)
    refine lv_istore (lv' := [(7, .int b2), (6, .int 0), (0, .ref b), (1, .ref (gad G 0)), (2, .ref (gad G 7)), (3, .ref (gad G 19)), (4, .ref (gad G 20)), (5, .int (nI i))]) hx hb dL_law_2098 hl (by decide) rfl (fun ls hl => ?_)
    obtain ⟨h11, hbr, hi, i19, i20⟩ := hw
    refine lv_aload_n hx hb dL_law_2100 rfl (lv_at hl 4 rfl) ?_
    refine z_callVi C0 Z hl.1 (As := []) (rest := []) (k_X4_thrown l hg (Q := fun t w => w = u2 ∧ t = u2 7 11) ⟨rfl, rfl⟩) (gv_X4_thrown tm_5_67) rfl ds_X4_thrown ⟨Nat.le_of_ble_eq_true rfl, Nat.le_of_ble_eq_true rfl⟩ (ci := 4) rfl (cx_lt C0 (by decide)) rfl rfl rfl (Nat.le_of_ble_eq_true rfl) ⟨by show kc + 1 ≤ 601024; omega, by show ks + 6 ≤ 7293034; omega⟩ dL_law_2101 (fun t u3 H locs hw Z => ?_)
    obtain ⟨e3, ht⟩ := hw
    rw [e3] at Z
    refine lv_iload hx hb dL_law_2104 (lv_at hl 1 rfl) ?_
    refine lv_icmp_eq (tgt := 2111) hx hb dL_law_2106 (by decide) (fun _ => ?_) (fun c => absurd (ht.trans h11) c)
    refine lv_iload hx hb dL_law_2111 (lv_at hl 1 rfl) ?_
    refine lv_if_ne (tgt := 2128) hx hb dL_law_2113 (by decide) (fun c => absurd rfl c) (fun _ => ?_)
    refine lv_aload_n hx hb dL_law_2116 rfl (lv_at hl 5 rfl) ?_
    refine lv_iconst (v := 0) hx hb dL_law_2117 (by decide) ?_
    refine z_lald C0 Z dL_law_2118 ?_
    refine lv_iload hx hb dL_law_2119 (lv_at hl 0 rfl) ?_
    refine lv_i2l (v := b2.toInt64) hx hb dL_law_2121 rfl ?_
    refine W.lcmp hx hb dL_law_2122 ?_
    refine lv_if_eq (tgt := 2128) hx hb dL_law_2123 (by decide) (fun _ => ?_) (fun c => absurd ((lg_cmp_eq _ _).mpr (by rw [i19, e19, hbr])) c)
    refine lv_goto (tgt := 2228) hx hb dL_law_2128 (by decide) ?_
    refine W.widen (k := kc + 60) (n := ks + 700) (by omega) (by omega) ?_
    exact kk _ _ _ _ hi Z (lv_sub hl [2, 3, 4, 5, 6, 7] rfl)
  · refine lv_aload_n hx hb dL_law_2088 rfl (lv_at hl 3 rfl) ?_
    refine lv_aload_n hx hb dL_law_2089 rfl (lv_at hl 1 rfl) ?_
    refine lv_iload hx hb dL_law_2090 (lv_at hl 6 rfl) ?_
    refine lv_iconst (v := 1) hx hb dL_law_2092 (by decide) ?_
    refine lv_iadd hx hb dL_law_2093 ?_
    refine va_sld hx hb hX hbl hbA Z.2.2 (show vp_in (nI i + 1) L by rw [show (1 : Int32) = nI 1 from rfl, nI_add]; exact vp_in_nI (by omega) (by omega)) dL_law_2094 ?_
    refine z_callVi C0 Z hl.1 (As := [.int (xs (nI i + 1).toNatClampNeg)]) (rest := []) (k_X4_show l hg hw) (gv_X4_show tm_6_239) rfl ds_X4_show ⟨Nat.le_of_ble_eq_true rfl, Nat.le_of_ble_eq_true rfl⟩ (ci := 4) rfl (cx_lt C0 (by decide)) rfl rfl rfl (Nat.le_of_ble_eq_true rfl) ⟨by show kc + 1 ≤ 601024; omega, by show ks + 6 ≤ 7293034; omega⟩ dL_law_2095 (fun b2 u2 H locs hw Z => ?_)
    refine lv_istore (lv' := [(7, .int b2), (6, .int k), (0, .ref b), (1, .ref (gad G 0)), (2, .ref (gad G 7)), (3, .ref (gad G 19)), (4, .ref (gad G 20)), (5, .int (nI i))]) hx hb dL_law_2098 hl (by decide) rfl (fun ls hl => ?_)
    obtain ⟨h11, hi, i19, i20⟩ := hw
    refine lv_aload_n hx hb dL_law_2100 rfl (lv_at hl 4 rfl) ?_
    refine z_callVi C0 Z hl.1 (As := []) (rest := []) (k_X4_thrown l hg (Q := fun t w => w = u2 ∧ t = u2 7 11) ⟨rfl, rfl⟩) (gv_X4_thrown tm_5_67) rfl ds_X4_thrown ⟨Nat.le_of_ble_eq_true rfl, Nat.le_of_ble_eq_true rfl⟩ (ci := 4) rfl (cx_lt C0 (by decide)) rfl rfl rfl (Nat.le_of_ble_eq_true rfl) ⟨by show kc + 1 ≤ 601024; omega, by show ks + 6 ≤ 7293034; omega⟩ dL_law_2101 (fun t u3 H locs hw Z => ?_)
    obtain ⟨e3, ht⟩ := hw
    rw [e3] at Z
    refine lv_iload hx hb dL_law_2104 (lv_at hl 1 rfl) ?_
    refine lv_icmp_eq (tgt := 2111) hx hb dL_law_2106 (by decide) (fun _ => ?_) (fun c => absurd (ht.trans h11) c)
    refine lv_iload hx hb dL_law_2111 (lv_at hl 1 rfl) ?_
    refine lv_if_ne (tgt := 2128) hx hb dL_law_2113 (by decide) (fun _ => ?_) (fun c => absurd c hk)
    refine lv_goto (tgt := 2228) hx hb dL_law_2128 (by decide) ?_
    refine W.widen (k := kc + 60) (n := ks + 700) (by omega) (by omega) ?_
    exact kk _ _ _ _ hi Z (lv_sub hl [2, 3, 4, 5, 6, 7] rfl)
set_option maxRecDepth 100000 in
set_option maxHeartbeats 4000000 in
theorem lc_shown {p : Program} (l : Launch) (hst : l.stackTraces = false) {e : Env} {s : State} {m : MethodId} {below : List Frame} {meth : Method} {c : Code} {G : zG} {b L : Nat} {xs : Nat → Int32} (C0 : Cx G RL cL_law 9 (some .boolean) p s m #[Value.ref b] meth c) {v : V3} {H : Heap} {locs : List Loc} (Z : Zs G s v H locs) (hX : va_X b L xs s s.heap) (hbl : b < s.heap.size) (hbA : ¬ zA G b) {i : Nat} (hiL : i + 5 ≤ L) (hL : L ≤ 2560) {g : Nat} {B : Int} (h : IV v g B) (hB : B + 99 ≤ 900000) {kc ks : Nat} (hkc : kc + 60 ≤ 601024) (hks : ks + 700 ≤ 7293034) {Q : State → Prop} {ls : Array Slot} (hl : lv_has ls 9 [(0, .ref b), (1, .ref (gad G 0)), (2, .ref (gad G 7)), (3, .ref (gad G 19)), (4, .ref (gad G 20)), (5, .int (nI i))]) (kk : ∀ (v' : V3) (H1 : Heap) (locs1 : List Loc) (ls1 : Array Slot), IV v' g (B + 99) → Zs G s v' H1 locs1 → lv_has ls1 9 [(0, .ref b), (1, .ref (gad G 0)), (2, .ref (gad G 7)), (3, .ref (gad G 19)), (4, .ref (gad G 20)), (5, .int (nI i))] → W p l e room_1 s m #[Value.ref b] below meth c H1 locs1 (kc + 60) (ks + 700) Q (F0 m 2228 ls1 [])) : W p l e room_1 s m #[Value.ref b] below meth c H locs kc ks Q (F0 m 2131 ls []) := by
  have hx := C0.1
  have hb := C0.2.1
  have hg := cx_g C0
  refine lv_aload_n hx hb dL_law_2131 rfl (lv_at hl 1 rfl) ?_
  refine lv_aload_n hx hb dL_law_2132 rfl (lv_at hl 0 rfl) ?_
  refine lv_iload hx hb dL_law_2133 (lv_at hl 5 rfl) ?_
  refine lv_iconst (v := 1) hx hb dL_law_2135 (by decide) ?_
  refine lv_iadd hx hb dL_law_2136 ?_
  refine va_sld hx hb hX hbl hbA Z.2.2 (show vp_in (nI i + 1) L by rw [show (1 : Int32) = nI 1 from rfl, nI_add]; exact vp_in_nI (by omega) (by omega)) dL_law_2137 ?_
  refine z_callVi C0 Z hl.1 (As := [.int (xs (nI i + 1).toNatClampNeg)]) (rest := []) (k_X3_shown l hg (ca_shown h hB _)) (gv_X3_shown tm_2_239) rfl ds_X3_shown ⟨Nat.le_of_ble_eq_true rfl, Nat.le_of_ble_eq_true rfl⟩ (ci := 3) rfl (cx_lt C0 (by decide)) rfl rfl rfl (Nat.le_of_ble_eq_true rfl) ⟨by show kc ≤ 601024; omega, by show ks ≤ 7293034; omega⟩ dL_law_2138 (fun r u H locs hw Z => ?_)
  refine lv_aload_n hx hb dL_law_2141 rfl (lv_at hl 2 rfl) ?_
  refine lv_aload_n hx hb dL_law_2142 rfl (lv_at hl 0 rfl) ?_
  refine lv_iload hx hb dL_law_2143 (lv_at hl 5 rfl) ?_
  refine lv_iconst (v := 1) hx hb dL_law_2145 (by decide) ?_
  refine lv_iadd hx hb dL_law_2146 ?_
  refine va_sld hx hb hX hbl hbA Z.2.2 (show vp_in (nI i + 1) L by rw [show (1 : Int32) = nI 1 from rfl, nI_add]; exact vp_in_nI (by omega) (by omega)) dL_law_2147 ?_
  refine z_callVi C0 Z hl.1 (As := [.int (xs (nI i + 1).toNatClampNeg)]) (rest := [.int r]) (k_X4_shown l hg (hw u (fun _ _ _ => rfl))) (gv_X4_shown tm_7_3) rfl ds_X4_shown ⟨Nat.le_of_ble_eq_true rfl, Nat.le_of_ble_eq_true rfl⟩ (ci := 4) rfl (cx_lt C0 (by decide)) rfl rfl rfl (Nat.le_of_ble_eq_true rfl) ⟨by show kc ≤ 601024; omega, by show ks ≤ 7293034; omega⟩ dL_law_2148 (fun b2 u2 H locs hw Z => ?_)
  obtain ⟨h11, hbr, hi, i19, i20⟩ := hw
  refine lv_icmp_eq (tgt := 2228) hx hb dL_law_2151 (by decide) (fun _ => ?_) (fun c => absurd hbr.symm c)
  refine W.widen (k := kc + 60) (n := ks + 700) (by omega) (by omega) ?_
  exact kk _ _ _ _ hi Z (lv_sub hl [0, 1, 2, 3, 4, 5] rfl)
