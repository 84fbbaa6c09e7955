/-! THE LAW'S CASES, 1 -/
set_option maxRecDepth 100000 in
set_option maxHeartbeats 4000000 in
theorem lc_appendText {p : Program} (l : Launch) (hst : l.stackTraces = false) {e : Env} {s : State} {m : MethodId} {below : List Frame} {meth : Method} {c : Code} {G : zG} {b L : Nat} {xs : Nat → Int32} (C0 : Cx G RL cL_law 9 (some .boolean) p s m #[Value.ref b] meth c) {v : V3} {H : Heap} {locs : List Loc} (Z : Zs G s v H locs) (hX : va_X b L xs s s.heap) (hbl : b < s.heap.size) (hbA : ¬ zA G b) {i : Nat} (hiL : i + 5 ≤ L) (hL : L ≤ 2560) {g : Nat} {B : Int} (h : IV v g B) (hB : B + 99 ≤ 900000) {kc ks : Nat} (hkc : kc + 60 ≤ 601024) (hks : ks + 700 ≤ 7293034) {Q : State → Prop} {ls : Array Slot} (hl : lv_has ls 9 [(0, .ref b), (1, .ref (gad G 0)), (2, .ref (gad G 7)), (3, .ref (gad G 19)), (4, .ref (gad G 20)), (5, .int (nI i))]) (kk : ∀ (v' : V3) (H1 : Heap) (locs1 : List Loc) (ls1 : Array Slot), IV v' g (B + 99) → Zs G s v' H1 locs1 → lv_has ls1 9 [(0, .ref b), (1, .ref (gad G 0)), (2, .ref (gad G 7)), (3, .ref (gad G 19)), (4, .ref (gad G 20)), (5, .int (nI i))] → W p l e room_1 s m #[Value.ref b] below meth c H1 locs1 (kc + 60) (ks + 700) Q (F0 m 2228 ls1 [])) : W p l e room_1 s m #[Value.ref b] below meth c H locs kc ks Q (F0 m 208 ls []) := by
  have hx := C0.1
  have hb := C0.2.1
  have hg := cx_g C0
  refine lv_aload_n hx hb dL_law_208 rfl (lv_at hl 1 rfl) ?_
  refine lv_aload_n hx hb dL_law_209 rfl (lv_at hl 0 rfl) ?_
  refine lv_iload hx hb dL_law_210 (lv_at hl 5 rfl) ?_
  refine lv_iconst (v := 1) hx hb dL_law_212 (by decide) ?_
  refine lv_iadd hx hb dL_law_213 ?_
  refine va_sld hx hb hX hbl hbA Z.2.2 (show vp_in (nI i + 1) L by rw [show (1 : Int32) = nI 1 from rfl, nI_add]; exact vp_in_nI (by omega) (by omega)) dL_law_214 ?_
  refine lv_aload_n hx hb dL_law_215 rfl (lv_at hl 3 rfl) ?_
  refine z_callH C0 Z hl.1 (As := [.ref (gad G 0), .int (xs (nI i + 1).toNatClampNeg), .ref (gad G 19)]) (rest := []) (k_L_appendText l hst hg (ca_appendText h hB _)) (gv_L_appendText tm_3_3) ds_L_appendText ⟨Nat.le_of_ble_eq_true rfl, Nat.le_of_ble_eq_true rfl⟩ rfl rfl (Nat.le_of_ble_eq_true rfl) ⟨by show kc + 1 ≤ 601024; omega, by show ks + 6 ≤ 7293034; omega⟩ dL_law_216 (fun k u H locs hw Z => ?_)
  refine lv_istore (lv' := [(6, .int k), (0, .ref b), (1, .ref (gad G 0)), (2, .ref (gad G 7)), (3, .ref (gad G 19)), (4, .ref (gad G 20)), (5, .int (nI i))]) hx hb dL_law_219 hl (by decide) rfl (fun ls hl => ?_)
  rcases hw with ⟨hk, r, e19, hw⟩ | ⟨hk, hw⟩
  · subst hk
    refine lv_aload_n hx hb dL_law_221 rfl (lv_at hl 3 rfl) ?_
    refine lv_aload_n hx hb dL_law_222 rfl (lv_at hl 1 rfl) ?_
    refine lv_iload hx hb dL_law_223 (lv_at hl 6 rfl) ?_
    refine lv_iconst (v := 1) hx hb dL_law_225 (by decide) ?_
    refine lv_iadd hx hb dL_law_226 ?_
    refine va_sld hx hb hX hbl hbA Z.2.2 (show vp_in (nI i + 1) L by rw [show (1 : Int32) = nI 1 from rfl, nI_add]; exact vp_in_nI (by omega) (by omega)) dL_law_227 ?_
    refine z_callVi C0 Z hl.1 (As := [.int (xs (nI i + 1).toNatClampNeg)]) (rest := []) (k_X4_appendText l hg hw) (gv_X4_appendText tm_5_71) rfl ds_X4_appendText ⟨Nat.le_of_ble_eq_true rfl, Nat.le_of_ble_eq_true rfl⟩ (ci := 4) rfl (cx_lt C0 (by decide)) rfl rfl rfl (Nat.le_of_ble_eq_true rfl) ⟨by show kc + 1 ≤ 601024; omega, by show ks + 6 ≤ 7293034; omega⟩ dL_law_228 (fun b2 u2 H locs hw Z => ?_)
    refine lv_istore (lv' := [(7, .int b2), (6, .int 0), (0, .ref b), (1, .ref (gad G 0)), (2, .ref (gad G 7)), (3, .ref (gad G 19)), (4, .ref (gad G 20)), (5, .int (nI i))]) hx hb dL_law_231 hl (by decide) rfl (fun ls hl => ?_)
    obtain ⟨h11, hbr, hi, i19, i20⟩ := hw
    refine lv_aload_n hx hb dL_law_233 rfl (lv_at hl 4 rfl) ?_
    refine z_callVi C0 Z hl.1 (As := []) (rest := []) (k_X4_thrown l hg (Q := fun t w => w = u2 ∧ t = u2 7 11) ⟨rfl, rfl⟩) (gv_X4_thrown tm_5_67) rfl ds_X4_thrown ⟨Nat.le_of_ble_eq_true rfl, Nat.le_of_ble_eq_true rfl⟩ (ci := 4) rfl (cx_lt C0 (by decide)) rfl rfl rfl (Nat.le_of_ble_eq_true rfl) ⟨by show kc + 1 ≤ 601024; omega, by show ks + 6 ≤ 7293034; omega⟩ dL_law_234 (fun t u3 H locs hw Z => ?_)
    obtain ⟨e3, ht⟩ := hw
    rw [e3] at Z
    refine lv_iload hx hb dL_law_237 (lv_at hl 1 rfl) ?_
    refine lv_icmp_eq (tgt := 244) hx hb dL_law_239 (by decide) (fun _ => ?_) (fun c => absurd (ht.trans h11) c)
    refine lv_iload hx hb dL_law_244 (lv_at hl 1 rfl) ?_
    refine lv_if_ne (tgt := 261) hx hb dL_law_246 (by decide) (fun c => absurd rfl c) (fun _ => ?_)
    refine lv_aload_n hx hb dL_law_249 rfl (lv_at hl 5 rfl) ?_
    refine lv_iconst (v := 0) hx hb dL_law_250 (by decide) ?_
    refine z_lald C0 Z dL_law_251 ?_
    refine lv_iload hx hb dL_law_252 (lv_at hl 0 rfl) ?_
    refine lv_i2l (v := b2.toInt64) hx hb dL_law_254 rfl ?_
    refine W.lcmp hx hb dL_law_255 ?_
    refine lv_if_eq (tgt := 261) hx hb dL_law_256 (by decide) (fun _ => ?_) (fun c => absurd ((lg_cmp_eq _ _).mpr (by rw [i19, e19, hbr])) c)
    refine lv_goto (tgt := 2228) hx hb dL_law_261 (by decide) ?_
    refine W.widen (k := kc + 60) (n := ks + 700) (by omega) (by omega) ?_
    exact kk _ _ _ _ hi Z (lv_sub hl [2, 3, 4, 5, 6, 7] rfl)
  · refine lv_aload_n hx hb dL_law_221 rfl (lv_at hl 3 rfl) ?_
    refine lv_aload_n hx hb dL_law_222 rfl (lv_at hl 1 rfl) ?_
    refine lv_iload hx hb dL_law_223 (lv_at hl 6 rfl) ?_
    refine lv_iconst (v := 1) hx hb dL_law_225 (by decide) ?_
    refine lv_iadd hx hb dL_law_226 ?_
    refine va_sld hx hb hX hbl hbA Z.2.2 (show vp_in (nI i + 1) L by rw [show (1 : Int32) = nI 1 from rfl, nI_add]; exact vp_in_nI (by omega) (by omega)) dL_law_227 ?_
    refine z_callVi C0 Z hl.1 (As := [.int (xs (nI i + 1).toNatClampNeg)]) (rest := []) (k_X4_appendText l hg hw) (gv_X4_appendText tm_5_71) rfl ds_X4_appendText ⟨Nat.le_of_ble_eq_true rfl, Nat.le_of_ble_eq_true rfl⟩ (ci := 4) rfl (cx_lt C0 (by decide)) rfl rfl rfl (Nat.le_of_ble_eq_true rfl) ⟨by show kc + 1 ≤ 601024; omega, by show ks + 6 ≤ 7293034; omega⟩ dL_law_228 (fun b2 u2 H locs hw Z => ?_)
    refine lv_istore (lv' := [(7, .int b2), (6, .int k), (0, .ref b), (1, .ref (gad G 0)), (2, .ref (gad G 7)), (3, .ref (gad G 19)), (4, .ref (gad G 20)), (5, .int (nI i))]) hx hb dL_law_231 hl (by decide) rfl (fun ls hl => ?_)
    obtain ⟨h11, hi, i19, i20⟩ := hw
    refine lv_aload_n hx hb dL_law_233 rfl (lv_at hl 4 rfl) ?_
    refine z_callVi C0 Z hl.1 (As := []) (rest := []) (k_X4_thrown l hg (Q := fun t w => w = u2 ∧ t = u2 7 11) ⟨rfl, rfl⟩) (gv_X4_thrown tm_5_67) rfl ds_X4_thrown ⟨Nat.le_of_ble_eq_true rfl, Nat.le_of_ble_eq_true rfl⟩ (ci := 4) rfl (cx_lt C0 (by decide)) rfl rfl rfl (Nat.le_of_ble_eq_true rfl) ⟨by show kc + 1 ≤ 601024; omega, by show ks + 6 ≤ 7293034; omega⟩ dL_law_234 (fun t u3 H locs hw Z => ?_)
    obtain ⟨e3, ht⟩ := hw
    rw [e3] at Z
    refine lv_iload hx hb dL_law_237 (lv_at hl 1 rfl) ?_
    refine lv_icmp_eq (tgt := 244) hx hb dL_law_239 (by decide) (fun _ => ?_) (fun c => absurd (ht.trans h11) c)
    refine lv_iload hx hb dL_law_244 (lv_at hl 1 rfl) ?_
    refine lv_if_ne (tgt := 261) hx hb dL_law_246 (by decide) (fun _ => ?_) (fun c => absurd c hk)
    refine lv_goto (tgt := 2228) hx hb dL_law_261 (by decide) ?_
    refine W.widen (k := kc + 60) (n := ks + 700) (by omega) (by omega) ?_
    exact kk _ _ _ _ hi Z (lv_sub hl [2, 3, 4, 5, 6, 7] rfl)
set_option maxRecDepth 100000 in
set_option maxHeartbeats 4000000 in
theorem lc_truncateText {p : Program} (l : Launch) (hst : l.stackTraces = false) {e : Env} {s : State} {m : MethodId} {below : List Frame} {meth : Method} {c : Code} {G : zG} {b L : Nat} {xs : Nat → Int32} (C0 : Cx G RL cL_law 9 (some .boolean) p s m #[Value.ref b] meth c) {v : V3} {H : Heap} {locs : List Loc} (Z : Zs G s v H locs) (hX : va_X b L xs s s.heap) (hbl : b < s.heap.size) (hbA : ¬ zA G b) {i : Nat} (hiL : i + 5 ≤ L) (hL : L ≤ 2560) {g : Nat} {B : Int} (h : IV v g B) (hB : B + 99 ≤ 900000) {kc ks : Nat} (hkc : kc + 60 ≤ 601024) (hks : ks + 700 ≤ 7293034) {Q : State → Prop} {ls : Array Slot} (hl : lv_has ls 9 [(0, .ref b), (1, .ref (gad G 0)), (2, .ref (gad G 7)), (3, .ref (gad G 19)), (4, .ref (gad G 20)), (5, .int (nI i))]) (kk : ∀ (v' : V3) (H1 : Heap) (locs1 : List Loc) (ls1 : Array Slot), IV v' g (B + 99) → Zs G s v' H1 locs1 → lv_has ls1 9 [(0, .ref b), (1, .ref (gad G 0)), (2, .ref (gad G 7)), (3, .ref (gad G 19)), (4, .ref (gad G 20)), (5, .int (nI i))] → W p l e room_1 s m #[Value.ref b] below meth c H1 locs1 (kc + 60) (ks + 700) Q (F0 m 2228 ls1 [])) : W p l e room_1 s m #[Value.ref b] below meth c H locs kc ks Q (F0 m 264 ls []) := by
  have hx := C0.1
  have hb := C0.2.1
  have hg := cx_g C0
  refine lv_aload_n hx hb dL_law_264 rfl (lv_at hl 1 rfl) ?_
  refine lv_aload_n hx hb dL_law_265 rfl (lv_at hl 0 rfl) ?_
  refine lv_iload hx hb dL_law_266 (lv_at hl 5 rfl) ?_
  refine lv_iconst (v := 1) hx hb dL_law_268 (by decide) ?_
  refine lv_iadd hx hb dL_law_269 ?_
  refine va_sld hx hb hX hbl hbA Z.2.2 (show vp_in (nI i + 1) L by rw [show (1 : Int32) = nI 1 from rfl, nI_add]; exact vp_in_nI (by omega) (by omega)) dL_law_270 ?_
  refine lv_aload_n hx hb dL_law_271 rfl (lv_at hl 3 rfl) ?_
  refine z_callH C0 Z hl.1 (As := [.ref (gad G 0), .int (xs (nI i + 1).toNatClampNeg), .ref (gad G 19)]) (rest := []) (k_L_truncateText l hst hg (ca_truncateText h hB _)) (gv_L_truncateText tm_3_78) ds_L_truncateText ⟨Nat.le_of_ble_eq_true rfl, Nat.le_of_ble_eq_true rfl⟩ rfl rfl (Nat.le_of_ble_eq_true rfl) ⟨by show kc + 1 ≤ 601024; omega, by show ks + 6 ≤ 7293034; omega⟩ dL_law_272 (fun k u H locs hw Z => ?_)
  refine lv_istore (lv' := [(6, .int k), (0, .ref b), (1, .ref (gad G 0)), (2, .ref (gad G 7)), (3, .ref (gad G 19)), (4, .ref (gad G 20)), (5, .int (nI i))]) hx hb dL_law_275 hl (by decide) rfl (fun ls hl => ?_)
  rcases hw with ⟨hk, r, e19, hw⟩ | ⟨hk, hw⟩
  · subst hk
    refine lv_aload_n hx hb dL_law_277 rfl (lv_at hl 3 rfl) ?_
    refine lv_aload_n hx hb dL_law_278 rfl (lv_at hl 1 rfl) ?_
    refine lv_iload hx hb dL_law_279 (lv_at hl 6 rfl) ?_
    refine lv_iconst (v := 1) hx hb dL_law_281 (by decide) ?_
    refine lv_iadd hx hb dL_law_282 ?_
    refine va_sld hx hb hX hbl hbA Z.2.2 (show vp_in (nI i + 1) L by rw [show (1 : Int32) = nI 1 from rfl, nI_add]; exact vp_in_nI (by omega) (by omega)) dL_law_283 ?_
    refine z_callVi C0 Z hl.1 (As := [.int (xs (nI i + 1).toNatClampNeg)]) (rest := []) (k_X4_truncateText l hg hw) (gv_X4_truncateText tm_5_79) rfl ds_X4_truncateText ⟨Nat.le_of_ble_eq_true rfl, Nat.le_of_ble_eq_true rfl⟩ (ci := 4) rfl (cx_lt C0 (by decide)) rfl rfl rfl (Nat.le_of_ble_eq_true rfl) ⟨by show kc + 1 ≤ 601024; omega, by show ks + 6 ≤ 7293034; omega⟩ dL_law_284 (fun b2 u2 H locs hw Z => ?_)
    refine lv_istore (lv' := [(7, .int b2), (6, .int 0), (0, .ref b), (1, .ref (gad G 0)), (2, .ref (gad G 7)), (3, .ref (gad G 19)), (4, .ref (gad G 20)), (5, .int (nI i))]) hx hb dL_law_287 hl (by decide) rfl (fun ls hl => ?_)
    obtain ⟨h11, hbr, hi, i19, i20⟩ := hw
    refine lv_aload_n hx hb dL_law_289 rfl (lv_at hl 4 rfl) ?_
    refine z_callVi C0 Z hl.1 (As := []) (rest := []) (k_X4_thrown l hg (Q := fun t w => w = u2 ∧ t = u2 7 11) ⟨rfl, rfl⟩) (gv_X4_thrown tm_5_67) rfl ds_X4_thrown ⟨Nat.le_of_ble_eq_true rfl, Nat.le_of_ble_eq_true rfl⟩ (ci := 4) rfl (cx_lt C0 (by decide)) rfl rfl rfl (Nat.le_of_ble_eq_true rfl) ⟨by show kc + 1 ≤ 601024; omega, by show ks + 6 ≤ 7293034; omega⟩ dL_law_290 (fun t u3 H locs hw Z => ?_)
    obtain ⟨e3, ht⟩ := hw
    rw [e3] at Z
    refine lv_iload hx hb dL_law_293 (lv_at hl 1 rfl) ?_
    refine lv_icmp_eq (tgt := 300) hx hb dL_law_295 (by decide) (fun _ => ?_) (fun c => absurd (ht.trans h11) c)
    refine lv_iload hx hb dL_law_300 (lv_at hl 1 rfl) ?_
    refine lv_if_ne (tgt := 317) hx hb dL_law_302 (by decide) (fun c => absurd rfl c) (fun _ => ?_)
    refine lv_aload_n hx hb dL_law_305 rfl (lv_at hl 5 rfl) ?_
    refine lv_iconst (v := 0) hx hb dL_law_306 (by decide) ?_
    refine z_lald C0 Z dL_law_307 ?_
    refine lv_iload hx hb dL_law_308 (lv_at hl 0 rfl) ?_
    refine lv_i2l (v := b2.toInt64) hx hb dL_law_310 rfl ?_
    refine W.lcmp hx hb dL_law_311 ?_
    refine lv_if_eq (tgt := 317) hx hb dL_law_312 (by decide) (fun _ => ?_) (fun c => absurd ((lg_cmp_eq _ _).mpr (by rw [i19, e19, hbr])) c)
    refine lv_goto (tgt := 2228) hx hb dL_law_317 (by decide) ?_
    refine W.widen (k := kc + 60) (n := ks + 700) (by omega) (by omega) ?_
    exact kk _ _ _ _ hi Z (lv_sub hl [2, 3, 4, 5, 6, 7] rfl)
  · refine lv_aload_n hx hb dL_law_277 rfl (lv_at hl 3 rfl) ?_
    refine lv_aload_n hx hb dL_law_278 rfl (lv_at hl 1 rfl) ?_
    refine lv_iload hx hb dL_law_279 (lv_at hl 6 rfl) ?_
    refine lv_iconst (v := 1) hx hb dL_law_281 (by decide) ?_
    refine lv_iadd hx hb dL_law_282 ?_
    refine va_sld hx hb hX hbl hbA Z.2.2 (show vp_in (nI i + 1) L by rw [show (1 : Int32) = nI 1 from rfl, nI_add]; exact vp_in_nI (by omega) (by omega)) dL_law_283 ?_
    refine z_callVi C0 Z hl.1 (As := [.int (xs (nI i + 1).toNatClampNeg)]) (rest := []) (k_X4_truncateText l hg hw) (gv_X4_truncateText tm_5_79) rfl ds_X4_truncateText ⟨Nat.le_of_ble_eq_true rfl, Nat.le_of_ble_eq_true rfl⟩ (ci := 4) rfl (cx_lt C0 (by decide)) rfl rfl rfl (Nat.le_of_ble_eq_true rfl) ⟨by show kc + 1 ≤ 601024; omega, by show ks + 6 ≤ 7293034; omega⟩ dL_law_284 (fun b2 u2 H locs hw Z => ?_)
    refine lv_istore (lv' := [(7, .int b2), (6, .int k), (0, .ref b), (1, .ref (gad G 0)), (2, .ref (gad G 7)), (3, .ref (gad G 19)), (4, .ref (gad G 20)), (5, .int (nI i))]) hx hb dL_law_287 hl (by decide) rfl (fun ls hl => ?_)
    obtain ⟨h11, hi, i19, i20⟩ := hw
    refine lv_aload_n hx hb dL_law_289 rfl (lv_at hl 4 rfl) ?_
    refine z_callVi C0 Z hl.1 (As := []) (rest := []) (k_X4_thrown l hg (Q := fun t w => w = u2 ∧ t = u2 7 11) ⟨rfl, rfl⟩) (gv_X4_thrown tm_5_67) rfl ds_X4_thrown ⟨Nat.le_of_ble_eq_true rfl, Nat.le_of_ble_eq_true rfl⟩ (ci := 4) rfl (cx_lt C0 (by decide)) rfl rfl rfl (Nat.le_of_ble_eq_true rfl) ⟨by show kc + 1 ≤ 601024; omega, by show ks + 6 ≤ 7293034; omega⟩ dL_law_290 (fun t u3 H locs hw Z => ?_)
    obtain ⟨e3, ht⟩ := hw
    rw [e3] at Z
    refine lv_iload hx hb dL_law_293 (lv_at hl 1 rfl) ?_
    refine lv_icmp_eq (tgt := 300) hx hb dL_law_295 (by decide) (fun _ => ?_) (fun c => absurd (ht.trans h11) c)
    refine lv_iload hx hb dL_law_300 (lv_at hl 1 rfl) ?_
    refine lv_if_ne (tgt := 317) hx hb dL_law_302 (by decide) (fun _ => ?_) (fun c => absurd c hk)
    refine lv_goto (tgt := 2228) hx hb dL_law_317 (by decide) ?_
    refine W.widen (k := kc + 60) (n := ks + 700) (by omega) (by omega) ?_
    exact kk _ _ _ _ hi Z (lv_sub hl [2, 3, 4, 5, 6, 7] rfl)
set_option maxRecDepth 100000 in
set_option maxHeartbeats 4000000 in
theorem lc_errorCode {p : Program} (l : Launch) (hst : l.stackTraces = false) {e : Env} {s : State} {m : MethodId} {below : List Frame} {meth : Method} {c : Code} {G : zG} {b L : Nat} {xs : Nat → Int32} (C0 : Cx G RL cL_law 9 (some .boolean) p s m #[Value.ref b] meth c) {v : V3} {H : Heap} {locs : List Loc} (Z : Zs G s v H locs) (hX : va_X b L xs s s.heap) (hbl : b < s.heap.size) (hbA : ¬ zA G b) {i : Nat} (hiL : i + 5 ≤ L) (hL : L ≤ 2560) {g : Nat} {B : Int} (h : IV v g B) (hB : B + 99 ≤ 900000) {kc ks : Nat} (hkc : kc + 60 ≤ 601024) (hks : ks + 700 ≤ 7293034) {Q : State → Prop} {ls : Array Slot} (hl : lv_has ls 9 [(0, .ref b), (1, .ref (gad G 0)), (2, .ref (gad G 7)), (3, .ref (gad G 19)), (4, .ref (gad G 20)), (5, .int (nI i))]) (kk : ∀ (v' : V3) (H1 : Heap) (locs1 : List Loc) (ls1 : Array Slot), IV v' g (B + 99) → Zs G s v' H1 locs1 → lv_has ls1 9 [(0, .ref b), (1, .ref (gad G 0)), (2, .ref (gad G 7)), (3, .ref (gad G 19)), (4, .ref (gad G 20)), (5, .int (nI i))] → W p l e room_1 s m #[Value.ref b] below meth c H1 locs1 (kc + 60) (ks + 700) Q (F0 m 2228 ls1 [])) : W p l e room_1 s m #[Value.ref b] below meth c H locs kc ks Q (F0 m 333 ls []) := by
  have hx := C0.1
  have hb := C0.2.1
  have hg := cx_g C0
  refine lv_aload_n hx hb dL_law_333 rfl (lv_at hl 1 rfl) ?_
  refine z_callVi C0 Z hl.1 (As := []) (rest := []) (k_X3_errorCode l hg (ca_errorCode h hB)) (gv_X3_errorCode tm_2_145) rfl ds_X3_errorCode ⟨Nat.le_of_ble_eq_true rfl, Nat.le_of_ble_eq_true rfl⟩ (ci := 3) rfl (cx_lt C0 (by decide)) rfl rfl rfl (Nat.le_of_ble_eq_true rfl) ⟨by show kc ≤ 601024; omega, by show ks ≤ 7293034; omega⟩ dL_law_334 (fun r u H locs hw Z => ?_)
  refine lv_aload_n hx hb dL_law_337 rfl (lv_at hl 2 rfl) ?_
  refine z_callVi C0 Z hl.1 (As := []) (rest := [.int r]) (k_X4_errorCode l hg (hw u (fun _ _ _ => rfl))) (gv_X4_errorCode tm_5_215) rfl ds_X4_errorCode ⟨Nat.le_of_ble_eq_true rfl, Nat.le_of_ble_eq_true rfl⟩ (ci := 4) rfl (cx_lt C0 (by decide)) rfl rfl rfl (Nat.le_of_ble_eq_true rfl) ⟨by show kc ≤ 601024; omega, by show ks ≤ 7293034; omega⟩ dL_law_338 (fun b2 u2 H locs hw Z => ?_)
  obtain ⟨h11, hbr, hi, i19, i20⟩ := hw
  refine lv_icmp_eq (tgt := 2228) hx hb dL_law_341 (by decide) (fun _ => ?_) (fun c => absurd hbr.symm c)
  refine W.widen (k := kc + 60) (n := ks + 700) (by omega) (by omega) ?_
  exact kk _ _ _ _ hi Z (lv_sub hl [0, 1, 2, 3, 4, 5] rfl)
set_option maxRecDepth 100000 in
set_option maxHeartbeats 4000000 in
theorem lc_errorPosition {p : Program} (l : Launch) (hst : l.stackTraces = false) {e : Env} {s : State} {m : MethodId} {below : List Frame} {meth : Method} {c : Code} {G : zG} {b L : Nat} {xs : Nat → Int32} (C0 : Cx G RL cL_law 9 (some .boolean) p s m #[Value.ref b] meth c) {v : V3} {H : Heap} {locs : List Loc} (Z : Zs G s v H locs) (hX : va_X b L xs s s.heap) (hbl : b < s.heap.size) (hbA : ¬ zA G b) {i : Nat} (hiL : i + 5 ≤ L) (hL : L ≤ 2560) {g : Nat} {B : Int} (h : IV v g B) (hB : B + 99 ≤ 900000) {kc ks : Nat} (hkc : kc + 60 ≤ 601024) (hks : ks + 700 ≤ 7293034) {Q : State → Prop} {ls : Array Slot} (hl : lv_has ls 9 [(0, .ref b), (1, .ref (gad G 0)), (2, .ref (gad G 7)), (3, .ref (gad G 19)), (4, .ref (gad G 20)), (5, .int (nI i))]) (kk : ∀ (v' : V3) (H1 : Heap) (locs1 : List Loc) (ls1 : Array Slot), IV v' g (B + 99) → Zs G s v' H1 locs1 → lv_has ls1 9 [(0, .ref b), (1, .ref (gad G 0)), (2, .ref (gad G 7)), (3, .ref (gad G 19)), (4, .ref (gad G 20)), (5, .int (nI i))] → W p l e room_1 s m #[Value.ref b] below meth c H1 locs1 (kc + 60) (ks + 700) Q (F0 m 2228 ls1 [])) : W p l e room_1 s m #[Value.ref b] below meth c H locs kc ks Q (F0 m 346 ls []) := by
  have hx := C0.1
  have hb := C0.2.1
  have hg := cx_g C0
  refine lv_aload_n hx hb dL_law_346 rfl (lv_at hl 1 rfl) ?_
  refine z_callVi C0 Z hl.1 (As := []) (rest := []) (k_X3_errorPosition l hg (ca_errorPosition h hB)) (gv_X3_errorPosition tm_2_149) rfl ds_X3_errorPosition ⟨Nat.le_of_ble_eq_true rfl, Nat.le_of_ble_eq_true rfl⟩ (ci := 3) rfl (cx_lt C0 (by decide)) rfl rfl rfl (Nat.le_of_ble_eq_true rfl) ⟨by show kc ≤ 601024; omega, by show ks ≤ 7293034; omega⟩ dL_law_347 (fun r u H locs hw Z => ?_)
  refine lv_aload_n hx hb dL_law_350 rfl (lv_at hl 2 rfl) ?_
  refine z_callVi C0 Z hl.1 (As := []) (rest := [.int r]) (k_X4_errorPosition l hg (hw u (fun _ _ _ => rfl))) (gv_X4_errorPosition tm_5_219) rfl ds_X4_errorPosition ⟨Nat.le_of_ble_eq_true rfl, Nat.le_of_ble_eq_true rfl⟩ (ci := 4) rfl (cx_lt C0 (by decide)) rfl rfl rfl (Nat.le_of_ble_eq_true rfl) ⟨by show kc ≤ 601024; omega, by show ks ≤ 7293034; omega⟩ dL_law_351 (fun b2 u2 H locs hw Z => ?_)
  obtain ⟨h11, hbr, hi, i19, i20⟩ := hw
  refine lv_icmp_eq (tgt := 2228) hx hb dL_law_354 (by decide) (fun _ => ?_) (fun c => absurd hbr.symm c)
  refine W.widen (k := kc + 60) (n := ks + 700) (by omega) (by omega) ?_
  exact kk _ _ _ _ hi Z (lv_sub hl [0, 1, 2, 3, 4, 5] rfl)
set_option maxRecDepth 100000 in
set_option maxHeartbeats 4000000 in
theorem lc_addOwner {p : Program} (l : Launch) (hst : l.stackTraces = false) {e : Env} {s : State} {m : MethodId} {below : List Frame} {meth : Method} {c : Code} {G : zG} {b L : Nat} {xs : Nat → Int32} (C0 : Cx G RL cL_law 9 (some .boolean) p s m #[Value.ref b] meth c) {v : V3} {H : Heap} {locs : List Loc} (Z : Zs G s v H locs) (hX : va_X b L xs s s.heap) (hbl : b < s.heap.size) (hbA : ¬ zA G b) {i : Nat} (hiL : i + 5 ≤ L) (hL : L ≤ 2560) {g : Nat} {B : Int} (h : IV v g B) (hB : B + 99 ≤ 900000) {kc ks : Nat} (hkc : kc + 60 ≤ 601024) (hks : ks + 700 ≤ 7293034) {Q : State → Prop} {ls : Array Slot} (hl : lv_has ls 9 [(0, .ref b), (1, .ref (gad G 0)), (2, .ref (gad G 7)), (3, .ref (gad G 19)), (4, .ref (gad G 20)), (5, .int (nI i))]) (kk : ∀ (v' : V3) (H1 : Heap) (locs1 : List Loc) (ls1 : Array Slot), IV v' g (B + 99) → Zs G s v' H1 locs1 → lv_has ls1 9 [(0, .ref b), (1, .ref (gad G 0)), (2, .ref (gad G 7)), (3, .ref (gad G 19)), (4, .ref (gad G 20)), (5, .int (nI i))] → W p l e room_1 s m #[Value.ref b] below meth c H1 locs1 (kc + 60) (ks + 700) Q (F0 m 2228 ls1 [])) : W p l e room_1 s m #[Value.ref b] below meth c H locs kc ks Q (F0 m 359 ls []) := by
  have hx := C0.1
  have hb := C0.2.1
  have hg := cx_g C0
  refine lv_aload_n hx hb dL_law_359 rfl (lv_at hl 1 rfl) ?_
  refine lv_aload_n hx hb dL_law_360 rfl (lv_at hl 0 rfl) ?_
  refine lv_iload hx hb dL_law_361 (lv_at hl 5 rfl) ?_
  refine lv_iconst (v := 1) hx hb dL_law_363 (by decide) ?_
  refine lv_iadd hx hb dL_law_364 ?_
  refine va_sld hx hb hX hbl hbA Z.2.2 (show vp_in (nI i + 1) L by rw [show (1 : Int32) = nI 1 from rfl, nI_add]; exact vp_in_nI (by omega) (by omega)) dL_law_365 ?_
  refine lv_aload_n hx hb dL_law_366 rfl (lv_at hl 3 rfl) ?_
  refine z_callH C0 Z hl.1 (As := [.ref (gad G 0), .int (xs (nI i + 1).toNatClampNeg), .ref (gad G 19)]) (rest := []) (k_L_addOwner l hst hg (ca_addOwner h hB _)) (gv_L_addOwner tm_3_105) ds_L_addOwner ⟨Nat.le_of_ble_eq_true rfl, Nat.le_of_ble_eq_true rfl⟩ rfl rfl (Nat.le_of_ble_eq_true rfl) ⟨by show kc + 2 ≤ 601024; omega, by show ks + 12 ≤ 7293034; omega⟩ dL_law_367 (fun k u H locs hw Z => ?_)
  refine lv_istore (lv' := [(6, .int k), (0, .ref b), (1, .ref (gad G 0)), (2, .ref (gad G 7)), (3, .ref (gad G 19)), (4, .ref (gad G 20)), (5, .int (nI i))]) hx hb dL_law_370 hl (by decide) rfl (fun ls hl => ?_)
  rcases hw with ⟨hk, r, e19, hw⟩ | ⟨hk, hw⟩
  · subst hk
    refine lv_aload_n hx hb dL_law_372 rfl (lv_at hl 3 rfl) ?_
    refine lv_aload_n hx hb dL_law_373 rfl (lv_at hl 1 rfl) ?_
    refine lv_iload hx hb dL_law_374 (lv_at hl 6 rfl) ?_
    refine lv_iconst (v := 1) hx hb dL_law_376 (by decide) ?_
    refine lv_iadd hx hb dL_law_377 ?_
    refine va_sld hx hb hX hbl hbA Z.2.2 (show vp_in (nI i + 1) L by rw [show (1 : Int32) = nI 1 from rfl, nI_add]; exact vp_in_nI (by omega) (by omega)) dL_law_378 ?_
    refine z_callVi C0 Z hl.1 (As := [.int (xs (nI i + 1).toNatClampNeg)]) (rest := []) (k_X4_addOwner l hg hw) (gv_X4_addOwner tm_5_223) rfl ds_X4_addOwner ⟨Nat.le_of_ble_eq_true rfl, Nat.le_of_ble_eq_true rfl⟩ (ci := 4) rfl (cx_lt C0 (by decide)) rfl rfl rfl (Nat.le_of_ble_eq_true rfl) ⟨by show kc + 2 ≤ 601024; omega, by show ks + 12 ≤ 7293034; omega⟩ dL_law_379 (fun b2 u2 H locs hw Z => ?_)
    refine lv_istore (lv' := [(7, .int b2), (6, .int 0), (0, .ref b), (1, .ref (gad G 0)), (2, .ref (gad G 7)), (3, .ref (gad G 19)), (4, .ref (gad G 20)), (5, .int (nI i))]) hx hb dL_law_382 hl (by decide) rfl (fun ls hl => ?_)
    obtain ⟨h11, hbr, hi, i19, i20⟩ := hw
    refine lv_aload_n hx hb dL_law_384 rfl (lv_at hl 4 rfl) ?_
    refine z_callVi C0 Z hl.1 (As := []) (rest := []) (k_X4_thrown l hg (Q := fun t w => w = u2 ∧ t = u2 7 11) ⟨rfl, rfl⟩) (gv_X4_thrown tm_5_67) rfl ds_X4_thrown ⟨Nat.le_of_ble_eq_true rfl, Nat.le_of_ble_eq_true rfl⟩ (ci := 4) rfl (cx_lt C0 (by decide)) rfl rfl rfl (Nat.le_of_ble_eq_true rfl) ⟨by show kc + 2 ≤ 601024; omega, by show ks + 12 ≤ 7293034; omega⟩ dL_law_385 (fun t u3 H locs hw Z => ?_)
    obtain ⟨e3, ht⟩ := hw
    rw [e3] at Z
    refine lv_iload hx hb dL_law_388 (lv_at hl 1 rfl) ?_
    refine lv_icmp_eq (tgt := 395) hx hb dL_law_390 (by decide) (fun _ => ?_) (fun c => absurd (ht.trans h11) c)
    refine lv_iload hx hb dL_law_395 (lv_at hl 1 rfl) ?_
    refine lv_if_ne (tgt := 412) hx hb dL_law_397 (by decide) (fun c => absurd rfl c) (fun _ => ?_)
    refine lv_aload_n hx hb dL_law_400 rfl (lv_at hl 5 rfl) ?_
    refine lv_iconst (v := 0) hx hb dL_law_401 (by decide) ?_
    refine z_lald C0 Z dL_law_402 ?_
    refine lv_iload hx hb dL_law_403 (lv_at hl 0 rfl) ?_
    refine lv_i2l (v := b2.toInt64) hx hb dL_law_405 rfl ?_
    refine W.lcmp hx hb dL_law_406 ?_
    refine lv_if_eq (tgt := 412) hx hb dL_law_407 (by decide) (fun _ => ?_) (fun c => absurd ((lg_cmp_eq _ _).mpr (by rw [i19, e19, hbr])) c)
    refine lv_goto (tgt := 2228) hx hb dL_law_412 (by decide) ?_
    refine W.widen (k := kc + 60) (n := ks + 700) (by omega) (by omega) ?_
    exact kk _ _ _ _ hi Z (lv_sub hl [2, 3, 4, 5, 6, 7] rfl)
  · refine lv_aload_n hx hb dL_law_372 rfl (lv_at hl 3 rfl) ?_
    refine lv_aload_n hx hb dL_law_373 rfl (lv_at hl 1 rfl) ?_
    refine lv_iload hx hb dL_law_374 (lv_at hl 6 rfl) ?_
    refine lv_iconst (v := 1) hx hb dL_law_376 (by decide) ?_
    refine lv_iadd hx hb dL_law_377 ?_
    refine va_sld hx hb hX hbl hbA Z.2.2 (show vp_in (nI i + 1) L by rw [show (1 : Int32) = nI 1 from rfl, nI_add]; exact vp_in_nI (by omega) (by omega)) dL_law_378 ?_
    refine z_callVi C0 Z hl.1 (As := [.int (xs (nI i + 1).toNatClampNeg)]) (rest := []) (k_X4_addOwner l hg hw) (gv_X4_addOwner tm_5_223) rfl ds_X4_addOwner ⟨Nat.le_of_ble_eq_true rfl, Nat.le_of_ble_eq_true rfl⟩ (ci := 4) rfl (cx_lt C0 (by decide)) rfl rfl rfl (Nat.le_of_ble_eq_true rfl) ⟨by show kc + 2 ≤ 601024; omega, by show ks + 12 ≤ 7293034; omega⟩ dL_law_379 (fun b2 u2 H locs hw Z => ?_)
    refine lv_istore (lv' := [(7, .int b2), (6, .int k), (0, .ref b), (1, .ref (gad G 0)), (2, .ref (gad G 7)), (3, .ref (gad G 19)), (4, .ref (gad G 20)), (5, .int (nI i))]) hx hb dL_law_382 hl (by decide) rfl (fun ls hl => ?_)
    obtain ⟨h11, hi, i19, i20⟩ := hw
    refine lv_aload_n hx hb dL_law_384 rfl (lv_at hl 4 rfl) ?_
    refine z_callVi C0 Z hl.1 (As := []) (rest := []) (k_X4_thrown l hg (Q := fun t w => w = u2 ∧ t = u2 7 11) ⟨rfl, rfl⟩) (gv_X4_thrown tm_5_67) rfl ds_X4_thrown ⟨Nat.le_of_ble_eq_true rfl, Nat.le_of_ble_eq_true rfl⟩ (ci := 4) rfl (cx_lt C0 (by decide)) rfl rfl rfl (Nat.le_of_ble_eq_true rfl) ⟨by show kc + 2 ≤ 601024; omega, by show ks + 12 ≤ 7293034; omega⟩ dL_law_385 (fun t u3 H locs hw Z => ?_)
    obtain ⟨e3, ht⟩ := hw
    rw [e3] at Z
    refine lv_iload hx hb dL_law_388 (lv_at hl 1 rfl) ?_
    refine lv_icmp_eq (tgt := 395) hx hb dL_law_390 (by decide) (fun _ => ?_) (fun c => absurd (ht.trans h11) c)
    refine lv_iload hx hb dL_law_395 (lv_at hl 1 rfl) ?_
    refine lv_if_ne (tgt := 412) hx hb dL_law_397 (by decide) (fun _ => ?_) (fun c => absurd c hk)
    refine lv_goto (tgt := 2228) hx hb dL_law_412 (by decide) ?_
    refine W.widen (k := kc + 60) (n := ks + 700) (by omega) (by omega) ?_
    exact kk _ _ _ _ hi Z (lv_sub hl [2, 3, 4, 5, 6, 7] rfl)
set_option maxRecDepth 100000 in
set_option maxHeartbeats 4000000 in
theorem lc_set {p : Program} (l : Launch) (hst : l.stackTraces = false) {e : Env} {s : State} {m : MethodId} {below : List Frame} {meth : Method} {c : Code} {G : zG} {b L : Nat} {xs : Nat → Int32} (C0 : Cx G RL cL_law 9 (some .boolean) p s m #[Value.ref b] meth c) {v : V3} {H : Heap} {locs : List Loc} (Z : Zs G s v H locs) (hX : va_X b L xs s s.heap) (hbl : b < s.heap.size) (hbA : ¬ zA G b) {i : Nat} (hiL : i + 5 ≤ L) (hL : L ≤ 2560) {g : Nat} {B : Int} (h : IV v g B) (hB : B + 99 ≤ 900000) {kc ks : Nat} (hkc : kc + 60 ≤ 601024) (hks : ks + 700 ≤ 7293034) {Q : State → Prop} {ls : Array Slot} (hl : lv_has ls 9 [(0, .ref b), (1, .ref (gad G 0)), (2, .ref (gad G 7)), (3, .ref (gad G 19)), (4, .ref (gad G 20)), (5, .int (nI i))]) (kk : ∀ (v' : V3) (H1 : Heap) (locs1 : List Loc) (ls1 : Array Slot), IV v' g (B + 99) → Zs G s v' H1 locs1 → lv_has ls1 9 [(0, .ref b), (1, .ref (gad G 0)), (2, .ref (gad G 7)), (3, .ref (gad G 19)), (4, .ref (gad G 20)), (5, .int (nI i))] → W p l e room_1 s m #[Value.ref b] below meth c H1 locs1 (kc + 60) (ks + 700) Q (F0 m 2228 ls1 [])) : W p l e room_1 s m #[Value.ref b] below meth c H locs kc ks Q (F0 m 415 ls []) := by
  have hx := C0.1
  have hb := C0.2.1
  have hg := cx_g C0
  refine lv_aload_n hx hb dL_law_415 rfl (lv_at hl 1 rfl) ?_
  refine lv_aload_n hx hb dL_law_416 rfl (lv_at hl 0 rfl) ?_
  refine lv_iload hx hb dL_law_417 (lv_at hl 5 rfl) ?_
  refine lv_iconst (v := 1) hx hb dL_law_419 (by decide) ?_
  refine lv_iadd hx hb dL_law_420 ?_
  refine va_sld hx hb hX hbl hbA Z.2.2 (show vp_in (nI i + 1) L by rw [show (1 : Int32) = nI 1 from rfl, nI_add]; exact vp_in_nI (by omega) (by omega)) dL_law_421 ?_
  refine lv_aload_n hx hb dL_law_422 rfl (lv_at hl 0 rfl) ?_
  refine lv_iload hx hb dL_law_423 (lv_at hl 5 rfl) ?_
  refine lv_iconst (v := 2) hx hb dL_law_425 (by decide) ?_
  refine lv_iadd hx hb dL_law_426 ?_
  refine va_sld hx hb hX hbl hbA Z.2.2 (show vp_in (nI i + 2) L by rw [show (2 : Int32) = nI 2 from rfl, nI_add]; exact vp_in_nI (by omega) (by omega)) dL_law_427 ?_
  refine lv_aload_n hx hb dL_law_428 rfl (lv_at hl 3 rfl) ?_
  refine z_callH C0 Z hl.1 (As := [.ref (gad G 0), .int (xs (nI i + 1).toNatClampNeg), .int (xs (nI i + 2).toNatClampNeg), .ref (gad G 19)]) (rest := []) (k_L_set l hst hg (ca_set h hB _ _)) (gv_L_set tm_3_114) ds_L_set ⟨Nat.le_of_ble_eq_true rfl, Nat.le_of_ble_eq_true rfl⟩ rfl rfl (Nat.le_of_ble_eq_true rfl) ⟨by show kc + 2 ≤ 601024; omega, by show ks + 12 ≤ 7293034; omega⟩ dL_law_429 (fun k u H locs hw Z => ?_)
  refine lv_istore (lv' := [(6, .int k), (0, .ref b), (1, .ref (gad G 0)), (2, .ref (gad G 7)), (3, .ref (gad G 19)), (4, .ref (gad G 20)), (5, .int (nI i))]) hx hb dL_law_432 hl (by decide) rfl (fun ls hl => ?_)
  rcases hw with ⟨hk, r, e19, hw⟩ | ⟨hk, hw⟩
  · subst hk
    refine lv_aload_n hx hb dL_law_434 rfl (lv_at hl 3 rfl) ?_
    refine lv_aload_n hx hb dL_law_435 rfl (lv_at hl 1 rfl) ?_
    refine lv_iload hx hb dL_law_436 (lv_at hl 6 rfl) ?_
    refine lv_iconst (v := 1) hx hb dL_law_438 (by decide) ?_
    refine lv_iadd hx hb dL_law_439 ?_
    refine va_sld hx hb hX hbl hbA Z.2.2 (show vp_in (nI i + 1) L by rw [show (1 : Int32) = nI 1 from rfl, nI_add]; exact vp_in_nI (by omega) (by omega)) dL_law_440 ?_
    refine lv_aload_n hx hb dL_law_441 rfl (lv_at hl 1 rfl) ?_
    refine lv_iload hx hb dL_law_442 (lv_at hl 6 rfl) ?_
    refine lv_iconst (v := 2) hx hb dL_law_444 (by decide) ?_
    refine lv_iadd hx hb dL_law_445 ?_
    refine va_sld hx hb hX hbl hbA Z.2.2 (show vp_in (nI i + 2) L by rw [show (2 : Int32) = nI 2 from rfl, nI_add]; exact vp_in_nI (by omega) (by omega)) dL_law_446 ?_
    refine z_callVi C0 Z hl.1 (As := [.int (xs (nI i + 1).toNatClampNeg), .int (xs (nI i + 2).toNatClampNeg)]) (rest := []) (k_X4_set l hg hw) (gv_X4_set tm_5_228) rfl ds_X4_set ⟨Nat.le_of_ble_eq_true rfl, Nat.le_of_ble_eq_true rfl⟩ (ci := 4) rfl (cx_lt C0 (by decide)) rfl rfl rfl (Nat.le_of_ble_eq_true rfl) ⟨by show kc + 2 ≤ 601024; omega, by show ks + 12 ≤ 7293034; omega⟩ dL_law_447 (fun b2 u2 H locs hw Z => ?_)
    refine lv_istore (lv' := [(7, .int b2), (6, .int 0), (0, .ref b), (1, .ref (gad G 0)), (2, .ref (gad G 7)), (3, .ref (gad G 19)), (4, .ref (gad G 20)), (5, .int (nI i))]) hx hb dL_law_450 hl (by decide) rfl (fun ls hl => ?_)
    obtain ⟨h11, hbr, hi, i19, i20⟩ := hw
    refine lv_aload_n hx hb dL_law_452 rfl (lv_at hl 4 rfl) ?_
    refine z_callVi C0 Z hl.1 (As := []) (rest := []) (k_X4_thrown l hg (Q := fun t w => w = u2 ∧ t = u2 7 11) ⟨rfl, rfl⟩) (gv_X4_thrown tm_5_67) rfl ds_X4_thrown ⟨Nat.le_of_ble_eq_true rfl, Nat.le_of_ble_eq_true rfl⟩ (ci := 4) rfl (cx_lt C0 (by decide)) rfl rfl rfl (Nat.le_of_ble_eq_true rfl) ⟨by show kc + 2 ≤ 601024; omega, by show ks + 12 ≤ 7293034; omega⟩ dL_law_453 (fun t u3 H locs hw Z => ?_)
    obtain ⟨e3, ht⟩ := hw
    rw [e3] at Z
    refine lv_iload hx hb dL_law_456 (lv_at hl 1 rfl) ?_
    refine lv_icmp_eq (tgt := 463) hx hb dL_law_458 (by decide) (fun _ => ?_) (fun c => absurd (ht.trans h11) c)
    refine lv_iload hx hb dL_law_463 (lv_at hl 1 rfl) ?_
    refine lv_if_ne (tgt := 480) hx hb dL_law_465 (by decide) (fun c => absurd rfl c) (fun _ => ?_)
    refine lv_aload_n hx hb dL_law_468 rfl (lv_at hl 5 rfl) ?_
    refine lv_iconst (v := 0) hx hb dL_law_469 (by decide) ?_
    refine z_lald C0 Z dL_law_470 ?_
    refine lv_iload hx hb dL_law_471 (lv_at hl 0 rfl) ?_
    refine lv_i2l (v := b2.toInt64) hx hb dL_law_473 rfl ?_
    refine W.lcmp hx hb dL_law_474 ?_
    refine lv_if_eq (tgt := 480) hx hb dL_law_475 (by decide) (fun _ => ?_) (fun c => absurd ((lg_cmp_eq _ _).mpr (by rw [i19, e19, hbr])) c)
    refine lv_goto (tgt := 2228) hx hb dL_law_480 (by decide) ?_
    refine W.widen (k := kc + 60) (n := ks + 700) (by omega) (by omega) ?_
    exact kk _ _ _ _ hi Z (lv_sub hl [2, 3, 4, 5, 6, 7] rfl)
  · refine lv_aload_n hx hb dL_law_434 rfl (lv_at hl 3 rfl) ?_
    refine lv_aload_n hx hb dL_law_435 rfl (lv_at hl 1 rfl) ?_
    refine lv_iload hx hb dL_law_436 (lv_at hl 6 rfl) ?_
    refine lv_iconst (v := 1) hx hb dL_law_438 (by decide) ?_
    refine lv_iadd hx hb dL_law_439 ?_
    refine va_sld hx hb hX hbl hbA Z.2.2 (show vp_in (nI i + 1) L by rw [show (1 : Int32) = nI 1 from rfl, nI_add]; exact vp_in_nI (by omega) (by omega)) dL_law_440 ?_
    refine lv_aload_n hx hb dL_law_441 rfl (lv_at hl 1 rfl) ?_
    refine lv_iload hx hb dL_law_442 (lv_at hl 6 rfl) ?_
    refine lv_iconst (v := 2) hx hb dL_law_444 (by decide) ?_
    refine lv_iadd hx hb dL_law_445 ?_
    refine va_sld hx hb hX hbl hbA Z.2.2 (show vp_in (nI i + 2) L by rw [show (2 : Int32) = nI 2 from rfl, nI_add]; exact vp_in_nI (by omega) (by omega)) dL_law_446 ?_
    refine z_callVi C0 Z hl.1 (As := [.int (xs (nI i + 1).toNatClampNeg), .int (xs (nI i + 2).toNatClampNeg)]) (rest := []) (k_X4_set l hg hw) (gv_X4_set tm_5_228) rfl ds_X4_set ⟨Nat.le_of_ble_eq_true rfl, Nat.le_of_ble_eq_true rfl⟩ (ci := 4) rfl (cx_lt C0 (by decide)) rfl rfl rfl (Nat.le_of_ble_eq_true rfl) ⟨by show kc + 2 ≤ 601024; omega, by show ks + 12 ≤ 7293034; omega⟩ dL_law_447 (fun b2 u2 H locs hw Z => ?_)
    refine lv_istore (lv' := [(7, .int b2), (6, .int k), (0, .ref b), (1, .ref (gad G 0)), (2, .ref (gad G 7)), (3, .ref (gad G 19)), (4, .ref (gad G 20)), (5, .int (nI i))]) hx hb dL_law_450 hl (by decide) rfl (fun ls hl => ?_)
    obtain ⟨h11, hi, i19, i20⟩ := hw
    refine lv_aload_n hx hb dL_law_452 rfl (lv_at hl 4 rfl) ?_
    refine z_callVi C0 Z hl.1 (As := []) (rest := []) (k_X4_thrown l hg (Q := fun t w => w = u2 ∧ t = u2 7 11) ⟨rfl, rfl⟩) (gv_X4_thrown tm_5_67) rfl ds_X4_thrown ⟨Nat.le_of_ble_eq_true rfl, Nat.le_of_ble_eq_true rfl⟩ (ci := 4) rfl (cx_lt C0 (by decide)) rfl rfl rfl (Nat.le_of_ble_eq_true rfl) ⟨by show kc + 2 ≤ 601024; omega, by show ks + 12 ≤ 7293034; omega⟩ dL_law_453 (fun t u3 H locs hw Z => ?_)
    obtain ⟨e3, ht⟩ := hw
    rw [e3] at Z
    refine lv_iload hx hb dL_law_456 (lv_at hl 1 rfl) ?_
    refine lv_icmp_eq (tgt := 463) hx hb dL_law_458 (by decide) (fun _ => ?_) (fun c => absurd (ht.trans h11) c)
    refine lv_iload hx hb dL_law_463 (lv_at hl 1 rfl) ?_
    refine lv_if_ne (tgt := 480) hx hb dL_law_465 (by decide) (fun _ => ?_) (fun c => absurd c hk)
    refine lv_goto (tgt := 2228) hx hb dL_law_480 (by decide) ?_
    refine W.widen (k := kc + 60) (n := ks + 700) (by omega) (by omega) ?_
    exact kk _ _ _ _ hi Z (lv_sub hl [2, 3, 4, 5, 6, 7] rfl)
set_option maxRecDepth 100000 in
set_option maxHeartbeats 4000000 in
theorem lc_count {p : Program} (l : Launch) (hst : l.stackTraces = false) {e : Env} {s : State} {m : MethodId} {below : List Frame} {meth : Method} {c : Code} {G : zG} {b L : Nat} {xs : Nat → Int32} (C0 : Cx G RL cL_law 9 (some .boolean) p s m #[Value.ref b] meth c) {v : V3} {H : Heap} {locs : List Loc} (Z : Zs G s v H locs) (hX : va_X b L xs s s.heap) (hbl : b < s.heap.size) (hbA : ¬ zA G b) {i : Nat} (hiL : i + 5 ≤ L) (hL : L ≤ 2560) {g : Nat} {B : Int} (h : IV v g B) (hB : B + 99 ≤ 900000) {kc ks : Nat} (hkc : kc + 60 ≤ 601024) (hks : ks + 700 ≤ 7293034) {Q : State → Prop} {ls : Array Slot} (hl : lv_has ls 9 [(0, .ref b), (1, .ref (gad G 0)), (2, .ref (gad G 7)), (3, .ref (gad G 19)), (4, .ref (gad G 20)), (5, .int (nI i))]) (kk : ∀ (v' : V3) (H1 : Heap) (locs1 : List Loc) (ls1 : Array Slot), IV v' g (B + 99) → Zs G s v' H1 locs1 → lv_has ls1 9 [(0, .ref b), (1, .ref (gad G 0)), (2, .ref (gad G 7)), (3, .ref (gad G 19)), (4, .ref (gad G 20)), (5, .int (nI i))] → W p l e room_1 s m #[Value.ref b] below meth c H1 locs1 (kc + 60) (ks + 700) Q (F0 m 2228 ls1 [])) : W p l e room_1 s m #[Value.ref b] below meth c H locs kc ks Q (F0 m 483 ls []) := by
  have hx := C0.1
  have hb := C0.2.1
  have hg := cx_g C0
  refine lv_aload_n hx hb dL_law_483 rfl (lv_at hl 1 rfl) ?_
  refine lv_aload_n hx hb dL_law_484 rfl (lv_at hl 0 rfl) ?_
  refine lv_iload hx hb dL_law_485 (lv_at hl 5 rfl) ?_
  refine lv_iconst (v := 1) hx hb dL_law_487 (by decide) ?_
  refine lv_iadd hx hb dL_law_488 ?_
  refine va_sld hx hb hX hbl hbA Z.2.2 (show vp_in (nI i + 1) L by rw [show (1 : Int32) = nI 1 from rfl, nI_add]; exact vp_in_nI (by omega) (by omega)) dL_law_489 ?_
  refine lv_aload_n hx hb dL_law_490 rfl (lv_at hl 3 rfl) ?_
  refine z_callH C0 Z hl.1 (As := [.ref (gad G 0), .int (xs (nI i + 1).toNatClampNeg), .ref (gad G 19)]) (rest := []) (k_L_count l hst hg (ca_count h hB _)) (gv_L_count tm_3_123) ds_L_count ⟨Nat.le_of_ble_eq_true rfl, Nat.le_of_ble_eq_true rfl⟩ rfl rfl (Nat.le_of_ble_eq_true rfl) ⟨by show kc + 1 ≤ 601024; omega, by show ks + 6 ≤ 7293034; omega⟩ dL_law_491 (fun k u H locs hw Z => ?_)
  refine lv_istore (lv' := [(6, .int k), (0, .ref b), (1, .ref (gad G 0)), (2, .ref (gad G 7)), (3, .ref (gad G 19)), (4, .ref (gad G 20)), (5, .int (nI i))]) hx hb dL_law_494 hl (by decide) rfl (fun ls hl => ?_)
  rcases hw with ⟨hk, r, e19, hw⟩ | ⟨hk, hw⟩
  · subst hk
    refine lv_aload_n hx hb dL_law_496 rfl (lv_at hl 3 rfl) ?_
    refine lv_aload_n hx hb dL_law_497 rfl (lv_at hl 1 rfl) ?_
    refine lv_iload hx hb dL_law_498 (lv_at hl 6 rfl) ?_
    refine lv_iconst (v := 1) hx hb dL_law_500 (by decide) ?_
    refine lv_iadd hx hb dL_law_501 ?_
    refine va_sld hx hb hX hbl hbA Z.2.2 (show vp_in (nI i + 1) L by rw [show (1 : Int32) = nI 1 from rfl, nI_add]; exact vp_in_nI (by omega) (by omega)) dL_law_502 ?_
    refine z_callVi C0 Z hl.1 (As := [.int (xs (nI i + 1).toNatClampNeg)]) (rest := []) (k_X4_count l hg hw) (gv_X4_count tm_5_233) rfl ds_X4_count ⟨Nat.le_of_ble_eq_true rfl, Nat.le_of_ble_eq_true rfl⟩ (ci := 4) rfl (cx_lt C0 (by decide)) rfl rfl rfl (Nat.le_of_ble_eq_true rfl) ⟨by show kc + 1 ≤ 601024; omega, by show ks + 6 ≤ 7293034; omega⟩ dL_law_503 (fun b2 u2 H locs hw Z => ?_)
    refine lv_istore (lv' := [(7, .int b2), (6, .int 0), (0, .ref b), (1, .ref (gad G 0)), (2, .ref (gad G 7)), (3, .ref (gad G 19)), (4, .ref (gad G 20)), (5, .int (nI i))]) hx hb dL_law_506 hl (by decide) rfl (fun ls hl => ?_)
    obtain ⟨h11, hbr, hi, i19, i20⟩ := hw
    refine lv_aload_n hx hb dL_law_508 rfl (lv_at hl 4 rfl) ?_
    refine z_callVi C0 Z hl.1 (As := []) (rest := []) (k_X4_thrown l hg (Q := fun t w => w = u2 ∧ t = u2 7 11) ⟨rfl, rfl⟩) (gv_X4_thrown tm_5_67) rfl ds_X4_thrown ⟨Nat.le_of_ble_eq_true rfl, Nat.le_of_ble_eq_true rfl⟩ (ci := 4) rfl (cx_lt C0 (by decide)) rfl rfl rfl (Nat.le_of_ble_eq_true rfl) ⟨by show kc + 1 ≤ 601024; omega, by show ks + 6 ≤ 7293034; omega⟩ dL_law_509 (fun t u3 H locs hw Z => ?_)
    obtain ⟨e3, ht⟩ := hw
    rw [e3] at Z
    refine lv_iload hx hb dL_law_512 (lv_at hl 1 rfl) ?_
    refine lv_icmp_eq (tgt := 519) hx hb dL_law_514 (by decide) (fun _ => ?_) (fun c => absurd (ht.trans h11) c)
    refine lv_iload hx hb dL_law_519 (lv_at hl 1 rfl) ?_
    refine lv_if_ne (tgt := 536) hx hb dL_law_521 (by decide) (fun c => absurd rfl c) (fun _ => ?_)
    refine lv_aload_n hx hb dL_law_524 rfl (lv_at hl 5 rfl) ?_
    refine lv_iconst (v := 0) hx hb dL_law_525 (by decide) ?_
    refine z_lald C0 Z dL_law_526 ?_
    refine lv_iload hx hb dL_law_527 (lv_at hl 0 rfl) ?_
    refine lv_i2l (v := b2.toInt64) hx hb dL_law_529 rfl ?_
    refine W.lcmp hx hb dL_law_530 ?_
    refine lv_if_eq (tgt := 536) hx hb dL_law_531 (by decide) (fun _ => ?_) (fun c => absurd ((lg_cmp_eq _ _).mpr (by rw [i19, e19, hbr])) c)
    refine lv_goto (tgt := 2228) hx hb dL_law_536 (by decide) ?_
    refine W.widen (k := kc + 60) (n := ks + 700) (by omega) (by omega) ?_
    exact kk _ _ _ _ hi Z (lv_sub hl [2, 3, 4, 5, 6, 7] rfl)
  · refine lv_aload_n hx hb dL_law_496 rfl (lv_at hl 3 rfl) ?_
    refine lv_aload_n hx hb dL_law_497 rfl (lv_at hl 1 rfl) ?_
    refine lv_iload hx hb dL_law_498 (lv_at hl 6 rfl) ?_
    refine lv_iconst (v := 1) hx hb dL_law_500 (by decide) ?_
    refine lv_iadd hx hb dL_law_501 ?_
    refine va_sld hx hb hX hbl hbA Z.2.2 (show vp_in (nI i + 1) L by rw [show (1 : Int32) = nI 1 from rfl, nI_add]; exact vp_in_nI (by omega) (by omega)) dL_law_502 ?_
    refine z_callVi C0 Z hl.1 (As := [.int (xs (nI i + 1).toNatClampNeg)]) (rest := []) (k_X4_count l hg hw) (gv_X4_count tm_5_233) rfl ds_X4_count ⟨Nat.le_of_ble_eq_true rfl, Nat.le_of_ble_eq_true rfl⟩ (ci := 4) rfl (cx_lt C0 (by decide)) rfl rfl rfl (Nat.le_of_ble_eq_true rfl) ⟨by show kc + 1 ≤ 601024; omega, by show ks + 6 ≤ 7293034; omega⟩ dL_law_503 (fun b2 u2 H locs hw Z => ?_)
    refine lv_istore (lv' := [(7, .int b2), (6, .int k), (0, .ref b), (1, .ref (gad G 0)), (2, .ref (gad G 7)), (3, .ref (gad G 19)), (4, .ref (gad G 20)), (5, .int (nI i))]) hx hb dL_law_506 hl (by decide) rfl (fun ls hl => ?_)
    obtain ⟨h11, hi, i19, i20⟩ := hw
    refine lv_aload_n hx hb dL_law_508 rfl (lv_at hl 4 rfl) ?_
    refine z_callVi C0 Z hl.1 (As := []) (rest := []) (k_X4_thrown l hg (Q := fun t w => w = u2 ∧ t = u2 7 11) ⟨rfl, rfl⟩) (gv_X4_thrown tm_5_67) rfl ds_X4_thrown ⟨Nat.le_of_ble_eq_true rfl, Nat.le_of_ble_eq_true rfl⟩ (ci := 4) rfl (cx_lt C0 (by decide)) rfl rfl rfl (Nat.le_of_ble_eq_true rfl) ⟨by show kc + 1 ≤ 601024; omega, by show ks + 6 ≤ 7293034; omega⟩ dL_law_509 (fun t u3 H locs hw Z => ?_)
    obtain ⟨e3, ht⟩ := hw
    rw [e3] at Z
    refine lv_iload hx hb dL_law_512 (lv_at hl 1 rfl) ?_
    refine lv_icmp_eq (tgt := 519) hx hb dL_law_514 (by decide) (fun _ => ?_) (fun c => absurd (ht.trans h11) c)
    refine lv_iload hx hb dL_law_519 (lv_at hl 1 rfl) ?_
    refine lv_if_ne (tgt := 536) hx hb dL_law_521 (by decide) (fun _ => ?_) (fun c => absurd c hk)
    refine lv_goto (tgt := 2228) hx hb dL_law_536 (by decide) ?_
    refine W.widen (k := kc + 60) (n := ks + 700) (by omega) (by omega) ?_
    exact kk _ _ _ _ hi Z (lv_sub hl [2, 3, 4, 5, 6, 7] rfl)
set_option maxRecDepth 100000 in
set_option maxHeartbeats 4000000 in
theorem lc_owner {p : Program} (l : Launch) (hst : l.stackTraces = false) {e : Env} {s : State} {m : MethodId} {below : List Frame} {meth : Method} {c : Code} {G : zG} {b L : Nat} {xs : Nat → Int32} (C0 : Cx G RL cL_law 9 (some .boolean) p s m #[Value.ref b] meth c) {v : V3} {H : Heap} {locs : List Loc} (Z : Zs G s v H locs) (hX : va_X b L xs s s.heap) (hbl : b < s.heap.size) (hbA : ¬ zA G b) {i : Nat} (hiL : i + 5 ≤ L) (hL : L ≤ 2560) {g : Nat} {B : Int} (h : IV v g B) (hB : B + 99 ≤ 900000) {kc ks : Nat} (hkc : kc + 60 ≤ 601024) (hks : ks + 700 ≤ 7293034) {Q : State → Prop} {ls : Array Slot} (hl : lv_has ls 9 [(0, .ref b), (1, .ref (gad G 0)), (2, .ref (gad G 7)), (3, .ref (gad G 19)), (4, .ref (gad G 20)), (5, .int (nI i))]) (kk : ∀ (v' : V3) (H1 : Heap) (locs1 : List Loc) (ls1 : Array Slot), IV v' g (B + 99) → Zs G s v' H1 locs1 → lv_has ls1 9 [(0, .ref b), (1, .ref (gad G 0)), (2, .ref (gad G 7)), (3, .ref (gad G 19)), (4, .ref (gad G 20)), (5, .int (nI i))] → W p l e room_1 s m #[Value.ref b] below meth c H1 locs1 (kc + 60) (ks + 700) Q (F0 m 2228 ls1 [])) : W p l e room_1 s m #[Value.ref b] below meth c H locs kc ks Q (F0 m 539 ls []) := by
  have hx := C0.1
  have hb := C0.2.1
  have hg := cx_g C0
  refine lv_aload_n hx hb dL_law_539 rfl (lv_at hl 1 rfl) ?_
  refine lv_aload_n hx hb dL_law_540 rfl (lv_at hl 0 rfl) ?_
  refine lv_iload hx hb dL_law_541 (lv_at hl 5 rfl) ?_
  refine lv_iconst (v := 1) hx hb dL_law_543 (by decide) ?_
  refine lv_iadd hx hb dL_law_544 ?_
  refine va_sld hx hb hX hbl hbA Z.2.2 (show vp_in (nI i + 1) L by rw [show (1 : Int32) = nI 1 from rfl, nI_add]; exact vp_in_nI (by omega) (by omega)) dL_law_545 ?_
  refine lv_aload_n hx hb dL_law_546 rfl (lv_at hl 0 rfl) ?_
  refine lv_iload hx hb dL_law_547 (lv_at hl 5 rfl) ?_
  refine lv_iconst (v := 2) hx hb dL_law_549 (by decide) ?_
  refine lv_iadd hx hb dL_law_550 ?_
  refine va_sld hx hb hX hbl hbA Z.2.2 (show vp_in (nI i + 2) L by rw [show (2 : Int32) = nI 2 from rfl, nI_add]; exact vp_in_nI (by omega) (by omega)) dL_law_551 ?_
  refine lv_aload_n hx hb dL_law_552 rfl (lv_at hl 3 rfl) ?_
  refine z_callH C0 Z hl.1 (As := [.ref (gad G 0), .int (xs (nI i + 1).toNatClampNeg), .int (xs (nI i + 2).toNatClampNeg), .ref (gad G 19)]) (rest := []) (k_L_owner l hst hg (ca_owner h hB _ _)) (gv_L_owner tm_3_139) ds_L_owner ⟨Nat.le_of_ble_eq_true rfl, Nat.le_of_ble_eq_true rfl⟩ rfl rfl (Nat.le_of_ble_eq_true rfl) ⟨by show kc + 2 ≤ 601024; omega, by show ks + 12 ≤ 7293034; omega⟩ dL_law_553 (fun k u H locs hw Z => ?_)
  refine lv_istore (lv' := [(6, .int k), (0, .ref b), (1, .ref (gad G 0)), (2, .ref (gad G 7)), (3, .ref (gad G 19)), (4, .ref (gad G 20)), (5, .int (nI i))]) hx hb dL_law_556 hl (by decide) rfl (fun ls hl => ?_)
  rcases hw with ⟨hk, r, e19, hw⟩ | ⟨hk, hw⟩
  · subst hk
    refine lv_aload_n hx hb dL_law_558 rfl (lv_at hl 3 rfl) ?_
    refine lv_aload_n hx hb dL_law_559 rfl (lv_at hl 1 rfl) ?_
    refine lv_iload hx hb dL_law_560 (lv_at hl 6 rfl) ?_
    refine lv_iconst (v := 1) hx hb dL_law_562 (by decide) ?_
    refine lv_iadd hx hb dL_law_563 ?_
    refine va_sld hx hb hX hbl hbA Z.2.2 (show vp_in (nI i + 1) L by rw [show (1 : Int32) = nI 1 from rfl, nI_add]; exact vp_in_nI (by omega) (by omega)) dL_law_564 ?_
    refine lv_aload_n hx hb dL_law_565 rfl (lv_at hl 1 rfl) ?_
    refine lv_iload hx hb dL_law_566 (lv_at hl 6 rfl) ?_
    refine lv_iconst (v := 2) hx hb dL_law_568 (by decide) ?_
    refine lv_iadd hx hb dL_law_569 ?_
    refine va_sld hx hb hX hbl hbA Z.2.2 (show vp_in (nI i + 2) L by rw [show (2 : Int32) = nI 2 from rfl, nI_add]; exact vp_in_nI (by omega) (by omega)) dL_law_570 ?_
    refine z_callVi C0 Z hl.1 (As := [.int (xs (nI i + 1).toNatClampNeg), .int (xs (nI i + 2).toNatClampNeg)]) (rest := []) (k_X4_owner l hg hw) (gv_X4_owner tm_6_14) rfl ds_X4_owner ⟨Nat.le_of_ble_eq_true rfl, Nat.le_of_ble_eq_true rfl⟩ (ci := 4) rfl (cx_lt C0 (by decide)) rfl rfl rfl (Nat.le_of_ble_eq_true rfl) ⟨by show kc + 2 ≤ 601024; omega, by show ks + 12 ≤ 7293034; omega⟩ dL_law_571 (fun b2 u2 H locs hw Z => ?_)
    refine lv_istore (lv' := [(7, .int b2), (6, .int 0), (0, .ref b), (1, .ref (gad G 0)), (2, .ref (gad G 7)), (3, .ref (gad G 19)), (4, .ref (gad G 20)), (5, .int (nI i))]) hx hb dL_law_574 hl (by decide) rfl (fun ls hl => ?_)
    obtain ⟨h11, hbr, hi, i19, i20⟩ := hw
    refine lv_aload_n hx hb dL_law_576 rfl (lv_at hl 4 rfl) ?_
    refine z_callVi C0 Z hl.1 (As := []) (rest := []) (k_X4_thrown l hg (Q := fun t w => w = u2 ∧ t = u2 7 11) ⟨rfl, rfl⟩) (gv_X4_thrown tm_5_67) rfl ds_X4_thrown ⟨Nat.le_of_ble_eq_true rfl, Nat.le_of_ble_eq_true rfl⟩ (ci := 4) rfl (cx_lt C0 (by decide)) rfl rfl rfl (Nat.le_of_ble_eq_true rfl) ⟨by show kc + 2 ≤ 601024; omega, by show ks + 12 ≤ 7293034; omega⟩ dL_law_577 (fun t u3 H locs hw Z => ?_)
    obtain ⟨e3, ht⟩ := hw
    rw [e3] at Z
    refine lv_iload hx hb dL_law_580 (lv_at hl 1 rfl) ?_
    refine lv_icmp_eq (tgt := 587) hx hb dL_law_582 (by decide) (fun _ => ?_) (fun c => absurd (ht.trans h11) c)
    refine lv_iload hx hb dL_law_587 (lv_at hl 1 rfl) ?_
    refine lv_if_ne (tgt := 604) hx hb dL_law_589 (by decide) (fun c => absurd rfl c) (fun _ => ?_)
    refine lv_aload_n hx hb dL_law_592 rfl (lv_at hl 5 rfl) ?_
    refine lv_iconst (v := 0) hx hb dL_law_593 (by decide) ?_
    refine z_lald C0 Z dL_law_594 ?_
    refine lv_iload hx hb dL_law_595 (lv_at hl 0 rfl) ?_
    refine lv_i2l (v := b2.toInt64) hx hb dL_law_597 rfl ?_
    refine W.lcmp hx hb dL_law_598 ?_
    refine lv_if_eq (tgt := 604) hx hb dL_law_599 (by decide) (fun _ => ?_) (fun c => absurd ((lg_cmp_eq _ _).mpr (by rw [i19, e19, hbr])) c)
    refine lv_goto (tgt := 2228) hx hb dL_law_604 (by decide) ?_
    refine W.widen (k := kc + 60) (n := ks + 700) (by omega) (by omega) ?_
    exact kk _ _ _ _ hi Z (lv_sub hl [2, 3, 4, 5, 6, 7] rfl)
  · refine lv_aload_n hx hb dL_law_558 rfl (lv_at hl 3 rfl) ?_
    refine lv_aload_n hx hb dL_law_559 rfl (lv_at hl 1 rfl) ?_
    refine lv_iload hx hb dL_law_560 (lv_at hl 6 rfl) ?_
    refine lv_iconst (v := 1) hx hb dL_law_562 (by decide) ?_
    refine lv_iadd hx hb dL_law_563 ?_
    refine va_sld hx hb hX hbl hbA Z.2.2 (show vp_in (nI i + 1) L by rw [show (1 : Int32) = nI 1 from rfl, nI_add]; exact vp_in_nI (by omega) (by omega)) dL_law_564 ?_
    refine lv_aload_n hx hb dL_law_565 rfl (lv_at hl 1 rfl) ?_
    refine lv_iload hx hb dL_law_566 (lv_at hl 6 rfl) ?_
    refine lv_iconst (v := 2) hx hb dL_law_568 (by decide) ?_
    refine lv_iadd hx hb dL_law_569 ?_
    refine va_sld hx hb hX hbl hbA Z.2.2 (show vp_in (nI i + 2) L by rw [show (2 : Int32) = nI 2 from rfl, nI_add]; exact vp_in_nI (by omega) (by omega)) dL_law_570 ?_
    refine z_callVi C0 Z hl.1 (As := [.int (xs (nI i + 1).toNatClampNeg), .int (xs (nI i + 2).toNatClampNeg)]) (rest := []) (k_X4_owner l hg hw) (gv_X4_owner tm_6_14) rfl ds_X4_owner ⟨Nat.le_of_ble_eq_true rfl, Nat.le_of_ble_eq_true rfl⟩ (ci := 4) rfl (cx_lt C0 (by decide)) rfl rfl rfl (Nat.le_of_ble_eq_true rfl) ⟨by show kc + 2 ≤ 601024; omega, by show ks + 12 ≤ 7293034; omega⟩ dL_law_571 (fun b2 u2 H locs hw Z => ?_)
    refine lv_istore (lv' := [(7, .int b2), (6, .int k), (0, .ref b), (1, .ref (gad G 0)), (2, .ref (gad G 7)), (3, .ref (gad G 19)), (4, .ref (gad G 20)), (5, .int (nI i))]) hx hb dL_law_574 hl (by decide) rfl (fun ls hl => ?_)
    obtain ⟨h11, hi, i19, i20⟩ := hw
    refine lv_aload_n hx hb dL_law_576 rfl (lv_at hl 4 rfl) ?_
    refine z_callVi C0 Z hl.1 (As := []) (rest := []) (k_X4_thrown l hg (Q := fun t w => w = u2 ∧ t = u2 7 11) ⟨rfl, rfl⟩) (gv_X4_thrown tm_5_67) rfl ds_X4_thrown ⟨Nat.le_of_ble_eq_true rfl, Nat.le_of_ble_eq_true rfl⟩ (ci := 4) rfl (cx_lt C0 (by decide)) rfl rfl rfl (Nat.le_of_ble_eq_true rfl) ⟨by show kc + 2 ≤ 601024; omega, by show ks + 12 ≤ 7293034; omega⟩ dL_law_577 (fun t u3 H locs hw Z => ?_)
    obtain ⟨e3, ht⟩ := hw
    rw [e3] at Z
    refine lv_iload hx hb dL_law_580 (lv_at hl 1 rfl) ?_
    refine lv_icmp_eq (tgt := 587) hx hb dL_law_582 (by decide) (fun _ => ?_) (fun c => absurd (ht.trans h11) c)
    refine lv_iload hx hb dL_law_587 (lv_at hl 1 rfl) ?_
    refine lv_if_ne (tgt := 604) hx hb dL_law_589 (by decide) (fun _ => ?_) (fun c => absurd c hk)
    refine lv_goto (tgt := 2228) hx hb dL_law_604 (by decide) ?_
    refine W.widen (k := kc + 60) (n := ks + 700) (by omega) (by omega) ?_
    exact kk _ _ _ _ hi Z (lv_sub hl [2, 3, 4, 5, 6, 7] rfl)
set_option maxRecDepth 100000 in
set_option maxHeartbeats 4000000 in
theorem lc_trust {p : Program} (l : Launch) (hst : l.stackTraces = false) {e : Env} {s : State} {m : MethodId} {below : List Frame} {meth : Method} {c : Code} {G : zG} {b L : Nat} {xs : Nat → Int32} (C0 : Cx G RL cL_law 9 (some .boolean) p s m #[Value.ref b] meth c) {v : V3} {H : Heap} {locs : List Loc} (Z : Zs G s v H locs) (hX : va_X b L xs s s.heap) (hbl : b < s.heap.size) (hbA : ¬ zA G b) {i : Nat} (hiL : i + 5 ≤ L) (hL : L ≤ 2560) {g : Nat} {B : Int} (h : IV v g B) (hB : B + 99 ≤ 900000) {kc ks : Nat} (hkc : kc + 60 ≤ 601024) (hks : ks + 700 ≤ 7293034) {Q : State → Prop} {ls : Array Slot} (hl : lv_has ls 9 [(0, .ref b), (1, .ref (gad G 0)), (2, .ref (gad G 7)), (3, .ref (gad G 19)), (4, .ref (gad G 20)), (5, .int (nI i))]) (kk : ∀ (v' : V3) (H1 : Heap) (locs1 : List Loc) (ls1 : Array Slot), IV v' g (B + 99) → Zs G s v' H1 locs1 → lv_has ls1 9 [(0, .ref b), (1, .ref (gad G 0)), (2, .ref (gad G 7)), (3, .ref (gad G 19)), (4, .ref (gad G 20)), (5, .int (nI i))] → W p l e room_1 s m #[Value.ref b] below meth c H1 locs1 (kc + 60) (ks + 700) Q (F0 m 2228 ls1 [])) : W p l e room_1 s m #[Value.ref b] below meth c H locs kc ks Q (F0 m 607 ls []) := by
  have hx := C0.1
  have hb := C0.2.1
  have hg := cx_g C0
  refine lv_aload_n hx hb dL_law_607 rfl (lv_at hl 1 rfl) ?_
  refine lv_aload_n hx hb dL_law_608 rfl (lv_at hl 0 rfl) ?_
  refine lv_iload hx hb dL_law_609 (lv_at hl 5 rfl) ?_
  refine lv_iconst (v := 1) hx hb dL_law_611 (by decide) ?_
  refine lv_iadd hx hb dL_law_612 ?_
  refine va_sld hx hb hX hbl hbA Z.2.2 (show vp_in (nI i + 1) L by rw [show (1 : Int32) = nI 1 from rfl, nI_add]; exact vp_in_nI (by omega) (by omega)) dL_law_613 ?_
  refine lv_aload hx hb dL_law_614 (lv_at hl 4 rfl) ?_
  refine z_callH C0 Z hl.1 (As := [.ref (gad G 0), .int (xs (nI i + 1).toNatClampNeg), .ref (gad G 20)]) (rest := []) (k_L_trust l hst hg (ca_trust h hB _)) (gv_L_trust tm_3_181) ds_L_trust ⟨Nat.le_of_ble_eq_true rfl, Nat.le_of_ble_eq_true rfl⟩ rfl rfl (Nat.le_of_ble_eq_true rfl) ⟨by show kc + 1 ≤ 601024; omega, by show ks + 6 ≤ 7293034; omega⟩ dL_law_616 (fun k u H locs hw Z => ?_)
  refine lv_istore (lv' := [(6, .int k), (0, .ref b), (1, .ref (gad G 0)), (2, .ref (gad G 7)), (3, .ref (gad G 19)), (4, .ref (gad G 20)), (5, .int (nI i))]) hx hb dL_law_619 hl (by decide) rfl (fun ls hl => ?_)
  rcases hw with ⟨hk, r, e19, hw⟩ | ⟨hk, hw⟩
  · subst hk
    refine lv_aload_n hx hb dL_law_621 rfl (lv_at hl 3 rfl) ?_
    refine lv_aload_n hx hb dL_law_622 rfl (lv_at hl 1 rfl) ?_
    refine lv_iload hx hb dL_law_623 (lv_at hl 6 rfl) ?_
    refine lv_iconst (v := 1) hx hb dL_law_625 (by decide) ?_
    refine lv_iadd hx hb dL_law_626 ?_
    refine va_sld hx hb hX hbl hbA Z.2.2 (show vp_in (nI i + 1) L by rw [show (1 : Int32) = nI 1 from rfl, nI_add]; exact vp_in_nI (by omega) (by omega)) dL_law_627 ?_
    refine z_callVd C0 Z hl.1 (As := [.int (xs (nI i + 1).toNatClampNeg)]) (rest := []) (k_X4_trust l hg hw) (gv_X4_trust tm_6_44) rfl ds_X4_trust ⟨Nat.le_of_ble_eq_true rfl, Nat.le_of_ble_eq_true rfl⟩ (ci := 4) rfl (cx_lt C0 (by decide)) rfl rfl rfl (Nat.le_of_ble_eq_true rfl) ⟨by show kc + 1 ≤ 601024; omega, by show ks + 6 ≤ 7293034; omega⟩ dL_law_628 (fun b2 u2 H locs hw Z => ?_)
    refine lv_dstore (lv' := [(7, .double b2), (6, .int 0), (0, .ref b), (1, .ref (gad G 0)), (2, .ref (gad G 7)), (3, .ref (gad G 19)), (4, .ref (gad G 20)), (5, .int (nI i))]) hx hb dL_law_631 hl (by decide) rfl (fun ls hl => ?_)
    obtain ⟨h11, hbr, hnn, hi, i19, i20⟩ := hw
    refine lv_aload_n hx hb dL_law_633 rfl (lv_at hl 4 rfl) ?_
    refine z_callVi C0 Z hl.1 (As := []) (rest := []) (k_X4_thrown l hg (Q := fun t w => w = u2 ∧ t = u2 7 11) ⟨rfl, rfl⟩) (gv_X4_thrown tm_5_67) rfl ds_X4_thrown ⟨Nat.le_of_ble_eq_true rfl, Nat.le_of_ble_eq_true rfl⟩ (ci := 4) rfl (cx_lt C0 (by decide)) rfl rfl rfl (Nat.le_of_ble_eq_true rfl) ⟨by show kc + 1 ≤ 601024; omega, by show ks + 6 ≤ 7293034; omega⟩ dL_law_634 (fun t u3 H locs hw Z => ?_)
    obtain ⟨e3, ht⟩ := hw
    rw [e3] at Z
    refine lv_iload hx hb dL_law_637 (lv_at hl 1 rfl) ?_
    refine lv_icmp_eq (tgt := 644) hx hb dL_law_639 (by decide) (fun _ => ?_) (fun c => absurd (ht.trans h11) c)
    refine lv_iload hx hb dL_law_644 (lv_at hl 1 rfl) ?_
    refine lv_if_ne (tgt := 681) hx hb dL_law_646 (by decide) (fun c => absurd rfl c) (fun _ => ?_)
    refine lv_aload hx hb dL_law_649 (lv_at hl 6 rfl) ?_
    refine lv_iconst (v := 0) hx hb dL_law_651 (by decide) ?_
    refine z_dald C0 Z dL_law_652 ?_
    refine lv_dload hx hb dL_law_653 (lv_at hl 0 rfl) ?_
    refine lv_dcmp hx hb dL_law_655 ?_
    refine lv_if_eq (tgt := 681) hx hb dL_law_656 (by decide) (fun _ => ?_) (fun c => absurd (by rw [i20, e19, hbr, fp_dcmp hnn]; rfl) c)
    refine lv_goto (tgt := 2228) hx hb dL_law_681 (by decide) ?_
    refine W.widen (k := kc + 60) (n := ks + 700) (by omega) (by omega) ?_
    exact kk _ _ _ _ hi Z (lv_sub hl [2, 3, 4, 5, 6, 7] rfl)
  · refine lv_aload_n hx hb dL_law_621 rfl (lv_at hl 3 rfl) ?_
    refine lv_aload_n hx hb dL_law_622 rfl (lv_at hl 1 rfl) ?_
    refine lv_iload hx hb dL_law_623 (lv_at hl 6 rfl) ?_
    refine lv_iconst (v := 1) hx hb dL_law_625 (by decide) ?_
    refine lv_iadd hx hb dL_law_626 ?_
    refine va_sld hx hb hX hbl hbA Z.2.2 (show vp_in (nI i + 1) L by rw [show (1 : Int32) = nI 1 from rfl, nI_add]; exact vp_in_nI (by omega) (by omega)) dL_law_627 ?_
    refine z_callVd C0 Z hl.1 (As := [.int (xs (nI i + 1).toNatClampNeg)]) (rest := []) (k_X4_trust l hg hw) (gv_X4_trust tm_6_44) rfl ds_X4_trust ⟨Nat.le_of_ble_eq_true rfl, Nat.le_of_ble_eq_true rfl⟩ (ci := 4) rfl (cx_lt C0 (by decide)) rfl rfl rfl (Nat.le_of_ble_eq_true rfl) ⟨by show kc + 1 ≤ 601024; omega, by show ks + 6 ≤ 7293034; omega⟩ dL_law_628 (fun b2 u2 H locs hw Z => ?_)
    refine lv_dstore (lv' := [(7, .double b2), (6, .int k), (0, .ref b), (1, .ref (gad G 0)), (2, .ref (gad G 7)), (3, .ref (gad G 19)), (4, .ref (gad G 20)), (5, .int (nI i))]) hx hb dL_law_631 hl (by decide) rfl (fun ls hl => ?_)
    obtain ⟨h11, hi, i19, i20⟩ := hw
    refine lv_aload_n hx hb dL_law_633 rfl (lv_at hl 4 rfl) ?_
    refine z_callVi C0 Z hl.1 (As := []) (rest := []) (k_X4_thrown l hg (Q := fun t w => w = u2 ∧ t = u2 7 11) ⟨rfl, rfl⟩) (gv_X4_thrown tm_5_67) rfl ds_X4_thrown ⟨Nat.le_of_ble_eq_true rfl, Nat.le_of_ble_eq_true rfl⟩ (ci := 4) rfl (cx_lt C0 (by decide)) rfl rfl rfl (Nat.le_of_ble_eq_true rfl) ⟨by show kc + 1 ≤ 601024; omega, by show ks + 6 ≤ 7293034; omega⟩ dL_law_634 (fun t u3 H locs hw Z => ?_)
    obtain ⟨e3, ht⟩ := hw
    rw [e3] at Z
    refine lv_iload hx hb dL_law_637 (lv_at hl 1 rfl) ?_
    refine lv_icmp_eq (tgt := 644) hx hb dL_law_639 (by decide) (fun _ => ?_) (fun c => absurd (ht.trans h11) c)
    refine lv_iload hx hb dL_law_644 (lv_at hl 1 rfl) ?_
    refine lv_if_ne (tgt := 681) hx hb dL_law_646 (by decide) (fun _ => ?_) (fun c => absurd c hk)
    refine lv_goto (tgt := 2228) hx hb dL_law_681 (by decide) ?_
    refine W.widen (k := kc + 60) (n := ks + 700) (by omega) (by omega) ?_
    exact kk _ _ _ _ hi Z (lv_sub hl [2, 3, 4, 5, 6, 7] rfl)
set_option maxRecDepth 100000 in
set_option maxHeartbeats 4000000 in
theorem lc_forgive {p : Program} (l : Launch) (hst : l.stackTraces = false) {e : Env} {s : State} {m : MethodId} {below : List Frame} {meth : Method} {c : Code} {G : zG} {b L : Nat} {xs : Nat → Int32} (C0 : Cx G RL cL_law 9 (some .boolean) p s m #[Value.ref b] meth c) {v : V3} {H : Heap} {locs : List Loc} (Z : Zs G s v H locs) (hX : va_X b L xs s s.heap) (hbl : b < s.heap.size) (hbA : ¬ zA G b) {i : Nat} (hiL : i + 5 ≤ L) (hL : L ≤ 2560) {g : Nat} {B : Int} (h : IV v g B) (hB : B + 99 ≤ 900000) {kc ks : Nat} (hkc : kc + 60 ≤ 601024) (hks : ks + 700 ≤ 7293034) {Q : State → Prop} {ls : Array Slot} (hl : lv_has ls 9 [(0, .ref b), (1, .ref (gad G 0)), (2, .ref (gad G 7)), (3, .ref (gad G 19)), (4, .ref (gad G 20)), (5, .int (nI i))]) (kk : ∀ (v' : V3) (H1 : Heap) (locs1 : List Loc) (ls1 : Array Slot), IV v' g (B + 99) → Zs G s v' H1 locs1 → lv_has ls1 9 [(0, .ref b), (1, .ref (gad G 0)), (2, .ref (gad G 7)), (3, .ref (gad G 19)), (4, .ref (gad G 20)), (5, .int (nI i))] → W p l e room_1 s m #[Value.ref b] below meth c H1 locs1 (kc + 60) (ks + 700) Q (F0 m 2228 ls1 [])) : W p l e room_1 s m #[Value.ref b] below meth c H locs kc ks Q (F0 m 684 ls []) := by
  have hx := C0.1
  have hb := C0.2.1
  have hg := cx_g C0
  refine lv_aload_n hx hb dL_law_684 rfl (lv_at hl 1 rfl) ?_
  refine lv_aload_n hx hb dL_law_685 rfl (lv_at hl 0 rfl) ?_
  refine lv_iload hx hb dL_law_686 (lv_at hl 5 rfl) ?_
  refine lv_iconst (v := 1) hx hb dL_law_688 (by decide) ?_
  refine lv_iadd hx hb dL_law_689 ?_
  refine va_sld hx hb hX hbl hbA Z.2.2 (show vp_in (nI i + 1) L by rw [show (1 : Int32) = nI 1 from rfl, nI_add]; exact vp_in_nI (by omega) (by omega)) dL_law_690 ?_
  refine lv_aload_n hx hb dL_law_691 rfl (lv_at hl 3 rfl) ?_
  refine z_callH C0 Z hl.1 (As := [.ref (gad G 0), .int (xs (nI i + 1).toNatClampNeg), .ref (gad G 19)]) (rest := []) (k_L_forgive l hst hg (ca_forgive h hB _)) (gv_L_forgive tm_3_189) ds_L_forgive ⟨Nat.le_of_ble_eq_true rfl, Nat.le_of_ble_eq_true rfl⟩ rfl rfl (Nat.le_of_ble_eq_true rfl) ⟨by show kc + 1 ≤ 601024; omega, by show ks + 6 ≤ 7293034; omega⟩ dL_law_692 (fun k u H locs hw Z => ?_)
  refine lv_istore (lv' := [(6, .int k), (0, .ref b), (1, .ref (gad G 0)), (2, .ref (gad G 7)), (3, .ref (gad G 19)), (4, .ref (gad G 20)), (5, .int (nI i))]) hx hb dL_law_695 hl (by decide) rfl (fun ls hl => ?_)
  rcases hw with ⟨hk, r, e19, hw⟩ | ⟨hk, hw⟩
  · subst hk
    refine lv_aload_n hx hb dL_law_697 rfl (lv_at hl 3 rfl) ?_
    refine lv_aload_n hx hb dL_law_698 rfl (lv_at hl 1 rfl) ?_
    refine lv_iload hx hb dL_law_699 (lv_at hl 6 rfl) ?_
    refine lv_iconst (v := 1) hx hb dL_law_701 (by decide) ?_
    refine lv_iadd hx hb dL_law_702 ?_
    refine va_sld hx hb hX hbl hbA Z.2.2 (show vp_in (nI i + 1) L by rw [show (1 : Int32) = nI 1 from rfl, nI_add]; exact vp_in_nI (by omega) (by omega)) dL_law_703 ?_
    refine z_callVi C0 Z hl.1 (As := [.int (xs (nI i + 1).toNatClampNeg)]) (rest := []) (k_X4_forgive l hg hw) (gv_X4_forgive tm_6_48) rfl ds_X4_forgive ⟨Nat.le_of_ble_eq_true rfl, Nat.le_of_ble_eq_true rfl⟩ (ci := 4) rfl (cx_lt C0 (by decide)) rfl rfl rfl (Nat.le_of_ble_eq_true rfl) ⟨by show kc + 1 ≤ 601024; omega, by show ks + 6 ≤ 7293034; omega⟩ dL_law_704 (fun b2 u2 H locs hw Z => ?_)
    refine lv_istore (lv' := [(7, .int b2), (6, .int 0), (0, .ref b), (1, .ref (gad G 0)), (2, .ref (gad G 7)), (3, .ref (gad G 19)), (4, .ref (gad G 20)), (5, .int (nI i))]) hx hb dL_law_707 hl (by decide) rfl (fun ls hl => ?_)
    obtain ⟨h11, hbr, hi, i19, i20⟩ := hw
    refine lv_aload_n hx hb dL_law_709 rfl (lv_at hl 4 rfl) ?_
    refine z_callVi C0 Z hl.1 (As := []) (rest := []) (k_X4_thrown l hg (Q := fun t w => w = u2 ∧ t = u2 7 11) ⟨rfl, rfl⟩) (gv_X4_thrown tm_5_67) rfl ds_X4_thrown ⟨Nat.le_of_ble_eq_true rfl, Nat.le_of_ble_eq_true rfl⟩ (ci := 4) rfl (cx_lt C0 (by decide)) rfl rfl rfl (Nat.le_of_ble_eq_true rfl) ⟨by show kc + 1 ≤ 601024; omega, by show ks + 6 ≤ 7293034; omega⟩ dL_law_710 (fun t u3 H locs hw Z => ?_)
    obtain ⟨e3, ht⟩ := hw
    rw [e3] at Z
    refine lv_iload hx hb dL_law_713 (lv_at hl 1 rfl) ?_
    refine lv_icmp_eq (tgt := 720) hx hb dL_law_715 (by decide) (fun _ => ?_) (fun c => absurd (ht.trans h11) c)
    refine lv_iload hx hb dL_law_720 (lv_at hl 1 rfl) ?_
    refine lv_if_ne (tgt := 737) hx hb dL_law_722 (by decide) (fun c => absurd rfl c) (fun _ => ?_)
    refine lv_aload_n hx hb dL_law_725 rfl (lv_at hl 5 rfl) ?_
    refine lv_iconst (v := 0) hx hb dL_law_726 (by decide) ?_
    refine z_lald C0 Z dL_law_727 ?_
    refine lv_iload hx hb dL_law_728 (lv_at hl 0 rfl) ?_
    refine lv_i2l (v := b2.toInt64) hx hb dL_law_730 rfl ?_
    refine W.lcmp hx hb dL_law_731 ?_
    refine lv_if_eq (tgt := 737) hx hb dL_law_732 (by decide) (fun _ => ?_) (fun c => absurd ((lg_cmp_eq _ _).mpr (by rw [i19, e19, hbr])) c)
    refine lv_goto (tgt := 2228) hx hb dL_law_737 (by decide) ?_
    refine W.widen (k := kc + 60) (n := ks + 700) (by omega) (by omega) ?_
    exact kk _ _ _ _ hi Z (lv_sub hl [2, 3, 4, 5, 6, 7] rfl)
  · refine lv_aload_n hx hb dL_law_697 rfl (lv_at hl 3 rfl) ?_
    refine lv_aload_n hx hb dL_law_698 rfl (lv_at hl 1 rfl) ?_
    refine lv_iload hx hb dL_law_699 (lv_at hl 6 rfl) ?_
    refine lv_iconst (v := 1) hx hb dL_law_701 (by decide) ?_
    refine lv_iadd hx hb dL_law_702 ?_
    refine va_sld hx hb hX hbl hbA Z.2.2 (show vp_in (nI i + 1) L by rw [show (1 : Int32) = nI 1 from rfl, nI_add]; exact vp_in_nI (by omega) (by omega)) dL_law_703 ?_
    refine z_callVi C0 Z hl.1 (As := [.int (xs (nI i + 1).toNatClampNeg)]) (rest := []) (k_X4_forgive l hg hw) (gv_X4_forgive tm_6_48) rfl ds_X4_forgive ⟨Nat.le_of_ble_eq_true rfl, Nat.le_of_ble_eq_true rfl⟩ (ci := 4) rfl (cx_lt C0 (by decide)) rfl rfl rfl (Nat.le_of_ble_eq_true rfl) ⟨by show kc + 1 ≤ 601024; omega, by show ks + 6 ≤ 7293034; omega⟩ dL_law_704 (fun b2 u2 H locs hw Z => ?_)
    refine lv_istore (lv' := [(7, .int b2), (6, .int k), (0, .ref b), (1, .ref (gad G 0)), (2, .ref (gad G 7)), (3, .ref (gad G 19)), (4, .ref (gad G 20)), (5, .int (nI i))]) hx hb dL_law_707 hl (by decide) rfl (fun ls hl => ?_)
    obtain ⟨h11, hi, i19, i20⟩ := hw
    refine lv_aload_n hx hb dL_law_709 rfl (lv_at hl 4 rfl) ?_
    refine z_callVi C0 Z hl.1 (As := []) (rest := []) (k_X4_thrown l hg (Q := fun t w => w = u2 ∧ t = u2 7 11) ⟨rfl, rfl⟩) (gv_X4_thrown tm_5_67) rfl ds_X4_thrown ⟨Nat.le_of_ble_eq_true rfl, Nat.le_of_ble_eq_true rfl⟩ (ci := 4) rfl (cx_lt C0 (by decide)) rfl rfl rfl (Nat.le_of_ble_eq_true rfl) ⟨by show kc + 1 ≤ 601024; omega, by show ks + 6 ≤ 7293034; omega⟩ dL_law_710 (fun t u3 H locs hw Z => ?_)
    obtain ⟨e3, ht⟩ := hw
    rw [e3] at Z
    refine lv_iload hx hb dL_law_713 (lv_at hl 1 rfl) ?_
    refine lv_icmp_eq (tgt := 720) hx hb dL_law_715 (by decide) (fun _ => ?_) (fun c => absurd (ht.trans h11) c)
    refine lv_iload hx hb dL_law_720 (lv_at hl 1 rfl) ?_
    refine lv_if_ne (tgt := 737) hx hb dL_law_722 (by decide) (fun _ => ?_) (fun c => absurd c hk)
    refine lv_goto (tgt := 2228) hx hb dL_law_737 (by decide) ?_
    refine W.widen (k := kc + 60) (n := ks + 700) (by omega) (by omega) ?_
    exact kk _ _ _ _ hi Z (lv_sub hl [2, 3, 4, 5, 6, 7] rfl)
set_option maxRecDepth 100000 in
set_option maxHeartbeats 4000000 in
theorem lc_draft {p : Program} (l : Launch) (hst : l.stackTraces = false) {e : Env} {s : State} {m : MethodId} {below : List Frame} {meth : Method} {c : Code} {G : zG} {b L : Nat} {xs : Nat → Int32} (C0 : Cx G RL cL_law 9 (some .boolean) p s m #[Value.ref b] meth c) {v : V3} {H : Heap} {locs : List Loc} (Z : Zs G s v H locs) (hX : va_X b L xs s s.heap) (hbl : b < s.heap.size) (hbA : ¬ zA G b) {i : Nat} (hiL : i + 5 ≤ L) (hL : L ≤ 2560) {g : Nat} {B : Int} (h : IV v g B) (hB : B + 99 ≤ 900000) {kc ks : Nat} (hkc : kc + 60 ≤ 601024) (hks : ks + 700 ≤ 7293034) {Q : State → Prop} {ls : Array Slot} (hl : lv_has ls 9 [(0, .ref b), (1, .ref (gad G 0)), (2, .ref (gad G 7)), (3, .ref (gad G 19)), (4, .ref (gad G 20)), (5, .int (nI i))]) (kk : ∀ (v' : V3) (H1 : Heap) (locs1 : List Loc) (ls1 : Array Slot), IV v' g (B + 99) → Zs G s v' H1 locs1 → lv_has ls1 9 [(0, .ref b), (1, .ref (gad G 0)), (2, .ref (gad G 7)), (3, .ref (gad G 19)), (4, .ref (gad G 20)), (5, .int (nI i))] → W p l e room_1 s m #[Value.ref b] below meth c H1 locs1 (kc + 60) (ks + 700) Q (F0 m 2228 ls1 [])) : W p l e room_1 s m #[Value.ref b] below meth c H locs kc ks Q (F0 m 740 ls []) := by
  have hx := C0.1
  have hb := C0.2.1
  have hg := cx_g C0
  refine lv_aload_n hx hb dL_law_740 rfl (lv_at hl 1 rfl) ?_
  refine lv_aload_n hx hb dL_law_741 rfl (lv_at hl 0 rfl) ?_
  refine lv_iload hx hb dL_law_742 (lv_at hl 5 rfl) ?_
  refine lv_iconst (v := 1) hx hb dL_law_744 (by decide) ?_
  refine lv_iadd hx hb dL_law_745 ?_
  refine va_sld hx hb hX hbl hbA Z.2.2 (show vp_in (nI i + 1) L by rw [show (1 : Int32) = nI 1 from rfl, nI_add]; exact vp_in_nI (by omega) (by omega)) dL_law_746 ?_
  refine lv_aload_n hx hb dL_law_747 rfl (lv_at hl 0 rfl) ?_
  refine lv_iload hx hb dL_law_748 (lv_at hl 5 rfl) ?_
  refine lv_iconst (v := 2) hx hb dL_law_750 (by decide) ?_
  refine lv_iadd hx hb dL_law_751 ?_
  refine va_sld hx hb hX hbl hbA Z.2.2 (show vp_in (nI i + 2) L by rw [show (2 : Int32) = nI 2 from rfl, nI_add]; exact vp_in_nI (by omega) (by omega)) dL_law_752 ?_
  refine lv_aload_n hx hb dL_law_753 rfl (lv_at hl 0 rfl) ?_
  refine lv_iload hx hb dL_law_754 (lv_at hl 5 rfl) ?_
  refine lv_iconst (v := 3) hx hb dL_law_756 (by decide) ?_
  refine lv_iadd hx hb dL_law_757 ?_
  refine va_sld hx hb hX hbl hbA Z.2.2 (show vp_in (nI i + 3) L by rw [show (3 : Int32) = nI 3 from rfl, nI_add]; exact vp_in_nI (by omega) (by omega)) dL_law_758 ?_
  refine z_callH C0 Z hl.1 (As := [.ref (gad G 0), .int (xs (nI i + 1).toNatClampNeg), .int (xs (nI i + 2).toNatClampNeg), .int (xs (nI i + 3).toNatClampNeg)]) (rest := []) (k_L_draft l hst hg (ca_draft h hB _ _ _)) (gv_L_draft tm_3_196) ds_L_draft ⟨Nat.le_of_ble_eq_true rfl, Nat.le_of_ble_eq_true rfl⟩ rfl rfl (Nat.le_of_ble_eq_true rfl) ⟨by show kc + 3 ≤ 601024; omega, by show ks + 18 ≤ 7293034; omega⟩ dL_law_759 (fun k u H locs hw Z => ?_)
  refine lv_istore (lv' := [(6, .int k), (0, .ref b), (1, .ref (gad G 0)), (2, .ref (gad G 7)), (3, .ref (gad G 19)), (4, .ref (gad G 20)), (5, .int (nI i))]) hx hb dL_law_762 hl (by decide) rfl (fun ls hl => ?_)
  rcases hw with ⟨hk, hw⟩ | ⟨hk, hw⟩
  · subst hk
    refine lv_aload_n hx hb dL_law_764 rfl (lv_at hl 3 rfl) ?_
    refine lv_aload_n hx hb dL_law_765 rfl (lv_at hl 1 rfl) ?_
    refine lv_iload hx hb dL_law_766 (lv_at hl 6 rfl) ?_
    refine lv_iconst (v := 1) hx hb dL_law_768 (by decide) ?_
    refine lv_iadd hx hb dL_law_769 ?_
    refine va_sld hx hb hX hbl hbA Z.2.2 (show vp_in (nI i + 1) L by rw [show (1 : Int32) = nI 1 from rfl, nI_add]; exact vp_in_nI (by omega) (by omega)) dL_law_770 ?_
    refine lv_aload_n hx hb dL_law_771 rfl (lv_at hl 1 rfl) ?_
    refine lv_iload hx hb dL_law_772 (lv_at hl 6 rfl) ?_
    refine lv_iconst (v := 2) hx hb dL_law_774 (by decide) ?_
    refine lv_iadd hx hb dL_law_775 ?_
    refine va_sld hx hb hX hbl hbA Z.2.2 (show vp_in (nI i + 2) L by rw [show (2 : Int32) = nI 2 from rfl, nI_add]; exact vp_in_nI (by omega) (by omega)) dL_law_776 ?_
    refine lv_aload_n hx hb dL_law_777 rfl (lv_at hl 1 rfl) ?_
    refine lv_iload hx hb dL_law_778 (lv_at hl 6 rfl) ?_
    refine lv_iconst (v := 3) hx hb dL_law_780 (by decide) ?_
    refine lv_iadd hx hb dL_law_781 ?_
    refine va_sld hx hb hX hbl hbA Z.2.2 (show vp_in (nI i + 3) L by rw [show (3 : Int32) = nI 3 from rfl, nI_add]; exact vp_in_nI (by omega) (by omega)) dL_law_782 ?_
    refine z_callVv C0 Z hl.1 (As := [.int (xs (nI i + 1).toNatClampNeg), .int (xs (nI i + 2).toNatClampNeg), .int (xs (nI i + 3).toNatClampNeg)]) (rest := []) (k_X4_draft l hg hw) (gv_X4_draft tm_6_56) rfl ds_X4_draft ⟨Nat.le_of_ble_eq_true rfl, Nat.le_of_ble_eq_true rfl⟩ (ci := 4) rfl (cx_lt C0 (by decide)) rfl rfl rfl (Nat.le_of_ble_eq_true rfl) ⟨by show kc + 3 ≤ 601024; omega, by show ks + 18 ≤ 7293034; omega⟩ dL_law_783 (fun u2 H locs hw Z => ?_)
    obtain ⟨h11, hi, i19, i20⟩ := hw
    refine lv_aload_n hx hb dL_law_786 rfl (lv_at hl 3 rfl) ?_
    refine z_callVi C0 Z hl.1 (As := []) (rest := []) (k_X4_thrown l hg (Q := fun t w => w = u2 ∧ t = u2 7 11) ⟨rfl, rfl⟩) (gv_X4_thrown tm_5_67) rfl ds_X4_thrown ⟨Nat.le_of_ble_eq_true rfl, Nat.le_of_ble_eq_true rfl⟩ (ci := 4) rfl (cx_lt C0 (by decide)) rfl rfl rfl (Nat.le_of_ble_eq_true rfl) ⟨by show kc + 3 ≤ 601024; omega, by show ks + 18 ≤ 7293034; omega⟩ dL_law_787 (fun t u3 H locs hw Z => ?_)
    obtain ⟨e3, ht⟩ := hw
    rw [e3] at Z
    refine lv_iload hx hb dL_law_790 (lv_at hl 0 rfl) ?_
    refine lv_icmp_eq (tgt := 797) hx hb dL_law_792 (by decide) (fun _ => ?_) (fun c => absurd (ht.trans h11) c)
    refine lv_goto (tgt := 2228) hx hb dL_law_797 (by decide) ?_
    refine W.widen (k := kc + 60) (n := ks + 700) (by omega) (by omega) ?_
    exact kk _ _ _ _ hi Z (lv_sub hl [1, 2, 3, 4, 5, 6] rfl)
  · refine lv_aload_n hx hb dL_law_764 rfl (lv_at hl 3 rfl) ?_
    refine lv_aload_n hx hb dL_law_765 rfl (lv_at hl 1 rfl) ?_
    refine lv_iload hx hb dL_law_766 (lv_at hl 6 rfl) ?_
    refine lv_iconst (v := 1) hx hb dL_law_768 (by decide) ?_
    refine lv_iadd hx hb dL_law_769 ?_
    refine va_sld hx hb hX hbl hbA Z.2.2 (show vp_in (nI i + 1) L by rw [show (1 : Int32) = nI 1 from rfl, nI_add]; exact vp_in_nI (by omega) (by omega)) dL_law_770 ?_
    refine lv_aload_n hx hb dL_law_771 rfl (lv_at hl 1 rfl) ?_
    refine lv_iload hx hb dL_law_772 (lv_at hl 6 rfl) ?_
    refine lv_iconst (v := 2) hx hb dL_law_774 (by decide) ?_
    refine lv_iadd hx hb dL_law_775 ?_
    refine va_sld hx hb hX hbl hbA Z.2.2 (show vp_in (nI i + 2) L by rw [show (2 : Int32) = nI 2 from rfl, nI_add]; exact vp_in_nI (by omega) (by omega)) dL_law_776 ?_
    refine lv_aload_n hx hb dL_law_777 rfl (lv_at hl 1 rfl) ?_
    refine lv_iload hx hb dL_law_778 (lv_at hl 6 rfl) ?_
    refine lv_iconst (v := 3) hx hb dL_law_780 (by decide) ?_
    refine lv_iadd hx hb dL_law_781 ?_
    refine va_sld hx hb hX hbl hbA Z.2.2 (show vp_in (nI i + 3) L by rw [show (3 : Int32) = nI 3 from rfl, nI_add]; exact vp_in_nI (by omega) (by omega)) dL_law_782 ?_
    refine z_callVv C0 Z hl.1 (As := [.int (xs (nI i + 1).toNatClampNeg), .int (xs (nI i + 2).toNatClampNeg), .int (xs (nI i + 3).toNatClampNeg)]) (rest := []) (k_X4_draft l hg hw) (gv_X4_draft tm_6_56) rfl ds_X4_draft ⟨Nat.le_of_ble_eq_true rfl, Nat.le_of_ble_eq_true rfl⟩ (ci := 4) rfl (cx_lt C0 (by decide)) rfl rfl rfl (Nat.le_of_ble_eq_true rfl) ⟨by show kc + 3 ≤ 601024; omega, by show ks + 18 ≤ 7293034; omega⟩ dL_law_783 (fun u2 H locs hw Z => ?_)
    obtain ⟨h11, hi, i19, i20⟩ := hw
    refine lv_aload_n hx hb dL_law_786 rfl (lv_at hl 3 rfl) ?_
    refine z_callVi C0 Z hl.1 (As := []) (rest := []) (k_X4_thrown l hg (Q := fun t w => w = u2 ∧ t = u2 7 11) ⟨rfl, rfl⟩) (gv_X4_thrown tm_5_67) rfl ds_X4_thrown ⟨Nat.le_of_ble_eq_true rfl, Nat.le_of_ble_eq_true rfl⟩ (ci := 4) rfl (cx_lt C0 (by decide)) rfl rfl rfl (Nat.le_of_ble_eq_true rfl) ⟨by show kc + 3 ≤ 601024; omega, by show ks + 18 ≤ 7293034; omega⟩ dL_law_787 (fun t u3 H locs hw Z => ?_)
    obtain ⟨e3, ht⟩ := hw
    rw [e3] at Z
    refine lv_iload hx hb dL_law_790 (lv_at hl 0 rfl) ?_
    refine lv_icmp_eq (tgt := 797) hx hb dL_law_792 (by decide) (fun _ => ?_) (fun c => absurd (ht.trans h11) c)
    refine lv_goto (tgt := 2228) hx hb dL_law_797 (by decide) ?_
    refine W.widen (k := kc + 60) (n := ks + 700) (by omega) (by omega) ?_
    exact kk _ _ _ _ hi Z (lv_sub hl [1, 2, 3, 4, 5, 6] rfl)
set_option maxRecDepth 100000 in
set_option maxHeartbeats 4000000 in
theorem lc_book {p : Program} (l : Launch) (hst : l.stackTraces = false) {e : Env} {s : State} {m : MethodId} {below : List Frame} {meth : Method} {c : Code} {G : zG} {b L : Nat} {xs : Nat → Int32} (C0 : Cx G RL cL_law 9 (some .boolean) p s m #[Value.ref b] meth c) {v : V3} {H : Heap} {locs : List Loc} (Z : Zs G s v H locs) (hX : va_X b L xs s s.heap) (hbl : b < s.heap.size) (hbA : ¬ zA G b) {i : Nat} (hiL : i + 5 ≤ L) (hL : L ≤ 2560) {g : Nat} {B : Int} (h : IV v g B) (hB : B + 99 ≤ 900000) {kc ks : Nat} (hkc : kc + 60 ≤ 601024) (hks : ks + 700 ≤ 7293034) {Q : State → Prop} {ls : Array Slot} (hl : lv_has ls 9 [(0, .ref b), (1, .ref (gad G 0)), (2, .ref (gad G 7)), (3, .ref (gad G 19)), (4, .ref (gad G 20)), (5, .int (nI i))]) (kk : ∀ (v' : V3) (H1 : Heap) (locs1 : List Loc) (ls1 : Array Slot), IV v' g (B + 99) → Zs G s v' H1 locs1 → lv_has ls1 9 [(0, .ref b), (1, .ref (gad G 0)), (2, .ref (gad G 7)), (3, .ref (gad G 19)), (4, .ref (gad G 20)), (5, .int (nI i))] → W p l e room_1 s m #[Value.ref b] below meth c H1 locs1 (kc + 60) (ks + 700) Q (F0 m 2228 ls1 [])) : W p l e room_1 s m #[Value.ref b] below meth c H locs kc ks Q (F0 m 800 ls []) := by
  have hx := C0.1
  have hb := C0.2.1
  have hg := cx_g C0
  refine lv_aload_n hx hb dL_law_800 rfl (lv_at hl 1 rfl) ?_
  refine lv_aload_n hx hb dL_law_801 rfl (lv_at hl 0 rfl) ?_
  refine lv_iload hx hb dL_law_802 (lv_at hl 5 rfl) ?_
  refine lv_iconst (v := 1) hx hb dL_law_804 (by decide) ?_
  refine lv_iadd hx hb dL_law_805 ?_
  refine va_sld hx hb hX hbl hbA Z.2.2 (show vp_in (nI i + 1) L by rw [show (1 : Int32) = nI 1 from rfl, nI_add]; exact vp_in_nI (by omega) (by omega)) dL_law_806 ?_
  refine lv_aload_n hx hb dL_law_807 rfl (lv_at hl 0 rfl) ?_
  refine lv_iload hx hb dL_law_808 (lv_at hl 5 rfl) ?_
  refine lv_iconst (v := 2) hx hb dL_law_810 (by decide) ?_
  refine lv_iadd hx hb dL_law_811 ?_
  refine va_sld hx hb hX hbl hbA Z.2.2 (show vp_in (nI i + 2) L by rw [show (2 : Int32) = nI 2 from rfl, nI_add]; exact vp_in_nI (by omega) (by omega)) dL_law_812 ?_
  refine lv_aload_n hx hb dL_law_813 rfl (lv_at hl 0 rfl) ?_
  refine lv_iload hx hb dL_law_814 (lv_at hl 5 rfl) ?_
  refine lv_iconst (v := 3) hx hb dL_law_816 (by decide) ?_
  refine lv_iadd hx hb dL_law_817 ?_
  refine va_sld hx hb hX hbl hbA Z.2.2 (show vp_in (nI i + 3) L by rw [show (3 : Int32) = nI 3 from rfl, nI_add]; exact vp_in_nI (by omega) (by omega)) dL_law_818 ?_
  refine lv_aload_n hx hb dL_law_819 rfl (lv_at hl 0 rfl) ?_
  refine lv_iload hx hb dL_law_820 (lv_at hl 5 rfl) ?_
  refine lv_iconst (v := 4) hx hb dL_law_822 (by decide) ?_
  refine lv_iadd hx hb dL_law_823 ?_
  refine va_sld hx hb hX hbl hbA Z.2.2 (show vp_in (nI i + 4) L by rw [show (4 : Int32) = nI 4 from rfl, nI_add]; exact vp_in_nI (by omega) (by omega)) dL_law_824 ?_
  refine lv_aload_n hx hb dL_law_825 rfl (lv_at hl 3 rfl) ?_
  refine z_callH C0 Z hl.1 (As := [.ref (gad G 0), .int (xs (nI i + 1).toNatClampNeg), .int (xs (nI i + 2).toNatClampNeg), .int (xs (nI i + 3).toNatClampNeg), .int (xs (nI i + 4).toNatClampNeg), .ref (gad G 19)]) (rest := []) (k_L_book l hst hg (ca_book h hB _ _ _ _)) (gv_L_book tm_3_214) ds_L_book ⟨Nat.le_of_ble_eq_true rfl, Nat.le_of_ble_eq_true rfl⟩ rfl rfl (Nat.le_of_ble_eq_true rfl) ⟨by show kc + 5 ≤ 601024; omega, by show ks + 30 ≤ 7293034; omega⟩ dL_law_826 (fun k u H locs hw Z => ?_)
  refine lv_istore (lv' := [(6, .int k), (0, .ref b), (1, .ref (gad G 0)), (2, .ref (gad G 7)), (3, .ref (gad G 19)), (4, .ref (gad G 20)), (5, .int (nI i))]) hx hb dL_law_829 hl (by decide) rfl (fun ls hl => ?_)
  rcases hw with ⟨hk, r, e19, hw⟩ | ⟨hk, hw⟩
  · subst hk
    refine lv_aload_n hx hb dL_law_831 rfl (lv_at hl 3 rfl) ?_
    refine lv_aload_n hx hb dL_law_832 rfl (lv_at hl 1 rfl) ?_
    refine lv_iload hx hb dL_law_833 (lv_at hl 6 rfl) ?_
    refine lv_iconst (v := 1) hx hb dL_law_835 (by decide) ?_
    refine lv_iadd hx hb dL_law_836 ?_
    refine va_sld hx hb hX hbl hbA Z.2.2 (show vp_in (nI i + 1) L by rw [show (1 : Int32) = nI 1 from rfl, nI_add]; exact vp_in_nI (by omega) (by omega)) dL_law_837 ?_
    refine lv_aload_n hx hb dL_law_838 rfl (lv_at hl 1 rfl) ?_
    refine lv_iload hx hb dL_law_839 (lv_at hl 6 rfl) ?_
    refine lv_iconst (v := 2) hx hb dL_law_841 (by decide) ?_
    refine lv_iadd hx hb dL_law_842 ?_
    refine va_sld hx hb hX hbl hbA Z.2.2 (show vp_in (nI i + 2) L by rw [show (2 : Int32) = nI 2 from rfl, nI_add]; exact vp_in_nI (by omega) (by omega)) dL_law_843 ?_
    refine lv_aload_n hx hb dL_law_844 rfl (lv_at hl 1 rfl) ?_
    refine lv_iload hx hb dL_law_845 (lv_at hl 6 rfl) ?_
    refine lv_iconst (v := 3) hx hb dL_law_847 (by decide) ?_
    refine lv_iadd hx hb dL_law_848 ?_
    refine va_sld hx hb hX hbl hbA Z.2.2 (show vp_in (nI i + 3) L by rw [show (3 : Int32) = nI 3 from rfl, nI_add]; exact vp_in_nI (by omega) (by omega)) dL_law_849 ?_
    refine lv_aload_n hx hb dL_law_850 rfl (lv_at hl 1 rfl) ?_
    refine lv_iload hx hb dL_law_851 (lv_at hl 6 rfl) ?_
    refine lv_iconst (v := 4) hx hb dL_law_853 (by decide) ?_
    refine lv_iadd hx hb dL_law_854 ?_
    refine va_sld hx hb hX hbl hbA Z.2.2 (show vp_in (nI i + 4) L by rw [show (4 : Int32) = nI 4 from rfl, nI_add]; exact vp_in_nI (by omega) (by omega)) dL_law_855 ?_
    refine z_callVi C0 Z hl.1 (As := [.int (xs (nI i + 1).toNatClampNeg), .int (xs (nI i + 2).toNatClampNeg), .int (xs (nI i + 3).toNatClampNeg), .int (xs (nI i + 4).toNatClampNeg)]) (rest := []) (k_X4_book l hg hw) (gv_X4_book tm_6_65) rfl ds_X4_book ⟨Nat.le_of_ble_eq_true rfl, Nat.le_of_ble_eq_true rfl⟩ (ci := 4) rfl (cx_lt C0 (by decide)) rfl rfl rfl (Nat.le_of_ble_eq_true rfl) ⟨by show kc + 5 ≤ 601024; omega, by show ks + 30 ≤ 7293034; omega⟩ dL_law_856 (fun b2 u2 H locs hw Z => ?_)
    refine lv_istore (lv' := [(7, .int b2), (6, .int 0), (0, .ref b), (1, .ref (gad G 0)), (2, .ref (gad G 7)), (3, .ref (gad G 19)), (4, .ref (gad G 20)), (5, .int (nI i))]) hx hb dL_law_859 hl (by decide) rfl (fun ls hl => ?_)
    obtain ⟨h11, hbr, hi, i19, i20⟩ := hw
    refine lv_aload_n hx hb dL_law_861 rfl (lv_at hl 4 rfl) ?_
    refine z_callVi C0 Z hl.1 (As := []) (rest := []) (k_X4_thrown l hg (Q := fun t w => w = u2 ∧ t = u2 7 11) ⟨rfl, rfl⟩) (gv_X4_thrown tm_5_67) rfl ds_X4_thrown ⟨Nat.le_of_ble_eq_true rfl, Nat.le_of_ble_eq_true rfl⟩ (ci := 4) rfl (cx_lt C0 (by decide)) rfl rfl rfl (Nat.le_of_ble_eq_true rfl) ⟨by show kc + 5 ≤ 601024; omega, by show ks + 30 ≤ 7293034; omega⟩ dL_law_862 (fun t u3 H locs hw Z => ?_)
    obtain ⟨e3, ht⟩ := hw
    rw [e3] at Z
    refine lv_iload hx hb dL_law_865 (lv_at hl 1 rfl) ?_
    refine lv_icmp_eq (tgt := 872) hx hb dL_law_867 (by decide) (fun _ => ?_) (fun c => absurd (ht.trans h11) c)
    refine lv_iload hx hb dL_law_872 (lv_at hl 1 rfl) ?_
    refine lv_if_ne (tgt := 889) hx hb dL_law_874 (by decide) (fun c => absurd rfl c) (fun _ => ?_)
    refine lv_aload_n hx hb dL_law_877 rfl (lv_at hl 5 rfl) ?_
    refine lv_iconst (v := 0) hx hb dL_law_878 (by decide) ?_
    refine z_lald C0 Z dL_law_879 ?_
    refine lv_iload hx hb dL_law_880 (lv_at hl 0 rfl) ?_
    refine lv_i2l (v := b2.toInt64) hx hb dL_law_882 rfl ?_
    refine W.lcmp hx hb dL_law_883 ?_
    refine lv_if_eq (tgt := 889) hx hb dL_law_884 (by decide) (fun _ => ?_) (fun c => absurd ((lg_cmp_eq _ _).mpr (by rw [i19, e19, hbr])) c)
    refine lv_goto (tgt := 2228) hx hb dL_law_889 (by decide) ?_
    refine W.widen (k := kc + 60) (n := ks + 700) (by omega) (by omega) ?_
    exact kk _ _ _ _ hi Z (lv_sub hl [2, 3, 4, 5, 6, 7] rfl)
  · refine lv_aload_n hx hb dL_law_831 rfl (lv_at hl 3 rfl) ?_
    refine lv_aload_n hx hb dL_law_832 rfl (lv_at hl 1 rfl) ?_
    refine lv_iload hx hb dL_law_833 (lv_at hl 6 rfl) ?_
    refine lv_iconst (v := 1) hx hb dL_law_835 (by decide) ?_
    refine lv_iadd hx hb dL_law_836 ?_
    refine va_sld hx hb hX hbl hbA Z.2.2 (show vp_in (nI i + 1) L by rw [show (1 : Int32) = nI 1 from rfl, nI_add]; exact vp_in_nI (by omega) (by omega)) dL_law_837 ?_
    refine lv_aload_n hx hb dL_law_838 rfl (lv_at hl 1 rfl) ?_
    refine lv_iload hx hb dL_law_839 (lv_at hl 6 rfl) ?_
    refine lv_iconst (v := 2) hx hb dL_law_841 (by decide) ?_
    refine lv_iadd hx hb dL_law_842 ?_
    refine va_sld hx hb hX hbl hbA Z.2.2 (show vp_in (nI i + 2) L by rw [show (2 : Int32) = nI 2 from rfl, nI_add]; exact vp_in_nI (by omega) (by omega)) dL_law_843 ?_
    refine lv_aload_n hx hb dL_law_844 rfl (lv_at hl 1 rfl) ?_
    refine lv_iload hx hb dL_law_845 (lv_at hl 6 rfl) ?_
    refine lv_iconst (v := 3) hx hb dL_law_847 (by decide) ?_
    refine lv_iadd hx hb dL_law_848 ?_
    refine va_sld hx hb hX hbl hbA Z.2.2 (show vp_in (nI i + 3) L by rw [show (3 : Int32) = nI 3 from rfl, nI_add]; exact vp_in_nI (by omega) (by omega)) dL_law_849 ?_
    refine lv_aload_n hx hb dL_law_850 rfl (lv_at hl 1 rfl) ?_
    refine lv_iload hx hb dL_law_851 (lv_at hl 6 rfl) ?_
    refine lv_iconst (v := 4) hx hb dL_law_853 (by decide) ?_
    refine lv_iadd hx hb dL_law_854 ?_
    refine va_sld hx hb hX hbl hbA Z.2.2 (show vp_in (nI i + 4) L by rw [show (4 : Int32) = nI 4 from rfl, nI_add]; exact vp_in_nI (by omega) (by omega)) dL_law_855 ?_
    refine z_callVi C0 Z hl.1 (As := [.int (xs (nI i + 1).toNatClampNeg), .int (xs (nI i + 2).toNatClampNeg), .int (xs (nI i + 3).toNatClampNeg), .int (xs (nI i + 4).toNatClampNeg)]) (rest := []) (k_X4_book l hg hw) (gv_X4_book tm_6_65) rfl ds_X4_book ⟨Nat.le_of_ble_eq_true rfl, Nat.le_of_ble_eq_true rfl⟩ (ci := 4) rfl (cx_lt C0 (by decide)) rfl rfl rfl (Nat.le_of_ble_eq_true rfl) ⟨by show kc + 5 ≤ 601024; omega, by show ks + 30 ≤ 7293034; omega⟩ dL_law_856 (fun b2 u2 H locs hw Z => ?_)
    refine lv_istore (lv' := [(7, .int b2), (6, .int k), (0, .ref b), (1, .ref (gad G 0)), (2, .ref (gad G 7)), (3, .ref (gad G 19)), (4, .ref (gad G 20)), (5, .int (nI i))]) hx hb dL_law_859 hl (by decide) rfl (fun ls hl => ?_)
    obtain ⟨h11, hi, i19, i20⟩ := hw
    refine lv_aload_n hx hb dL_law_861 rfl (lv_at hl 4 rfl) ?_
    refine z_callVi C0 Z hl.1 (As := []) (rest := []) (k_X4_thrown l hg (Q := fun t w => w = u2 ∧ t = u2 7 11) ⟨rfl, rfl⟩) (gv_X4_thrown tm_5_67) rfl ds_X4_thrown ⟨Nat.le_of_ble_eq_true rfl, Nat.le_of_ble_eq_true rfl⟩ (ci := 4) rfl (cx_lt C0 (by decide)) rfl rfl rfl (Nat.le_of_ble_eq_true rfl) ⟨by show kc + 5 ≤ 601024; omega, by show ks + 30 ≤ 7293034; omega⟩ dL_law_862 (fun t u3 H locs hw Z => ?_)
    obtain ⟨e3, ht⟩ := hw
    rw [e3] at Z
    refine lv_iload hx hb dL_law_865 (lv_at hl 1 rfl) ?_
    refine lv_icmp_eq (tgt := 872) hx hb dL_law_867 (by decide) (fun _ => ?_) (fun c => absurd (ht.trans h11) c)
    refine lv_iload hx hb dL_law_872 (lv_at hl 1 rfl) ?_
    refine lv_if_ne (tgt := 889) hx hb dL_law_874 (by decide) (fun _ => ?_) (fun c => absurd c hk)
    refine lv_goto (tgt := 2228) hx hb dL_law_889 (by decide) ?_
    refine W.widen (k := kc + 60) (n := ks + 700) (by omega) (by omega) ?_
    exact kk _ _ _ _ hi Z (lv_sub hl [2, 3, 4, 5, 6, 7] rfl)
set_option maxRecDepth 100000 in
set_option maxHeartbeats 4000000 in
theorem lc_booking {p : Program} (l : Launch) (hst : l.stackTraces = false) {e : Env} {s : State} {m : MethodId} {below : List Frame} {meth : Method} {c : Code} {G : zG} {b L : Nat} {xs : Nat → Int32} (C0 : Cx G RL cL_law 9 (some .boolean) p s m #[Value.ref b] meth c) {v : V3} {H : Heap} {locs : List Loc} (Z : Zs G s v H locs) (hX : va_X b L xs s s.heap) (hbl : b < s.heap.size) (hbA : ¬ zA G b) {i : Nat} (hiL : i + 5 ≤ L) (hL : L ≤ 2560) {g : Nat} {B : Int} (h : IV v g B) (hB : B + 99 ≤ 900000) {kc ks : Nat} (hkc : kc + 60 ≤ 601024) (hks : ks + 700 ≤ 7293034) {Q : State → Prop} {ls : Array Slot} (hl : lv_has ls 9 [(0, .ref b), (1, .ref (gad G 0)), (2, .ref (gad G 7)), (3, .ref (gad G 19)), (4, .ref (gad G 20)), (5, .int (nI i))]) (kk : ∀ (v' : V3) (H1 : Heap) (locs1 : List Loc) (ls1 : Array Slot), IV v' g (B + 99) → Zs G s v' H1 locs1 → lv_has ls1 9 [(0, .ref b), (1, .ref (gad G 0)), (2, .ref (gad G 7)), (3, .ref (gad G 19)), (4, .ref (gad G 20)), (5, .int (nI i))] → W p l e room_1 s m #[Value.ref b] below meth c H1 locs1 (kc + 60) (ks + 700) Q (F0 m 2228 ls1 [])) : W p l e room_1 s m #[Value.ref b] below meth c H locs kc ks Q (F0 m 892 ls []) := by
  have hx := C0.1
  have hb := C0.2.1
  have hg := cx_g C0
  refine lv_aload_n hx hb dL_law_892 rfl (lv_at hl 1 rfl) ?_
  refine lv_aload_n hx hb dL_law_893 rfl (lv_at hl 0 rfl) ?_
  refine lv_iload hx hb dL_law_894 (lv_at hl 5 rfl) ?_
  refine lv_iconst (v := 1) hx hb dL_law_896 (by decide) ?_
  refine lv_iadd hx hb dL_law_897 ?_
  refine va_sld hx hb hX hbl hbA Z.2.2 (show vp_in (nI i + 1) L by rw [show (1 : Int32) = nI 1 from rfl, nI_add]; exact vp_in_nI (by omega) (by omega)) dL_law_898 ?_
  refine lv_aload_n hx hb dL_law_899 rfl (lv_at hl 0 rfl) ?_
  refine lv_iload hx hb dL_law_900 (lv_at hl 5 rfl) ?_
  refine lv_iconst (v := 2) hx hb dL_law_902 (by decide) ?_
  refine lv_iadd hx hb dL_law_903 ?_
  refine va_sld hx hb hX hbl hbA Z.2.2 (show vp_in (nI i + 2) L by rw [show (2 : Int32) = nI 2 from rfl, nI_add]; exact vp_in_nI (by omega) (by omega)) dL_law_904 ?_
  refine lv_aload_n hx hb dL_law_905 rfl (lv_at hl 3 rfl) ?_
  refine z_callH C0 Z hl.1 (As := [.ref (gad G 0), .int (xs (nI i + 1).toNatClampNeg), .int (xs (nI i + 2).toNatClampNeg), .ref (gad G 19)]) (rest := []) (k_L_booking l hst hg (ca_booking h hB _ _)) (gv_L_booking tm_3_226) ds_L_booking ⟨Nat.le_of_ble_eq_true rfl, Nat.le_of_ble_eq_true rfl⟩ rfl rfl (Nat.le_of_ble_eq_true rfl) ⟨by show kc + 2 ≤ 601024; omega, by show ks + 12 ≤ 7293034; omega⟩ dL_law_906 (fun k u H locs hw Z => ?_)
  refine lv_istore (lv' := [(6, .int k), (0, .ref b), (1, .ref (gad G 0)), (2, .ref (gad G 7)), (3, .ref (gad G 19)), (4, .ref (gad G 20)), (5, .int (nI i))]) hx hb dL_law_909 hl (by decide) rfl (fun ls hl => ?_)
  rcases hw with ⟨hk, r, e19, hw⟩ | ⟨hk, hw⟩
  · subst hk
    refine lv_aload_n hx hb dL_law_911 rfl (lv_at hl 3 rfl) ?_
    refine lv_aload_n hx hb dL_law_912 rfl (lv_at hl 1 rfl) ?_
    refine lv_iload hx hb dL_law_913 (lv_at hl 6 rfl) ?_
    refine lv_iconst (v := 1) hx hb dL_law_915 (by decide) ?_
    refine lv_iadd hx hb dL_law_916 ?_
    refine va_sld hx hb hX hbl hbA Z.2.2 (show vp_in (nI i + 1) L by rw [show (1 : Int32) = nI 1 from rfl, nI_add]; exact vp_in_nI (by omega) (by omega)) dL_law_917 ?_
    refine lv_aload_n hx hb dL_law_918 rfl (lv_at hl 1 rfl) ?_
    refine lv_iload hx hb dL_law_919 (lv_at hl 6 rfl) ?_
    refine lv_iconst (v := 2) hx hb dL_law_921 (by decide) ?_
    refine lv_iadd hx hb dL_law_922 ?_
    refine va_sld hx hb hX hbl hbA Z.2.2 (show vp_in (nI i + 2) L by rw [show (2 : Int32) = nI 2 from rfl, nI_add]; exact vp_in_nI (by omega) (by omega)) dL_law_923 ?_
    refine z_callVi C0 Z hl.1 (As := [.int (xs (nI i + 1).toNatClampNeg), .int (xs (nI i + 2).toNatClampNeg)]) (rest := []) (k_X4_booking l hg hw) (gv_X4_booking tm_6_71) rfl ds_X4_booking ⟨Nat.le_of_ble_eq_true rfl, Nat.le_of_ble_eq_true rfl⟩ (ci := 4) rfl (cx_lt C0 (by decide)) rfl rfl rfl (Nat.le_of_ble_eq_true rfl) ⟨by show kc + 2 ≤ 601024; omega, by show ks + 12 ≤ 7293034; omega⟩ dL_law_924 (fun b2 u2 H locs hw Z => ?_)
    refine lv_istore (lv' := [(7, .int b2), (6, .int 0), (0, .ref b), (1, .ref (gad G 0)), (2, .ref (gad G 7)), (3, .ref (gad G 19)), (4, .ref (gad G 20)), (5, .int (nI i))]) hx hb dL_law_927 hl (by decide) rfl (fun ls hl => ?_)
    obtain ⟨h11, hbr, hi, i19, i20⟩ := hw
    refine lv_aload_n hx hb dL_law_929 rfl (lv_at hl 4 rfl) ?_
    refine z_callVi C0 Z hl.1 (As := []) (rest := []) (k_X4_thrown l hg (Q := fun t w => w = u2 ∧ t = u2 7 11) ⟨rfl, rfl⟩) (gv_X4_thrown tm_5_67) rfl ds_X4_thrown ⟨Nat.le_of_ble_eq_true rfl, Nat.le_of_ble_eq_true rfl⟩ (ci := 4) rfl (cx_lt C0 (by decide)) rfl rfl rfl (Nat.le_of_ble_eq_true rfl) ⟨by show kc + 2 ≤ 601024; omega, by show ks + 12 ≤ 7293034; omega⟩ dL_law_930 (fun t u3 H locs hw Z => ?_)
    obtain ⟨e3, ht⟩ := hw
    rw [e3] at Z
    refine lv_iload hx hb dL_law_933 (lv_at hl 1 rfl) ?_
    refine lv_icmp_eq (tgt := 940) hx hb dL_law_935 (by decide) (fun _ => ?_) (fun c => absurd (ht.trans h11) c)
    refine lv_iload hx hb dL_law_940 (lv_at hl 1 rfl) ?_
    refine lv_if_ne (tgt := 957) hx hb dL_law_942 (by decide) (fun c => absurd rfl c) (fun _ => ?_)
    refine lv_aload_n hx hb dL_law_945 rfl (lv_at hl 5 rfl) ?_
    refine lv_iconst (v := 0) hx hb dL_law_946 (by decide) ?_
    refine z_lald C0 Z dL_law_947 ?_
    refine lv_iload hx hb dL_law_948 (lv_at hl 0 rfl) ?_
    refine lv_i2l (v := b2.toInt64) hx hb dL_law_950 rfl ?_
    refine W.lcmp hx hb dL_law_951 ?_
    refine lv_if_eq (tgt := 957) hx hb dL_law_952 (by decide) (fun _ => ?_) (fun c => absurd ((lg_cmp_eq _ _).mpr (by rw [i19, e19, hbr])) c)
    refine lv_goto (tgt := 2228) hx hb dL_law_957 (by decide) ?_
    refine W.widen (k := kc + 60) (n := ks + 700) (by omega) (by omega) ?_
    exact kk _ _ _ _ hi Z (lv_sub hl [2, 3, 4, 5, 6, 7] rfl)
  · refine lv_aload_n hx hb dL_law_911 rfl (lv_at hl 3 rfl) ?_
    refine lv_aload_n hx hb dL_law_912 rfl (lv_at hl 1 rfl) ?_
    refine lv_iload hx hb dL_law_913 (lv_at hl 6 rfl) ?_
    refine lv_iconst (v := 1) hx hb dL_law_915 (by decide) ?_
    refine lv_iadd hx hb dL_law_916 ?_
    refine va_sld hx hb hX hbl hbA Z.2.2 (show vp_in (nI i + 1) L by rw [show (1 : Int32) = nI 1 from rfl, nI_add]; exact vp_in_nI (by omega) (by omega)) dL_law_917 ?_
    refine lv_aload_n hx hb dL_law_918 rfl (lv_at hl 1 rfl) ?_
    refine lv_iload hx hb dL_law_919 (lv_at hl 6 rfl) ?_
    refine lv_iconst (v := 2) hx hb dL_law_921 (by decide) ?_
    refine lv_iadd hx hb dL_law_922 ?_
    refine va_sld hx hb hX hbl hbA Z.2.2 (show vp_in (nI i + 2) L by rw [show (2 : Int32) = nI 2 from rfl, nI_add]; exact vp_in_nI (by omega) (by omega)) dL_law_923 ?_
    refine z_callVi C0 Z hl.1 (As := [.int (xs (nI i + 1).toNatClampNeg), .int (xs (nI i + 2).toNatClampNeg)]) (rest := []) (k_X4_booking l hg hw) (gv_X4_booking tm_6_71) rfl ds_X4_booking ⟨Nat.le_of_ble_eq_true rfl, Nat.le_of_ble_eq_true rfl⟩ (ci := 4) rfl (cx_lt C0 (by decide)) rfl rfl rfl (Nat.le_of_ble_eq_true rfl) ⟨by show kc + 2 ≤ 601024; omega, by show ks + 12 ≤ 7293034; omega⟩ dL_law_924 (fun b2 u2 H locs hw Z => ?_)
    refine lv_istore (lv' := [(7, .int b2), (6, .int k), (0, .ref b), (1, .ref (gad G 0)), (2, .ref (gad G 7)), (3, .ref (gad G 19)), (4, .ref (gad G 20)), (5, .int (nI i))]) hx hb dL_law_927 hl (by decide) rfl (fun ls hl => ?_)
    obtain ⟨h11, hi, i19, i20⟩ := hw
    refine lv_aload_n hx hb dL_law_929 rfl (lv_at hl 4 rfl) ?_
    refine z_callVi C0 Z hl.1 (As := []) (rest := []) (k_X4_thrown l hg (Q := fun t w => w = u2 ∧ t = u2 7 11) ⟨rfl, rfl⟩) (gv_X4_thrown tm_5_67) rfl ds_X4_thrown ⟨Nat.le_of_ble_eq_true rfl, Nat.le_of_ble_eq_true rfl⟩ (ci := 4) rfl (cx_lt C0 (by decide)) rfl rfl rfl (Nat.le_of_ble_eq_true rfl) ⟨by show kc + 2 ≤ 601024; omega, by show ks + 12 ≤ 7293034; omega⟩ dL_law_930 (fun t u3 H locs hw Z => ?_)
    obtain ⟨e3, ht⟩ := hw
    rw [e3] at Z
    refine lv_iload hx hb dL_law_933 (lv_at hl 1 rfl) ?_
    refine lv_icmp_eq (tgt := 940) hx hb dL_law_935 (by decide) (fun _ => ?_) (fun c => absurd (ht.trans h11) c)
    refine lv_iload hx hb dL_law_940 (lv_at hl 1 rfl) ?_
    refine lv_if_ne (tgt := 957) hx hb dL_law_942 (by decide) (fun _ => ?_) (fun c => absurd c hk)
    refine lv_goto (tgt := 2228) hx hb dL_law_957 (by decide) ?_
    refine W.widen (k := kc + 60) (n := ks + 700) (by omega) (by omega) ?_
    exact kk _ _ _ _ hi Z (lv_sub hl [2, 3, 4, 5, 6, 7] rfl)
set_option maxRecDepth 100000 in
set_option maxHeartbeats 4000000 in
theorem lc_waiter {p : Program} (l : Launch) (hst : l.stackTraces = false) {e : Env} {s : State} {m : MethodId} {below : List Frame} {meth : Method} {c : Code} {G : zG} {b L : Nat} {xs : Nat → Int32} (C0 : Cx G RL cL_law 9 (some .boolean) p s m #[Value.ref b] meth c) {v : V3} {H : Heap} {locs : List Loc} (Z : Zs G s v H locs) (hX : va_X b L xs s s.heap) (hbl : b < s.heap.size) (hbA : ¬ zA G b) {i : Nat} (hiL : i + 5 ≤ L) (hL : L ≤ 2560) {g : Nat} {B : Int} (h : IV v g B) (hB : B + 99 ≤ 900000) {kc ks : Nat} (hkc : kc + 60 ≤ 601024) (hks : ks + 700 ≤ 7293034) {Q : State → Prop} {ls : Array Slot} (hl : lv_has ls 9 [(0, .ref b), (1, .ref (gad G 0)), (2, .ref (gad G 7)), (3, .ref (gad G 19)), (4, .ref (gad G 20)), (5, .int (nI i))]) (kk : ∀ (v' : V3) (H1 : Heap) (locs1 : List Loc) (ls1 : Array Slot), IV v' g (B + 99) → Zs G s v' H1 locs1 → lv_has ls1 9 [(0, .ref b), (1, .ref (gad G 0)), (2, .ref (gad G 7)), (3, .ref (gad G 19)), (4, .ref (gad G 20)), (5, .int (nI i))] → W p l e room_1 s m #[Value.ref b] below meth c H1 locs1 (kc + 60) (ks + 700) Q (F0 m 2228 ls1 [])) : W p l e room_1 s m #[Value.ref b] below meth c H locs kc ks Q (F0 m 960 ls []) := by
  have hx := C0.1
  have hb := C0.2.1
  have hg := cx_g C0
  refine lv_aload_n hx hb dL_law_960 rfl (lv_at hl 1 rfl) ?_
  refine lv_aload_n hx hb dL_law_961 rfl (lv_at hl 0 rfl) ?_
  refine lv_iload hx hb dL_law_962 (lv_at hl 5 rfl) ?_
  refine lv_iconst (v := 1) hx hb dL_law_964 (by decide) ?_
  refine lv_iadd hx hb dL_law_965 ?_
  refine va_sld hx hb hX hbl hbA Z.2.2 (show vp_in (nI i + 1) L by rw [show (1 : Int32) = nI 1 from rfl, nI_add]; exact vp_in_nI (by omega) (by omega)) dL_law_966 ?_
  refine lv_aload_n hx hb dL_law_967 rfl (lv_at hl 3 rfl) ?_
  refine z_callH C0 Z hl.1 (As := [.ref (gad G 0), .int (xs (nI i + 1).toNatClampNeg), .ref (gad G 19)]) (rest := []) (k_L_waiter l hst hg (ca_waiter h hB _)) (gv_L_waiter tm_4_1) ds_L_waiter ⟨Nat.le_of_ble_eq_true rfl, Nat.le_of_ble_eq_true rfl⟩ rfl rfl (Nat.le_of_ble_eq_true rfl) ⟨by show kc + 1 ≤ 601024; omega, by show ks + 6 ≤ 7293034; omega⟩ dL_law_968 (fun k u H locs hw Z => ?_)
  refine lv_istore (lv' := [(6, .int k), (0, .ref b), (1, .ref (gad G 0)), (2, .ref (gad G 7)), (3, .ref (gad G 19)), (4, .ref (gad G 20)), (5, .int (nI i))]) hx hb dL_law_971 hl (by decide) rfl (fun ls hl => ?_)
  rcases hw with ⟨hk, r, e19, hw⟩ | ⟨hk, hw⟩
  · subst hk
    refine lv_aload_n hx hb dL_law_973 rfl (lv_at hl 3 rfl) ?_
    refine lv_aload_n hx hb dL_law_974 rfl (lv_at hl 1 rfl) ?_
    refine lv_iload hx hb dL_law_975 (lv_at hl 6 rfl) ?_
    refine lv_iconst (v := 1) hx hb dL_law_977 (by decide) ?_
    refine lv_iadd hx hb dL_law_978 ?_
    refine va_sld hx hb hX hbl hbA Z.2.2 (show vp_in (nI i + 1) L by rw [show (1 : Int32) = nI 1 from rfl, nI_add]; exact vp_in_nI (by omega) (by omega)) dL_law_979 ?_
    refine z_callVi C0 Z hl.1 (As := [.int (xs (nI i + 1).toNatClampNeg)]) (rest := []) (k_X4_waiter l hg hw) (gv_X4_waiter tm_6_79) rfl ds_X4_waiter ⟨Nat.le_of_ble_eq_true rfl, Nat.le_of_ble_eq_true rfl⟩ (ci := 4) rfl (cx_lt C0 (by decide)) rfl rfl rfl (Nat.le_of_ble_eq_true rfl) ⟨by show kc + 1 ≤ 601024; omega, by show ks + 6 ≤ 7293034; omega⟩ dL_law_980 (fun b2 u2 H locs hw Z => ?_)
    refine lv_istore (lv' := [(7, .int b2), (6, .int 0), (0, .ref b), (1, .ref (gad G 0)), (2, .ref (gad G 7)), (3, .ref (gad G 19)), (4, .ref (gad G 20)), (5, .int (nI i))]) hx hb dL_law_983 hl (by decide) rfl (fun ls hl => ?_)
    obtain ⟨h11, hbr, hi, i19, i20⟩ := hw
    refine lv_aload_n hx hb dL_law_985 rfl (lv_at hl 4 rfl) ?_
    refine z_callVi C0 Z hl.1 (As := []) (rest := []) (k_X4_thrown l hg (Q := fun t w => w = u2 ∧ t = u2 7 11) ⟨rfl, rfl⟩) (gv_X4_thrown tm_5_67) rfl ds_X4_thrown ⟨Nat.le_of_ble_eq_true rfl, Nat.le_of_ble_eq_true rfl⟩ (ci := 4) rfl (cx_lt C0 (by decide)) rfl rfl rfl (Nat.le_of_ble_eq_true rfl) ⟨by show kc + 1 ≤ 601024; omega, by show ks + 6 ≤ 7293034; omega⟩ dL_law_986 (fun t u3 H locs hw Z => ?_)
    obtain ⟨e3, ht⟩ := hw
    rw [e3] at Z
    refine lv_iload hx hb dL_law_989 (lv_at hl 1 rfl) ?_
    refine lv_icmp_eq (tgt := 996) hx hb dL_law_991 (by decide) (fun _ => ?_) (fun c => absurd (ht.trans h11) c)
    refine lv_iload hx hb dL_law_996 (lv_at hl 1 rfl) ?_
    refine lv_if_ne (tgt := 1013) hx hb dL_law_998 (by decide) (fun c => absurd rfl c) (fun _ => ?_)
    refine lv_aload_n hx hb dL_law_1001 rfl (lv_at hl 5 rfl) ?_
    refine lv_iconst (v := 0) hx hb dL_law_1002 (by decide) ?_
    refine z_lald C0 Z dL_law_1003 ?_
    refine lv_iload hx hb dL_law_1004 (lv_at hl 0 rfl) ?_
    refine lv_i2l (v := b2.toInt64) hx hb dL_law_1006 rfl ?_
    refine W.lcmp hx hb dL_law_1007 ?_
    refine lv_if_eq (tgt := 1013) hx hb dL_law_1008 (by decide) (fun _ => ?_) (fun c => absurd ((lg_cmp_eq _ _).mpr (by rw [i19, e19, hbr])) c)
    refine lv_goto (tgt := 2228) hx hb dL_law_1013 (by decide) ?_
    refine W.widen (k := kc + 60) (n := ks + 700) (by omega) (by omega) ?_
    exact kk _ _ _ _ hi Z (lv_sub hl [2, 3, 4, 5, 6, 7] rfl)
  · refine lv_aload_n hx hb dL_law_973 rfl (lv_at hl 3 rfl) ?_
    refine lv_aload_n hx hb dL_law_974 rfl (lv_at hl 1 rfl) ?_
    refine lv_iload hx hb dL_law_975 (lv_at hl 6 rfl) ?_
    refine lv_iconst (v := 1) hx hb dL_law_977 (by decide) ?_
    refine lv_iadd hx hb dL_law_978 ?_
    refine va_sld hx hb hX hbl hbA Z.2.2 (show vp_in (nI i + 1) L by rw [show (1 : Int32) = nI 1 from rfl, nI_add]; exact vp_in_nI (by omega) (by omega)) dL_law_979 ?_
    refine z_callVi C0 Z hl.1 (As := [.int (xs (nI i + 1).toNatClampNeg)]) (rest := []) (k_X4_waiter l hg hw) (gv_X4_waiter tm_6_79) rfl ds_X4_waiter ⟨Nat.le_of_ble_eq_true rfl, Nat.le_of_ble_eq_true rfl⟩ (ci := 4) rfl (cx_lt C0 (by decide)) rfl rfl rfl (Nat.le_of_ble_eq_true rfl) ⟨by show kc + 1 ≤ 601024; omega, by show ks + 6 ≤ 7293034; omega⟩ dL_law_980 (fun b2 u2 H locs hw Z => ?_)
    refine lv_istore (lv' := [(7, .int b2), (6, .int k), (0, .ref b), (1, .ref (gad G 0)), (2, .ref (gad G 7)), (3, .ref (gad G 19)), (4, .ref (gad G 20)), (5, .int (nI i))]) hx hb dL_law_983 hl (by decide) rfl (fun ls hl => ?_)
    obtain ⟨h11, hi, i19, i20⟩ := hw
    refine lv_aload_n hx hb dL_law_985 rfl (lv_at hl 4 rfl) ?_
    refine z_callVi C0 Z hl.1 (As := []) (rest := []) (k_X4_thrown l hg (Q := fun t w => w = u2 ∧ t = u2 7 11) ⟨rfl, rfl⟩) (gv_X4_thrown tm_5_67) rfl ds_X4_thrown ⟨Nat.le_of_ble_eq_true rfl, Nat.le_of_ble_eq_true rfl⟩ (ci := 4) rfl (cx_lt C0 (by decide)) rfl rfl rfl (Nat.le_of_ble_eq_true rfl) ⟨by show kc + 1 ≤ 601024; omega, by show ks + 6 ≤ 7293034; omega⟩ dL_law_986 (fun t u3 H locs hw Z => ?_)
    obtain ⟨e3, ht⟩ := hw
    rw [e3] at Z
    refine lv_iload hx hb dL_law_989 (lv_at hl 1 rfl) ?_
    refine lv_icmp_eq (tgt := 996) hx hb dL_law_991 (by decide) (fun _ => ?_) (fun c => absurd (ht.trans h11) c)
    refine lv_iload hx hb dL_law_996 (lv_at hl 1 rfl) ?_
    refine lv_if_ne (tgt := 1013) hx hb dL_law_998 (by decide) (fun _ => ?_) (fun c => absurd c hk)
    refine lv_goto (tgt := 2228) hx hb dL_law_1013 (by decide) ?_
    refine W.widen (k := kc + 60) (n := ks + 700) (by omega) (by omega) ?_
    exact kk _ _ _ _ hi Z (lv_sub hl [2, 3, 4, 5, 6, 7] rfl)
set_option maxRecDepth 100000 in
set_option maxHeartbeats 4000000 in
theorem lc_clean {p : Program} (l : Launch) (hst : l.stackTraces = false) {e : Env} {s : State} {m : MethodId} {below : List Frame} {meth : Method} {c : Code} {G : zG} {b L : Nat} {xs : Nat → Int32} (C0 : Cx G RL cL_law 9 (some .boolean) p s m #[Value.ref b] meth c) {v : V3} {H : Heap} {locs : List Loc} (Z : Zs G s v H locs) (hX : va_X b L xs s s.heap) (hbl : b < s.heap.size) (hbA : ¬ zA G b) {i : Nat} (hiL : i + 5 ≤ L) (hL : L ≤ 2560) {g : Nat} {B : Int} (h : IV v g B) (hB : B + 99 ≤ 900000) {kc ks : Nat} (hkc : kc + 60 ≤ 601024) (hks : ks + 700 ≤ 7293034) {Q : State → Prop} {ls : Array Slot} (hl : lv_has ls 9 [(0, .ref b), (1, .ref (gad G 0)), (2, .ref (gad G 7)), (3, .ref (gad G 19)), (4, .ref (gad G 20)), (5, .int (nI i))]) (kk : ∀ (v' : V3) (H1 : Heap) (locs1 : List Loc) (ls1 : Array Slot), IV v' g (B + 99) → Zs G s v' H1 locs1 → lv_has ls1 9 [(0, .ref b), (1, .ref (gad G 0)), (2, .ref (gad G 7)), (3, .ref (gad G 19)), (4, .ref (gad G 20)), (5, .int (nI i))] → W p l e room_1 s m #[Value.ref b] below meth c H1 locs1 (kc + 60) (ks + 700) Q (F0 m 2228 ls1 [])) : W p l e room_1 s m #[Value.ref b] below meth c H locs kc ks Q (F0 m 1016 ls []) := by
  have hx := C0.1
  have hb := C0.2.1
  have hg := cx_g C0
  refine lv_aload_n hx hb dL_law_1016 rfl (lv_at hl 1 rfl) ?_
  refine z_callVi C0 Z hl.1 (As := []) (rest := []) (k_X3_clean l hg (ca_clean h hB)) (gv_X3_clean tm_2_153) rfl ds_X3_clean ⟨Nat.le_of_ble_eq_true rfl, Nat.le_of_ble_eq_true rfl⟩ (ci := 3) rfl (cx_lt C0 (by decide)) rfl rfl rfl (Nat.le_of_ble_eq_true rfl) ⟨by show kc ≤ 601024; omega, by show ks ≤ 7293034; omega⟩ dL_law_1017 (fun r u H locs hw Z => ?_)
  refine lv_aload_n hx hb dL_law_1020 rfl (lv_at hl 2 rfl) ?_
  refine z_callVi C0 Z hl.1 (As := []) (rest := [.int r]) (k_X4_clean l hg (hw u (fun _ _ _ => rfl))) (gv_X4_clean tm_6_91) rfl ds_X4_clean ⟨Nat.le_of_ble_eq_true rfl, Nat.le_of_ble_eq_true rfl⟩ (ci := 4) rfl (cx_lt C0 (by decide)) rfl rfl rfl (Nat.le_of_ble_eq_true rfl) ⟨by show kc ≤ 601024; omega, by show ks ≤ 7293034; omega⟩ dL_law_1021 (fun b2 u2 H locs hw Z => ?_)
  obtain ⟨h11, hbr, hi, i19, i20⟩ := hw
  refine lv_icmp_eq (tgt := 2228) hx hb dL_law_1024 (by decide) (fun _ => ?_) (fun c => absurd hbr.symm c)
  refine W.widen (k := kc + 60) (n := ks + 700) (by omega) (by omega) ?_
  exact kk _ _ _ _ hi Z (lv_sub hl [0, 1, 2, 3, 4, 5] rfl)
set_option maxRecDepth 100000 in
set_option maxHeartbeats 4000000 in
theorem lc_arrive {p : Program} (l : Launch) (hst : l.stackTraces = false) {e : Env} {s : State} {m : MethodId} {below : List Frame} {meth : Method} {c : Code} {G : zG} {b L : Nat} {xs : Nat → Int32} (C0 : Cx G RL cL_law 9 (some .boolean) p s m #[Value.ref b] meth c) {v : V3} {H : Heap} {locs : List Loc} (Z : Zs G s v H locs) (hX : va_X b L xs s s.heap) (hbl : b < s.heap.size) (hbA : ¬ zA G b) {i : Nat} (hiL : i + 5 ≤ L) (hL : L ≤ 2560) {g : Nat} {B : Int} (h : IV v g B) (hB : B + 99 ≤ 900000) {kc ks : Nat} (hkc : kc + 60 ≤ 601024) (hks : ks + 700 ≤ 7293034) {Q : State → Prop} {ls : Array Slot} (hl : lv_has ls 9 [(0, .ref b), (1, .ref (gad G 0)), (2, .ref (gad G 7)), (3, .ref (gad G 19)), (4, .ref (gad G 20)), (5, .int (nI i))]) (kk : ∀ (v' : V3) (H1 : Heap) (locs1 : List Loc) (ls1 : Array Slot), IV v' g (B + 99) → Zs G s v' H1 locs1 → lv_has ls1 9 [(0, .ref b), (1, .ref (gad G 0)), (2, .ref (gad G 7)), (3, .ref (gad G 19)), (4, .ref (gad G 20)), (5, .int (nI i))] → W p l e room_1 s m #[Value.ref b] below meth c H1 locs1 (kc + 60) (ks + 700) Q (F0 m 2228 ls1 [])) : W p l e room_1 s m #[Value.ref b] below meth c H locs kc ks Q (F0 m 1029 ls []) := by
  have hx := C0.1
  have hb := C0.2.1
  have hg := cx_g C0
  refine lv_aload_n hx hb dL_law_1029 rfl (lv_at hl 1 rfl) ?_
  refine lv_aload_n hx hb dL_law_1030 rfl (lv_at hl 0 rfl) ?_
  refine lv_iload hx hb dL_law_1031 (lv_at hl 5 rfl) ?_
  refine lv_iconst (v := 1) hx hb dL_law_1033 (by decide) ?_
  refine lv_iadd hx hb dL_law_1034 ?_
  refine va_sld hx hb hX hbl hbA Z.2.2 (show vp_in (nI i + 1) L by rw [show (1 : Int32) = nI 1 from rfl, nI_add]; exact vp_in_nI (by omega) (by omega)) dL_law_1035 ?_
  refine lv_aload_n hx hb dL_law_1036 rfl (lv_at hl 3 rfl) ?_
  refine z_callH C0 Z hl.1 (As := [.ref (gad G 0), .int (xs (nI i + 1).toNatClampNeg), .ref (gad G 19)]) (rest := []) (k_L_arrive l hst hg (ca_arrive h hB _)) (gv_L_arrive tm_4_13) ds_L_arrive ⟨Nat.le_of_ble_eq_true rfl, Nat.le_of_ble_eq_true rfl⟩ rfl rfl (Nat.le_of_ble_eq_true rfl) ⟨by show kc + 1 ≤ 601024; omega, by show ks + 6 ≤ 7293034; omega⟩ dL_law_1037 (fun k u H locs hw Z => ?_)
  refine lv_istore (lv' := [(6, .int k), (0, .ref b), (1, .ref (gad G 0)), (2, .ref (gad G 7)), (3, .ref (gad G 19)), (4, .ref (gad G 20)), (5, .int (nI i))]) hx hb dL_law_1040 hl (by decide) rfl (fun ls hl => ?_)
  rcases hw with ⟨hk, r, e19, hw⟩ | ⟨hk, hw⟩
  · subst hk
    refine lv_aload_n hx hb dL_law_1042 rfl (lv_at hl 3 rfl) ?_
    refine lv_aload_n hx hb dL_law_1043 rfl (lv_at hl 1 rfl) ?_
    refine lv_iload hx hb dL_law_1044 (lv_at hl 6 rfl) ?_
    refine lv_iconst (v := 1) hx hb dL_law_1046 (by decide) ?_
    refine lv_iadd hx hb dL_law_1047 ?_
    refine va_sld hx hb hX hbl hbA Z.2.2 (show vp_in (nI i + 1) L by rw [show (1 : Int32) = nI 1 from rfl, nI_add]; exact vp_in_nI (by omega) (by omega)) dL_law_1048 ?_
    refine z_callVi C0 Z hl.1 (As := [.int (xs (nI i + 1).toNatClampNeg)]) (rest := []) (k_X4_arrive l hg hw) (gv_X4_arrive tm_6_95) rfl ds_X4_arrive ⟨Nat.le_of_ble_eq_true rfl, Nat.le_of_ble_eq_true rfl⟩ (ci := 4) rfl (cx_lt C0 (by decide)) rfl rfl rfl (Nat.le_of_ble_eq_true rfl) ⟨by show kc + 1 ≤ 601024; omega, by show ks + 6 ≤ 7293034; omega⟩ dL_law_1049 (fun b2 u2 H locs hw Z => ?_)
    refine lv_istore (lv' := [(7, .int b2), (6, .int 0), (0, .ref b), (1, .ref (gad G 0)), (2, .ref (gad G 7)), (3, .ref (gad G 19)), (4, .ref (gad G 20)), (5, .int (nI i))]) hx hb dL_law_1052 hl (by decide) rfl (fun ls hl => ?_)
    obtain ⟨h11, hbr, hi, i19, i20⟩ := hw
    refine lv_aload_n hx hb dL_law_1054 rfl (lv_at hl 4 rfl) ?_
    refine z_callVi C0 Z hl.1 (As := []) (rest := []) (k_X4_thrown l hg (Q := fun t w => w = u2 ∧ t = u2 7 11) ⟨rfl, rfl⟩) (gv_X4_thrown tm_5_67) rfl ds_X4_thrown ⟨Nat.le_of_ble_eq_true rfl, Nat.le_of_ble_eq_true rfl⟩ (ci := 4) rfl (cx_lt C0 (by decide)) rfl rfl rfl (Nat.le_of_ble_eq_true rfl) ⟨by show kc + 1 ≤ 601024; omega, by show ks + 6 ≤ 7293034; omega⟩ dL_law_1055 (fun t u3 H locs hw Z => ?_)
    obtain ⟨e3, ht⟩ := hw
    rw [e3] at Z
    refine lv_iload hx hb dL_law_1058 (lv_at hl 1 rfl) ?_
    refine lv_icmp_eq (tgt := 1065) hx hb dL_law_1060 (by decide) (fun _ => ?_) (fun c => absurd (ht.trans h11) c)
    refine lv_iload hx hb dL_law_1065 (lv_at hl 1 rfl) ?_
    refine lv_if_ne (tgt := 1082) hx hb dL_law_1067 (by decide) (fun c => absurd rfl c) (fun _ => ?_)
    refine lv_aload_n hx hb dL_law_1070 rfl (lv_at hl 5 rfl) ?_
    refine lv_iconst (v := 0) hx hb dL_law_1071 (by decide) ?_
    refine z_lald C0 Z dL_law_1072 ?_
    refine lv_iload hx hb dL_law_1073 (lv_at hl 0 rfl) ?_
    refine lv_i2l (v := b2.toInt64) hx hb dL_law_1075 rfl ?_
    refine W.lcmp hx hb dL_law_1076 ?_
    refine lv_if_eq (tgt := 1082) hx hb dL_law_1077 (by decide) (fun _ => ?_) (fun c => absurd ((lg_cmp_eq _ _).mpr (by rw [i19, e19, hbr])) c)
    refine lv_goto (tgt := 2228) hx hb dL_law_1082 (by decide) ?_
    refine W.widen (k := kc + 60) (n := ks + 700) (by omega) (by omega) ?_
    exact kk _ _ _ _ hi Z (lv_sub hl [2, 3, 4, 5, 6, 7] rfl)
  · refine lv_aload_n hx hb dL_law_1042 rfl (lv_at hl 3 rfl) ?_
    refine lv_aload_n hx hb dL_law_1043 rfl (lv_at hl 1 rfl) ?_
    refine lv_iload hx hb dL_law_1044 (lv_at hl 6 rfl) ?_
    refine lv_iconst (v := 1) hx hb dL_law_1046 (by decide) ?_
    refine lv_iadd hx hb dL_law_1047 ?_
    refine va_sld hx hb hX hbl hbA Z.2.2 (show vp_in (nI i + 1) L by rw [show (1 : Int32) = nI 1 from rfl, nI_add]; exact vp_in_nI (by omega) (by omega)) dL_law_1048 ?_
    refine z_callVi C0 Z hl.1 (As := [.int (xs (nI i + 1).toNatClampNeg)]) (rest := []) (k_X4_arrive l hg hw) (gv_X4_arrive tm_6_95) rfl ds_X4_arrive ⟨Nat.le_of_ble_eq_true rfl, Nat.le_of_ble_eq_true rfl⟩ (ci := 4) rfl (cx_lt C0 (by decide)) rfl rfl rfl (Nat.le_of_ble_eq_true rfl) ⟨by show kc + 1 ≤ 601024; omega, by show ks + 6 ≤ 7293034; omega⟩ dL_law_1049 (fun b2 u2 H locs hw Z => ?_)
    refine lv_istore (lv' := [(7, .int b2), (6, .int k), (0, .ref b), (1, .ref (gad G 0)), (2, .ref (gad G 7)), (3, .ref (gad G 19)), (4, .ref (gad G 20)), (5, .int (nI i))]) hx hb dL_law_1052 hl (by decide) rfl (fun ls hl => ?_)
    obtain ⟨h11, hi, i19, i20⟩ := hw
    refine lv_aload_n hx hb dL_law_1054 rfl (lv_at hl 4 rfl) ?_
    refine z_callVi C0 Z hl.1 (As := []) (rest := []) (k_X4_thrown l hg (Q := fun t w => w = u2 ∧ t = u2 7 11) ⟨rfl, rfl⟩) (gv_X4_thrown tm_5_67) rfl ds_X4_thrown ⟨Nat.le_of_ble_eq_true rfl, Nat.le_of_ble_eq_true rfl⟩ (ci := 4) rfl (cx_lt C0 (by decide)) rfl rfl rfl (Nat.le_of_ble_eq_true rfl) ⟨by show kc + 1 ≤ 601024; omega, by show ks + 6 ≤ 7293034; omega⟩ dL_law_1055 (fun t u3 H locs hw Z => ?_)
    obtain ⟨e3, ht⟩ := hw
    rw [e3] at Z
    refine lv_iload hx hb dL_law_1058 (lv_at hl 1 rfl) ?_
    refine lv_icmp_eq (tgt := 1065) hx hb dL_law_1060 (by decide) (fun _ => ?_) (fun c => absurd (ht.trans h11) c)
    refine lv_iload hx hb dL_law_1065 (lv_at hl 1 rfl) ?_
    refine lv_if_ne (tgt := 1082) hx hb dL_law_1067 (by decide) (fun _ => ?_) (fun c => absurd c hk)
    refine lv_goto (tgt := 2228) hx hb dL_law_1082 (by decide) ?_
    refine W.widen (k := kc + 60) (n := ks + 700) (by omega) (by omega) ?_
    exact kk _ _ _ _ hi Z (lv_sub hl [2, 3, 4, 5, 6, 7] rfl)
set_option maxRecDepth 100000 in
set_option maxHeartbeats 4000000 in
theorem lc_leave {p : Program} (l : Launch) (hst : l.stackTraces = false) {e : Env} {s : State} {m : MethodId} {below : List Frame} {meth : Method} {c : Code} {G : zG} {b L : Nat} {xs : Nat → Int32} (C0 : Cx G RL cL_law 9 (some .boolean) p s m #[Value.ref b] meth c) {v : V3} {H : Heap} {locs : List Loc} (Z : Zs G s v H locs) (hX : va_X b L xs s s.heap) (hbl : b < s.heap.size) (hbA : ¬ zA G b) {i : Nat} (hiL : i + 5 ≤ L) (hL : L ≤ 2560) {g : Nat} {B : Int} (h : IV v g B) (hB : B + 99 ≤ 900000) {kc ks : Nat} (hkc : kc + 60 ≤ 601024) (hks : ks + 700 ≤ 7293034) {Q : State → Prop} {ls : Array Slot} (hl : lv_has ls 9 [(0, .ref b), (1, .ref (gad G 0)), (2, .ref (gad G 7)), (3, .ref (gad G 19)), (4, .ref (gad G 20)), (5, .int (nI i))]) (kk : ∀ (v' : V3) (H1 : Heap) (locs1 : List Loc) (ls1 : Array Slot), IV v' g (B + 99) → Zs G s v' H1 locs1 → lv_has ls1 9 [(0, .ref b), (1, .ref (gad G 0)), (2, .ref (gad G 7)), (3, .ref (gad G 19)), (4, .ref (gad G 20)), (5, .int (nI i))] → W p l e room_1 s m #[Value.ref b] below meth c H1 locs1 (kc + 60) (ks + 700) Q (F0 m 2228 ls1 [])) : W p l e room_1 s m #[Value.ref b] below meth c H locs kc ks Q (F0 m 1085 ls []) := by
  have hx := C0.1
  have hb := C0.2.1
  have hg := cx_g C0
  refine lv_aload_n hx hb dL_law_1085 rfl (lv_at hl 1 rfl) ?_
  refine lv_aload_n hx hb dL_law_1086 rfl (lv_at hl 0 rfl) ?_
  refine lv_iload hx hb dL_law_1087 (lv_at hl 5 rfl) ?_
  refine lv_iconst (v := 1) hx hb dL_law_1089 (by decide) ?_
  refine lv_iadd hx hb dL_law_1090 ?_
  refine va_sld hx hb hX hbl hbA Z.2.2 (show vp_in (nI i + 1) L by rw [show (1 : Int32) = nI 1 from rfl, nI_add]; exact vp_in_nI (by omega) (by omega)) dL_law_1091 ?_
  refine lv_aload_n hx hb dL_law_1092 rfl (lv_at hl 3 rfl) ?_
  refine z_callH C0 Z hl.1 (As := [.ref (gad G 0), .int (xs (nI i + 1).toNatClampNeg), .ref (gad G 19)]) (rest := []) (k_L_leave l hst hg (ca_leave h hB _)) (gv_L_leave tm_4_20) ds_L_leave ⟨Nat.le_of_ble_eq_true rfl, Nat.le_of_ble_eq_true rfl⟩ rfl rfl (Nat.le_of_ble_eq_true rfl) ⟨by show kc + 1 ≤ 601024; omega, by show ks + 6 ≤ 7293034; omega⟩ dL_law_1093 (fun k u H locs hw Z => ?_)
  refine lv_istore (lv' := [(6, .int k), (0, .ref b), (1, .ref (gad G 0)), (2, .ref (gad G 7)), (3, .ref (gad G 19)), (4, .ref (gad G 20)), (5, .int (nI i))]) hx hb dL_law_1096 hl (by decide) rfl (fun ls hl => ?_)
  rcases hw with ⟨hk, r, e19, hw⟩ | ⟨hk, hw⟩
  · subst hk
    refine lv_aload_n hx hb dL_law_1098 rfl (lv_at hl 3 rfl) ?_
    refine lv_aload_n hx hb dL_law_1099 rfl (lv_at hl 1 rfl) ?_
    refine lv_iload hx hb dL_law_1100 (lv_at hl 6 rfl) ?_
    refine lv_iconst (v := 1) hx hb dL_law_1102 (by decide) ?_
    refine lv_iadd hx hb dL_law_1103 ?_
    refine va_sld hx hb hX hbl hbA Z.2.2 (show vp_in (nI i + 1) L by rw [show (1 : Int32) = nI 1 from rfl, nI_add]; exact vp_in_nI (by omega) (by omega)) dL_law_1104 ?_
    refine z_callVi C0 Z hl.1 (As := [.int (xs (nI i + 1).toNatClampNeg)]) (rest := []) (k_X4_leave l hg hw) (gv_X4_leave tm_6_99) rfl ds_X4_leave ⟨Nat.le_of_ble_eq_true rfl, Nat.le_of_ble_eq_true rfl⟩ (ci := 4) rfl (cx_lt C0 (by decide)) rfl rfl rfl (Nat.le_of_ble_eq_true rfl) ⟨by show kc + 1 ≤ 601024; omega, by show ks + 6 ≤ 7293034; omega⟩ dL_law_1105 (fun b2 u2 H locs hw Z => ?_)
    refine lv_istore (lv' := [(7, .int b2), (6, .int 0), (0, .ref b), (1, .ref (gad G 0)), (2, .ref (gad G 7)), (3, .ref (gad G 19)), (4, .ref (gad G 20)), (5, .int (nI i))]) hx hb dL_law_1108 hl (by decide) rfl (fun ls hl => ?_)
    obtain ⟨h11, hbr, hi, i19, i20⟩ := hw
    refine lv_aload_n hx hb dL_law_1110 rfl (lv_at hl 4 rfl) ?_
    refine z_callVi C0 Z hl.1 (As := []) (rest := []) (k_X4_thrown l hg (Q := fun t w => w = u2 ∧ t = u2 7 11) ⟨rfl, rfl⟩) (gv_X4_thrown tm_5_67) rfl ds_X4_thrown ⟨Nat.le_of_ble_eq_true rfl, Nat.le_of_ble_eq_true rfl⟩ (ci := 4) rfl (cx_lt C0 (by decide)) rfl rfl rfl (Nat.le_of_ble_eq_true rfl) ⟨by show kc + 1 ≤ 601024; omega, by show ks + 6 ≤ 7293034; omega⟩ dL_law_1111 (fun t u3 H locs hw Z => ?_)
    obtain ⟨e3, ht⟩ := hw
    rw [e3] at Z
    refine lv_iload hx hb dL_law_1114 (lv_at hl 1 rfl) ?_
    refine lv_icmp_eq (tgt := 1121) hx hb dL_law_1116 (by decide) (fun _ => ?_) (fun c => absurd (ht.trans h11) c)
    refine lv_iload hx hb dL_law_1121 (lv_at hl 1 rfl) ?_
    refine lv_if_ne (tgt := 1138) hx hb dL_law_1123 (by decide) (fun c => absurd rfl c) (fun _ => ?_)
    refine lv_aload_n hx hb dL_law_1126 rfl (lv_at hl 5 rfl) ?_
    refine lv_iconst (v := 0) hx hb dL_law_1127 (by decide) ?_
    refine z_lald C0 Z dL_law_1128 ?_
    refine lv_iload hx hb dL_law_1129 (lv_at hl 0 rfl) ?_
    refine lv_i2l (v := b2.toInt64) hx hb dL_law_1131 rfl ?_
    refine W.lcmp hx hb dL_law_1132 ?_
    refine lv_if_eq (tgt := 1138) hx hb dL_law_1133 (by decide) (fun _ => ?_) (fun c => absurd ((lg_cmp_eq _ _).mpr (by rw [i19, e19, hbr])) c)
    refine lv_goto (tgt := 2228) hx hb dL_law_1138 (by decide) ?_
    refine W.widen (k := kc + 60) (n := ks + 700) (by omega) (by omega) ?_
    exact kk _ _ _ _ hi Z (lv_sub hl [2, 3, 4, 5, 6, 7] rfl)
  · refine lv_aload_n hx hb dL_law_1098 rfl (lv_at hl 3 rfl) ?_
    refine lv_aload_n hx hb dL_law_1099 rfl (lv_at hl 1 rfl) ?_
    refine lv_iload hx hb dL_law_1100 (lv_at hl 6 rfl) ?_
    refine lv_iconst (v := 1) hx hb dL_law_1102 (by decide) ?_
    refine lv_iadd hx hb dL_law_1103 ?_
    refine va_sld hx hb hX hbl hbA Z.2.2 (show vp_in (nI i + 1) L by rw [show (1 : Int32) = nI 1 from rfl, nI_add]; exact vp_in_nI (by omega) (by omega)) dL_law_1104 ?_
    refine z_callVi C0 Z hl.1 (As := [.int (xs (nI i + 1).toNatClampNeg)]) (rest := []) (k_X4_leave l hg hw) (gv_X4_leave tm_6_99) rfl ds_X4_leave ⟨Nat.le_of_ble_eq_true rfl, Nat.le_of_ble_eq_true rfl⟩ (ci := 4) rfl (cx_lt C0 (by decide)) rfl rfl rfl (Nat.le_of_ble_eq_true rfl) ⟨by show kc + 1 ≤ 601024; omega, by show ks + 6 ≤ 7293034; omega⟩ dL_law_1105 (fun b2 u2 H locs hw Z => ?_)
    refine lv_istore (lv' := [(7, .int b2), (6, .int k), (0, .ref b), (1, .ref (gad G 0)), (2, .ref (gad G 7)), (3, .ref (gad G 19)), (4, .ref (gad G 20)), (5, .int (nI i))]) hx hb dL_law_1108 hl (by decide) rfl (fun ls hl => ?_)
    obtain ⟨h11, hi, i19, i20⟩ := hw
    refine lv_aload_n hx hb dL_law_1110 rfl (lv_at hl 4 rfl) ?_
    refine z_callVi C0 Z hl.1 (As := []) (rest := []) (k_X4_thrown l hg (Q := fun t w => w = u2 ∧ t = u2 7 11) ⟨rfl, rfl⟩) (gv_X4_thrown tm_5_67) rfl ds_X4_thrown ⟨Nat.le_of_ble_eq_true rfl, Nat.le_of_ble_eq_true rfl⟩ (ci := 4) rfl (cx_lt C0 (by decide)) rfl rfl rfl (Nat.le_of_ble_eq_true rfl) ⟨by show kc + 1 ≤ 601024; omega, by show ks + 6 ≤ 7293034; omega⟩ dL_law_1111 (fun t u3 H locs hw Z => ?_)
    obtain ⟨e3, ht⟩ := hw
    rw [e3] at Z
    refine lv_iload hx hb dL_law_1114 (lv_at hl 1 rfl) ?_
    refine lv_icmp_eq (tgt := 1121) hx hb dL_law_1116 (by decide) (fun _ => ?_) (fun c => absurd (ht.trans h11) c)
    refine lv_iload hx hb dL_law_1121 (lv_at hl 1 rfl) ?_
    refine lv_if_ne (tgt := 1138) hx hb dL_law_1123 (by decide) (fun _ => ?_) (fun c => absurd c hk)
    refine lv_goto (tgt := 2228) hx hb dL_law_1138 (by decide) ?_
    refine W.widen (k := kc + 60) (n := ks + 700) (by omega) (by omega) ?_
    exact kk _ _ _ _ hi Z (lv_sub hl [2, 3, 4, 5, 6, 7] rfl)
