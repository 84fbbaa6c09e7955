/-! save OF THE CLASS, the method of the law that catches, the law's case: the numbering may go on by a ledger -/
def ext (G G2 : zG) : Prop := (∃ (ad : Nat → Nat) (n : Nat), G2 = (gD G, ad, gcA G, n, gb G, gk G)) ∧ 129 ≤ gn G2 ∧ ∀ c, c < 129 → gad G2 c = gad G c
theorem ext.rf {G : zG} (h : 129 ≤ gn G) : ext G G := ⟨⟨gad G, gn G, rfl⟩, h, fun _ _ => rfl⟩
theorem ext.S {G : zG} (h : 129 ≤ gn G) (ad : Nat → Nat) : ext G (gS G ad) := ⟨⟨_, _, rfl⟩, Nat.le_trans h (Nat.le_add_right _ _), fun c hc => gS_lo (by omega)⟩
theorem ext.zA {G G2 : zG} (x : ext G G2) : zA G2 = zA G := by
  obtain ⟨⟨ad, n, rfl⟩, -⟩ := x
  rfl
theorem ext.gb {G G2 : zG} (x : ext G G2) : gb G2 = gb G := by
  obtain ⟨⟨ad, n, rfl⟩, -⟩ := x
  rfl
abbrev QvS (G : zG) (Q : Nat → V3 → Prop) : Array Value → State → Outcome → State → Prop := va_Qv (fun q : zG × V3 => ext G q.1 ∧ Q (gn q.1) q.2) (fun q t => Rp q.1 q.2 t.heap) (zA G)
abbrev QiS (G : zG) (Q : Int32 → Nat → V3 → Prop) : Array Value → State → Outcome → State → Prop := va_Qi (fun (r : Int32) (q : zG × V3) => ext G q.1 ∧ Q r (gn q.1) q.2) (fun q t => Rp q.1 q.2 t.heap) (zA G)
theorem WS_len {G : zG} {v : V3} : (WS G v).length = gn G := by simp [WS]
section ZS
variable {p : Program} {l : Launch} {e : Env} {R : Room} {s : State} {m : MethodId} {args : Array Value} {below : List Frame} {meth : Method} {c : Code} {H : Heap} {locs : List Loc} {cells slots : Nat} {Q : State → Prop}
variable {cc : ByteArray} {pc nL : Nat} {ls : Array Slot} {rest : List Value} {G G2 : zG} {v : V3} {own : String} {ret : Option FieldType} {Wl : va_W} {a : Nat}
theorem ext.cx (x : ext G G2) (C0 : Cx G own cc nL ret p s m args meth c) : Cx G2 own cc nL ret p s m args meth c := by
  obtain ⟨⟨ad, n, rfl⟩, h, -⟩ := x
  obtain ⟨a1, a2, a3, a4, a5, a6, a7, K, -⟩ := C0
  exact ⟨a1, a2, a3, a4, a5, a6, a7, K, h⟩
theorem s_vret (C0 : Cx G own cc nL none p s m args meth c) (x : ext G G2) (Z : Zs G2 s v H locs) {Q : Nat → V3 → Prop} (hQ : Q (gn G2) v) (hdg : decode cc pc = .ok (.return_, 1)) : W p l e R s m args below meth c H locs cells slots (MQ below (QvS G Q) args s cells slots (zA G)) (F0 m pc ls []) := by
  obtain ⟨hx, hb, -, hr, hk, hown, hts, K, -⟩ := C0
  have hS : va_S (zA G) s.heap H locs := by rw [← x.zA]; exact Z.2.2
  exact W.vret hx hb hr (fun t ht hW => ⟨⟨(G2, v), rfl, ⟨x, hQ⟩, ⟨by rw [ht]; exact Z.1, Z.2.1⟩⟩, hS.F ht⟩) hS.2.2 hdg hk
theorem s_iret (C0 : Cx G own cc nL (some .int) p s m args meth c) (x : ext G G2) (Z : Zs G2 s v H locs) {Q : Int32 → Nat → V3 → Prop} {z : Int32} (hQ : Q z (gn G2) v) (hdg : decode cc pc = .ok (.ireturn, 1)) : W p l e R s m args below meth c H locs cells slots (MQ below (QiS G Q) args s cells slots (zA G)) (F0 m pc ls [.int z]) := by
  obtain ⟨hx, hb, -, hr, hk, hown, hts, K, -⟩ := C0
  have hS : va_S (zA G) s.heap H locs := by rw [← x.zA]; exact Z.2.2
  exact W.iret hx hb hr (fun t ht hW => ⟨⟨z, (G2, v), rfl, ⟨x, hQ⟩, ⟨by rw [ht]; exact Z.1, Z.2.1⟩⟩, hS.F ht⟩) hS.2.2 hdg hk
theorem r_astq (C0 : Cx G own cc nL ret p s m args meth c) (Z : Zr G s Wl H locs) {q0 qk n b : Nat} {vs : List Value} {f : Nat → Option Nat} (ha : Wl[q0]? = some (a, .inl (gcA G 6, n, .inr (.inr (.inr (.inr f)))))) (hv : Wl[qk]? = some (b, .inr (1, vs))) {i : Int32} (hin : vp_in i n) (hdg : decode cc pc = .ok (.aastore, 1))
    (kk : ∀ (H1 : Heap) (locs1 : List Loc), Zr G s (Wl.set q0 (a, .inl (gcA G 6, n, .inr (.inr (.inr (.inr (va_up f i.toNatClampNeg (some b)))))))) H1 locs1 → W p l e R s m args below meth c H1 locs1 cells slots Q (F0 m (pc + 1) ls rest)) : W p l e R s m args below meth c H locs cells slots Q (F0 m pc ls (.ref b :: .int i :: .ref a :: rest)) := by
  obtain ⟨hx, hb, -, -, -, hown, hts, K, -⟩ := C0
  exact va_astq hx hb K.1 Z.1 Z.2.1 Z.2.2 q0 6 qk 1 ha rfl hv rfl hin hdg (fun H1 locs1 hP hD hS => kk H1 locs1 ⟨hP, hD, hS⟩)
theorem s_hcallVv (C0 : Cx G own cc nL ret p s m args meth c) (Z : Zs G s v H locs) (hl : ls.size = nL) {y : MethodName} {cy : ByteArray} {nLy : Nat} {rety : Option FieldType} {fr lo mcy msy index n ci c0 : Nat} {C : String} {T : u_T} {N : Nat} {fs As st0 : List Value} {Qy : Nat → V3 → Prop} {X : String → V3 → Prop} (hM : vx_Met l y (.code y cy nLy rety :: tbg) { frames := fr, cells := mcy, slots := msy, locals := lo } (PcZ G (.ref (gad G c0) :: As) v) (QvS G Qy) (XZ G X) mcy msy (zA G)) (hgd : GoodIn tbg (wsV own index C y (.code y cy nLy rety :: tbg))) (hyc : y.cls = C) (hd : dsc y n) (hR : fr + 1 ≤ R.frames ∧ 8 + (nLy + 11) + lo ≤ R.locals) (hc : vwCl[ci]? = some (C, T, N)) (hc0 : c0 < gn G) (he : ent G v c0 = .inr (ci, fs)) (hn : As.length = n) (hst : st0 = As.reverse ++ .ref (gad G c0) :: rest) (hW : (rest.map fun v => v.category).sum ≤ 8) (hf : cells + mcy ≤ R.cells ∧ slots + msy ≤ R.slots) (hdg : decode cc pc = .ok (.invokevirtual index, 3))
    (kx : ∀ (E : String) (u : V3) (H1 : Heap) (locs1 : List Loc) (ce : Cell) (q9 : Addr), X E u → Zs G s u H1 locs1 → H1[q9]? = some ce → ce.vm = .none → s.vm.findClass E = some ce.cls → vx_W p l e R s m args below meth c H1 locs1 (cells + mcy) (slots + msy) Q (F0 m pc ls rest) q9)
    (kk : ∀ (G2 : zG) (u : V3) (H1 : Heap) (locs1 : List Loc), ext G G2 → Qy (gn G2) u → Zs G2 s u H1 locs1 → W p l e R s m args below meth c H1 locs1 (cells + mcy) (slots + msy) Q (F0 m (pc + 3) ls rest)) : W p l e R s m args below meth c H locs cells slots Q (F0 m pc ls st0) := by
  obtain ⟨hx, hb, hml, -, -, hown, hts, K, -⟩ := C0
  refine vx_callv (vx_runV (As := As) (rest := rest) ⟨hx, hb, hml, hown, hts⟩ hM (cwV n hts hgd rfl rfl rfl ⟨hyc, hd⟩ hR) ⟨PcZ.blind, va_recv K.1 Z.1 hc (WS_get hc0 he), fun U hU hW => Z.pre K hU hW⟩ rfl hn hl hst (lv_room hW) hdg hf) Z.2.2 (fun q _ h => h) (fun q h => h) (fun q _ h => h) (fun E ce q9 u t H1 locs1 ht hvm hp hB hz1 hk1 hS h9 hv9 hc9 => ?_) (fun u t H1 locs1 ht hvm hw hB hz1 hk1 hS => ?_)
  · have h2 := hB.2.1
    rw [ht] at h2
    exact kx E u.2 H1 locs1 ce q9 (by rw [hB.1]; exact hp) ⟨h2, hB.2.2, hS⟩ h9 hv9 hc9
  · refine kk u.1 u.2 H1 locs1 hw.1 hw.2 ⟨?_, hB.2, ?_⟩
    · have := hB.1
      rw [ht] at this
      exact this
    · rw [hw.1.zA]
      exact hS
theorem s_callH (C0 : Cx G own cc nL ret p s m args meth c) (Z : Zs G s v H locs) (hl : ls.size = nL) {y : MethodName} {cy : ByteArray} {nLy : Nat} {hh : List (Nat × Nat × Nat × Nat)} {fr lo mcy msy index n : Nat} {As st0 : List Value} {Qy : Int32 → Nat → V3 → Prop} (hM : Mh l y cy nLy hh fr lo mcy msy G As v (QiS G Qy)) (hgd : GoodIn tbg (va_wsS own index y (.codeWith y cy nLy (some .int) hh :: tbg))) (hd : dsc y n) (hR : fr + 1 ≤ R.frames ∧ 8 + (nLy + 11) + lo ≤ R.locals) (hn : As.length = n) (hst : st0 = As.reverse ++ rest) (hW : (rest.map fun v => v.category).sum ≤ 8) (hf : cells + mcy ≤ R.cells ∧ slots + msy ≤ R.slots) (hdg : decode cc pc = .ok (.invokestatic index, 3))
    (kk : ∀ (r : Int32) (G2 : zG) (u : V3) (H1 : Heap) (locs1 : List Loc), ext G G2 → Qy r (gn G2) u → Zs G2 s u H1 locs1 → W p l e R s m args below meth c H1 locs1 (cells + mcy) (slots + msy) Q (F0 m (pc + 3) ls (.int r :: rest))) : W p l e R s m args below meth c H locs cells slots Q (F0 m pc ls st0) := by
  obtain ⟨hx, hb, hml, -, -, hown, hts, K, -⟩ := C0
  refine va_calli (vx_runSW (As := As) (rest := rest) ⟨hx, hb, hml, hown, hts⟩ hM (vx_cwSW n hts hgd rfl rfl rfl hd hR) ⟨PcZ.blind, fun U hU hW => Z.pre K hU hW⟩ rfl hn hl hst (lv_room hW) hdg hf) Z.2.2 (fun q _ h => h) (fun q h => h) (fun r u t H1 locs1 ht hvm hw hB hz1 hk1 hS => ?_)
  refine kk r u.1 u.2 H1 locs1 hw.1 hw.2 ⟨?_, hB.2, ?_⟩
  · have := hB.1
    rw [ht] at this
    exact this
  · rw [hw.1.zA]
    exact hS
end ZS
theorem tm_4_174 : Cond.methodLink RL 243 yL_save ∈ tbg := tb4 174 (by decide +kernel) (by decide +kernel)
theorem tm_4_175 : Cond.static yL_save ∈ tbg := tb4 175 (by decide +kernel) (by decide +kernel)
theorem tm_4_176 : Cond.codeWith yL_save cL_save 3 (some .int) [(0, 5, 8, 18)] ∈ tbg := tb4 176 (by decide +kernel) (by decide +kernel)
theorem tm_4_177 : Cond.methodLink RL 109 yX3_save ∈ tbg := tb4 177 (by decide +kernel) (by decide +kernel)
theorem tm_4_178 : Cond.instanceMethod yX3_save ∈ tbg := tb4 178 (by decide +kernel) (by decide +kernel)
theorem tm_4_179 : Cond.selects RX3 yX3_save yX3_save ∈ tbg := tb4 179 (by decide +kernel) (by decide +kernel)
theorem tm_4_180 : Cond.code yX3_save cX3_save 2 none ∈ tbg := tb4 180 (by decide +kernel) (by decide +kernel)
theorem tm_7_7 : Cond.methodLink RL 246 yX4_save ∈ tbg := tb7 7 (by decide +kernel) (by decide +kernel)
theorem tm_7_8 : Cond.instanceMethod yX4_save ∈ tbg := tb7 8 (by decide +kernel) (by decide +kernel)
theorem tm_7_9 : Cond.selects RX4 yX4_save yX4_save ∈ tbg := tb7 9 (by decide +kernel) (by decide +kernel)
theorem tm_7_10 : Cond.code yX4_save cX4_save 2 none ∈ tbg := tb7 10 (by decide +kernel) (by decide +kernel)
theorem gv_X3_save {own : String} {idx : Nat} (h : Cond.methodLink own idx yX3_save ∈ tbg) : GoodIn tbg (wsV own idx RX3 yX3_save (.code yX3_save cX3_save 2 none :: tbg)) := z_goodV h tm_4_178 tm_4_179 tm_1_1 tm_4_180
theorem ds_X3_save : dsc yX3_save 1 := ⟨by decide +kernel, by decide +kernel, by decide +kernel⟩
theorem gv_X4_save {own : String} {idx : Nat} (h : Cond.methodLink own idx yX4_save ∈ tbg) : GoodIn tbg (wsV own idx RX4 yX4_save (.code yX4_save cX4_save 2 none :: tbg)) := z_goodV h tm_7_8 tm_7_9 tm_1_6 tm_7_10
theorem ds_X4_save : dsc yX4_save 1 := ⟨by decide +kernel, by decide +kernel, by decide +kernel⟩
theorem gv_L_save {own : String} {idx : Nat} (h : Cond.methodLink own idx yL_save ∈ tbg) : GoodIn tbg (va_wsS own idx yL_save (.codeWith yL_save cL_save 3 (some .int) [(0, 5, 8, 18)] :: tbg)) := z_goodSW h tm_4_175 tm_1_0 tm_4_176
theorem ds_L_save : dsc yL_save 2 := ⟨by decide +kernel, by decide +kernel, by decide +kernel⟩
theorem nw_eq {a lo hi : Int32} {v : V3} {X : String → V3 → Prop} {Q : V3 → Prop} (h : w_X3_needWithin a lo hi v X Q) : w_X3_needWithin a lo hi v X (fun v1 => v1 = v ∧ Q v1) := ⟨fun q => h.1 q, fun q => ⟨fun q' => ⟨rfl, (h.2 q).1 q'⟩, fun q' => (h.2 q).2 q'⟩⟩
theorem dX3_save_0 : decode cX3_save 0 = .ok (.iload_n 1, 1) := by decide +kernel
theorem dX3_save_1 : decode cX3_save 1 = .ok (.iconst 0, 1) := by decide +kernel
theorem dX3_save_2 : decode cX3_save 2 = .ok (.iconst 1, 1) := by decide +kernel
theorem dX3_save_3 : decode cX3_save 3 = .ok (.invokestatic 77, 3) := by decide +kernel
theorem dX3_save_6 : decode cX3_save 6 = .ok (.aload_n 0, 1) := by decide +kernel
theorem dX3_save_7 : decode cX3_save 7 = .ok (.getfield 33, 3) := by decide +kernel
theorem dX3_save_10 : decode cX3_save 10 = .ok (.iload_n 1, 1) := by decide +kernel
theorem dX3_save_11 : decode cX3_save 11 = .ok (.aaload, 1) := by decide +kernel
theorem dX3_save_12 : decode cX3_save 12 = .ok (.ifnonnull 16, 3) := by decide +kernel
theorem dX3_save_15 : decode cX3_save 15 = .ok (.aload_n 0, 1) := by decide +kernel
theorem dX3_save_16 : decode cX3_save 16 = .ok (.getfield 33, 3) := by decide +kernel
theorem dX3_save_19 : decode cX3_save 19 = .ok (.iload_n 1, 1) := by decide +kernel
theorem dX3_save_20 : decode cX3_save 20 = .ok (.new 23, 3) := by decide +kernel
theorem dX3_save_23 : decode cX3_save 23 = .ok (.dup, 1) := by decide +kernel
theorem dX3_save_24 : decode cX3_save 24 = .ok (.invokespecial 25, 3) := by decide +kernel
theorem dX3_save_27 : decode cX3_save 27 = .ok (.aastore, 1) := by decide +kernel
theorem dX3_save_28 : decode cX3_save 28 = .ok (.aload_n 0, 1) := by decide +kernel
theorem dX3_save_29 : decode cX3_save 29 = .ok (.getfield 33, 3) := by decide +kernel
theorem dX3_save_32 : decode cX3_save 32 = .ok (.iload_n 1, 1) := by decide +kernel
theorem dX3_save_33 : decode cX3_save 33 = .ok (.aaload, 1) := by decide +kernel
theorem dX3_save_34 : decode cX3_save 34 = .ok (.aload_n 0, 1) := by decide +kernel
theorem dX3_save_35 : decode cX3_save 35 = .ok (.getfield 26, 3) := by decide +kernel
theorem dX3_save_38 : decode cX3_save 38 = .ok (.invokevirtual 91, 3) := by decide +kernel
theorem dX3_save_41 : decode cX3_save 41 = .ok (.return_, 1) := by decide +kernel
theorem dL_save_0 : decode cL_save 0 = .ok (.aload_n 0, 1) := by decide +kernel
theorem dL_save_1 : decode cL_save 1 = .ok (.iload_n 1, 1) := by decide +kernel
theorem dL_save_2 : decode cL_save 2 = .ok (.invokevirtual 109, 3) := by decide +kernel
theorem dL_save_5 : decode cL_save 5 = .ok (.goto 6, 3) := by decide +kernel
theorem dL_save_8 : decode cL_save 8 = .ok (.astore_n 2, 1) := by decide +kernel
theorem dL_save_9 : decode cL_save 9 = .ok (.iconst 1, 1) := by decide +kernel
theorem dL_save_10 : decode cL_save 10 = .ok (.ireturn, 1) := by decide +kernel
theorem dL_save_11 : decode cL_save 11 = .ok (.iconst 0, 1) := by decide +kernel
theorem dL_save_12 : decode cL_save 12 = .ok (.ireturn, 1) := by decide +kernel
set_option maxRecDepth 100000 in
set_option maxHeartbeats 4000000 in
theorem k_X3_save (l : Launch) (hst : l.stackTraces = false) {G : zG} (hg : 129 ≤ gn G) {a1 : Int32} {v : V3} {Q : Nat → V3 → Prop} {X : String → V3 → Prop} (hs : ∀ j, j < 2 → v 3 j = 0 ∨ 21 + 54 * ix (v 3 j) < gn G) (hw : w_X3_save (gn G) a1 v X Q) : vx_Met l yX3_save (.code yX3_save cX3_save 2 none :: tbg) { frames := 7, cells := 56, slots := 583, locals := 130 } (PcZ G [.ref (gad G 0), .int a1] v) (QvS G Q) (XZ G X) 56 583 (zA G) := by
  rw [w_X3_save] at hw
  refine z_xofW hg (by decide) (Nat.le_of_ble_eq_true rfl) ?_
  intro p e s m args below meth c ls C0 hT Z hl
  have hx := C0.1
  have hb := C0.2.1
  replace hl : lv_has ls 2 [(0, .ref (gad G 0)), (1, .int a1)] := hl
  generalize s.heap = H at Z ⊢
  generalize ([] : List Loc) = locs at Z ⊢
  refine lv_iload_n hx hb dX3_save_0 rfl (lv_at hl 1 rfl) ?_
  refine lv_iconst (v := 0) hx hb dX3_save_1 (by decide) ?_
  refine lv_iconst (v := 1) hx hb dX3_save_2 (by decide) ?_
  refine z_xcallSv C0 hT Z hl.1 (As := [.int a1, .int 0, .int 1]) (rest := []) (k_X3_needWithin l hst (cx_g C0) (nw_eq hw)) (gv_X3_needWithin tm_3_86) ds_X3_needWithin ⟨(Nat.le_of_ble_eq_true rfl), (Nat.le_of_ble_eq_true rfl)⟩ rfl rfl (Nat.le_of_ble_eq_true rfl) ⟨(Nat.le_of_ble_eq_true rfl), (Nat.le_of_ble_eq_true rfl)⟩ ⟨(Nat.le_of_ble_eq_true rfl), (Nat.le_of_ble_eq_true rfl)⟩ dX3_save_3 (fun v1 H locs hw Z => ?_)
  obtain ⟨e1, h2, hw⟩ := hw
  rw [e1] at Z hw
  clear e1 v1
  have hk2 : ix a1 < 2 := vp_lt h2
  refine lv_aload_n hx hb dX3_save_6 rfl (lv_at hl 0 rfl) ?_
  refine z_get C0 Z in_X3 rfl 6 (by decide) rfl tm_1_156 (cx_lt C0 (by decide)) rfl rfl dX3_save_7 ?_
  refine lv_iload_n hx hb dX3_save_10 rfl (lv_at hl 1 rfl) ?_
  by_cases c3 : v 3 (ix a1) = 0
  · obtain ⟨hN, hw⟩ := hw.1 c3
    refine z_qaldN C0 Z h2 c3 dX3_save_11 ?_
    refine lv_ifnonnullN hx hb dX3_save_12 ?_
    refine lv_aload_n hx hb dX3_save_15 rfl (lv_at hl 0 rfl) ?_
    refine z_get C0 Z in_X3 rfl 6 (by decide) rfl tm_1_156 (cx_lt C0 (by decide)) rfl rfl dX3_save_16 ?_
    refine lv_iload_n hx hb dX3_save_19 rfl (lv_at hl 1 rfl) ?_
    replace Z : Zr G s (WS G v) H locs := Z
    refine r_new (X := []) (Y := WS G v) (ci := 1) (C := RX1) (T := TX1) (N := 11) (fs := fsX10) C0 Z in_X1 tyX1 tyX1_ok tm_1_26 tm_1_27 tm_1_2 rfl df_X1 (Nat.le_of_ble_eq_true rfl) (Nat.le_of_ble_eq_true rfl) dX3_save_20 (fun q H Z => ?_)
    replace Z : Zr G s (eO q 1 fsX10 :: WS G v) H locs := Z
    refine lv_dup hx hb dX3_save_23 rfl ?_
    refine r_callI C0 Z hl.1 (As := []) (rest := [.ref q, .int a1, .ref (gad G 3)]) (k_X1_init l hg) tm_1_30 tm_1_2 tm_1_28 tm_1_29 rfl ds_X1_init ⟨(Nat.le_of_ble_eq_true rfl), (Nat.le_of_ble_eq_true rfl)⟩ rfl rfl (Nat.le_of_ble_eq_true rfl) ⟨(Nat.le_of_ble_eq_true rfl), (Nat.le_of_ble_eq_true rfl)⟩ dX3_save_24 (fun u H locs hu Z1 => ?_)
    obtain ⟨ad, e9, rfl⟩ := hu
    subst e9
    have Z2 : Zr G s (WS G v ++ LLx G ad) H locs := Z1.perm List.perm_append_comm
    refine r_astq C0 Z2 (q0 := 3) (qk := gn G) (n := 2) ((List.getElem?_append_left (by rw [WS_len]; omega)).trans (WS_get (by omega) rfl)) (by rw [List.getElem?_append_right (by rw [WS_len]; exact Nat.le_refl _), WS_len, Nat.sub_self]; rfl) h2 dX3_save_27 (fun H locs Z3 => ?_)
    rw [List.set_append_left _ _ (by rw [WS_len]; omega)] at Z3
    have Z4 := sv_world hN hk2 hs Z3
    have x2 := ext.S hg ad
    have C2 := x2.cx C0
    have ev : ∀ c, c ≠ 3 → c < gn G → vS v (ix a1) (gn G) c = v c := fun c h3 hc => by
      unfold vS
      rw [if_pos hc, if_neg h3]
    have e3 : vS v (ix a1) (gn G) 3 = upd (v 3) (ix a1) (nI ((gn G - 21) / 54)) := by
      unfold vS
      rw [if_pos (by omega), if_pos rfl]
    replace hw := hw _ ev e3
    have e4 : vS v (ix a1) (gn G) 3 (ix a1) = nI ((gn G - 21) / 54) := by rw [e3, pk_us]
    have e5 : ix (vS v (ix a1) (gn G) 3 (ix a1)) = (gn G - 21) / 54 := by rw [e4]; exact nI_clamp (by omega)
    have hn0 : ¬ vS v (ix a1) (gn G) 3 (ix a1) = 0 := by
      intro h
      rw [h] at e5
      have : ix (0 : Int32) = 0 := rfl
      omega
    have hLb : isL (gS G ad) (gn G) := ⟨by omega, Nat.le_refl _⟩
    generalize vS v (ix a1) (gn G) = v2 at Z4 hw ev e3 e4 e5 hn0
    rw [← gS_lo (G := G) (ad := ad) (c := 0) (by omega)] at hl
    refine lv_aload_n hx hb dX3_save_28 rfl (lv_at hl 0 rfl) ?_
    refine z_get C2 Z4 in_X3 rfl 6 (by decide) rfl tm_1_156 (cx_lt C2 (by decide)) rfl rfl dX3_save_29 ?_
    refine lv_iload_n hx hb dX3_save_32 rfl (lv_at hl 1 rfl) ?_
    refine z_qaldS C2 Z4 (b := gn G) h2 hn0 (by rw [e5]; omega) dX3_save_33 ?_
    refine lv_aload_n hx hb dX3_save_34 rfl (lv_at hl 0 rfl) ?_
    refine z_get C2 Z4 in_X3 rfl 4 (by decide) rfl tm_1_154 (cx_lt C2 (by decide)) rfl rfl dX3_save_35 ?_
    refine z_callVv C2 Z4 hl.1 (As := [.ref (gad (gS G ad) 21)]) (rest := []) (k_X1_copyFrom l (cx_g C2) hLb (isL21 (cx_g C2)) hw) (gv_X1_copyFrom tm_2_137) rfl ds_X1_copyFrom ⟨(Nat.le_of_ble_eq_true rfl), (Nat.le_of_ble_eq_true rfl)⟩ (ci := 1) rfl (isL_lt0 hLb) (ent_L hLb) rfl rfl (Nat.le_of_ble_eq_true rfl) ⟨(Nat.le_of_ble_eq_true rfl), (Nat.le_of_ble_eq_true rfl)⟩ dX3_save_38 (fun v7 H locs hw Z => ?_)
    refine z_wide (mc := 56) (ms := 583) (Nat.le_of_ble_eq_true rfl) (Nat.le_of_ble_eq_true rfl) ?_
    exact vx_ret (s_vret C0 x2 Z hw dX3_save_41)
  · obtain ⟨b, eb, hb2, hbg, hw⟩ := hw.2 c3
    have hLb : isL G b := ⟨hb2.elim (fun q => .inr (.inr (.inl q))) (fun q => .inr (.inr (.inr q))), hbg⟩
    refine z_qaldS C0 Z h2 c3 eb dX3_save_11 ?_
    refine lv_ifnonnull (tgt := 28) hx hb dX3_save_12 (by decide) ?_
    refine lv_aload_n hx hb dX3_save_28 rfl (lv_at hl 0 rfl) ?_
    refine z_get C0 Z in_X3 rfl 6 (by decide) rfl tm_1_156 (cx_lt C0 (by decide)) rfl rfl dX3_save_29 ?_
    refine lv_iload_n hx hb dX3_save_32 rfl (lv_at hl 1 rfl) ?_
    refine z_qaldS C0 Z h2 c3 eb dX3_save_33 ?_
    refine lv_aload_n hx hb dX3_save_34 rfl (lv_at hl 0 rfl) ?_
    refine z_get C0 Z in_X3 rfl 4 (by decide) rfl tm_1_154 (cx_lt C0 (by decide)) rfl rfl dX3_save_35 ?_
    refine z_callVv C0 Z hl.1 (As := [.ref (gad G 21)]) (rest := []) (k_X1_copyFrom l (cx_g C0) hLb (isL21 (cx_g C0)) hw) (gv_X1_copyFrom tm_2_137) rfl ds_X1_copyFrom ⟨(Nat.le_of_ble_eq_true rfl), (Nat.le_of_ble_eq_true rfl)⟩ (ci := 1) rfl (isL_lt0 hLb) (ent_L hLb) rfl rfl (Nat.le_of_ble_eq_true rfl) ⟨(Nat.le_of_ble_eq_true rfl), (Nat.le_of_ble_eq_true rfl)⟩ dX3_save_38 (fun v7 H locs hw Z => ?_)
    refine z_wide (mc := 56) (ms := 583) (Nat.le_of_ble_eq_true rfl) (Nat.le_of_ble_eq_true rfl) ?_
    exact vx_ret (s_vret C0 (ext.rf hg) Z hw dX3_save_41)
set_option maxRecDepth 100000 in
set_option maxHeartbeats 4000000 in
theorem k_L_save (l : Launch) (hst : l.stackTraces = false) {G : zG} (hg : 129 ≤ gn G) {a1 : Int32} {v : V3} {B : Int} (hs : ∀ j, j < 2 → v 3 j = 0 ∨ 21 + 54 * ix (v 3 j) < gn G) (hw : w_X3_save (gn G) a1 v (exV (gn G) B (w_X4_save a1) [(eIA, 1)]) (fun g v' => okV g B (w_X4_save a1) v')) : Mh l yL_save cL_save 3 [(0, 5, 8, 18)] 8 160 56 583 G [.ref (gad G 0), .int a1] v (QiS G (fun k g u => HPv g B (w_X4_save a1) k u)) := by
  refine z_hofW hg (by decide) (Nat.le_of_ble_eq_true rfl) ?_
  intro p e s m args below meth c ls C0 hT Z hl
  have hx := C0.1
  have hb := C0.2.1
  replace hl : lv_has ls 3 [(0, .ref (gad G 0)), (1, .int a1)] := hl
  generalize s.heap = H at Z ⊢
  generalize ([] : List Loc) = locs at Z ⊢
  refine lv_aload_n hx hb dL_save_0 rfl (lv_at hl 0 rfl) ?_
  refine lv_iload_n hx hb dL_save_1 rfl (lv_at hl 1 rfl) ?_
  refine s_hcallVv C0 Z hl.1 (As := [.int a1]) (rest := []) (k_X3_save l hst hg hs hw) (gv_X3_save tm_4_177) rfl ds_X3_save ⟨(Nat.le_of_ble_eq_true rfl), (Nat.le_of_ble_eq_true rfl)⟩ (ci := 3) rfl (cx_lt C0 (by decide)) rfl rfl rfl (Nat.le_of_ble_eq_true rfl) ⟨(Nat.le_of_ble_eq_true rfl), (Nat.le_of_ble_eq_true rfl)⟩ dL_save_2 (fun E u H locs ce q hX Z h9 hv9 hc9 => ?_) (fun G2 u H locs x2 hw Z => ?_)
  · obtain ⟨k, hk, hP⟩ := hX
    simp only [List.mem_cons, Prod.mk.injEq, List.not_mem_nil, or_false] at hk
    obtain ⟨rfl, rfl⟩ := hk
    refine vx_catch (E := eIA) (name := eIA) (cx_own C0) [] ⟨0, 5, 8, 18⟩ [] (by rw [hT]; rfl) (fun z hz => absurd hz List.not_mem_nil) rfl (by decide) (cx_w C0 tm_3_81) (cx_w2 C0 (.inr (by decide +kernel))) h9 hv9 hc9 ?_
    refine lv_astore_n (lv' := [(2, .ref q), (0, .ref (gad G 0)), (1, .int a1)]) hx hb dL_save_8 rfl hl (by decide) rfl (fun ls hl => ?_)
    refine lv_iconst (v := 1) hx hb dL_save_9 (by decide) ?_
    refine z_wide (mc := 56) (ms := 583) (by decide) (by decide) ?_
    exact s_iret C0 (ext.rf hg) Z (Q := fun k g u => HPv g B (w_X4_save a1) k u) (.inr ⟨by decide, hP u (fun _ _ _ => rfl)⟩) dL_save_10
  · refine lv_goto (tgt := 11) hx hb dL_save_5 (by decide) ?_
    refine lv_iconst (v := 0) hx hb dL_save_11 (by decide) ?_
    refine z_wide (mc := 56) (ms := 583) (by decide) (by decide) ?_
    exact s_iret C0 x2 Z (Q := fun k g u => HPv g B (w_X4_save a1) k u) (.inl ⟨rfl, hw u (fun _ _ _ => rfl)⟩) dL_save_12
set_option maxRecDepth 100000 in
set_option maxHeartbeats 4000000 in
theorem lc_save {p : Program} (l : Launch) (hst : l.stackTraces = false) {e : Env} {s : State} {m : MethodId} {below : List Frame} {meth : Method} {c : Code} {G : zG} {b L : Nat} {xs : Nat → Int32} (C0 : Cx G RL cL_law 9 (some .boolean) p s m #[Value.ref b] meth c) {v : V3} {H : Heap} {locs : List Loc} (Z : Zs G s v H locs) (hX : va_X b L xs s s.heap) (hbl : b < s.heap.size) (hbA : ¬ zA G b) {i : Nat} (hiL : i + 5 ≤ L) (hL : L ≤ 2560) {B : Int} (h : IV v (gn G) B) (hB : B + 99 ≤ 900000) {kc ks : Nat} (hkc : kc + 60 ≤ 601024) (hks : ks + 700 ≤ 7293034) {Q : State → Prop} {ls : Array Slot} (hl : lv_has ls 9 [(0, .ref b), (1, .ref (gad G 0)), (2, .ref (gad G 7)), (3, .ref (gad G 19)), (4, .ref (gad G 20)), (5, .int (nI i))]) (kk : ∀ (G2 : zG) (v2 : V3) (H1 : Heap) (locs1 : List Loc) (ls1 : Array Slot), Cx G2 RL cL_law 9 (some .boolean) p s m #[Value.ref b] meth c → gb G2 = gb G → IV v2 (gn G2) (B + 99) → Zs G2 s v2 H1 locs1 → lv_has ls1 9 [(0, .ref b), (1, .ref (gad G2 0)), (2, .ref (gad G2 7)), (3, .ref (gad G2 19)), (4, .ref (gad G2 20)), (5, .int (nI i))] → W p l e room_1 s m #[Value.ref b] below meth c H1 locs1 (kc + 60) (ks + 700) Q (F0 m 2228 ls1 [])) : W p l e room_1 s m #[Value.ref b] below meth c H locs kc ks Q (F0 m 2156 ls []) := by
  have hx := C0.1
  have hb := C0.2.1
  have hg := cx_g C0
  have hs : ∀ j, j < 2 → v 3 j = 0 ∨ 21 + 54 * ix (v 3 j) < gn G := by
    obtain ⟨-, -, -, -, ⟨-, -, sg⟩, -, -⟩ := h
    have q2 : ix (nI 2) = 2 := rfl
    have q3 : ix (nI 3) = 3 := rfl
    intro j hj
    rcases (show j = 0 ∨ j = 1 by omega) with rfl | rfl <;> rcases sg with ⟨p1, p2, p3⟩ | ⟨⟨p1, p2⟩ | ⟨p1, p2⟩, p3⟩ | ⟨⟨p1, p2⟩ | ⟨p1, p2⟩, p3⟩ <;> rw [p3] <;> first | exact .inl p1 | exact .inl p2 | (right; rw [p1]; omega) | (right; rw [p2]; omega)
  refine lv_aload_n hx hb dL_law_2156 rfl (lv_at hl 1 rfl) ?_
  refine lv_aload_n hx hb dL_law_2157 rfl (lv_at hl 0 rfl) ?_
  refine lv_iload hx hb dL_law_2158 (lv_at hl 5 rfl) ?_
  refine lv_iconst (v := 1) hx hb dL_law_2160 (by decide) ?_
  refine lv_iadd hx hb dL_law_2161 ?_
  refine va_sld hx hb hX hbl hbA Z.2.2 (show vp_in (nI i + 1) L by rw [show (1 : Int32) = nI 1 from rfl, nI_add]; exact vp_in_nI (by omega) (by omega)) dL_law_2162 ?_
  refine s_callH C0 Z hl.1 (As := [.ref (gad G 0), .int (xs (nI i + 1).toNatClampNeg)]) (rest := []) (k_L_save l hst hg hs (ca_save h hB _)) (gv_L_save tm_4_174) ds_L_save ⟨(Nat.le_of_ble_eq_true rfl), (Nat.le_of_ble_eq_true rfl)⟩ rfl rfl (Nat.le_of_ble_eq_true rfl) ⟨by show kc + 56 ≤ 601024; omega, by show ks + 583 ≤ 7293034; omega⟩ dL_law_2163 (fun k G2 u H locs x2 hw Z => ?_)
  have C2 := x2.cx C0
  rw [← x2.2.2 0 (by decide), ← x2.2.2 7 (by decide), ← x2.2.2 19 (by decide), ← x2.2.2 20 (by decide)] at hl
  refine lv_istore (lv' := [(6, .int k), (0, .ref b), (1, .ref (gad G2 0)), (2, .ref (gad G2 7)), (3, .ref (gad G2 19)), (4, .ref (gad G2 20)), (5, .int (nI i))]) hx hb dL_law_2166 hl (by decide) rfl (fun ls hl => ?_)
  rcases hw with ⟨hk, hw⟩ | ⟨hk, hw⟩
  · subst hk
    refine lv_aload_n hx hb dL_law_2168 rfl (lv_at hl 3 rfl) ?_
    refine lv_aload_n hx hb dL_law_2169 rfl (lv_at hl 1 rfl) ?_
    refine lv_iload hx hb dL_law_2170 (lv_at hl 6 rfl) ?_
    refine lv_iconst (v := 1) hx hb dL_law_2172 (by decide) ?_
    refine lv_iadd hx hb dL_law_2173 ?_
    refine va_sld hx hb hX hbl hbA (by have := Z.2.2; rw [x2.zA] at this; exact this) (show vp_in (nI i + 1) L by rw [show (1 : Int32) = nI 1 from rfl, nI_add]; exact vp_in_nI (by omega) (by omega)) dL_law_2174 ?_
    refine z_callVv C2 Z hl.1 (As := [.int (xs (nI i + 1).toNatClampNeg)]) (rest := []) (k_X4_save l (cx_g C2) hw) (gv_X4_save tm_7_7) rfl ds_X4_save ⟨(Nat.le_of_ble_eq_true rfl), (Nat.le_of_ble_eq_true rfl)⟩ (ci := 4) rfl (cx_lt C2 (by decide)) rfl rfl rfl (Nat.le_of_ble_eq_true rfl) ⟨by show kc + 56 ≤ 601024; omega, by show ks + 583 ≤ 7293034; omega⟩ dL_law_2175 (fun u2 H locs hw Z => ?_)
    obtain ⟨h11, hi, i19, i20⟩ := hw
    refine lv_aload_n hx hb dL_law_2178 rfl (lv_at hl 3 rfl) ?_
    refine z_callVi C2 Z hl.1 (As := []) (rest := []) (k_X4_thrown l (cx_g C2) (Q := fun t w => w = u2 ∧ t = u2 7 11) ⟨rfl, rfl⟩) (gv_X4_thrown tm_5_67) rfl ds_X4_thrown ⟨(Nat.le_of_ble_eq_true rfl), (Nat.le_of_ble_eq_true rfl)⟩ (ci := 4) rfl (cx_lt C2 (by decide)) rfl rfl rfl (Nat.le_of_ble_eq_true rfl) ⟨by show kc + 56 ≤ 601024; omega, by show ks + 583 ≤ 7293034; omega⟩ dL_law_2179 (fun t u3 H locs hw Z => ?_)
    obtain ⟨e3, ht⟩ := hw
    rw [e3] at Z
    refine lv_iload hx hb dL_law_2182 (lv_at hl 0 rfl) ?_
    refine lv_icmp_eq (tgt := 2189) hx hb dL_law_2184 (by decide) (fun _ => ?_) (fun c => absurd (ht.trans h11) c)
    refine lv_goto (tgt := 2228) hx hb dL_law_2189 (by decide) ?_
    refine W.widen (k := kc + 60) (n := ks + 700) (by omega) (by omega) ?_
    exact kk G2 _ _ _ _ C2 x2.gb hi Z (lv_sub hl [1, 2, 3, 4, 5, 6] rfl)
  · skip
    refine lv_aload_n hx hb dL_law_2168 rfl (lv_at hl 3 rfl) ?_
    refine lv_aload_n hx hb dL_law_2169 rfl (lv_at hl 1 rfl) ?_
    refine lv_iload hx hb dL_law_2170 (lv_at hl 6 rfl) ?_
    refine lv_iconst (v := 1) hx hb dL_law_2172 (by decide) ?_
    refine lv_iadd hx hb dL_law_2173 ?_
    refine va_sld hx hb hX hbl hbA (by have := Z.2.2; rw [x2.zA] at this; exact this) (show vp_in (nI i + 1) L by rw [show (1 : Int32) = nI 1 from rfl, nI_add]; exact vp_in_nI (by omega) (by omega)) dL_law_2174 ?_
    refine z_callVv C2 Z hl.1 (As := [.int (xs (nI i + 1).toNatClampNeg)]) (rest := []) (k_X4_save l (cx_g C2) hw) (gv_X4_save tm_7_7) rfl ds_X4_save ⟨(Nat.le_of_ble_eq_true rfl), (Nat.le_of_ble_eq_true rfl)⟩ (ci := 4) rfl (cx_lt C2 (by decide)) rfl rfl rfl (Nat.le_of_ble_eq_true rfl) ⟨by show kc + 56 ≤ 601024; omega, by show ks + 583 ≤ 7293034; omega⟩ dL_law_2175 (fun u2 H locs hw Z => ?_)
    obtain ⟨h11, hi, i19, i20⟩ := hw
    refine lv_aload_n hx hb dL_law_2178 rfl (lv_at hl 3 rfl) ?_
    refine z_callVi C2 Z hl.1 (As := []) (rest := []) (k_X4_thrown l (cx_g C2) (Q := fun t w => w = u2 ∧ t = u2 7 11) ⟨rfl, rfl⟩) (gv_X4_thrown tm_5_67) rfl ds_X4_thrown ⟨(Nat.le_of_ble_eq_true rfl), (Nat.le_of_ble_eq_true rfl)⟩ (ci := 4) rfl (cx_lt C2 (by decide)) rfl rfl rfl (Nat.le_of_ble_eq_true rfl) ⟨by show kc + 56 ≤ 601024; omega, by show ks + 583 ≤ 7293034; omega⟩ dL_law_2179 (fun t u3 H locs hw Z => ?_)
    obtain ⟨e3, ht⟩ := hw
    rw [e3] at Z
    refine lv_iload hx hb dL_law_2182 (lv_at hl 0 rfl) ?_
    refine lv_icmp_eq (tgt := 2189) hx hb dL_law_2184 (by decide) (fun _ => ?_) (fun c => absurd (ht.trans h11) c)
    refine lv_goto (tgt := 2228) hx hb dL_law_2189 (by decide) ?_
    refine W.widen (k := kc + 60) (n := ks + 700) (by omega) (by omega) ?_
    exact kk G2 _ _ _ _ C2 x2.gb hi Z (lv_sub hl [1, 2, 3, 4, 5, 6] rfl)
