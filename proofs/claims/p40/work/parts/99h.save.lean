/-! save AND restore OF THE CLASS, the methods of the law that call them: the numbering may go on by a ledger -/
def ext (G G2 : zG) : Prop := (∃ (ad : Nat → Nat) (n : Nat), G2 = (gD G, ad, gcA G, n, gb G, gk G)) ∧ 116 ≤ gn G2 ∧ ∀ c, c < 116 → gad G2 c = gad G c
theorem ext.rf {G : zG} (h : 116 ≤ gn G) : ext G G := ⟨⟨gad G, gn G, rfl⟩, h, fun _ _ => rfl⟩
theorem ext.S {G : zG} (h : 116 ≤ gn G) (ad : Nat → Nat) : ext G (gS G ad) := ⟨⟨_, _, rfl⟩, Nat.le_trans h (Nat.le_add_right _ _), fun c hc => gS_lo (by omega)⟩
theorem ext.zA {G G2 : zG} (x : ext G G2) : zA G2 = zA G := by
  obtain ⟨⟨ad, n, rfl⟩, -⟩ := x
  rfl
theorem ext.gb {G G2 : zG} (x : ext G G2) : gb G2 = gb G := by
  obtain ⟨⟨ad, n, rfl⟩, -⟩ := x
  rfl
abbrev QvS (G : zG) (Q : Nat → V3 → Prop) : Array Value → State → Outcome → State → Prop := va_Qv (fun q : zG × V3 => ext G q.1 ∧ Q (gn q.1) q.2) (fun q t => Rp q.1 q.2 t.heap) (zA G)
abbrev QiS (G : zG) (Q : Int32 → Nat → V3 → Prop) : Array Value → State → Outcome → State → Prop := va_Qi (fun (r : Int32) (q : zG × V3) => ext G q.1 ∧ Q r (gn q.1) q.2) (fun q t => Rp q.1 q.2 t.heap) (zA G)
theorem WS_len {G : zG} {v : V3} : (WS G v).length = gn G := by simp [WS]
theorem W_mono {p : Program} {l : Launch} {e : Env} {R : Room} {s : State} {m : MethodId} {args : Array Value} {below : List Frame} {meth : Method} {c : Code} {H : Heap} {locs : List Loc} {cells slots : Nat} {Q Q' : State → Prop} {g : JFrame} (h : ∀ t, Q t → Q' t) (k : W p l e R s m args below meth c H locs cells slots Q g) : W p l e R s m args below meth c H locs cells slots Q' g := by
  intro T hT X
  obtain ⟨t, a, b⟩ := k T hT X
  exact ⟨t, a, h t b⟩
theorem MQ_S {below : List Frame} {args : Array Value} {s : State} {mc ms : Nat} {G G2 : zG} (x : ext G G2) {Q : Int32 → Nat → V3 → Prop} {t : State} (h : MQ below (QiZ G2 (fun r u => Q r (gn G2) u)) args s mc ms (zA G2) t) : MQ below (QiS G Q) args s mc ms (zA G) t := by
  obtain ⟨o, h1, h2, ⟨⟨r, u, e, hq, hB⟩, hF⟩, L, h4, h5⟩ := h
  refine ⟨o, h1, h2, ⟨⟨r, (G2, u), e, ⟨x, hq⟩, hB⟩, ?_⟩, L, h4, fun q hq => ?_⟩
  · rw [← x.zA]; exact hF
  · rw [← x.zA]; exact h5 q hq
section ZS
variable {p : Program} {l : Launch} {e : Env} {R : Room} {s : State} {m : MethodId} {args : Array Value} {below : List Frame} {meth : Method} {c : Code} {H : Heap} {locs : List Loc} {cells slots : Nat} {Q : State → Prop}
variable {cc : ByteArray} {pc nL : Nat} {ls : Array Slot} {rest : List Value} {G G2 : zG} {v : V3} {own : String} {ret : Option FieldType} {Wl : va_W} {a : Nat}
theorem ext.cx (x : ext G G2) (C0 : Cx G own cc nL ret p s m args meth c) : Cx G2 own cc nL ret p s m args meth c := by
  obtain ⟨⟨ad, n, rfl⟩, h, -⟩ := x
  obtain ⟨a1, a2, a3, a4, a5, a6, a7, K, -⟩ := C0
  exact ⟨a1, a2, a3, a4, a5, a6, a7, K, h⟩
theorem s_vret (C0 : Cx G own cc nL none p s m args meth c) (x : ext G G2) (Z : Zs G2 s v H locs) {Q : Nat → V3 → Prop} (hQ : Q (gn G2) v) (hdg : decode cc pc = .ok (.return_, 1)) : W p l e R s m args below meth c H locs cells slots (MQ below (QvS G Q) args s cells slots (zA G)) (F0 m pc ls []) := by
  obtain ⟨hx, hb, -, hr, hk, hown, hts, K, -⟩ := C0
  have hS : va_S (zA G) s.heap H locs := by rw [← x.zA]; exact Z.2.2
  exact W.vret hx hb hr (fun t ht hW => ⟨⟨(G2, v), rfl, ⟨x, hQ⟩, ⟨by rw [ht]; exact Z.1, Z.2.1⟩⟩, hS.F ht⟩) hS.2.2 hdg hk
theorem s_iret (C0 : Cx G own cc nL (some .int) p s m args meth c) (x : ext G G2) (Z : Zs G2 s v H locs) {Q : Int32 → Nat → V3 → Prop} {z : Int32} (hQ : Q z (gn G2) v) (hdg : decode cc pc = .ok (.ireturn, 1)) : W p l e R s m args below meth c H locs cells slots (MQ below (QiS G Q) args s cells slots (zA G)) (F0 m pc ls [.int z]) := by
  obtain ⟨hx, hb, -, hr, hk, hown, hts, K, -⟩ := C0
  have hS : va_S (zA G) s.heap H locs := by rw [← x.zA]; exact Z.2.2
  exact W.iret hx hb hr (fun t ht hW => ⟨⟨z, (G2, v), rfl, ⟨x, hQ⟩, ⟨by rw [ht]; exact Z.1, Z.2.1⟩⟩, hS.F ht⟩) hS.2.2 hdg hk
theorem r_astq (C0 : Cx G own cc nL ret p s m args meth c) (Z : Zr G s Wl H locs) {q0 qk n b : Nat} {vs : List Value} {f : Nat → Option Nat} (ha : Wl[q0]? = some (a, .inl (gcA G 6, n, .inr (.inr (.inr (.inr f)))))) (hv : Wl[qk]? = some (b, .inr (1, vs))) {i : Int32} (hin : vp_in i n) (hdg : decode cc pc = .ok (.aastore, 1))
    (kk : ∀ (H1 : Heap) (locs1 : List Loc), Zr G s (Wl.set q0 (a, .inl (gcA G 6, n, .inr (.inr (.inr (.inr (va_up f i.toNatClampNeg (some b)))))))) H1 locs1 → W p l e R s m args below meth c H1 locs1 cells slots Q (F0 m (pc + 1) ls rest)) : W p l e R s m args below meth c H locs cells slots Q (F0 m pc ls (.ref b :: .int i :: .ref a :: rest)) := by
  obtain ⟨hx, hb, -, -, -, hown, hts, K, -⟩ := C0
  exact va_astq hx hb K.1 Z.1 Z.2.1 Z.2.2 q0 3 qk 1 ha rfl hv rfl hin hdg (fun H1 locs1 hP hD hS => kk H1 locs1 ⟨hP, hD, hS⟩)
theorem s_callVv (C0 : Cx G own cc nL ret p s m args meth c) (Z : Zs G s v H locs) (hl : ls.size = nL) {y : MethodName} {cy : ByteArray} {nLy : Nat} {rety : Option FieldType} {fr lo mcy msy index n ci c0 : Nat} {C : String} {T : u_T} {N : Nat} {fs As st0 : List Value} {Qy : Nat → V3 → Prop} (hM : My l y cy nLy rety fr lo mcy msy G (.ref (gad G c0) :: As) v (QvS G Qy)) (hgd : GoodIn tbg (wsV own index C y (.code y cy nLy rety :: tbg))) (hyc : y.cls = C) (hd : dsc y n) (hR : fr + 1 ≤ R.frames ∧ 8 + (nLy + 11) + lo ≤ R.locals) (hc : vwCl[ci]? = some (C, T, N)) (hc0 : c0 < gn G) (he : ent G v c0 = .inr (ci, fs)) (hn : As.length = n) (hst : st0 = As.reverse ++ .ref (gad G c0) :: rest) (hW : (rest.map fun v => v.category).sum ≤ 8) (hf : cells + mcy ≤ R.cells ∧ slots + msy ≤ R.slots) (hdg : decode cc pc = .ok (.invokevirtual index, 3))
    (kk : ∀ (G2 : zG) (u : V3) (H1 : Heap) (locs1 : List Loc), ext G G2 → Qy (gn G2) u → Zs G2 s u H1 locs1 → W p l e R s m args below meth c H1 locs1 (cells + mcy) (slots + msy) Q (F0 m (pc + 3) ls rest)) : W p l e R s m args below meth c H locs cells slots Q (F0 m pc ls st0) := by
  obtain ⟨hx, hb, hml, -, -, hown, hts, K, -⟩ := C0
  refine va_callv (va_runV (As := As) (rest := rest) ⟨hx, hb, hml, hown, hts⟩ hM (cwV n hts hgd rfl rfl rfl ⟨hyc, hd⟩ hR) ⟨PcZ.blind, va_recv K.1 Z.1 hc (WS_get hc0 he), fun U hU hW => Z.pre K hU hW⟩ rfl hn hl hst (lv_room hW) hdg hf) Z.2.2 (fun q _ h => h) (fun q h => h) (fun u t H1 locs1 ht hvm hw hB hz1 hk1 hS => ?_)
  refine kk u.1 u.2 H1 locs1 hw.1 hw.2 ⟨?_, hB.2, ?_⟩
  · have := hB.1
    rw [ht] at this
    exact this
  · rw [hw.1.zA]
    exact hS
theorem s_callH (C0 : Cx G own cc nL ret p s m args meth c) (Z : Zs G s v H locs) (hl : ls.size = nL) {y : MethodName} {cy : ByteArray} {nLy : Nat} {hh : List (Nat × Nat × Nat × Nat)} {fr lo mcy msy index n : Nat} {As st0 : List Value} {Qy : Int32 → Nat → V3 → Prop} (hM : Mh l y cy nLy (some .int) hh fr lo mcy msy G As v (QiS G Qy)) (hgd : GoodIn tbg (va_wsS own index y (.codeWith y cy nLy (some .int) hh :: tbg))) (hd : dsc y n) (hR : fr + 1 ≤ R.frames ∧ 8 + (nLy + 11) + lo ≤ R.locals) (hn : As.length = n) (hst : st0 = As.reverse ++ rest) (hW : (rest.map fun v => v.category).sum ≤ 8) (hf : cells + mcy ≤ R.cells ∧ slots + msy ≤ R.slots) (hdg : decode cc pc = .ok (.invokestatic index, 3))
    (kk : ∀ (r : Int32) (G2 : zG) (u : V3) (H1 : Heap) (locs1 : List Loc), ext G G2 → Qy r (gn G2) u → Zs G2 s u H1 locs1 → W p l e R s m args below meth c H1 locs1 (cells + mcy) (slots + msy) Q (F0 m (pc + 3) ls (.int r :: rest))) : W p l e R s m args below meth c H locs cells slots Q (F0 m pc ls st0) := by
  obtain ⟨hx, hb, hml, -, -, hown, hts, K, -⟩ := C0
  refine va_calli (vx_runSW (As := As) (rest := rest) ⟨hx, hb, hml, hown, hts⟩ hM (vx_cwSW n hts hgd rfl rfl rfl hd hR) ⟨PcZ.blind, fun U hU hW => Z.pre K hU hW⟩ rfl hn hl hst (lv_room hW) hdg hf) Z.2.2 (fun q _ h => h) (fun q h => h) (fun r u t H1 locs1 ht hvm hw hB hz1 hk1 hS => ?_)
  refine kk r u.1 u.2 H1 locs1 hw.1 hw.2 ⟨?_, hB.2, ?_⟩
  · have := hB.1
    rw [ht] at this
    exact this
  · rw [hw.1.zA]
    exact hS
theorem s_callVi (C0 : Cx G own cc nL ret p s m args meth c) (Z : Zs G s v H locs) (hl : ls.size = nL) {y : MethodName} {cy : ByteArray} {nLy : Nat} {rety : Option FieldType} {fr lo mcy msy index n ci c0 : Nat} {C : String} {T : u_T} {N : Nat} {fs As st0 : List Value} {Qy : Int32 → Nat → V3 → Prop} (hM : My l y cy nLy rety fr lo mcy msy G (.ref (gad G c0) :: As) v (QiS G Qy)) (hgd : GoodIn tbg (wsV own index C y (.code y cy nLy rety :: tbg))) (hyc : y.cls = C) (hd : dsc y n) (hR : fr + 1 ≤ R.frames ∧ 8 + (nLy + 11) + lo ≤ R.locals) (hc : vwCl[ci]? = some (C, T, N)) (hc0 : c0 < gn G) (he : ent G v c0 = .inr (ci, fs)) (hn : As.length = n) (hst : st0 = As.reverse ++ .ref (gad G c0) :: rest) (hW : (rest.map fun v => v.category).sum ≤ 8) (hf : cells + mcy ≤ R.cells ∧ slots + msy ≤ R.slots) (hdg : decode cc pc = .ok (.invokevirtual index, 3))
    (kk : ∀ (r : Int32) (G2 : zG) (u : V3) (H1 : Heap) (locs1 : List Loc), ext G G2 → Qy r (gn G2) u → Zs G2 s u H1 locs1 → W p l e R s m args below meth c H1 locs1 (cells + mcy) (slots + msy) Q (F0 m (pc + 3) ls (.int r :: rest))) : W p l e R s m args below meth c H locs cells slots Q (F0 m pc ls st0) := by
  obtain ⟨hx, hb, hml, -, -, hown, hts, K, -⟩ := C0
  refine va_calli (va_runV (As := As) (rest := rest) ⟨hx, hb, hml, hown, hts⟩ hM (cwV n hts hgd rfl rfl rfl ⟨hyc, hd⟩ hR) ⟨PcZ.blind, va_recv K.1 Z.1 hc (WS_get hc0 he), fun U hU hW => Z.pre K hU hW⟩ rfl hn hl hst (lv_room hW) hdg hf) Z.2.2 (fun q _ h => h) (fun q h => h) (fun r u t H1 locs1 ht hvm hw hB hz1 hk1 hS => ?_)
  refine kk r u.1 u.2 H1 locs1 hw.1 hw.2 ⟨?_, hB.2, ?_⟩
  · have := hB.1
    rw [ht] at this
    exact this
  · rw [hw.1.zA]
    exact hS
end ZS
section ZQ
variable {p : Program} {l : Launch} {e : Env} {R : Room} {s : State} {m : MethodId} {args : Array Value} {below : List Frame} {meth : Method} {c : Code} {H : Heap} {locs : List Loc} {cells slots : Nat} {Q : State → Prop}
variable {cc : ByteArray} {pc nL : Nat} {ls : Array Slot} {rest : List Value} {G : zG} {v : V3} {own : String} {ret : Option FieldType}
theorem z_qaldN (C0 : Cx G own cc nL ret p s m args meth c) (Z : Zs G s v H locs) {i : Int32} (hin : vp_in i 2) (h0 : v 3 (ix i) = 0) (hdg : decode cc pc = .ok (.aaload, 1))
    (kk : W p l e R s m args below meth c H locs cells slots Q (F0 m (pc + 1) ls (.null :: rest))) : W p l e R s m args below meth c H locs cells slots Q (F0 m pc ls (.int i :: .ref (gad G 3) :: rest)) := by
  have h3 : 3 < gn G := cx_lt C0 (by decide)
  obtain ⟨hx, hb, -, -, -, hown, hts, K, -⟩ := C0
  refine va_aldq hx hb K.1 Z.1 3 3 (WS_get h3 rfl) rfl hin hdg ?_
  rw [if_pos h0]
  exact kk
theorem z_qaldS (C0 : Cx G own cc nL ret p s m args meth c) (Z : Zs G s v H locs) {i : Int32} {b : Nat} (hin : vp_in i 2) (h0 : ¬ v 3 (ix i) = 0) (eb : 8 + 54 * ix (v 3 (ix i)) = b) (hdg : decode cc pc = .ok (.aaload, 1))
    (kk : W p l e R s m args below meth c H locs cells slots Q (F0 m (pc + 1) ls (.ref (gad G b) :: rest))) : W p l e R s m args below meth c H locs cells slots Q (F0 m pc ls (.int i :: .ref (gad G 3) :: rest)) := by
  have h3 : 3 < gn G := cx_lt C0 (by decide)
  obtain ⟨hx, hb, -, -, -, hown, hts, K, -⟩ := C0
  refine va_aldq hx hb K.1 Z.1 3 3 (WS_get h3 rfl) rfl hin hdg ?_
  rw [if_neg h0, eb]
  exact kk
end ZQ
theorem tm_4_26 : Cond.methodLink RL 207 yL_save ∈ tbg := tb4 26 (by decide +kernel) (by decide +kernel)
theorem tm_4_27 : Cond.static yL_save ∈ tbg := tb4 27 (by decide +kernel) (by decide +kernel)
theorem tm_4_28 : Cond.codeWith yL_save cL_save 3 (some .int) [(0, 6, 7, 43)] ∈ tbg := tb4 28 (by decide +kernel) (by decide +kernel)
theorem tm_4_29 : Cond.methodLink RL 135 yX3_save ∈ tbg := tb4 29 (by decide +kernel) (by decide +kernel)
theorem tm_4_30 : Cond.instanceMethod yX3_save ∈ tbg := tb4 30 (by decide +kernel) (by decide +kernel)
theorem tm_4_31 : Cond.selects RX3 yX3_save yX3_save ∈ tbg := tb4 31 (by decide +kernel) (by decide +kernel)
theorem tm_4_32 : Cond.code yX3_save cX3_save 2 none ∈ tbg := tb4 32 (by decide +kernel) (by decide +kernel)
theorem tm_4_33 : Cond.methodLink RL 209 yL_waitsFor ∈ tbg := tb4 33 (by decide +kernel) (by decide +kernel)
theorem tm_4_34 : Cond.static yL_waitsFor ∈ tbg := tb4 34 (by decide +kernel) (by decide +kernel)
theorem tm_4_35 : Cond.codeWith yL_waitsFor cL_waitsFor 4 (some .int) [(0, 6, 7, 56), (0, 6, 11, 43)] ∈ tbg := tb4 35 (by decide +kernel) (by decide +kernel)
theorem tm_4_40 : Cond.methodLink RL 211 yL_restore ∈ tbg := tb4 40 (by decide +kernel) (by decide +kernel)
theorem tm_4_41 : Cond.static yL_restore ∈ tbg := tb4 41 (by decide +kernel) (by decide +kernel)
theorem tm_4_42 : Cond.codeWith yL_restore cL_restore 3 (some .int) [(0, 6, 7, 43), (0, 6, 11, 45)] ∈ tbg := tb4 42 (by decide +kernel) (by decide +kernel)
theorem tm_4_43 : Cond.methodLink RL 139 yX3_restore ∈ tbg := tb4 43 (by decide +kernel) (by decide +kernel)
theorem tm_4_44 : Cond.instanceMethod yX3_restore ∈ tbg := tb4 44 (by decide +kernel) (by decide +kernel)
theorem tm_4_45 : Cond.selects RX3 yX3_restore yX3_restore ∈ tbg := tb4 45 (by decide +kernel) (by decide +kernel)
theorem tm_4_46 : Cond.code yX3_restore cX3_restore 3 none ∈ tbg := tb4 46 (by decide +kernel) (by decide +kernel)
theorem tm_4_48 : Cond.methodLink RX3 94 yX3_resetDraft ∈ tbg := tb4 48 (by decide +kernel) (by decide +kernel)
theorem tm_4_50 : Cond.instanceMethod yX3_resetDraft ∈ tbg := tb4 50 (by decide +kernel) (by decide +kernel)
theorem tm_4_51 : Cond.code yX3_resetDraft cX3_resetDraft 1 none ∈ tbg := tb4 51 (by decide +kernel) (by decide +kernel)
theorem gv_L_restore {own : String} {idx : Nat} (h : Cond.methodLink own idx yL_restore ∈ tbg) : GoodIn tbg (va_wsS own idx yL_restore (.codeWith yL_restore cL_restore 3 (some .int) [(0, 6, 7, 43), (0, 6, 11, 45)] :: tbg)) := z_goodSW h tm_4_41 tm_1_0 tm_4_42
theorem ds_L_restore : dsc yL_restore 2 := ⟨by decide +kernel, by decide +kernel, by decide +kernel⟩
theorem gv_L_save {own : String} {idx : Nat} (h : Cond.methodLink own idx yL_save ∈ tbg) : GoodIn tbg (va_wsS own idx yL_save (.codeWith yL_save cL_save 3 (some .int) [(0, 6, 7, 43)] :: tbg)) := z_goodSW h tm_4_27 tm_1_0 tm_4_28
theorem ds_L_save : dsc yL_save 2 := ⟨by decide +kernel, by decide +kernel, by decide +kernel⟩
theorem gv_L_waitsFor {own : String} {idx : Nat} (h : Cond.methodLink own idx yL_waitsFor ∈ tbg) : GoodIn tbg (va_wsS own idx yL_waitsFor (.codeWith yL_waitsFor cL_waitsFor 4 (some .int) [(0, 6, 7, 56), (0, 6, 11, 43)] :: tbg)) := z_goodSW h tm_4_34 tm_1_0 tm_4_35
theorem ds_L_waitsFor : dsc yL_waitsFor 3 := ⟨by decide +kernel, by decide +kernel, by decide +kernel⟩
theorem gv_X3_resetDraft {own : String} {idx : Nat} (h : Cond.methodLink own idx yX3_resetDraft ∈ tbg) : GoodIn tbg (wsV own idx RX3 yX3_resetDraft (.code yX3_resetDraft cX3_resetDraft 1 none :: tbg)) := z_goodV h tm_4_50 (tb0 (by decide +kernel) (by decide +kernel)) tm_1_1 tm_4_51
theorem ds_X3_resetDraft : dsc yX3_resetDraft 0 := ⟨by decide +kernel, by decide +kernel, by decide +kernel⟩
theorem gv_X3_restore {own : String} {idx : Nat} (h : Cond.methodLink own idx yX3_restore ∈ tbg) : GoodIn tbg (wsV own idx RX3 yX3_restore (.code yX3_restore cX3_restore 3 none :: tbg)) := z_goodV h tm_4_44 tm_4_45 tm_1_1 tm_4_46
theorem ds_X3_restore : dsc yX3_restore 1 := ⟨by decide +kernel, by decide +kernel, by decide +kernel⟩
theorem gv_X3_save {own : String} {idx : Nat} (h : Cond.methodLink own idx yX3_save ∈ tbg) : GoodIn tbg (wsV own idx RX3 yX3_save (.code yX3_save cX3_save 2 none :: tbg)) := z_goodV h tm_4_30 tm_4_31 tm_1_1 tm_4_32
theorem ds_X3_save : dsc yX3_save 1 := ⟨by decide +kernel, by decide +kernel, by decide +kernel⟩
def w_X3_save (N : Nat) (a1 : Int32) (v : V3) (Q : Nat → V3 → Prop) : Prop := w_X3_needWithin a1 0 1 v (fun v1 => v1 = v ∧ vp_in a1 2 ∧ ((v 3 (ix a1) = 0 → (N = 116 ∨ N = 170) ∧ ∀ v2 : V3, (∀ c, c ≠ 3 → c < N → v2 c = v c) → v2 3 = upd (v 3) (ix a1) (nI ((N - 8) / 54)) → w_X1_copyFrom N 8 v2 (fun v3 => Q (N + 54) v3)) ∧ (¬ v 3 (ix a1) = 0 → ∃ b, 8 + 54 * ix (v 3 (ix a1)) = b ∧ (b = 116 ∨ b = 170) ∧ b + 54 ≤ N ∧ w_X1_copyFrom b 8 v (fun v3 => Q N v3))))
def w_X3_restore (N : Nat) (a1 : Int32) (v : V3) (Q : V3 → Prop) : Prop := w_X3_needWithin a1 0 1 v (fun v1 => vp_in a1 2 ∧ ((v1 3 (ix a1) = 0 → False) ∧ (¬ v1 3 (ix a1) = 0 → ∃ b, 8 + 54 * ix (v1 3 (ix a1)) = b ∧ (b = 116 ∨ b = 170) ∧ b + 54 ≤ N ∧ w_X1_copyFrom 8 b v1 (fun v2 => w_X3_resetDraft v2 Q))))
theorem dX3_save_0 : decode cX3_save 0 = .ok (.iload_n 1, 1) := by decide +kernel
theorem dX3_save_1 : decode cX3_save 1 = .ok (.iconst 0, 1) := by decide +kernel
theorem dX3_save_2 : decode cX3_save 2 = .ok (.iconst 1, 1) := by decide +kernel
theorem dX3_save_3 : decode cX3_save 3 = .ok (.invokestatic 77, 3) := by decide +kernel
theorem dX3_save_6 : decode cX3_save 6 = .ok (.aload_n 0, 1) := by decide +kernel
theorem dX3_save_7 : decode cX3_save 7 = .ok (.getfield 33, 3) := by decide +kernel
theorem dX3_save_10 : decode cX3_save 10 = .ok (.iload_n 1, 1) := by decide +kernel
theorem dX3_save_11 : decode cX3_save 11 = .ok (.aaload, 1) := by decide +kernel
theorem dX3_save_12 : decode cX3_save 12 = .ok (.ifnonnull 16, 3) := by decide +kernel
theorem dX3_save_15 : decode cX3_save 15 = .ok (.aload_n 0, 1) := by decide +kernel
theorem dX3_save_16 : decode cX3_save 16 = .ok (.getfield 33, 3) := by decide +kernel
theorem dX3_save_19 : decode cX3_save 19 = .ok (.iload_n 1, 1) := by decide +kernel
theorem dX3_save_20 : decode cX3_save 20 = .ok (.new 23, 3) := by decide +kernel
theorem dX3_save_23 : decode cX3_save 23 = .ok (.dup, 1) := by decide +kernel
theorem dX3_save_24 : decode cX3_save 24 = .ok (.invokespecial 25, 3) := by decide +kernel
theorem dX3_save_27 : decode cX3_save 27 = .ok (.aastore, 1) := by decide +kernel
theorem dX3_save_28 : decode cX3_save 28 = .ok (.aload_n 0, 1) := by decide +kernel
theorem dX3_save_29 : decode cX3_save 29 = .ok (.getfield 33, 3) := by decide +kernel
theorem dX3_save_32 : decode cX3_save 32 = .ok (.iload_n 1, 1) := by decide +kernel
theorem dX3_save_33 : decode cX3_save 33 = .ok (.aaload, 1) := by decide +kernel
theorem dX3_save_34 : decode cX3_save 34 = .ok (.aload_n 0, 1) := by decide +kernel
theorem dX3_save_35 : decode cX3_save 35 = .ok (.getfield 26, 3) := by decide +kernel
theorem dX3_save_38 : decode cX3_save 38 = .ok (.invokevirtual 91, 3) := by decide +kernel
theorem dX3_save_41 : decode cX3_save 41 = .ok (.return_, 1) := by decide +kernel
theorem dX3_restore_0 : decode cX3_restore 0 = .ok (.iload_n 1, 1) := by decide +kernel
theorem dX3_restore_1 : decode cX3_restore 1 = .ok (.iconst 0, 1) := by decide +kernel
theorem dX3_restore_2 : decode cX3_restore 2 = .ok (.iconst 1, 1) := by decide +kernel
theorem dX3_restore_3 : decode cX3_restore 3 = .ok (.invokestatic 77, 3) := by decide +kernel
theorem dX3_restore_6 : decode cX3_restore 6 = .ok (.aload_n 0, 1) := by decide +kernel
theorem dX3_restore_7 : decode cX3_restore 7 = .ok (.getfield 33, 3) := by decide +kernel
theorem dX3_restore_10 : decode cX3_restore 10 = .ok (.iload_n 1, 1) := by decide +kernel
theorem dX3_restore_11 : decode cX3_restore 11 = .ok (.aaload, 1) := by decide +kernel
theorem dX3_restore_12 : decode cX3_restore 12 = .ok (.astore_n 2, 1) := by decide +kernel
theorem dX3_restore_13 : decode cX3_restore 13 = .ok (.aload_n 2, 1) := by decide +kernel
theorem dX3_restore_14 : decode cX3_restore 14 = .ok (.ifnonnull 14, 3) := by decide +kernel
theorem dX3_restore_17 : decode cX3_restore 17 = .ok (.new 70, 3) := by decide +kernel
theorem dX3_restore_20 : decode cX3_restore 20 = .ok (.dup, 1) := by decide +kernel
theorem dX3_restore_21 : decode cX3_restore 21 = .ok (.ldc_w 262, 3) := by decide +kernel
theorem dX3_restore_24 : decode cX3_restore 24 = .ok (.invokespecial 74, 3) := by decide +kernel
theorem dX3_restore_27 : decode cX3_restore 27 = .ok (.athrow, 1) := by decide +kernel
theorem dX3_restore_28 : decode cX3_restore 28 = .ok (.aload_n 0, 1) := by decide +kernel
theorem dX3_restore_29 : decode cX3_restore 29 = .ok (.getfield 26, 3) := by decide +kernel
theorem dX3_restore_32 : decode cX3_restore 32 = .ok (.aload_n 2, 1) := by decide +kernel
theorem dX3_restore_33 : decode cX3_restore 33 = .ok (.invokevirtual 91, 3) := by decide +kernel
theorem dX3_restore_36 : decode cX3_restore 36 = .ok (.aload_n 0, 1) := by decide +kernel
theorem dX3_restore_37 : decode cX3_restore 37 = .ok (.invokevirtual 94, 3) := by decide +kernel
theorem dX3_restore_40 : decode cX3_restore 40 = .ok (.return_, 1) := by decide +kernel
theorem dL_save_0 : decode cL_save 0 = .ok (.aload_n 0, 1) := by decide +kernel
theorem dL_save_1 : decode cL_save 1 = .ok (.iload_n 1, 1) := by decide +kernel
theorem dL_save_2 : decode cL_save 2 = .ok (.invokevirtual 135, 3) := by decide +kernel
theorem dL_save_5 : decode cL_save 5 = .ok (.iconst 0, 1) := by decide +kernel
theorem dL_save_6 : decode cL_save 6 = .ok (.ireturn, 1) := by decide +kernel
theorem dL_save_7 : decode cL_save 7 = .ok (.astore_n 2, 1) := by decide +kernel
theorem dL_save_8 : decode cL_save 8 = .ok (.bipush (-102), 2) := by decide +kernel
theorem dL_save_10 : decode cL_save 10 = .ok (.ireturn, 1) := by decide +kernel
theorem dL_restore_0 : decode cL_restore 0 = .ok (.aload_n 0, 1) := by decide +kernel
theorem dL_restore_1 : decode cL_restore 1 = .ok (.iload_n 1, 1) := by decide +kernel
theorem dL_restore_2 : decode cL_restore 2 = .ok (.invokevirtual 139, 3) := by decide +kernel
theorem dL_restore_5 : decode cL_restore 5 = .ok (.iconst 0, 1) := by decide +kernel
theorem dL_restore_6 : decode cL_restore 6 = .ok (.ireturn, 1) := by decide +kernel
theorem dL_restore_7 : decode cL_restore 7 = .ok (.astore_n 2, 1) := by decide +kernel
theorem dL_restore_8 : decode cL_restore 8 = .ok (.bipush (-102), 2) := by decide +kernel
theorem dL_restore_10 : decode cL_restore 10 = .ok (.ireturn, 1) := by decide +kernel
theorem dL_restore_11 : decode cL_restore 11 = .ok (.astore_n 2, 1) := by decide +kernel
theorem dL_restore_12 : decode cL_restore 12 = .ok (.bipush (-103), 2) := by decide +kernel
theorem dL_restore_14 : decode cL_restore 14 = .ok (.ireturn, 1) := by decide +kernel
set_option maxRecDepth 100000 in
set_option maxHeartbeats 4000000 in
theorem k_X3_save (l : Launch) {G : zG} (hg : 116 ≤ gn G) {a1 : Int32} {v : V3} {Q : Nat → V3 → Prop} (hs : ∀ j, j < 2 → v 3 j = 0 ∨ 8 + 54 * ix (v 3 j) < gn G) (hw : w_X3_save (gn G) a1 v Q) : My l yX3_save cX3_save 2 none 7 130 54 571 G [.ref (gad G 0), .int a1] v (QvS G Q) := by
  rw [w_X3_save] at hw
  refine z_yofW hg (by decide) (Nat.le_of_ble_eq_true rfl) ?_
  intro p e s m args below meth c ls C0 Z hl
  have hx := C0.1
  have hb := C0.2.1
  replace hl : lv_has ls 2 [(0, .ref (gad G 0)), (1, .int a1)] := hl
  generalize s.heap = H at Z ⊢
  generalize ([] : List Loc) = locs at Z ⊢
  refine lv_iload_n hx hb dX3_save_0 rfl (lv_at hl 1 rfl) ?_
  refine lv_iconst (v := 0) hx hb dX3_save_1 (by decide) ?_
  refine lv_iconst (v := 1) hx hb dX3_save_2 (by decide) ?_
  refine z_callSv C0 Z hl.1 (As := [.int a1, .int 0, .int 1]) (rest := []) (k_X3_needWithin l (cx_g C0) hw) (gv_X3_needWithin tm_1_228) ds_X3_needWithin ⟨(Nat.le_of_ble_eq_true rfl), (Nat.le_of_ble_eq_true rfl)⟩ rfl rfl (Nat.le_of_ble_eq_true rfl) ⟨(Nat.le_of_ble_eq_true rfl), (Nat.le_of_ble_eq_true rfl)⟩ dX3_save_3 (fun v1 H locs hw Z => ?_)
  obtain ⟨e1, h2, hw⟩ := hw
  rw [e1] at Z
  clear e1 v1
  have hk2 : ix a1 < 2 := vp_lt h2
  refine lv_aload_n hx hb dX3_save_6 rfl (lv_at hl 0 rfl) ?_
  refine z_get C0 Z in_X3 rfl 6 (by decide) rfl tm_1_144 (cx_lt C0 (by decide)) rfl rfl dX3_save_7 ?_
  refine lv_iload_n hx hb dX3_save_10 rfl (lv_at hl 1 rfl) ?_
  by_cases c3 : v 3 (ix a1) = 0
  · obtain ⟨hN, hw⟩ := hw.1 c3
    refine z_qaldN C0 Z h2 c3 dX3_save_11 ?_
    refine lv_ifnonnullN hx hb dX3_save_12 ?_
    refine lv_aload_n hx hb dX3_save_15 rfl (lv_at hl 0 rfl) ?_
    refine z_get C0 Z in_X3 rfl 6 (by decide) rfl tm_1_144 (cx_lt C0 (by decide)) rfl rfl dX3_save_16 ?_
    refine lv_iload_n hx hb dX3_save_19 rfl (lv_at hl 1 rfl) ?_
    replace Z : Zr G s (WS G v) H locs := Z
    refine r_new (X := []) (Y := WS G v) (ci := 1) (C := RX1) (T := TX1) (N := 11) (fs := fsX10) C0 Z in_X1 tyX1 tyX1_ok tm_1_27 tm_1_28 tm_1_2 rfl df_X1 (Nat.le_of_ble_eq_true rfl) (Nat.le_of_ble_eq_true rfl) dX3_save_20 (fun q H Z => ?_)
    replace Z : Zr G s (eO q 1 fsX10 :: WS G v) H locs := Z
    refine lv_dup hx hb dX3_save_23 rfl ?_
    refine r_callI C0 Z hl.1 (As := []) (rest := [.ref q, .int a1, .ref (gad G 3)]) (k_X1_init l hg) tm_1_31 tm_1_2 tm_1_29 tm_1_30 rfl ds_X1_init ⟨(Nat.le_of_ble_eq_true rfl), (Nat.le_of_ble_eq_true rfl)⟩ rfl rfl (Nat.le_of_ble_eq_true rfl) ⟨(Nat.le_of_ble_eq_true rfl), (Nat.le_of_ble_eq_true rfl)⟩ dX3_save_24 (fun u H locs hu Z1 => ?_)
    obtain ⟨ad, e9, rfl⟩ := hu
    subst e9
    have Z2 : Zr G s (WS G v ++ LLx G ad) H locs := Z1.perm List.perm_append_comm
    refine r_astq C0 Z2 (q0 := 3) (qk := gn G) (n := 2) ((List.getElem?_append_left (by rw [WS_len]; omega)).trans (WS_get (by omega) rfl)) (by rw [List.getElem?_append_right (by rw [WS_len]; exact Nat.le_refl _), WS_len, Nat.sub_self]; rfl) h2 dX3_save_27 (fun H locs Z3 => ?_)
    rw [List.set_append_left _ _ (by rw [WS_len]; omega)] at Z3
    have Z4 := sv_world hN hk2 hs Z3
    have x2 := ext.S hg ad
    have C2 := x2.cx C0
    have ev : ∀ c, c ≠ 3 → c < gn G → vS v (ix a1) (gn G) c = v c := fun c h3 hc => by
      unfold vS
      rw [if_pos hc, if_neg h3]
    have e3 : vS v (ix a1) (gn G) 3 = upd (v 3) (ix a1) (nI ((gn G - 8) / 54)) := by
      unfold vS
      rw [if_pos (by omega), if_pos rfl]
    replace hw := hw _ ev e3
    have e4 : vS v (ix a1) (gn G) 3 (ix a1) = nI ((gn G - 8) / 54) := by rw [e3, pk_us]
    have e5 : ix (vS v (ix a1) (gn G) 3 (ix a1)) = (gn G - 8) / 54 := by rw [e4]; exact nI_clamp (by omega)
    have hn0 : ¬ vS v (ix a1) (gn G) 3 (ix a1) = 0 := by
      intro h
      rw [h] at e5
      have : ix (0 : Int32) = 0 := rfl
      omega
    have hLb : isL (gS G ad) (gn G) := ⟨by omega, Nat.le_refl _⟩
    generalize vS v (ix a1) (gn G) = v2 at Z4 hw ev e3 e4 e5 hn0
    rw [← gS_lo (G := G) (ad := ad) (c := 0) (by omega)] at hl
    refine lv_aload_n hx hb dX3_save_28 rfl (lv_at hl 0 rfl) ?_
    refine z_get C2 Z4 in_X3 rfl 6 (by decide) rfl tm_1_144 (cx_lt C2 (by decide)) rfl rfl dX3_save_29 ?_
    refine lv_iload_n hx hb dX3_save_32 rfl (lv_at hl 1 rfl) ?_
    refine z_qaldS C2 Z4 (b := gn G) h2 hn0 (by rw [e5]; omega) dX3_save_33 ?_
    refine lv_aload_n hx hb dX3_save_34 rfl (lv_at hl 0 rfl) ?_
    refine z_get C2 Z4 in_X3 rfl 4 (by decide) rfl tm_1_142 (cx_lt C2 (by decide)) rfl rfl dX3_save_35 ?_
    refine z_callVv C2 Z4 hl.1 (As := [.ref (gad (gS G ad) 8)]) (rest := []) (k_X1_copyFrom l (cx_g C2) hLb (isL8 (cx_g C2)) hw) (gv_X1_copyFrom tm_3_175) rfl ds_X1_copyFrom ⟨(Nat.le_of_ble_eq_true rfl), (Nat.le_of_ble_eq_true rfl)⟩ (ci := 1) rfl (isL_lt0 hLb) (ent_L hLb) rfl rfl (Nat.le_of_ble_eq_true rfl) ⟨(Nat.le_of_ble_eq_true rfl), (Nat.le_of_ble_eq_true rfl)⟩ dX3_save_38 (fun v7 H locs hw Z => ?_)
    refine z_wide (mc := 54) (ms := 571) (Nat.le_of_ble_eq_true rfl) (Nat.le_of_ble_eq_true rfl) ?_
    exact s_vret C0 x2 Z hw dX3_save_41
  · obtain ⟨b, eb, hb2, hbg, hw⟩ := hw.2 c3
    have hLb : isL G b := ⟨hb2.elim (fun q => .inr (.inr (.inl q))) (fun q => .inr (.inr (.inr q))), hbg⟩
    refine z_qaldS C0 Z h2 c3 eb dX3_save_11 ?_
    refine lv_ifnonnull (tgt := 28) hx hb dX3_save_12 (by decide) ?_
    refine lv_aload_n hx hb dX3_save_28 rfl (lv_at hl 0 rfl) ?_
    refine z_get C0 Z in_X3 rfl 6 (by decide) rfl tm_1_144 (cx_lt C0 (by decide)) rfl rfl dX3_save_29 ?_
    refine lv_iload_n hx hb dX3_save_32 rfl (lv_at hl 1 rfl) ?_
    refine z_qaldS C0 Z h2 c3 eb dX3_save_33 ?_
    refine lv_aload_n hx hb dX3_save_34 rfl (lv_at hl 0 rfl) ?_
    refine z_get C0 Z in_X3 rfl 4 (by decide) rfl tm_1_142 (cx_lt C0 (by decide)) rfl rfl dX3_save_35 ?_
    refine z_callVv C0 Z hl.1 (As := [.ref (gad G 8)]) (rest := []) (k_X1_copyFrom l (cx_g C0) hLb (isL8 (cx_g C0)) hw) (gv_X1_copyFrom tm_3_175) rfl ds_X1_copyFrom ⟨(Nat.le_of_ble_eq_true rfl), (Nat.le_of_ble_eq_true rfl)⟩ (ci := 1) rfl (isL_lt0 hLb) (ent_L hLb) rfl rfl (Nat.le_of_ble_eq_true rfl) ⟨(Nat.le_of_ble_eq_true rfl), (Nat.le_of_ble_eq_true rfl)⟩ dX3_save_38 (fun v7 H locs hw Z => ?_)
    refine z_wide (mc := 54) (ms := 571) (Nat.le_of_ble_eq_true rfl) (Nat.le_of_ble_eq_true rfl) ?_
    exact s_vret C0 (ext.rf hg) Z hw dX3_save_41
set_option maxRecDepth 100000 in
set_option maxHeartbeats 4000000 in
theorem k_X3_restore (l : Launch) {G : zG} (hg : 116 ≤ gn G) {a1 : Int32} {v : V3} {Q : V3 → Prop} (hw : w_X3_restore (gn G) a1 v Q) : Mz l yX3_restore cX3_restore 3 none 7 112 G [.ref (gad G 0), .int a1] v (QvZ G Q) := by
  rw [w_X3_restore] at hw
  refine z_ofW hg (by decide) (Nat.le_of_ble_eq_true rfl) ?_
  intro p e s m args below meth c ls C0 Z hl
  have hx := C0.1
  have hb := C0.2.1
  replace hl : lv_has ls 3 [(0, .ref (gad G 0)), (1, .int a1)] := hl
  generalize s.heap = H at Z ⊢
  generalize ([] : List Loc) = locs at Z ⊢
  refine lv_iload_n hx hb dX3_restore_0 rfl (lv_at hl 1 rfl) ?_
  refine lv_iconst (v := 0) hx hb dX3_restore_1 (by decide) ?_
  refine lv_iconst (v := 1) hx hb dX3_restore_2 (by decide) ?_
  refine z_callSv C0 Z hl.1 (As := [.int a1, .int 0, .int 1]) (rest := []) (k_X3_needWithin l (cx_g C0) hw) (gv_X3_needWithin tm_1_228) ds_X3_needWithin ⟨(Nat.le_of_ble_eq_true rfl), (Nat.le_of_ble_eq_true rfl)⟩ rfl rfl (Nat.le_of_ble_eq_true rfl) ⟨(Nat.le_of_ble_eq_true rfl), (Nat.le_of_ble_eq_true rfl)⟩ dX3_restore_3 (fun v1 H locs hw Z => ?_)
  obtain ⟨h2, hw⟩ := hw
  refine lv_aload_n hx hb dX3_restore_6 rfl (lv_at hl 0 rfl) ?_
  refine z_get C0 Z in_X3 rfl 6 (by decide) rfl tm_1_144 (cx_lt C0 (by decide)) rfl rfl dX3_restore_7 ?_
  refine lv_iload_n hx hb dX3_restore_10 rfl (lv_at hl 1 rfl) ?_
  by_cases c3 : v1 3 (ix a1) = 0
  · exact (hw.1 c3).elim
  · obtain ⟨b, eb, hb2, hbg, hw⟩ := hw.2 c3
    have hLb : isL G b := ⟨hb2.elim (fun q => .inr (.inr (.inl q))) (fun q => .inr (.inr (.inr q))), hbg⟩
    refine z_qaldS C0 Z h2 c3 eb dX3_restore_11 ?_
    refine lv_astore_n (lv' := [(2, .ref (gad G b)), (0, .ref (gad G 0)), (1, .int a1)]) hx hb dX3_restore_12 rfl hl (by decide) rfl (fun ls hl => ?_)
    refine lv_aload_n hx hb dX3_restore_13 rfl (lv_at hl 0 rfl) ?_
    refine lv_ifnonnull (tgt := 28) hx hb dX3_restore_14 (by decide) ?_
    refine lv_aload_n hx hb dX3_restore_28 rfl (lv_at hl 1 rfl) ?_
    refine z_get C0 Z in_X3 rfl 4 (by decide) rfl tm_1_142 (cx_lt C0 (by decide)) rfl rfl dX3_restore_29 ?_
    refine lv_aload_n hx hb dX3_restore_32 rfl (lv_at hl 0 rfl) ?_
    refine z_callVv C0 Z hl.1 (As := [.ref (gad G b)]) (rest := []) (k_X1_copyFrom l (cx_g C0) (isL8 (cx_g C0)) hLb hw) (gv_X1_copyFrom tm_3_175) rfl ds_X1_copyFrom ⟨Nat.le_of_ble_eq_true rfl, Nat.le_of_ble_eq_true rfl⟩ (ci := 1) rfl (isL_lt0 (isL8 (cx_g C0))) (ent_L (isL8 (cx_g C0))) rfl rfl (Nat.le_of_ble_eq_true rfl) ⟨Nat.le_of_ble_eq_true rfl, Nat.le_of_ble_eq_true rfl⟩ dX3_restore_33 (fun v7 H locs hw Z => ?_)
    refine lv_aload_n hx hb dX3_restore_36 rfl (lv_at hl 1 rfl) ?_
    refine z_callVv C0 Z hl.1 (As := []) (rest := []) (k_X3_resetDraft l (cx_g C0) hw) (gv_X3_resetDraft tm_4_48) rfl ds_X3_resetDraft ⟨Nat.le_of_ble_eq_true rfl, Nat.le_of_ble_eq_true rfl⟩ (ci := 3) rfl (cx_lt C0 (by decide)) rfl rfl rfl (Nat.le_of_ble_eq_true rfl) ⟨Nat.le_of_ble_eq_true rfl, Nat.le_of_ble_eq_true rfl⟩ dX3_restore_37 (fun v8 H locs hw Z => ?_)
    exact z_vret C0 Z hw dX3_restore_40
/-! restore: both sides -/
def w_L_save (N : Nat) (a1 : Int32) (v : V3) (Q : Int32 → Nat → V3 → Prop) : Prop := (∀ j, j < 2 → v 3 j = 0 ∨ 8 + 54 * ix (v 3 j) < N) ∧ w_X3_save N a1 v (fun g u => Q 0 g u)
set_option maxRecDepth 100000 in
set_option maxHeartbeats 4000000 in
theorem k_L_save (l : Launch) {G : zG} (hg : 116 ≤ gn G) {a1 : Int32} {v : V3} {Q : Int32 → Nat → V3 → Prop} (hw : w_L_save (gn G) a1 v Q) : Mh l yL_save cL_save 3 (some .int) [(0, 6, 7, 43)] 8 151 54 571 G [.ref (gad G 0), .int a1] v (QiS G Q) := by
  obtain ⟨hs, hw⟩ := hw
  refine z_hofW hg (by decide) (Nat.le_of_ble_eq_true rfl) ?_
  intro p e s m args below meth c ls C0 hT Z hl
  have hx := C0.1
  have hb := C0.2.1
  replace hl : lv_has ls 3 [(0, .ref (gad G 0)), (1, .int a1)] := hl
  generalize s.heap = H at Z ⊢
  generalize ([] : List Loc) = locs at Z ⊢
  refine lv_aload_n hx hb dL_save_0 rfl (lv_at hl 0 rfl) ?_
  refine lv_iload_n hx hb dL_save_1 rfl (lv_at hl 1 rfl) ?_
  refine s_callVv C0 Z hl.1 (As := [.int a1]) (rest := []) (k_X3_save l hg hs hw) (gv_X3_save tm_4_29) rfl ds_X3_save ⟨(Nat.le_of_ble_eq_true rfl), (Nat.le_of_ble_eq_true rfl)⟩ (ci := 3) rfl (cx_lt C0 (by decide)) rfl rfl rfl (Nat.le_of_ble_eq_true rfl) ⟨(Nat.le_of_ble_eq_true rfl), (Nat.le_of_ble_eq_true rfl)⟩ dL_save_2 (fun G2 u H locs x2 hw Z => ?_)
  refine lv_iconst (v := 0) hx hb dL_save_5 (by decide) ?_
  exact s_iret C0 x2 Z (Q := Q) hw dL_save_6
def w_L_restore (N : Nat) (a1 : Int32) (v : V3) (Q : Int32 → V3 → Prop) : Prop := w_X3_restore N a1 v (fun u => Q 0 u)
set_option maxRecDepth 100000 in
set_option maxHeartbeats 4000000 in
theorem k_L_restore (l : Launch) {G : zG} (hg : 116 ≤ gn G) {N : Nat} (hN : gn G = N) {a1 : Int32} {v : V3} {Q : Int32 → V3 → Prop} (hw : w_L_restore N a1 v Q) : Mh l yL_restore cL_restore 3 (some .int) [(0, 6, 7, 43), (0, 6, 11, 45)] 8 134 0 0 G [.ref (gad G 0), .int a1] v (QiZ G Q) := by
  subst hN
  rw [w_L_restore] at hw
  refine z_hofW hg (by decide) (Nat.le_of_ble_eq_true rfl) ?_
  intro p e s m args below meth c ls C0 hT Z hl
  have hx := C0.1
  have hb := C0.2.1
  replace hl : lv_has ls 3 [(0, .ref (gad G 0)), (1, .int a1)] := hl
  generalize s.heap = H at Z ⊢
  generalize ([] : List Loc) = locs at Z ⊢
  refine lv_aload_n hx hb dL_restore_0 rfl (lv_at hl 0 rfl) ?_
  refine lv_iload_n hx hb dL_restore_1 rfl (lv_at hl 1 rfl) ?_
  refine z_callVv C0 Z hl.1 (As := [.int a1]) (rest := []) (k_X3_restore l hg hw) (gv_X3_restore tm_4_43) rfl ds_X3_restore ⟨(Nat.le_of_ble_eq_true rfl), (Nat.le_of_ble_eq_true rfl)⟩ (ci := 3) rfl (cx_lt C0 (by decide)) rfl rfl rfl (Nat.le_of_ble_eq_true rfl) ⟨(Nat.le_of_ble_eq_true rfl), (Nat.le_of_ble_eq_true rfl)⟩ dL_restore_2 (fun u H locs hw Z => ?_)
  refine lv_iconst (v := 0) hx hb dL_restore_5 (by decide) ?_
  exact z_iret C0 Z (Q := Q) hw dL_restore_6
