/-! ROWS FOR THE METHODS OF THE LAW: a body with handlers, a call whose throw is caught, the law's own cells -/
theorem met_ofWH {l : Launch} {y : MethodName} {ws ws' : List Cond} {rm : Room} {Pc : Array Value → State → Prop} {Qc : Array Value → State → Outcome → State → Prop} {mc ms : Nat} {free : Addr → Prop} {cc : ByteArray} {maxL : Nat} {ret : Option FieldType} {hh : List (Nat × Nat × Nat × Nat)}
    (hy : plainName y.cls = true) (hw : ws = Cond.codeWith y cc maxL ret hh :: ws')
    (body : ∀ p e s m args below meth c s₁, BodyLoose p l y (headSpec ws rm) cc maxL ret e s m args below meth c s₁ → c.maxLocals = maxL → Pc args s →
      W p l e (headSpec ws rm).room s m args below meth c s.heap [] 0 0 (MQ below Qc args s mc ms free) (entryFrame m args maxL)) : Met l y ws rm Pc Qc mc ms free := by
  refine MetFree.of_bodyS (code := cc) (maxLocals := maxL) (ret := ret) hy ?_ ?_
  · intro args s m h hn
    obtain ⟨m9, meth, c, hn9, h1, h2, h3, h4, -, h5, h6, -⟩ := Cond.codeWith_spec (atoms_spec (ws := ws) h _ (by rw [hw]; exact List.mem_cons_self))
    cases hn.symm.trans hn9
    exact ⟨meth, c, h1, h2, h3, h4, h5, h6⟩
  · intro p e s m args below meth c s₁ B hml hP _
    have hh0 : s₁.heap = s.heap := by rw [B.state]; rfl
    obtain ⟨t, a1, o, b1, b2, b3⟩ := body p e s m args below meth c s₁ B hml hP s₁ hh0 (Stand.of_body B)
    exact ⟨t, o, a1, b1, b2, ⟨b3.1, b3.2⟩⟩
abbrev Mh (l : Launch) (y : MethodName) (cc : ByteArray) (nL : Nat) (hh : List (Nat × Nat × Nat × Nat)) (fr lo mc ms : Nat) (G : zG) (av : List Value) (v : V3) (Qc : Array Value → State → Outcome → State → Prop) : Prop :=
  Met l y (.codeWith y cc nL (some .int) hh :: tbg) { frames := fr, cells := mc, slots := ms, locals := lo } (PcZ G av v) Qc mc ms (zA G)
theorem z_hofW {l : Launch} {y : MethodName} {cc : ByteArray} {nL : Nat} {hh : List (Nat × Nat × Nat × Nat)} {fr lo mc ms : Nat} {G : zG} {av : List Value} {v : V3} {Qc : Array Value → State → Outcome → State → Prop} (hg : 129 ≤ gn G) (hy : plainName y.cls = true) (hfit : (lg_sl av).length ≤ nL)
    (body : ∀ p e s m args below meth c ls, Cx G y.cls cc nL (some .int) p s m args meth c → c.exceptionTable.toList = tableOf hh → Zs G s v s.heap [] → lv_has ls nL (lv_args 0 av) → W p l e { frames := fr, cells := mc, slots := ms, locals := lo } s m args below meth c s.heap [] 0 0 (MQ below Qc args s mc ms (zA G)) (F0 m 0 ls [])) :
    Mh l y cc nL hh fr lo mc ms G av v Qc := by
  refine met_ofWH (cc := cc) (maxL := nL) (ret := some .int) (hh := hh) hy rfl ?_
  intro p e s m args below meth c s₁ B hml hv
  obtain ⟨rfl, hR, K⟩ := hv
  have hts : ∀ w ∈ tbg, w.before av.toArray s = true := fun w h => atoms_spec (ws := .codeWith y cc nL (some .int) hh :: tbg) B.pre w (List.mem_cons_of_mem _ h)
  have hT : c.exceptionTable.toList = tableOf hh := vx_table (x := y) B (atoms_spec (ws := .codeWith y cc nL (some .int) hh :: tbg) B.pre _ List.mem_cons_self)
  have hown : s.vm.findClass y.cls = some m.cls := findClass_of_methodNamed B.named
  have hl := lv_entry av (n := nL) hfit
  rw [lg_entry_eq]
  generalize (lg_sl av ++ List.replicate (nL - (lg_sl av).length) Slot.unset).toArray = ls at hl ⊢
  exact body p e s m av.toArray below meth c ls ⟨B.exec, B.bytes, hml, B.returns, B.notSynchronized, hown, hts, K, hg⟩ hT ⟨hR.1, hR.2, va_S.rf⟩ hl
/-- what a cell of the law's own holds -/
def o19 (v : V3) (x : Int64) : V3 := up2 (up2 v 19 0 (hi64 x)) 19 1 (lo64 x)
def o20 (v : V3) (x : UInt64) : V3 := up2 (up2 v 20 0 (hi64 x.toInt64)) 20 1 (lo64 x.toInt64)
theorem arrV_1 {cI : ClassId} {f g : Nat → Value} (h : f 0 = g 0) : arrV cI 1 f = arrV cI 1 g := by
  unfold arrV
  have : (fun j : Fin 1 => f j.val) = fun j : Fin 1 => g j.val := by
    funext j
    rw [show j.val = 0 by omega]
    exact h
  rw [this]
theorem o19_e {v : V3} {x : Int64} : mk64 ((o19 v x) 19 0) ((o19 v x) 19 1) = x := by
  unfold o19
  rw [up2_row, pk_us, pk_un (by decide), up2_row, pk_us]
  exact mk_hl x
theorem o20_e {v : V3} {x : UInt64} : (mk64 ((o20 v x) 20 0) ((o20 v x) 20 1)).toUInt64 = x := by
  unfold o20
  rw [up2_row, pk_us, pk_un (by decide), up2_row, pk_us, mk_hl]
  rfl
theorem o19_off {v : V3} {x : Int64} {c : Nat} (h : c ≠ 19) : o19 v x c = v c := by
  unfold o19
  rw [up2_off _ _ _ h, up2_off _ _ _ h]
theorem o20_off {v : V3} {x : UInt64} {c : Nat} (h : c ≠ 20) : o20 v x c = v c := by
  unfold o20
  rw [up2_off _ _ _ h, up2_off _ _ _ h]
theorem Eq9_19 (v : V3) (x : Int64) : Eq9 v (o19 v x) := fun _ a _ => o19_off a
theorem Eq9_20 (v : V3) (x : UInt64) : Eq9 v (o20 v x) := fun _ _ b => o20_off b
section ZH
variable {p : Program} {l : Launch} {e : Env} {R : Room} {s : State} {m : MethodId} {args : Array Value} {below : List Frame} {meth : Method} {c : Code} {H : Heap} {locs : List Loc} {cells slots : Nat} {Q : State → Prop}
variable {cc : ByteArray} {pc nL : Nat} {ls : Array Slot} {rest : List Value} {G : zG} {v : V3} {own : String} {ret : Option FieldType}
theorem z_last (C0 : Cx G own cc nL ret p s m args meth c) (Z : Zs G s v H locs) {x : Int64} (hdg : decode cc pc = .ok (.lastore, 1))
    (kk : ∀ (H1 : Heap) (locs1 : List Loc), Zs G s (o19 v x) H1 locs1 → W p l e R s m args below meth c H1 locs1 cells slots Q (F0 m (pc + 1) ls rest)) : W p l e R s m args below meth c H locs cells slots Q (F0 m pc ls (.long x :: .int 0 :: .ref (gad G 19) :: rest)) := by
  have h19 : 19 < gn G := cx_lt C0 (by decide)
  obtain ⟨hx, hb, -, -, -, hown, hts, K, -⟩ := C0
  have ha : (WS G v)[19]? = some (gad G 19, .inl (gcA G 3, 1, .inr (.inl (fun _ => mk64 (v 19 0) (v 19 1))))) := WS_get h19 rfl
  refine W.last hx hb (Z.1 19 _ ha) ((K.1.2 3 _ rfl).1 1 (fun _ => .long (mk64 (v 19 0) (v 19 1)))) (fun q => by cases q) (by show ¬ ((0 : Int32) < 0 ∨ (arrV _ _ _).slots.size ≤ _); rw [arrV_size]; exact (by decide : ¬ ((0 : Int32) < 0 ∨ 1 ≤ (0 : Int32).toNatClampNeg))) rfl rfl hdg (fun H1 e1 z oq => ?_)
  have hP := Z.1.set Z.2.1 ha (e := .inl (gcA G 3, 1, .inr (.inl (fun _ => x)))) (H1 := H1) (by
    show H1[gad G 19]? = some (vp_cell _ _)
    rw [e1, vp_cell_l]
    show some ((arrV _ _ _).setSlot 0 (.long x)) = _
    rw [arrV_store]
    exact congrArg some (arrV_1 rfl)) oq
  have hD := Z.2.1.set ha (e := .inl (gcA G 3, 1, .inr (.inl (fun _ => x))))
  rw [WS_set (v' := o19 v x) h19 (by show (Sum.inl (gcA G 3, 1, .inr (.inl (fun _ => mk64 ((o19 v x) 19 0) ((o19 v x) 19 1)))) : va_E) = _; rw [o19_e]) (fun c' h => o19_off h)] at hP hD
  exact kk H1 _ ⟨hP, hD, Z.2.2.put z oq (Z.2.1.2 19 _ ha)⟩
theorem z_dast (C0 : Cx G own cc nL ret p s m args meth c) (Z : Zs G s v H locs) {x : UInt64} (hdg : decode cc pc = .ok (.dastore, 1))
    (kk : ∀ (H1 : Heap) (locs1 : List Loc), Zs G s (o20 v x) H1 locs1 → W p l e R s m args below meth c H1 locs1 cells slots Q (F0 m (pc + 1) ls rest)) : W p l e R s m args below meth c H locs cells slots Q (F0 m pc ls (.double x :: .int 0 :: .ref (gad G 20) :: rest)) := by
  have h20 : 20 < gn G := cx_lt C0 (by decide)
  obtain ⟨hx, hb, -, -, -, hown, hts, K, -⟩ := C0
  have ha : (WS G v)[20]? = some (gad G 20, .inl (gcA G 4, 1, .inr (.inr (.inr (.inl (fun _ => (mk64 (v 20 0) (v 20 1)).toUInt64)))))) := WS_get h20 rfl
  refine W.dast hx hb (Z.1 20 _ ha) ((K.1.2 4 _ rfl).1 1 (fun _ => .double (mk64 (v 20 0) (v 20 1)).toUInt64)) (fun q => by cases q) (by show ¬ ((0 : Int32) < 0 ∨ (arrV _ _ _).slots.size ≤ _); rw [arrV_size]; exact (by decide : ¬ ((0 : Int32) < 0 ∨ 1 ≤ (0 : Int32).toNatClampNeg))) rfl rfl hdg (fun H1 e1 z oq => ?_)
  have hP := Z.1.set Z.2.1 ha (e := .inl (gcA G 4, 1, .inr (.inr (.inr (.inl (fun _ => x)))))) (H1 := H1) (by
    show H1[gad G 20]? = some (vp_cell _ _)
    rw [e1, vp_cell_d]
    show some ((arrV _ _ _).setSlot 0 (.double x)) = _
    rw [arrV_store]
    exact congrArg some (arrV_1 rfl)) oq
  have hD := Z.2.1.set ha (e := .inl (gcA G 4, 1, .inr (.inr (.inr (.inl (fun _ => x))))))
  rw [WS_set (v' := o20 v x) h20 (by show (Sum.inl (gcA G 4, 1, .inr (.inr (.inr (.inl (fun _ => (mk64 ((o20 v x) 20 0) ((o20 v x) 20 1)).toUInt64))))) : va_E) = _; rw [o20_e]) (fun c' h => o20_off h)] at hP hD
  exact kk H1 _ ⟨hP, hD, Z.2.2.put z oq (Z.2.1.2 20 _ ha)⟩
theorem z_hcallVi (C0 : Cx G own cc nL ret p s m args meth c) (Z : Zs G s v H locs) (hl : ls.size = nL) {y : MethodName} {cy : ByteArray} {nLy : Nat} {rety : Option FieldType} {fr lo mcy msy index n ci c0 : Nat} {C : String} {T : u_T} {N : Nat} {fs As st0 : List Value} {Qy : Int32 → V3 → Prop} {X : String → V3 → Prop} (hM : Mx l y cy nLy rety fr lo mcy msy G (.ref (gad G c0) :: As) v (QiZ G Qy) X) (hgd : GoodIn tbg (wsV own index C y (.code y cy nLy rety :: tbg))) (hyc : y.cls = C) (hd : dsc y n) (hR : fr + 1 ≤ R.frames ∧ 8 + (nLy + 11) + lo ≤ R.locals) (hc : vwCl[ci]? = some (C, T, N)) (hc0 : c0 < gn G) (he : ent G v c0 = .inr (ci, fs)) (hn : As.length = n) (hst : st0 = As.reverse ++ .ref (gad G c0) :: rest) (hW : (rest.map fun v => v.category).sum ≤ 8) (hf : cells + mcy ≤ R.cells ∧ slots + msy ≤ R.slots) (hdg : decode cc pc = .ok (.invokevirtual index, 3))
    (kx : ∀ (E : String) (u : V3) (H1 : Heap) (locs1 : List Loc) (ce : Cell) (q9 : Addr), X E u → Zs G s u H1 locs1 → H1[q9]? = some ce → ce.vm = .none → s.vm.findClass E = some ce.cls → vx_W p l e R s m args below meth c H1 locs1 (cells + mcy) (slots + msy) Q (F0 m pc ls rest) q9)
    (kk : ∀ (r : Int32) (u : V3) (H1 : Heap) (locs1 : List Loc), Qy r u → Zs G s u H1 locs1 → W p l e R s m args below meth c H1 locs1 (cells + mcy) (slots + msy) Q (F0 m (pc + 3) ls (.int r :: rest))) : W p l e R s m args below meth c H locs cells slots Q (F0 m pc ls st0) := by
  obtain ⟨hx, hb, hml, -, -, hown, hts, K, -⟩ := C0
  refine vx_calli (vx_runV (As := As) (rest := rest) ⟨hx, hb, hml, hown, hts⟩ hM (cwV n hts hgd rfl rfl rfl ⟨hyc, hd⟩ hR) ⟨PcZ.blind, va_recv K.1 Z.1 hc (WS_get hc0 he), fun U hU hW => Z.pre K hU hW⟩ rfl hn hl hst (lv_room hW) hdg hf) Z.2.2 (fun q _ h => h) (fun q h => h) (fun q _ h => h) (fun E ce q9 u t H1 locs1 ht hvm hp hB hz1 hk1 hS h9 hv9 hc9 => ?_) (fun r u t H1 locs1 ht hvm hw hB hz1 hk1 hS => ?_)
  · have h2 := hB.2.1
    rw [ht] at h2
    exact kx E u.2 H1 locs1 ce q9 (by rw [hB.1]; exact hp) ⟨h2, hB.2.2, hS⟩ h9 hv9 hc9
  · refine kk r u H1 locs1 hw ⟨?_, hB.2, hS⟩
    have := hB.1
    rw [ht] at this
    exact this
theorem z_hcallVd (C0 : Cx G own cc nL ret p s m args meth c) (Z : Zs G s v H locs) (hl : ls.size = nL) {y : MethodName} {cy : ByteArray} {nLy : Nat} {rety : Option FieldType} {fr lo mcy msy index n ci c0 : Nat} {C : String} {T : u_T} {N : Nat} {fs As st0 : List Value} {Qy : UInt64 → V3 → Prop} {X : String → V3 → Prop} (hM : Mx l y cy nLy rety fr lo mcy msy G (.ref (gad G c0) :: As) v (QdZ G Qy) X) (hgd : GoodIn tbg (wsV own index C y (.code y cy nLy rety :: tbg))) (hyc : y.cls = C) (hd : dsc y n) (hR : fr + 1 ≤ R.frames ∧ 8 + (nLy + 11) + lo ≤ R.locals) (hc : vwCl[ci]? = some (C, T, N)) (hc0 : c0 < gn G) (he : ent G v c0 = .inr (ci, fs)) (hn : As.length = n) (hst : st0 = As.reverse ++ .ref (gad G c0) :: rest) (hW : (rest.map fun v => v.category).sum ≤ 8) (hf : cells + mcy ≤ R.cells ∧ slots + msy ≤ R.slots) (hdg : decode cc pc = .ok (.invokevirtual index, 3))
    (kx : ∀ (E : String) (u : V3) (H1 : Heap) (locs1 : List Loc) (ce : Cell) (q9 : Addr), X E u → Zs G s u H1 locs1 → H1[q9]? = some ce → ce.vm = .none → s.vm.findClass E = some ce.cls → vx_W p l e R s m args below meth c H1 locs1 (cells + mcy) (slots + msy) Q (F0 m pc ls rest) q9)
    (kk : ∀ (r : UInt64) (u : V3) (H1 : Heap) (locs1 : List Loc), Qy r u → Zs G s u H1 locs1 → W p l e R s m args below meth c H1 locs1 (cells + mcy) (slots + msy) Q (F0 m (pc + 3) ls (.double r :: rest))) : W p l e R s m args below meth c H locs cells slots Q (F0 m pc ls st0) := by
  obtain ⟨hx, hb, hml, -, -, hown, hts, K, -⟩ := C0
  refine vx_calld (vx_runV (As := As) (rest := rest) ⟨hx, hb, hml, hown, hts⟩ hM (cwV n hts hgd rfl rfl rfl ⟨hyc, hd⟩ hR) ⟨PcZ.blind, va_recv K.1 Z.1 hc (WS_get hc0 he), fun U hU hW => Z.pre K hU hW⟩ rfl hn hl hst (lv_room hW) hdg hf) Z.2.2 (fun q _ h => h) (fun q h => h) (fun q _ h => h) (fun E ce q9 u t H1 locs1 ht hvm hp hB hz1 hk1 hS h9 hv9 hc9 => ?_) (fun r u t H1 locs1 ht hvm hw hB hz1 hk1 hS => ?_)
  · have h2 := hB.2.1
    rw [ht] at h2
    exact kx E u.2 H1 locs1 ce q9 (by rw [hB.1]; exact hp) ⟨h2, hB.2.2, hS⟩ h9 hv9 hc9
  · refine kk r u H1 locs1 hw ⟨?_, hB.2, hS⟩
    have := hB.1
    rw [ht] at this
    exact this
theorem z_hcallVf (C0 : Cx G own cc nL ret p s m args meth c) (Z : Zs G s v H locs) (hl : ls.size = nL) {y : MethodName} {cy : ByteArray} {nLy : Nat} {rety : Option FieldType} {fr lo mcy msy index n ci c0 : Nat} {C : String} {T : u_T} {N : Nat} {fs As st0 : List Value} {Qy : UInt32 → V3 → Prop} {X : String → V3 → Prop} (hM : Mx l y cy nLy rety fr lo mcy msy G (.ref (gad G c0) :: As) v (QfZ G Qy) X) (hgd : GoodIn tbg (wsV own index C y (.code y cy nLy rety :: tbg))) (hyc : y.cls = C) (hd : dsc y n) (hR : fr + 1 ≤ R.frames ∧ 8 + (nLy + 11) + lo ≤ R.locals) (hc : vwCl[ci]? = some (C, T, N)) (hc0 : c0 < gn G) (he : ent G v c0 = .inr (ci, fs)) (hn : As.length = n) (hst : st0 = As.reverse ++ .ref (gad G c0) :: rest) (hW : (rest.map fun v => v.category).sum ≤ 8) (hf : cells + mcy ≤ R.cells ∧ slots + msy ≤ R.slots) (hdg : decode cc pc = .ok (.invokevirtual index, 3))
    (kx : ∀ (E : String) (u : V3) (H1 : Heap) (locs1 : List Loc) (ce : Cell) (q9 : Addr), X E u → Zs G s u H1 locs1 → H1[q9]? = some ce → ce.vm = .none → s.vm.findClass E = some ce.cls → vx_W p l e R s m args below meth c H1 locs1 (cells + mcy) (slots + msy) Q (F0 m pc ls rest) q9)
    (kk : ∀ (r : UInt32) (u : V3) (H1 : Heap) (locs1 : List Loc), Qy r u → Zs G s u H1 locs1 → W p l e R s m args below meth c H1 locs1 (cells + mcy) (slots + msy) Q (F0 m (pc + 3) ls (.float r :: rest))) : W p l e R s m args below meth c H locs cells slots Q (F0 m pc ls st0) := by
  obtain ⟨hx, hb, hml, -, -, hown, hts, K, -⟩ := C0
  refine vx_callf (vx_runV (As := As) (rest := rest) ⟨hx, hb, hml, hown, hts⟩ hM (cwV n hts hgd rfl rfl rfl ⟨hyc, hd⟩ hR) ⟨PcZ.blind, va_recv K.1 Z.1 hc (WS_get hc0 he), fun U hU hW => Z.pre K hU hW⟩ rfl hn hl hst (lv_room hW) hdg hf) Z.2.2 (fun q _ h => h) (fun q h => h) (fun q _ h => h) (fun E ce q9 u t H1 locs1 ht hvm hp hB hz1 hk1 hS h9 hv9 hc9 => ?_) (fun r u t H1 locs1 ht hvm hw hB hz1 hk1 hS => ?_)
  · have h2 := hB.2.1
    rw [ht] at h2
    exact kx E u.2 H1 locs1 ce q9 (by rw [hB.1]; exact hp) ⟨h2, hB.2.2, hS⟩ h9 hv9 hc9
  · refine kk r u H1 locs1 hw ⟨?_, hB.2, hS⟩
    have := hB.1
    rw [ht] at this
    exact this
theorem z_hcallVv (C0 : Cx G own cc nL ret p s m args meth c) (Z : Zs G s v H locs) (hl : ls.size = nL) {y : MethodName} {cy : ByteArray} {nLy : Nat} {rety : Option FieldType} {fr lo mcy msy index n ci c0 : Nat} {C : String} {T : u_T} {N : Nat} {fs As st0 : List Value} {Qy : V3 → Prop} {X : String → V3 → Prop} (hM : Mx l y cy nLy rety fr lo mcy msy G (.ref (gad G c0) :: As) v (QvZ G Qy) X) (hgd : GoodIn tbg (wsV own index C y (.code y cy nLy rety :: tbg))) (hyc : y.cls = C) (hd : dsc y n) (hR : fr + 1 ≤ R.frames ∧ 8 + (nLy + 11) + lo ≤ R.locals) (hc : vwCl[ci]? = some (C, T, N)) (hc0 : c0 < gn G) (he : ent G v c0 = .inr (ci, fs)) (hn : As.length = n) (hst : st0 = As.reverse ++ .ref (gad G c0) :: rest) (hW : (rest.map fun v => v.category).sum ≤ 8) (hf : cells + mcy ≤ R.cells ∧ slots + msy ≤ R.slots) (hdg : decode cc pc = .ok (.invokevirtual index, 3))
    (kx : ∀ (E : String) (u : V3) (H1 : Heap) (locs1 : List Loc) (ce : Cell) (q9 : Addr), X E u → Zs G s u H1 locs1 → H1[q9]? = some ce → ce.vm = .none → s.vm.findClass E = some ce.cls → vx_W p l e R s m args below meth c H1 locs1 (cells + mcy) (slots + msy) Q (F0 m pc ls rest) q9)
    (kk : ∀ (u : V3) (H1 : Heap) (locs1 : List Loc), Qy u → Zs G s u H1 locs1 → W p l e R s m args below meth c H1 locs1 (cells + mcy) (slots + msy) Q (F0 m (pc + 3) ls rest)) : W p l e R s m args below meth c H locs cells slots Q (F0 m pc ls st0) := by
  obtain ⟨hx, hb, hml, -, -, hown, hts, K, -⟩ := C0
  refine vx_callv (vx_runV (As := As) (rest := rest) ⟨hx, hb, hml, hown, hts⟩ hM (cwV n hts hgd rfl rfl rfl ⟨hyc, hd⟩ hR) ⟨PcZ.blind, va_recv K.1 Z.1 hc (WS_get hc0 he), fun U hU hW => Z.pre K hU hW⟩ rfl hn hl hst (lv_room hW) hdg hf) Z.2.2 (fun q _ h => h) (fun q h => h) (fun q _ h => h) (fun E ce q9 u t H1 locs1 ht hvm hp hB hz1 hk1 hS h9 hv9 hc9 => ?_) (fun u t H1 locs1 ht hvm hw hB hz1 hk1 hS => ?_)
  · have h2 := hB.2.1
    rw [ht] at h2
    exact kx E u.2 H1 locs1 ce q9 (by rw [hB.1]; exact hp) ⟨h2, hB.2.2, hS⟩ h9 hv9 hc9
  · refine kk u H1 locs1 hw ⟨?_, hB.2, hS⟩
    have := hB.1
    rw [ht] at this
    exact this
end ZH
/-! floating-point: what is no NaN is equal to itself -/
theorem fp_n64 {r : UInt64} (h : vf_n64 r) : Jvm.FP.Core.decode fm64 r.toNat ≠ .nan := by
  unfold vf_n64 at h
  rw [UInt64.le_iff_toNat_le, UInt64.toNat_and, show UInt64.toNat (0x7fffffffffffffff : UInt64) = 2 ^ 63 - 1 from rfl, Nat.and_two_pow_sub_one_eq_mod, show UInt64.toNat (0x7ff0000000000000 : UInt64) = 2047 * 2 ^ 52 from rfl] at h
  generalize r.toNat = n at h
  unfold Jvm.FP.Core.decode Jvm.FP.Core.fieldE Jvm.FP.Core.fieldT
  rw [fp64_tails, fp64_exps]
  by_cases h1 : n / 2 ^ 52 % 2048 = 2048 - 1
  · rw [if_pos h1, if_pos (by omega)]
    intro q
    cases q
  · rw [if_neg h1]
    by_cases h2 : n / 2 ^ 52 % 2048 = 0
    · rw [if_pos h2]
      intro q
      cases q
    · rw [if_neg h2]
      intro q
      cases q
theorem fp_n32 {r : UInt32} (h : vf_n32 r) : Jvm.FP.Core.decode fm32 r.toNat ≠ .nan := by
  unfold vf_n32 at h
  rw [UInt32.le_iff_toNat_le, UInt32.toNat_and, show UInt32.toNat (0x7fffffff : UInt32) = 2 ^ 31 - 1 from rfl, Nat.and_two_pow_sub_one_eq_mod, show UInt32.toNat (0x7f800000 : UInt32) = 255 * 2 ^ 23 from rfl] at h
  generalize r.toNat = n at h
  unfold Jvm.FP.Core.decode Jvm.FP.Core.fieldE Jvm.FP.Core.fieldT
  rw [fp32_tails, fp32_exps]
  by_cases h1 : n / 2 ^ 23 % 256 = 256 - 1
  · rw [if_pos h1, if_pos (by omega)]
    intro q
    cases q
  · rw [if_neg h1]
    by_cases h2 : n / 2 ^ 23 % 256 = 0
    · rw [if_pos h2]
      intro q
      cases q
    · rw [if_neg h2]
      intro q
      cases q
theorem fp_self {d : Jvm.FP.Core.Datum} (h : d ≠ .nan) : Jvm.FP.Core.order d d = some .eq := by
  cases d with
  | nan => exact absurd rfl h
  | inf s => cases s <;> rfl
  | fin s c q =>
    show some (compare _ _) = some .eq
    simp
theorem fp_dcmp {r : UInt64} (h : vf_n64 r) : FP.dcmp r r = some .eq := fp_self (fp_n64 h)
theorem fp_f2d {r : UInt32} (h : vf_n32 r) : vf_n64 (FP.f2d r) := by
  have hd := fp_n32 h
  have e : FP.f2d r = Jvm.FP.Core.f2d r := by
    show (if Jvm.FP.Core.fIsNaN r then _ else _) = _
    have : Jvm.FP.Core.fIsNaN r = false := decide_eq_false hd
    rw [this]
    rfl
  rw [e]
  show vf_n64 (UInt64.ofNat (Jvm.FP.Core.encode fm64 (Jvm.FP.Core.round fm64 (Jvm.FP.Core.decode fm32 r.toNat))))
  refine fp64_enc ?_
  generalize Jvm.FP.Core.decode fm32 r.toNat = d at hd
  cases d with
  | nan => exact absurd rfl hd
  | inf s => exact trivial
  | fin s c q => exact fp64_ratio _ _ _ _
