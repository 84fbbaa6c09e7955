/-! METHODS WITH A TABLE, METHODS THAT MAKE CELLS, and calls of them -/
theorem met_ofWH {l : Launch} {y : MethodName} {ws ws' : List Cond} {rm : Room} {Pc : Array Value → State → Prop} {Qc : Array Value → State → Outcome → State → Prop} {mc ms : Nat} {free : Addr → Prop} {cc : ByteArray} {maxL : Nat} {ret : Option FieldType} {hh : List (Nat × Nat × Nat × Nat)}
    (hy : plainName y.cls = true) (hw : ws = Cond.codeWith y cc maxL ret hh :: ws')
    (body : ∀ p e s m args below meth c s₁, BodyLoose p l y (headSpec ws rm) cc maxL ret e s m args below meth c s₁ → c.maxLocals = maxL → Pc args s →
      W p l e (headSpec ws rm).room s m args below meth c s.heap [] 0 0 (MQ below Qc args s mc ms free) (entryFrame m args maxL)) : Met l y ws rm Pc Qc mc ms free := by
  refine MetFree.of_bodyS (code := cc) (maxLocals := maxL) (ret := ret) hy ?_ ?_
  · intro args s m h hn
    obtain ⟨m9, meth, c, hn9, h1, h2, h3, h4, -, h5, h6, -⟩ := Cond.codeWith_spec (atoms_spec (ws := ws) h _ (by rw [hw]; exact List.mem_cons_self))
    cases hn.symm.trans hn9
    exact ⟨meth, c, h1, h2, h3, h4, h5, h6⟩
  · intro p e s m args below meth c s₁ B hml hP _
    have hh0 : s₁.heap = s.heap := by rw [B.state]; rfl
    obtain ⟨t, a1, o, b1, b2, b3⟩ := body p e s m args below meth c s₁ B hml hP s₁ hh0 (Stand.of_body B)
    exact ⟨t, o, a1, b1, b2, ⟨b3.1, b3.2⟩⟩
abbrev Mh (l : Launch) (y : MethodName) (cc : ByteArray) (nL : Nat) (ret : Option FieldType) (hh : List (Nat × Nat × Nat × Nat)) (fr lo mc ms : Nat) (G : zG) (av : List Value) (v : V3) (Qc : Array Value → State → Outcome → State → Prop) : Prop :=
  Met l y (.codeWith y cc nL ret hh :: tbg) { frames := fr, cells := mc, slots := ms, locals := lo } (PcZ G av v) Qc mc ms (zA G)
theorem z_hofW {l : Launch} {y : MethodName} {cc : ByteArray} {nL : Nat} {ret : Option FieldType} {hh : List (Nat × Nat × Nat × Nat)} {fr lo mc ms : Nat} {G : zG} {av : List Value} {v : V3} {Qc : Array Value → State → Outcome → State → Prop} (hg : 116 ≤ gn G) (hy : plainName y.cls = true) (hfit : (lg_sl av).length ≤ nL)
    (body : ∀ p e s m args below meth c ls, Cx G y.cls cc nL ret p s m args meth c → c.exceptionTable.toList = tableOf hh → Zs G s v s.heap [] → lv_has ls nL (lv_args 0 av) → W p l e { frames := fr, cells := mc, slots := ms, locals := lo } s m args below meth c s.heap [] 0 0 (MQ below Qc args s mc ms (zA G)) (F0 m 0 ls [])) :
    Mh l y cc nL ret hh fr lo mc ms G av v Qc := by
  refine met_ofWH (cc := cc) (maxL := nL) (ret := ret) (hh := hh) hy rfl ?_
  intro p e s m args below meth c s₁ B hml hv
  obtain ⟨rfl, hR, K⟩ := hv
  have hts : ∀ w ∈ tbg, w.before av.toArray s = true := fun w h => atoms_spec (ws := .codeWith y cc nL ret hh :: tbg) B.pre w (List.mem_cons_of_mem _ h)
  have hT : c.exceptionTable.toList = tableOf hh := vx_table (x := y) B (atoms_spec (ws := .codeWith y cc nL ret hh :: tbg) B.pre _ List.mem_cons_self)
  have hown : s.vm.findClass y.cls = some m.cls := findClass_of_methodNamed B.named
  have hl := lv_entry av (n := nL) hfit
  rw [lg_entry_eq]
  generalize (lg_sl av ++ List.replicate (nL - (lg_sl av).length) Slot.unset).toArray = ls at hl ⊢
  exact body p e s m av.toArray below meth c ls ⟨B.exec, B.bytes, hml, B.returns, B.notSynchronized, hown, hts, K, hg⟩ hT ⟨hR.1, hR.2, va_S.rf⟩ hl
/-- what a method that catches answers -/
def XL (cs : List (String × Int32)) (Q : Int32 → V3 → Prop) (E : String) (u : V3) : Prop := ∃ k, (E, k) ∈ cs ∧ Q k u
abbrev My (l : Launch) (y : MethodName) (cc : ByteArray) (nL : Nat) (ret : Option FieldType) (fr lo mc ms : Nat) (G : zG) (av : List Value) (v : V3) (Qc : Array Value → State → Outcome → State → Prop) : Prop :=
  Met l y (.code y cc nL ret :: tbg) { frames := fr, cells := mc, slots := ms, locals := lo } (PcZ G av v) Qc mc ms (zA G)
theorem z_yofW {l : Launch} {y : MethodName} {cc : ByteArray} {nL : Nat} {ret : Option FieldType} {fr lo mc ms : Nat} {G : zG} {av : List Value} {v : V3} {Qc : Array Value → State → Outcome → State → Prop} (hg : 116 ≤ gn G) (hy : plainName y.cls = true) (hfit : (lg_sl av).length ≤ nL)
    (body : ∀ p e s m args below meth c ls, Cx G y.cls cc nL ret p s m args meth c → Zs G s v s.heap [] → lv_has ls nL (lv_args 0 av) → W p l e { frames := fr, cells := mc, slots := ms, locals := lo } s m args below meth c s.heap [] 0 0 (MQ below Qc args s mc ms (zA G)) (F0 m 0 ls [])) :
    My l y cc nL ret fr lo mc ms G av v Qc := by
  refine Met.ofW (cc := cc) (maxL := nL) (ret := ret) hy rfl ?_
  intro p e s m args below meth c s₁ B hml hv
  obtain ⟨rfl, hR, K⟩ := hv
  have hts : ∀ w ∈ tbg, w.before av.toArray s = true := fun w h => atoms_spec (ws := .code y cc nL ret :: tbg) B.pre w (List.mem_cons_of_mem _ h)
  have hown : s.vm.findClass y.cls = some m.cls := findClass_of_methodNamed B.named
  have hl := lv_entry av (n := nL) hfit
  rw [lg_entry_eq]
  generalize (lg_sl av ++ List.replicate (nL - (lg_sl av).length) Slot.unset).toArray = ls at hl ⊢
  exact body p e s m av.toArray below meth c ls ⟨B.exec, B.bytes, hml, B.returns, B.notSynchronized, hown, hts, K, hg⟩ ⟨hR.1, hR.2, va_S.rf⟩ hl
section ZRW
variable {p : Program} {l : Launch} {e : Env} {R : Room} {s : State} {m : MethodId} {args : Array Value} {below : List Frame} {meth : Method} {c : Code} {H : Heap} {locs : List Loc} {cells slots : Nat} {Q : State → Prop}
variable {cc : ByteArray} {pc nL : Nat} {ls : Array Slot} {rest : List Value} {G : zG} {v : V3} {own : String} {ret : Option FieldType}
theorem z_hcallVi (C0 : Cx G own cc nL ret p s m args meth c) (Z : Zs G s v H locs) (hl : ls.size = nL) {y : MethodName} {cy : ByteArray} {nLy : Nat} {rety : Option FieldType} {fr lo mcy msy index n ci c0 : Nat} {C : String} {T : u_T} {N : Nat} {fs As st0 : List Value} {Qy : Int32 → V3 → Prop} {X : String → V3 → Prop} (hM : Mx l y cy nLy rety fr lo mcy msy G (.ref (gad G c0) :: As) v (QiZ G Qy) X) (hgd : GoodIn tbg (wsV own index C y (.code y cy nLy rety :: tbg))) (hyc : y.cls = C) (hd : dsc y n) (hR : fr + 1 ≤ R.frames ∧ 8 + (nLy + 11) + lo ≤ R.locals) (hc : vwCl[ci]? = some (C, T, N)) (hc0 : c0 < gn G) (he : ent G v c0 = .inr (ci, fs)) (hn : As.length = n) (hst : st0 = As.reverse ++ .ref (gad G c0) :: rest) (hW : (rest.map fun v => v.category).sum ≤ 8) (hf : cells + mcy ≤ R.cells ∧ slots + msy ≤ R.slots) (hdg : decode cc pc = .ok (.invokevirtual index, 3))
    (kx : ∀ (E : String) (u : V3) (H1 : Heap) (locs1 : List Loc) (ce : Cell) (q9 : Addr), X E u → Zs G s u H1 locs1 → H1[q9]? = some ce → ce.vm = .none → s.vm.findClass E = some ce.cls → vx_W p l e R s m args below meth c H1 locs1 (cells + mcy) (slots + msy) Q (F0 m pc ls rest) q9)
    (kk : ∀ (r : Int32) (u : V3) (H1 : Heap) (locs1 : List Loc), Qy r u → Zs G s u H1 locs1 → W p l e R s m args below meth c H1 locs1 (cells + mcy) (slots + msy) Q (F0 m (pc + 3) ls (.int r :: rest))) : W p l e R s m args below meth c H locs cells slots Q (F0 m pc ls st0) := by
  obtain ⟨hx, hb, hml, -, -, hown, hts, K, -⟩ := C0
  refine vx_calli (vx_runV (As := As) (rest := rest) ⟨hx, hb, hml, hown, hts⟩ hM (cwV n hts hgd rfl rfl rfl ⟨hyc, hd⟩ hR) ⟨PcZ.blind, va_recv K.1 Z.1 hc (WS_get hc0 he), fun U hU hW => Z.pre K hU hW⟩ rfl hn hl hst (lv_room hW) hdg hf) Z.2.2 (fun q _ h => h) (fun q h => h) (fun q _ h => h) (fun E ce q9 u t H1 locs1 ht hvm hp hB hz1 hk1 hS h9 hv9 hc9 => ?_) (fun r u t H1 locs1 ht hvm hw hB hz1 hk1 hS => ?_)
  · have h2 := hB.2.1
    rw [ht] at h2
    exact kx E u.2 H1 locs1 ce q9 (by rw [hB.1]; exact hp) ⟨h2, hB.2.2, hS⟩ h9 hv9 hc9
  · refine kk r u H1 locs1 hw ⟨?_, hB.2, hS⟩
    have := hB.1
    rw [ht] at this
    exact this
theorem z_callVd (C0 : Cx G own cc nL ret p s m args meth c) (Z : Zs G s v H locs) (hl : ls.size = nL) {y : MethodName} {cy : ByteArray} {nLy : Nat} {rety : Option FieldType} {fr lo index n ci c0 : Nat} {C : String} {T : u_T} {N : Nat} {fs As st0 : List Value} {Qy : UInt64 → V3 → Prop} (hM : Mz l y cy nLy rety fr lo G (.ref (gad G c0) :: As) v (QdZ G Qy)) (hgd : GoodIn tbg (wsV own index C y (.code y cy nLy rety :: tbg))) (hyc : y.cls = C) (hd : dsc y n) (hR : fr + 1 ≤ R.frames ∧ 8 + (nLy + 11) + lo ≤ R.locals) (hc : vwCl[ci]? = some (C, T, N)) (hc0 : c0 < gn G) (he : ent G v c0 = .inr (ci, fs)) (hn : As.length = n) (hst : st0 = As.reverse ++ .ref (gad G c0) :: rest) (hW : (rest.map fun v => v.category).sum ≤ 8) (hf : cells ≤ R.cells ∧ slots ≤ R.slots) (hdg : decode cc pc = .ok (.invokevirtual index, 3))
    (kk : ∀ (r : UInt64) (u : V3) (H1 : Heap) (locs1 : List Loc), Qy r u → Zs G s u H1 locs1 → W p l e R s m args below meth c H1 locs1 cells slots Q (F0 m (pc + 3) ls (.double r :: rest))) : W p l e R s m args below meth c H locs cells slots Q (F0 m pc ls st0) := by
  obtain ⟨hx, hb, hml, -, -, hown, hts, K, -⟩ := C0
  refine va_calld (va_runV (As := As) (rest := rest) ⟨hx, hb, hml, hown, hts⟩ hM (cwV n hts hgd rfl rfl rfl ⟨hyc, hd⟩ hR) ⟨PcZ.blind, va_recv K.1 Z.1 hc (WS_get hc0 he), fun U hU hW => Z.pre K hU hW⟩ rfl hn hl hst (lv_room hW) hdg hf) Z.2.2 (fun q _ h => h) (fun q h => h) (fun r u t H1 locs1 ht hvm hw hB hz1 hk1 hS => ?_)
  refine kk r u H1 locs1 hw ⟨?_, hB.2, hS⟩
  have := hB.1
  rw [ht] at this
  exact this
theorem z_callH (C0 : Cx G own cc nL ret p s m args meth c) (Z : Zs G s v H locs) (hl : ls.size = nL) {y : MethodName} {cy : ByteArray} {nLy : Nat} {hh : List (Nat × Nat × Nat × Nat)} {fr lo mcy msy index n : Nat} {As st0 : List Value} {Qy : Int32 → V3 → Prop} (hM : Mh l y cy nLy (some .int) hh fr lo mcy msy G As v (QiZ G Qy)) (hgd : GoodIn tbg (va_wsS own index y (.codeWith y cy nLy (some .int) hh :: tbg))) (hd : dsc y n) (hR : fr + 1 ≤ R.frames ∧ 8 + (nLy + 11) + lo ≤ R.locals) (hn : As.length = n) (hst : st0 = As.reverse ++ rest) (hW : (rest.map fun v => v.category).sum ≤ 8) (hf : cells + mcy ≤ R.cells ∧ slots + msy ≤ R.slots) (hdg : decode cc pc = .ok (.invokestatic index, 3))
    (kk : ∀ (r : Int32) (u : V3) (H1 : Heap) (locs1 : List Loc), Qy r u → Zs G s u H1 locs1 → W p l e R s m args below meth c H1 locs1 (cells + mcy) (slots + msy) Q (F0 m (pc + 3) ls (.int r :: rest))) : W p l e R s m args below meth c H locs cells slots Q (F0 m pc ls st0) := by
  obtain ⟨hx, hb, hml, -, -, hown, hts, K, -⟩ := C0
  refine va_calli (vx_runSW (As := As) (rest := rest) ⟨hx, hb, hml, hown, hts⟩ hM (vx_cwSW n hts hgd rfl rfl rfl hd hR) ⟨PcZ.blind, fun U hU hW => Z.pre K hU hW⟩ rfl hn hl hst (lv_room hW) hdg hf) Z.2.2 (fun q _ h => h) (fun q h => h) (fun r u t H1 locs1 ht hvm hw hB hz1 hk1 hS => ?_)
  refine kk r u H1 locs1 hw ⟨?_, hB.2, hS⟩
  have := hB.1
  rw [ht] at this
  exact this
theorem z_callHd (C0 : Cx G own cc nL ret p s m args meth c) (Z : Zs G s v H locs) (hl : ls.size = nL) {y : MethodName} {cy : ByteArray} {nLy : Nat} {hh : List (Nat × Nat × Nat × Nat)} {fr lo mcy msy index n : Nat} {As st0 : List Value} {Qy : UInt64 → V3 → Prop} (hM : Mh l y cy nLy (some .double) hh fr lo mcy msy G As v (QdZ G Qy)) (hgd : GoodIn tbg (va_wsS own index y (.codeWith y cy nLy (some .double) hh :: tbg))) (hd : dsc y n) (hR : fr + 1 ≤ R.frames ∧ 8 + (nLy + 11) + lo ≤ R.locals) (hn : As.length = n) (hst : st0 = As.reverse ++ rest) (hW : (rest.map fun v => v.category).sum ≤ 8) (hf : cells + mcy ≤ R.cells ∧ slots + msy ≤ R.slots) (hdg : decode cc pc = .ok (.invokestatic index, 3))
    (kk : ∀ (r : UInt64) (u : V3) (H1 : Heap) (locs1 : List Loc), Qy r u → Zs G s u H1 locs1 → W p l e R s m args below meth c H1 locs1 (cells + mcy) (slots + msy) Q (F0 m (pc + 3) ls (.double r :: rest))) : W p l e R s m args below meth c H locs cells slots Q (F0 m pc ls st0) := by
  obtain ⟨hx, hb, hml, -, -, hown, hts, K, -⟩ := C0
  refine va_calld (vx_runSW (As := As) (rest := rest) ⟨hx, hb, hml, hown, hts⟩ hM (vx_cwSW n hts hgd rfl rfl rfl hd hR) ⟨PcZ.blind, fun U hU hW => Z.pre K hU hW⟩ rfl hn hl hst (lv_room hW) hdg hf) Z.2.2 (fun q _ h => h) (fun q h => h) (fun r u t H1 locs1 ht hvm hw hB hz1 hk1 hS => ?_)
  refine kk r u H1 locs1 hw ⟨?_, hB.2, hS⟩
  have := hB.1
  rw [ht] at this
  exact this
theorem z_ycallVi (C0 : Cx G own cc nL ret p s m args meth c) (Z : Zs G s v H locs) (hl : ls.size = nL) {y : MethodName} {cy : ByteArray} {nLy : Nat} {rety : Option FieldType} {fr lo mcy msy index n ci c0 : Nat} {C : String} {T : u_T} {N : Nat} {fs As st0 : List Value} {Qy : Int32 → V3 → Prop} (hM : My l y cy nLy rety fr lo mcy msy G (.ref (gad G c0) :: As) v (QiZ G Qy)) (hgd : GoodIn tbg (wsV own index C y (.code y cy nLy rety :: tbg))) (hyc : y.cls = C) (hd : dsc y n) (hR : fr + 1 ≤ R.frames ∧ 8 + (nLy + 11) + lo ≤ R.locals) (hc : vwCl[ci]? = some (C, T, N)) (hc0 : c0 < gn G) (he : ent G v c0 = .inr (ci, fs)) (hn : As.length = n) (hst : st0 = As.reverse ++ .ref (gad G c0) :: rest) (hW : (rest.map fun v => v.category).sum ≤ 8) (hf : cells + mcy ≤ R.cells ∧ slots + msy ≤ R.slots) (hdg : decode cc pc = .ok (.invokevirtual index, 3))
    (kk : ∀ (r : Int32) (u : V3) (H1 : Heap) (locs1 : List Loc), Qy r u → Zs G s u H1 locs1 → W p l e R s m args below meth c H1 locs1 (cells + mcy) (slots + msy) Q (F0 m (pc + 3) ls (.int r :: rest))) : W p l e R s m args below meth c H locs cells slots Q (F0 m pc ls st0) := by
  obtain ⟨hx, hb, hml, -, -, hown, hts, K, -⟩ := C0
  refine va_calli (va_runV (As := As) (rest := rest) ⟨hx, hb, hml, hown, hts⟩ hM (cwV n hts hgd rfl rfl rfl ⟨hyc, hd⟩ hR) ⟨PcZ.blind, va_recv K.1 Z.1 hc (WS_get hc0 he), fun U hU hW => Z.pre K hU hW⟩ rfl hn hl hst (lv_room hW) hdg hf) Z.2.2 (fun q _ h => h) (fun q h => h) (fun r u t H1 locs1 ht hvm hw hB hz1 hk1 hS => ?_)
  refine kk r u H1 locs1 hw ⟨?_, hB.2, hS⟩
  have := hB.1
  rw [ht] at this
  exact this
end ZRW
