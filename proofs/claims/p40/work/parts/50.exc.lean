/-! METHODS THAT MAY THROW -/
abbrev XZ (G : zG) (X : String → V3 → Prop) : String → State → State → Prop := vx_X (fun q : String × V3 => X q.1 q.2) (fun E q t => E = q.1 ∧ Rp G q.2 t.heap) (zA G)
abbrev Mx (l : Launch) (y : MethodName) (cc : ByteArray) (nL : Nat) (ret : Option FieldType) (fr lo mc ms : Nat) (G : zG) (av : List Value) (v : V3) (Qc : Array Value → State → Outcome → State → Prop) (X : String → V3 → Prop) : Prop :=
  vx_Met l y (.code y cc nL ret :: tbg) { frames := fr, cells := mc, slots := ms, locals := lo } (PcZ G av v) Qc (XZ G X) mc ms (zA G)
theorem z_xofW {l : Launch} {y : MethodName} {cc : ByteArray} {nL : Nat} {ret : Option FieldType} {fr lo mc ms : Nat} {G : zG} {av : List Value} {v : V3} {Qc : Array Value → State → Outcome → State → Prop} {X : String → V3 → Prop} (hg : 116 ≤ gn G) (hy : plainName y.cls = true) (hfit : (lg_sl av).length ≤ nL)
    (body : ∀ p e s m args below meth c ls, Cx G y.cls cc nL ret p s m args meth c → (∀ x ∈ c.exceptionTable.toList, False) → Zs G s v s.heap [] → lv_has ls nL (lv_args 0 av) → W p l e { frames := fr, cells := mc, slots := ms, locals := lo } s m args below meth c s.heap [] 0 0 (vx_MQ below Qc (XZ G X) args s mc ms (zA G)) (F0 m 0 ls [])) :
    Mx l y cc nL ret fr lo mc ms G av v Qc X := by
  refine vx_ofW (cc := cc) (maxL := nL) (ret := ret) hy rfl ?_
  intro p e s m args below meth c s₁ B hml hT hv
  obtain ⟨rfl, hR, K⟩ := hv
  have hts : ∀ w ∈ tbg, w.before av.toArray s = true := fun w h => atoms_spec (ws := .code y cc nL ret :: tbg) B.pre w (List.mem_cons_of_mem _ h)
  have hown : s.vm.findClass y.cls = some m.cls := findClass_of_methodNamed B.named
  have hl := lv_entry av (n := nL) hfit
  rw [lg_entry_eq]
  generalize (lg_sl av ++ List.replicate (nL - (lg_sl av).length) Slot.unset).toArray = ls at hl ⊢
  exact body p e s m av.toArray below meth c ls ⟨B.exec, B.bytes, hml, B.returns, B.notSynchronized, hown, hts, K, hg⟩ hT ⟨hR.1, hR.2, va_S.rf⟩ hl
section ZX
variable {p : Program} {l : Launch} {e : Env} {R : Room} {s : State} {m : MethodId} {args : Array Value} {below : List Frame} {meth : Method} {c : Code} {H : Heap} {locs : List Loc} {cells slots : Nat}
variable {cc : ByteArray} {pc nL : Nat} {ls : Array Slot} {rest : List Value} {G : zG} {v : V3} {own : String} {ret : Option FieldType} {Qc : Array Value → State → Outcome → State → Prop} {X : String → V3 → Prop} {mc ms : Nat}
theorem z_wide {Q : State → Prop} {g : JFrame} (h1 : cells ≤ mc) (h2 : slots ≤ ms) (kk : W p l e R s m args below meth c H locs mc ms Q g) : W p l e R s m args below meth c H locs cells slots Q g := W.widen h1 h2 kk
theorem z_xcallSv (C0 : Cx G own cc nL ret p s m args meth c) (hT : ∀ x ∈ c.exceptionTable.toList, False) (Z : Zs G s v H locs) (hl : ls.size = nL) {y : MethodName} {cy : ByteArray} {nLy : Nat} {rety : Option FieldType} {fr lo mcy msy index n : Nat} {As st0 : List Value} {Qy : V3 → Prop} (hM : Mx l y cy nLy rety fr lo mcy msy G As v (QvZ G Qy) X) (hgd : GoodIn tbg (va_wsS own index y (.code y cy nLy rety :: tbg))) (hd : dsc y n) (hR : fr + 1 ≤ R.frames ∧ 8 + (nLy + 11) + lo ≤ R.locals) (hn : As.length = n) (hst : st0 = As.reverse ++ rest) (hW : (rest.map fun v => v.category).sum ≤ 8) (hf : cells + mcy ≤ R.cells ∧ slots + msy ≤ R.slots) (hmc : cells + mcy ≤ mc ∧ slots + msy ≤ ms) (hdg : decode cc pc = .ok (.invokestatic index, 3))
    (kk : ∀ (u : V3) (H1 : Heap) (locs1 : List Loc), Qy u → Zs G s u H1 locs1 → W p l e R s m args below meth c H1 locs1 (cells + mcy) (slots + msy) (vx_MQ below Qc (XZ G X) args s mc ms (zA G)) (F0 m (pc + 3) ls rest)) : W p l e R s m args below meth c H locs cells slots (vx_MQ below Qc (XZ G X) args s mc ms (zA G)) (F0 m pc ls st0) := by
  obtain ⟨hx, hb, hml, -, hk, hown, hts, K, -⟩ := C0
  refine vx_callv (vx_runS (As := As) (rest := rest) ⟨hx, hb, hml, hown, hts⟩ hM (va_cwS n hts hgd rfl rfl rfl hd hR) ⟨PcZ.blind, fun U hU hW => Z.pre K hU hW⟩ rfl hn hl hst (lv_room hW) hdg hf) Z.2.2 (fun q _ h => h) (fun q h => h) (fun q _ h => h) (fun E ce q9 u t H1 locs1 ht hvm hp hB hz1 hk1 hS h9 hv9 hc9 => ?_) (fun u t H1 locs1 ht hvm hw hB hz1 hk1 hS => ?_)
  · refine vx_out (fun x hx => absurd (hT x hx) id) hk h9 hv9 hc9 (fun t2 ht2 hv2 => ⟨u, hp, ⟨hB.1, ?_, hB.2.2⟩, hS.F ht2⟩) hS.2.2 hmc.1 hmc.2
    have := hB.2.1
    rw [ht] at this
    rw [ht2]
    exact this
  · refine kk u H1 locs1 hw ⟨?_, hB.2, hS⟩
    have := hB.1
    rw [ht] at this
    exact this
theorem z_xcallVv (C0 : Cx G own cc nL ret p s m args meth c) (hT : ∀ x ∈ c.exceptionTable.toList, False) (Z : Zs G s v H locs) (hl : ls.size = nL) {y : MethodName} {cy : ByteArray} {nLy : Nat} {rety : Option FieldType} {fr lo mcy msy index n ci c0 : Nat} {C : String} {T : u_T} {N : Nat} {fs As st0 : List Value} {Qy : V3 → Prop} (hM : Mx l y cy nLy rety fr lo mcy msy G (.ref (gad G c0) :: As) v (QvZ G Qy) X) (hgd : GoodIn tbg (wsV own index C y (.code y cy nLy rety :: tbg))) (hyc : y.cls = C) (hd : dsc y n) (hR : fr + 1 ≤ R.frames ∧ 8 + (nLy + 11) + lo ≤ R.locals) (hc : vwCl[ci]? = some (C, T, N)) (hc0 : c0 < gn G) (he : ent G v c0 = .inr (ci, fs)) (hn : As.length = n) (hst : st0 = As.reverse ++ .ref (gad G c0) :: rest) (hW : (rest.map fun v => v.category).sum ≤ 8) (hf : cells + mcy ≤ R.cells ∧ slots + msy ≤ R.slots) (hmc : cells + mcy ≤ mc ∧ slots + msy ≤ ms) (hdg : decode cc pc = .ok (.invokevirtual index, 3))
    (kk : ∀ (u : V3) (H1 : Heap) (locs1 : List Loc), Qy u → Zs G s u H1 locs1 → W p l e R s m args below meth c H1 locs1 (cells + mcy) (slots + msy) (vx_MQ below Qc (XZ G X) args s mc ms (zA G)) (F0 m (pc + 3) ls rest)) : W p l e R s m args below meth c H locs cells slots (vx_MQ below Qc (XZ G X) args s mc ms (zA G)) (F0 m pc ls st0) := by
  obtain ⟨hx, hb, hml, -, hk, hown, hts, K, -⟩ := C0
  refine vx_callv (vx_runV (As := As) (rest := rest) ⟨hx, hb, hml, hown, hts⟩ hM (cwV n hts hgd rfl rfl rfl ⟨hyc, hd⟩ hR) ⟨PcZ.blind, va_recv K.1 Z.1 hc (WS_get hc0 he), fun U hU hW => Z.pre K hU hW⟩ rfl hn hl hst (lv_room hW) hdg hf) Z.2.2 (fun q _ h => h) (fun q h => h) (fun q _ h => h) (fun E ce q9 u t H1 locs1 ht hvm hp hB hz1 hk1 hS h9 hv9 hc9 => ?_) (fun u t H1 locs1 ht hvm hw hB hz1 hk1 hS => ?_)
  · refine vx_out (fun x hx => absurd (hT x hx) id) hk h9 hv9 hc9 (fun t2 ht2 hv2 => ⟨u, hp, ⟨hB.1, ?_, hB.2.2⟩, hS.F ht2⟩) hS.2.2 hmc.1 hmc.2
    have := hB.2.1
    rw [ht] at this
    rw [ht2]
    exact this
  · refine kk u H1 locs1 hw ⟨?_, hB.2, hS⟩
    have := hB.1
    rw [ht] at this
    exact this
theorem cx_w2 (C0 : Cx G own cc nL ret p s m args meth c) {w : Cond} (h : w ∈ tbg ∨ w ∈ zThr) : w.before args s = true := by
  rcases h with h | h
  · exact cx_w C0 h
  · have h1 : ∀ w' : Cond, w' ∈ zThr → w'.onTables = true := by decide +kernel
    exact va_tabs (h1 w h) rfl ((cx_K C0).2.2.2.2.2.2.1 w h)
theorem z_thrown {t : State} (Z : Zs G s v H locs) {cls : String} (hw : X cls v) (hz : H.size ≤ t.heap.size) (hq : ∀ q : Nat, q < H.size → t.heap[q]? = H[q]?) : XZ G X cls s t :=
  ⟨(cls, v), hw, ⟨rfl, Z.1.kept (fun k q hk => hq q.1 (Z.1 k q hk).lt), Z.2.1⟩, Nat.le_trans Z.2.2.1 hz, fun q h1 h2 => (hq q (Nat.lt_of_lt_of_le h1 Z.2.2.1)).trans (Z.2.2.2.1 q h1 h2)⟩
theorem z_throwS (C0 : Cx G own cc nL ret p s m args meth c) (hst : l.stackTraces = false) (hT : ∀ x ∈ c.exceptionTable.toList, False) (Z : Zs G s v H locs) (hl : ls.size = nL) {cls text : String} {names : List String} {ik is ic : Nat} (hcls : Bundle.fit cls = true) (hnames : ∀ n ∈ names, Bundle.fit n = true) (hk : Cond.classLink own ik cls ∈ tbg) (hini : Cond.initialized cls ∈ tbg) (hq : (own, is, text) ∈ zMsg) (hat : ∀ w ∈ vx_atS own ic cls names, w ∈ tbg ∨ w ∈ zThr) (hgood : ∀ w ∈ Cond.classLink own ik cls :: Cond.initialized cls :: vx_atS own ic cls names, vx_ot w = true)
    (d0 : decode cc pc = .ok (.new ik, 3)) (d3 : decode cc (pc + 3) = .ok (.dup, 1)) (d4 : decode cc (pc + 4) = .ok (.ldc is, 2)) (d6 : decode cc (pc + 6) = .ok (.invokespecial ic, 3)) (d9 : decode cc (pc + 9) = .ok (.athrow, 1)) (hRf : names.length + 3 < R.frames) (hRl : (rest.map fun v => v.category).sum + (13 * (names.length + 1) + 43) ≤ R.locals) (hRc : cells + 1 ≤ R.cells) (hRs : slots + 6 ≤ R.slots) (hw : X cls v) (hc : cells + 1 ≤ mc) (hs : slots + 6 ≤ ms) :
    W p l e R s m args below meth c H locs cells slots (vx_MQ below Qc (XZ G X) args s mc ms (zA G)) (F0 m pc ls rest) := by
  obtain ⟨sa, hsa⟩ := (cx_K C0).2.2.2.1 _ hq
  exact vx_throwS C0.1 C0.2.1 hst (A := zA G) (cx_own C0) hcls hnames (cx_w C0 hk) (cx_w C0 hini) hsa (fun w hw => cx_w2 C0 (hat w hw)) hgood (cx_K C0).2.1.2.1.2.2.1 (cx_K C0).2.1.2.1.2.2.2 Z.2.2 (hl.trans C0.2.2.1.symm) d0 d3 d4 d6 d9 (fun x hx => absurd (hT x hx) id) hRf hRl hRc hRs C0.2.2.2.2.1 (fun t hvm hz hq => z_thrown Z hw hz hq) Z.2.2.2.2 hc hs
theorem z_throwSW (C0 : Cx G own cc nL ret p s m args meth c) (hst : l.stackTraces = false) (hT : ∀ x ∈ c.exceptionTable.toList, False) (Z : Zs G s v H locs) (hl : ls.size = nL) {cls text : String} {names : List String} {ik is ic : Nat} (hcls : Bundle.fit cls = true) (hnames : ∀ n ∈ names, Bundle.fit n = true) (hk : Cond.classLink own ik cls ∈ tbg) (hini : Cond.initialized cls ∈ tbg) (hq : (own, is, text) ∈ zMsg) (hat : ∀ w ∈ vx_atS own ic cls names, w ∈ tbg ∨ w ∈ zThr) (hgood : ∀ w ∈ Cond.classLink own ik cls :: Cond.initialized cls :: vx_atS own ic cls names, vx_ot w = true)
    (d0 : decode cc pc = .ok (.new ik, 3)) (d3 : decode cc (pc + 3) = .ok (.dup, 1)) (d4 : decode cc (pc + 4) = .ok (.ldc_w is, 3)) (d6 : decode cc (pc + 7) = .ok (.invokespecial ic, 3)) (d9 : decode cc (pc + 10) = .ok (.athrow, 1)) (hRf : names.length + 3 < R.frames) (hRl : (rest.map fun v => v.category).sum + (13 * (names.length + 1) + 43) ≤ R.locals) (hRc : cells + 1 ≤ R.cells) (hRs : slots + 6 ≤ R.slots) (hw : X cls v) (hc : cells + 1 ≤ mc) (hs : slots + 6 ≤ ms) :
    W p l e R s m args below meth c H locs cells slots (vx_MQ below Qc (XZ G X) args s mc ms (zA G)) (F0 m pc ls rest) := by
  obtain ⟨sa, hsa⟩ := (cx_K C0).2.2.2.1 _ hq
  exact vx_throwSW C0.1 C0.2.1 hst (A := zA G) (cx_own C0) hcls hnames (cx_w C0 hk) (cx_w C0 hini) hsa (fun w hw => cx_w2 C0 (hat w hw)) hgood (cx_K C0).2.1.2.1.2.2.1 (cx_K C0).2.1.2.1.2.2.2 Z.2.2 (hl.trans C0.2.2.1.symm) d0 d3 d4 d6 d9 (fun x hx => absurd (hT x hx) id) hRf hRl hRc hRs C0.2.2.2.2.1 (fun t hvm hz hq => z_thrown Z hw hz hq) Z.2.2.2.2 hc hs
end ZX
theorem nmE_fit : ∀ n ∈ nmE, Bundle.fit n = true := by decide +kernel
theorem eIA_fit : Bundle.fit eIA = true := by decide +kernel
theorem eIS_fit : Bundle.fit eIS = true := by decide +kernel
theorem eIO_fit : Bundle.fit eIO = true := by decide +kernel
