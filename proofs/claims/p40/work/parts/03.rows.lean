/-! ROWS OVER THE STATE: an instruction that reads or writes a cell, a call, an end -/
theorem KW_n {G : zG} {s : State} (K : KW G s) : True := trivial
theorem isL_lt0 {G : zG} {b : Nat} (h : isL G b) : b < gn G := isL_lt h 0 (by omega)
theorem isL8 {G : zG} (h : 116 ≤ gn G) : isL G 8 := ⟨Or.inl rfl, by omega⟩
theorem isL62 {G : zG} (h : 116 ≤ gn G) : isL G 62 := ⟨Or.inr (Or.inl rfl), by omega⟩
theorem vp_lt {i : Int32} {n : Nat} (h : vp_in i n) : i.toNatClampNeg < n := Nat.not_le.mp fun q => h (Or.inr q)
/-- everything that stays the same in a body -/
def Cx (G : zG) (own : String) (cc : ByteArray) (nL : Nat) (ret : Option FieldType) (p : Program) (s : State) (m : MethodId) (args : Array Value) (meth : Method) (c : Code) : Prop :=
  p.tables.exec = Jvm.exec ∧ c.code = cc ∧ c.maxLocals = nL ∧ meth.sig.returnType = ret ∧ meth.locks = false ∧ s.vm.findClass own = some m.cls ∧ (∀ w ∈ tbg, w.before args s = true) ∧ KW G s ∧ 116 ≤ gn G
abbrev Mz (l : Launch) (y : MethodName) (cc : ByteArray) (nL : Nat) (ret : Option FieldType) (fr lo : Nat) (G : zG) (av : List Value) (v : V3) (Qc : Array Value → State → Outcome → State → Prop) : Prop :=
  Met l y (.code y cc nL ret :: tbg) { frames := fr, cells := 0, slots := 0, locals := lo } (PcZ G av v) Qc 0 0 (zA G)
section ZR
variable {p : Program} {l : Launch} {e : Env} {R : Room} {s : State} {m : MethodId} {args : Array Value} {below : List Frame} {meth : Method} {c : Code} {H : Heap} {locs : List Loc} {cells slots : Nat} {Q : State → Prop}
variable {cc : ByteArray} {pc nL : Nat} {ls : Array Slot} {rest : List Value} {G : zG} {v : V3} {own : String} {ret : Option FieldType}
theorem z_ofW {l : Launch} {y : MethodName} {cc : ByteArray} {nL : Nat} {ret : Option FieldType} {fr lo : Nat} {G : zG} {av : List Value} {v : V3} {Qc : Array Value → State → Outcome → State → Prop} (hg : 116 ≤ gn G) (hy : plainName y.cls = true) (hfit : (lg_sl av).length ≤ nL)
    (body : ∀ p e s m args below meth c ls, Cx G y.cls cc nL ret p s m args meth c → Zs G s v s.heap [] → lv_has ls nL (lv_args 0 av) → W p l e { frames := fr, cells := 0, slots := 0, locals := lo } s m args below meth c s.heap [] 0 0 (MQ below Qc args s 0 0 (zA G)) (F0 m 0 ls [])) :
    Mz l y cc nL ret fr lo G av v Qc := by
  refine Met.ofW (cc := cc) (maxL := nL) (ret := ret) hy rfl ?_
  intro p e s m args below meth c s₁ B hml hv
  obtain ⟨rfl, hR, K⟩ := hv
  have hts : ∀ w ∈ tbg, w.before av.toArray s = true := fun w h => atoms_spec (ws := .code y cc nL ret :: tbg) B.pre w (List.mem_cons_of_mem _ h)
  have hown : s.vm.findClass y.cls = some m.cls := findClass_of_methodNamed B.named
  have hl := lv_entry av (n := nL) hfit
  rw [lg_entry_eq]
  generalize (lg_sl av ++ List.replicate (nL - (lg_sl av).length) Slot.unset).toArray = ls at hl ⊢
  exact body p e s m av.toArray below meth c ls ⟨B.exec, B.bytes, hml, B.returns, B.notSynchronized, hown, hts, K, hg⟩ ⟨hR.1, hR.2, va_S.rf⟩ hl
theorem z_get (C0 : Cx G own cc nL ret p s m args meth c) (Z : Zs G s v H locs) {C : String} {T : u_T} {N ci index c0 : Nat} (hin : ∀ w ∈ u_ws C T N, w ∈ tbg) (hc : vwCl[ci]? = some (C, T, N)) (k : Nat) (hk : k < N) (hdc : (T k).1 = C) (hlink : Cond.fieldLink own index C (T k).2.1 (T k).2.2.1 ∈ tbg) {fs : List Value} (hc0 : c0 < gn G) (he : ent G v c0 = .inr (ci, fs)) {x : Value} (hv : fs[k]? = some x) (hdg : decode cc pc = .ok (.getfield index, 3))
    (kk : W p l e R s m args below meth c H locs cells slots Q (F0 m (pc + 3) ls (x :: rest))) : W p l e R s m args below meth c H locs cells slots Q (F0 m pc ls (.ref (gad G c0) :: rest)) := by
  obtain ⟨hx, hb, -, -, -, hown, hts, K, -⟩ := C0
  exact va_get hx hb hts hin hown K.1 Z.1 c0 (WS_get hc0 he) hc k hk (hts _ hlink) (fun x h => by rw [hdc] at h; exact h) hv hdg kk
theorem z_put (C0 : Cx G own cc nL ret p s m args meth c) (Z : Zs G s v H locs) {C : String} {T : u_T} {N ci index c0 : Nat} {ty0 : Nat → FieldType} (hin : ∀ w ∈ u_ws C T N, w ∈ tbg) (hty : ∀ k, k < N → parseFieldDescriptor (T k).2.2.1 = some (ty0 k)) (hnm : ∀ a, a < N → ∀ b, b < N → a ≠ b → (T a).2.1 ≠ (T b).2.1) (hc : vwCl[ci]? = some (C, T, N)) (k : Nat) (hk : k < N) (hdc : (T k).1 = C) (hfin : (T k).2.2.2 = false) (hlink : Cond.fieldLink own index C (T k).2.1 (T k).2.2.1 ∈ tbg) {fs : List Value} (hc0 : c0 < gn G) (he : ent G v c0 = .inr (ci, fs)) {x : Value} {v' : V3} (he' : ent G v' c0 = .inr (ci, fs.set k x)) (ho : ∀ c', c' ≠ c0 → v' c' = v c') (hn : narrow (ty0 k) x = x) (hfit : fits (ty0 k) x = true) (hl : k < fs.length) (hdg : decode cc pc = .ok (.putfield index, 3))
    (kk : ∀ (H1 : Heap) (locs1 : List Loc), Zs G s v' H1 locs1 → W p l e R s m args below meth c H1 locs1 cells slots Q (F0 m (pc + 3) ls rest)) : W p l e R s m args below meth c H locs cells slots Q (F0 m pc ls (x :: .ref (gad G c0) :: rest)) := by
  obtain ⟨hx, hb, -, -, -, hown, hts, K, -⟩ := C0
  refine va_put hx hb hts hin ty0 hty hnm hown K.1 Z.1 Z.2.1 Z.2.2 c0 (WS_get hc0 he) hc k hk (hts _ hlink) (fun x h => by rw [hdc] at h; exact h) hfin (hty k hk) hn hfit hl hdg (fun H1 locs1 hP hD hS => ?_)
  rw [WS_set hc0 he' ho] at hP hD
  exact kk H1 locs1 ⟨hP, hD, hS⟩
theorem z_iald (C0 : Cx G own cc nL ret p s m args meth c) (Z : Zs G s v H locs) {c0 N : Nat} {f : Nat → Int32} (hc0 : c0 < gn G) (he : ent G v c0 = .inl (gcA G 0, N, .inl f)) {i : Int32} (hin : vp_in i N) (hdg : decode cc pc = .ok (.iaload, 1))
    (kk : W p l e R s m args below meth c H locs cells slots Q (F0 m (pc + 1) ls (.int (f i.toNatClampNeg) :: rest))) : W p l e R s m args below meth c H locs cells slots Q (F0 m pc ls (.int i :: .ref (gad G c0) :: rest)) := by
  obtain ⟨hx, hb, -, -, -, hown, hts, K, -⟩ := C0
  exact va_iald hx hb K.1 Z.1 c0 0 (WS_get hc0 he) rfl hin hdg kk
theorem z_bald (C0 : Cx G own cc nL ret p s m args meth c) (Z : Zs G s v H locs) {c0 N : Nat} {f : Nat → Int32} (hc0 : c0 < gn G) (he : ent G v c0 = .inl (gcA G 1, N, .inl f)) {i : Int32} (hin : vp_in i N) (hdg : decode cc pc = .ok (.baload, 1))
    (kk : W p l e R s m args below meth c H locs cells slots Q (F0 m (pc + 1) ls (.int (f i.toNatClampNeg) :: rest))) : W p l e R s m args below meth c H locs cells slots Q (F0 m pc ls (.int i :: .ref (gad G c0) :: rest)) := by
  obtain ⟨hx, hb, -, -, -, hown, hts, K, -⟩ := C0
  exact va_bald hx hb K.1 Z.1 c0 1 (WS_get hc0 he) rfl hin hdg kk
/-- a row of an array of int arrays -/
theorem z_aald (C0 : Cx G own cc nL ret p s m args meth c) (Z : Zs G s v H locs) {c0 N : Nat} {g : Nat → Nat} (hc0 : c0 < gn G) (he : ent G v c0 = .inl (gcA G 5, N, .inr (.inr (.inr (.inr (fun j => some (gad G (g j)))))))) {i : Int32} (hin : vp_in i N) (hdg : decode cc pc = .ok (.aaload, 1))
    (kk : W p l e R s m args below meth c H locs cells slots Q (F0 m (pc + 1) ls (.ref (gad G (g i.toNatClampNeg)) :: rest))) : W p l e R s m args below meth c H locs cells slots Q (F0 m pc ls (.int i :: .ref (gad G c0) :: rest)) := by
  obtain ⟨hx, hb, -, -, -, hown, hts, K, -⟩ := C0
  exact W.aald (v := .ref (gad G (g i.toNatClampNeg))) (ty := .array .int) hx hb (Z.1 c0 _ (WS_get hc0 he)) ((K.1.2 2 _ rfl).1 N (fun j => va_rf ((fun j => some (gad G (g j))) j))) rfl (fun q => by cases q) (by show ¬ (i < 0 ∨ (arrV _ _ _).slots.size ≤ _); rw [arrV_size]; exact hin) (by show (arrV _ _ _).slots[_]? = _; rw [arrV_read _ _ (vp_lt hin)]; rfl) rfl rfl hdg kk
theorem z_iast (C0 : Cx G own cc nL ret p s m args meth c) (Z : Zs G s v H locs) {c0 N : Nat} (hc0 : c0 < gn G) (he : ∀ w : V3, ent G w c0 = .inl (gcA G 0, N, .inl (w c0))) {i x : Int32} (hin : vp_in i N) (hdg : decode cc pc = .ok (.iastore, 1))
    (kk : ∀ (H1 : Heap) (locs1 : List Loc), Zs G s (up2 v c0 i.toNatClampNeg x) H1 locs1 → W p l e R s m args below meth c H1 locs1 cells slots Q (F0 m (pc + 1) ls rest)) : W p l e R s m args below meth c H locs cells slots Q (F0 m pc ls (.int x :: .int i :: .ref (gad G c0) :: rest)) := by
  obtain ⟨hx, hb, -, -, -, hown, hts, K, -⟩ := C0
  refine va_iast hx hb K.1 Z.1 Z.2.1 Z.2.2 c0 0 (WS_get hc0 (he v)) rfl hin hdg (fun H1 locs1 hP hD hS => ?_)
  rw [WS_set (v' := up2 v c0 i.toNatClampNeg x) hc0 (by rw [he, up2_row]) (fun c' h => up2_off v _ _ h)] at hP hD
  exact kk H1 locs1 ⟨hP, hD, hS⟩
theorem z_bast (C0 : Cx G own cc nL ret p s m args meth c) (Z : Zs G s v H locs) {c0 N : Nat} (hc0 : c0 < gn G) (he : ∀ w : V3, ent G w c0 = .inl (gcA G 1, N, .inl (w c0))) {i x : Int32} (hin : vp_in i N) (hdg : decode cc pc = .ok (.bastore, 1))
    (kk : ∀ (H1 : Heap) (locs1 : List Loc), Zs G s (up2 v c0 i.toNatClampNeg (vp_nar .byte x)) H1 locs1 → W p l e R s m args below meth c H1 locs1 cells slots Q (F0 m (pc + 1) ls rest)) : W p l e R s m args below meth c H locs cells slots Q (F0 m pc ls (.int x :: .int i :: .ref (gad G c0) :: rest)) := by
  obtain ⟨hx, hb, -, -, -, hown, hts, K, -⟩ := C0
  refine va_bast hx hb K.1 Z.1 Z.2.1 Z.2.2 c0 1 (WS_get hc0 (he v)) rfl hin hdg (fun H1 locs1 hP hD hS => ?_)
  rw [WS_set (v' := up2 v c0 i.toNatClampNeg (vp_nar .byte x)) hc0 (by rw [he, up2_row]) (fun c' h => up2_off v _ _ h)] at hP hD
  exact kk H1 locs1 ⟨hP, hD, hS⟩
theorem z_alen (C0 : Cx G own cc nL ret p s m args meth c) (Z : Zs G s v H locs) {c0 N t0 : Nat} {cA : ClassId} {ty : FieldType} {f} (hc0 : c0 < gn G) (he : ent G v c0 = .inl (cA, N, f)) (ht : (tysZ G)[t0]? = some (cA, ty)) {x : Int32} (hv : Int32.ofNat N = x) (hdg : decode cc pc = .ok (.arraylength, 1))
    (kk : W p l e R s m args below meth c H locs cells slots Q (F0 m (pc + 1) ls (.int x :: rest))) : W p l e R s m args below meth c H locs cells slots Q (F0 m pc ls (.ref (gad G c0) :: rest)) := by
  obtain ⟨hx, hb, -, -, -, hown, hts, K, -⟩ := C0
  exact va_alen hx hb K.1 Z.1 c0 t0 (WS_get hc0 he) ht hv hdg kk
/-- ends -/
theorem z_iret (C0 : Cx G own cc nL (some .int) p s m args meth c) (Z : Zs G s v H locs) {Q : Int32 → V3 → Prop} {x : Int32} (hQ : Q x v) (hdg : decode cc pc = .ok (.ireturn, 1)) : W p l e R s m args below meth c H locs cells slots (MQ below (QiZ G Q) args s cells slots (zA G)) (F0 m pc ls [.int x]) := by
  obtain ⟨hx, hb, -, hr, hk, hown, hts, K, -⟩ := C0
  exact W.iret hx hb hr (fun t ht hW => ⟨⟨x, v, rfl, hQ, ⟨by rw [ht]; exact Z.1, Z.2.1⟩⟩, Z.2.2.F ht⟩) Z.2.2.2.2 hdg hk
theorem z_zret (C0 : Cx G own cc nL (some .boolean) p s m args meth c) (Z : Zs G s v H locs) {Q : Int32 → V3 → Prop} {x : Int32} (h01 : x = 0 ∨ x = 1) (hQ : Q x v) (hdg : decode cc pc = .ok (.ireturn, 1)) : W p l e R s m args below meth c H locs cells slots (MQ below (QiZ G Q) args s cells slots (zA G)) (F0 m pc ls [.int x]) := by
  obtain ⟨hx, hb, -, hr, hk, hown, hts, K, -⟩ := C0
  exact W.zret hx hb hr (by rcases h01 with h | h <;> subst h <;> rfl) (fun t ht hW => ⟨⟨x, v, rfl, hQ, ⟨by rw [ht]; exact Z.1, Z.2.1⟩⟩, Z.2.2.F ht⟩) Z.2.2.2.2 hdg hk
theorem z_vret (C0 : Cx G own cc nL none p s m args meth c) (Z : Zs G s v H locs) {Q : V3 → Prop} (hQ : Q v) (hdg : decode cc pc = .ok (.return_, 1)) : W p l e R s m args below meth c H locs cells slots (MQ below (QvZ G Q) args s cells slots (zA G)) (F0 m pc ls []) := by
  obtain ⟨hx, hb, -, hr, hk, hown, hts, K, -⟩ := C0
  exact W.vret hx hb hr (fun t ht hW => ⟨⟨v, rfl, hQ, ⟨by rw [ht]; exact Z.1, Z.2.1⟩⟩, Z.2.2.F ht⟩) Z.2.2.2.2 hdg hk
/-- calls -/
def dsc (y : MethodName) (n : Nat) : Prop := y.cls ≠ "java/lang/invoke/MethodHandle" ∧ y.cls ≠ "java/lang/invoke/VarHandle" ∧ (parseMethodDescriptor y.desc).map (fun d => d.parameters.length) = some n
theorem z_goodV {own : String} {index : Nat} {C : String} {y : MethodName} {cc : ByteArray} {nL : Nat} {ret : Option FieldType} (h1 : Cond.methodLink own index y ∈ tbg) (h2 : Cond.instanceMethod y ∈ tbg) (h3 : Cond.selects C y y ∈ tbg) (h4 : Cond.initialized C ∈ tbg) (h5 : Cond.code y cc nL ret ∈ tbg) : GoodIn tbg (wsV own index C y (.code y cc nL ret :: tbg)) := by
  refine tbg_good fun w hw => ?_
  simp only [wsV, List.cons_append, List.nil_append, List.mem_cons] at hw
  rcases hw with rfl | rfl | rfl | rfl | rfl | hw
  · exact h1
  · exact h2
  · exact h3
  · exact h4
  · exact h5
  · exact hw
theorem z_goodS {own : String} {index : Nat} {y : MethodName} {cc : ByteArray} {nL : Nat} {ret : Option FieldType} (h1 : Cond.methodLink own index y ∈ tbg) (h2 : Cond.static y ∈ tbg) (h4 : Cond.initialized y.cls ∈ tbg) (h5 : Cond.code y cc nL ret ∈ tbg) : GoodIn tbg (va_wsS own index y (.code y cc nL ret :: tbg)) := by
  refine tbg_good fun w hw => ?_
  simp only [va_wsS, List.cons_append, List.nil_append, List.mem_cons] at hw
  rcases hw with rfl | rfl | rfl | rfl | hw
  · exact h1
  · exact h2
  · exact h4
  · exact h5
  · exact hw
theorem z_callVi (C0 : Cx G own cc nL ret p s m args meth c) (Z : Zs G s v H locs) (hl : ls.size = nL) {y : MethodName} {cy : ByteArray} {nLy : Nat} {rety : Option FieldType} {fr lo index n ci c0 : Nat} {C : String} {T : u_T} {N : Nat} {fs As st0 : List Value} {Qy : Int32 → V3 → Prop} (hM : Mz l y cy nLy rety fr lo G (.ref (gad G c0) :: As) v (QiZ G Qy)) (hgd : GoodIn tbg (wsV own index C y (.code y cy nLy rety :: tbg))) (hyc : y.cls = C) (hd : dsc y n) (hR : fr + 1 ≤ R.frames ∧ 8 + (nLy + 11) + lo ≤ R.locals) (hc : vwCl[ci]? = some (C, T, N)) (hc0 : c0 < gn G) (he : ent G v c0 = .inr (ci, fs)) (hn : As.length = n) (hst : st0 = As.reverse ++ .ref (gad G c0) :: rest) (hW : (rest.map fun v => v.category).sum ≤ 8) (hf : cells ≤ R.cells ∧ slots ≤ R.slots) (hdg : decode cc pc = .ok (.invokevirtual index, 3))
    (kk : ∀ (r : Int32) (u : V3) (H1 : Heap) (locs1 : List Loc), Qy r u → Zs G s u H1 locs1 → W p l e R s m args below meth c H1 locs1 cells slots Q (F0 m (pc + 3) ls (.int r :: rest))) : W p l e R s m args below meth c H locs cells slots Q (F0 m pc ls st0) := by
  obtain ⟨hx, hb, hml, -, -, hown, hts, K, -⟩ := C0
  refine va_calli (va_runV (As := As) (rest := rest) ⟨hx, hb, hml, hown, hts⟩ hM (cwV n hts hgd rfl rfl rfl ⟨hyc, hd⟩ hR) ⟨PcZ.blind, va_recv K.1 Z.1 hc (WS_get hc0 he), fun U hU hW => Z.pre K hU hW⟩ rfl hn hl hst (lv_room hW) hdg hf) Z.2.2 (fun q _ h => h) (fun q h => h) (fun r u t H1 locs1 ht hvm hw hB hz1 hk1 hS => ?_)
  refine kk r u H1 locs1 hw ⟨?_, hB.2, hS⟩
  have := hB.1
  rw [ht] at this
  exact this
theorem z_callVv (C0 : Cx G own cc nL ret p s m args meth c) (Z : Zs G s v H locs) (hl : ls.size = nL) {y : MethodName} {cy : ByteArray} {nLy : Nat} {rety : Option FieldType} {fr lo index n ci c0 : Nat} {C : String} {T : u_T} {N : Nat} {fs As st0 : List Value} {Qy : V3 → Prop} (hM : Mz l y cy nLy rety fr lo G (.ref (gad G c0) :: As) v (QvZ G Qy)) (hgd : GoodIn tbg (wsV own index C y (.code y cy nLy rety :: tbg))) (hyc : y.cls = C) (hd : dsc y n) (hR : fr + 1 ≤ R.frames ∧ 8 + (nLy + 11) + lo ≤ R.locals) (hc : vwCl[ci]? = some (C, T, N)) (hc0 : c0 < gn G) (he : ent G v c0 = .inr (ci, fs)) (hn : As.length = n) (hst : st0 = As.reverse ++ .ref (gad G c0) :: rest) (hW : (rest.map fun v => v.category).sum ≤ 8) (hf : cells ≤ R.cells ∧ slots ≤ R.slots) (hdg : decode cc pc = .ok (.invokevirtual index, 3))
    (kk : ∀ (u : V3) (H1 : Heap) (locs1 : List Loc), Qy u → Zs G s u H1 locs1 → W p l e R s m args below meth c H1 locs1 cells slots Q (F0 m (pc + 3) ls rest)) : W p l e R s m args below meth c H locs cells slots Q (F0 m pc ls st0) := by
  obtain ⟨hx, hb, hml, -, -, hown, hts, K, -⟩ := C0
  refine va_callv (va_runV (As := As) (rest := rest) ⟨hx, hb, hml, hown, hts⟩ hM (cwV n hts hgd rfl rfl rfl ⟨hyc, hd⟩ hR) ⟨PcZ.blind, va_recv K.1 Z.1 hc (WS_get hc0 he), fun U hU hW => Z.pre K hU hW⟩ rfl hn hl hst (lv_room hW) hdg hf) Z.2.2 (fun q _ h => h) (fun q h => h) (fun u t H1 locs1 ht hvm hw hB hz1 hk1 hS => ?_)
  refine kk u H1 locs1 hw ⟨?_, hB.2, hS⟩
  have := hB.1
  rw [ht] at this
  exact this
theorem z_callSi (C0 : Cx G own cc nL ret p s m args meth c) (Z : Zs G s v H locs) (hl : ls.size = nL) {y : MethodName} {cy : ByteArray} {nLy : Nat} {rety : Option FieldType} {fr lo index n : Nat} {As st0 : List Value} {Qy : Int32 → V3 → Prop} (hM : Mz l y cy nLy rety fr lo G As v (QiZ G Qy)) (hgd : GoodIn tbg (va_wsS own index y (.code y cy nLy rety :: tbg))) (hd : dsc y n) (hR : fr + 1 ≤ R.frames ∧ 8 + (nLy + 11) + lo ≤ R.locals) (hn : As.length = n) (hst : st0 = As.reverse ++ rest) (hW : (rest.map fun v => v.category).sum ≤ 8) (hf : cells ≤ R.cells ∧ slots ≤ R.slots) (hdg : decode cc pc = .ok (.invokestatic index, 3))
    (kk : ∀ (r : Int32) (u : V3) (H1 : Heap) (locs1 : List Loc), Qy r u → Zs G s u H1 locs1 → W p l e R s m args below meth c H1 locs1 cells slots Q (F0 m (pc + 3) ls (.int r :: rest))) : W p l e R s m args below meth c H locs cells slots Q (F0 m pc ls st0) := by
  obtain ⟨hx, hb, hml, -, -, hown, hts, K, -⟩ := C0
  refine va_calli (va_runS (As := As) (rest := rest) ⟨hx, hb, hml, hown, hts⟩ hM (va_cwS n hts hgd rfl rfl rfl hd hR) ⟨PcZ.blind, fun U hU hW => Z.pre K hU hW⟩ rfl hn hl hst (lv_room hW) hdg hf) Z.2.2 (fun q _ h => h) (fun q h => h) (fun r u t H1 locs1 ht hvm hw hB hz1 hk1 hS => ?_)
  refine kk r u H1 locs1 hw ⟨?_, hB.2, hS⟩
  have := hB.1
  rw [ht] at this
  exact this
theorem z_callSv (C0 : Cx G own cc nL ret p s m args meth c) (Z : Zs G s v H locs) (hl : ls.size = nL) {y : MethodName} {cy : ByteArray} {nLy : Nat} {rety : Option FieldType} {fr lo index n : Nat} {As st0 : List Value} {Qy : V3 → Prop} (hM : Mz l y cy nLy rety fr lo G As v (QvZ G Qy)) (hgd : GoodIn tbg (va_wsS own index y (.code y cy nLy rety :: tbg))) (hd : dsc y n) (hR : fr + 1 ≤ R.frames ∧ 8 + (nLy + 11) + lo ≤ R.locals) (hn : As.length = n) (hst : st0 = As.reverse ++ rest) (hW : (rest.map fun v => v.category).sum ≤ 8) (hf : cells ≤ R.cells ∧ slots ≤ R.slots) (hdg : decode cc pc = .ok (.invokestatic index, 3))
    (kk : ∀ (u : V3) (H1 : Heap) (locs1 : List Loc), Qy u → Zs G s u H1 locs1 → W p l e R s m args below meth c H1 locs1 cells slots Q (F0 m (pc + 3) ls rest)) : W p l e R s m args below meth c H locs cells slots Q (F0 m pc ls st0) := by
  obtain ⟨hx, hb, hml, -, -, hown, hts, K, -⟩ := C0
  refine va_callv (va_runS (As := As) (rest := rest) ⟨hx, hb, hml, hown, hts⟩ hM (va_cwS n hts hgd rfl rfl rfl hd hR) ⟨PcZ.blind, fun U hU hW => Z.pre K hU hW⟩ rfl hn hl hst (lv_room hW) hdg hf) Z.2.2 (fun q _ h => h) (fun q h => h) (fun u t H1 locs1 ht hvm hw hB hz1 hk1 hS => ?_)
  refine kk u H1 locs1 hw ⟨?_, hB.2, hS⟩
  have := hB.1
  rw [ht] at this
  exact this
end ZR
