/-! RAW WORLDS: while objects are made the world is a list, the cells at hand in front, the rest behind -/
def Zr (G : zG) (s : State) (Wl : va_W) (H : Heap) (locs : List Loc) : Prop := va_P (gD G) vwCl Wl H ∧ va_D (zA G) Wl ∧ va_S (zA G) s.heap H locs
def PcR (G : zG) (av : List Value) (Wl : va_W) : Array Value → State → Prop := fun a U => a = av.toArray ∧ (va_P (gD G) vwCl Wl U.heap ∧ va_D (zA G) Wl) ∧ KW G U
abbrev QvR (G : zG) (Q : va_W → Prop) : Array Value → State → Outcome → State → Prop := va_Qv Q (fun Wl t => va_P (gD G) vwCl Wl t.heap ∧ va_D (zA G) Wl) (zA G)
abbrev Mr (l : Launch) (y : MethodName) (cc : ByteArray) (nL : Nat) (ret : Option FieldType) (fr lo mc ms : Nat) (G : zG) (av : List Value) (Wl : va_W) (Qc : Array Value → State → Outcome → State → Prop) : Prop :=
  Met l y (.code y cc nL ret :: tbg) { frames := fr, cells := mc, slots := ms, locals := lo } (PcR G av Wl) Qc mc ms (zA G)
theorem PcR.blind {G : zG} {av : List Value} {Wl : va_W} : FrameBlind (PcR G av Wl) := by
  intro a U g mk h
  obtain ⟨h1, h2, h3, h4, h5, h6⟩ := h
  exact ⟨h1, h2, va_K.moved (u := U) (U := U.calling g mk a) (Vm.Alike.refl U.vm) h3, Wd.moved (u := U) (U := U.calling g mk a) (Vm.Alike.refl U.vm) h4, h5, Ws.same (u := U) (U := U.calling g mk a) rfl h6⟩
theorem Zr.pre {G : zG} {s : State} {Wl : va_W} {H : Heap} {locs : List Loc} (Z : Zr G s Wl H locs) (K : KW G s) {av : List Value} {U : State} (hU : U.heap = H) (hW : s.WarmedH U.vm) : PcR G av Wl av.toArray U := by
  obtain ⟨hP, hD, hS⟩ := Z
  obtain ⟨hK, hw, hg, hst⟩ := K
  refine ⟨rfl, ⟨by rw [hU]; exact hP, hD⟩, va_K.moved hW.alike hK, ?_, ?_, Ws.warm hW hst⟩
  · rw [hU]
    exact (hw.kept hS.2.1).moved hW.alike
  · rw [hU]
    have := hS.1
    omega
theorem ra_uniq {s : State} {c1 c2 : ClassId} {ty : FieldType} (h : va_RA s c1 ty) (h' : va_RA s c2 ty) : c1 = c2 := by
  cases ty with
  | object C =>
    obtain ⟨_, _, _, _, _, e⟩ := h
    obtain ⟨_, _, _, _, _, e'⟩ := h'
    exact Option.some.inj (e.symm.trans e')
  | _ => exact Option.some.inj (Eq.trans (Eq.symm h) h')
theorem r_ofW {l : Launch} {y : MethodName} {cc : ByteArray} {nL : Nat} {ret : Option FieldType} {fr lo mc ms : Nat} {G : zG} {av : List Value} {Wl : va_W} {Qc : Array Value → State → Outcome → State → Prop} (hg : 116 ≤ gn G) (hy : plainName y.cls = true) (hfit : (lg_sl av).length ≤ nL)
    (body : ∀ p e s m args below meth c ls, Cx G y.cls cc nL ret p s m args meth c → Zr G s Wl s.heap [] → lv_has ls nL (lv_args 0 av) → W p l e { frames := fr, cells := mc, slots := ms, locals := lo } s m args below meth c s.heap [] 0 0 (MQ below Qc args s mc ms (zA G)) (F0 m 0 ls [])) :
    Mr l y cc nL ret fr lo mc ms G av Wl Qc := by
  refine Met.ofW (cc := cc) (maxL := nL) (ret := ret) hy rfl ?_
  intro p e s m args below meth c s₁ B hml hv
  obtain ⟨rfl, hR, K⟩ := hv
  have hts : ∀ w ∈ tbg, w.before av.toArray s = true := fun w h => atoms_spec (ws := .code y cc nL ret :: tbg) B.pre w (List.mem_cons_of_mem _ h)
  have hown : s.vm.findClass y.cls = some m.cls := findClass_of_methodNamed B.named
  have hl := lv_entry av (n := nL) hfit
  rw [lg_entry_eq]
  generalize (lg_sl av ++ List.replicate (nL - (lg_sl av).length) Slot.unset).toArray = ls at hl ⊢
  exact body p e s m av.toArray below meth c ls ⟨B.exec, B.bytes, hml, B.returns, B.notSynchronized, hown, hts, K, hg⟩ ⟨hR.1, hR.2, va_S.rf⟩ hl
section ZW
variable {p : Program} {l : Launch} {e : Env} {R : Room} {s : State} {m : MethodId} {args : Array Value} {below : List Frame} {meth : Method} {c : Code} {H : Heap} {locs : List Loc} {cells slots : Nat} {Q : State → Prop}
variable {cc : ByteArray} {pc nL : Nat} {ls : Array Slot} {rest : List Value} {G : zG} {own : String} {ret : Option FieldType} {X Y Wl : va_W} {a : Nat}
theorem r_vret (C0 : Cx G own cc nL none p s m args meth c) (Z : Zr G s Wl H locs) {Q : va_W → Prop} (hQ : Q Wl) (hdg : decode cc pc = .ok (.return_, 1)) : W p l e R s m args below meth c H locs cells slots (MQ below (QvR G Q) args s cells slots (zA G)) (F0 m pc ls []) := by
  obtain ⟨hx, hb, -, hr, hk, hown, hts, K, -⟩ := C0
  exact W.vret hx hb hr (fun t ht hW => ⟨⟨Wl, rfl, hQ, ⟨by rw [ht]; exact Z.1, Z.2.1⟩⟩, Z.2.2.F ht⟩) Z.2.2.2.2 hdg hk
/-- a new array, laid behind the cells at hand -/
theorem r_newa (C0 : Cx G own cc nL ret p s m args meth c) (Z : Zr G s (X ++ Y) H locs) {atype : ArrayType} {ty : FieldType} (hty : newarray.typeOf atype = ty) (harr : Cond.arrayClass (newarray.typeOf atype) ∈ tbg) {t0 : Nat} {cA0 : ClassId} (ht : (tysZ G)[t0]? = some (cA0, ty)) {n : Int32} {N' : Nat} {a0 : vp_A} (ha : ∀ cA : ClassId, vp_cell cA a0 = arrV cA N' (fun _ => defaultValue ty)) (hn : ¬ n < 0) (hN : n.toNatClampNeg = N') (hbytes : N' * componentBytes ty ≤ 536870912) (hcells : cells + 1 ≤ R.cells) (hslots : slots + N' ≤ R.slots) (hdg : decode cc pc = .ok (.newarray atype, 2))
    (kk : ∀ (q : Nat) (H1 : Heap), Zr G s ((X ++ [(q, .inl (cA0, a0))]) ++ Y) H1 locs → W p l e R s m args below meth c H1 locs (cells + 1) (slots + N') Q (F0 m (pc + 2) ls (.ref q :: rest))) : W p l e R s m args below meth c H locs cells slots Q (F0 m pc ls (.int n :: rest)) := by
  obtain ⟨hx, hb, -, -, -, hown, hts, K, -⟩ := C0
  have hgb := K.2.2.1
  refine va_newa hx hb (hts _ harr) hty K.1 Z.1 Z.2.1 Z.2.2 (fun q hq => by show gb G ≤ q; omega) ha hn hN hbytes hcells hslots hdg (fun q cA H1 hK hP hD hS => ?_)
  have e : cA = cA0 := by
    have r1 := (hK.2 4 (cA, ty) rfl).2
    exact ra_uniq r1 (K.1.2 t0 _ ht).2
  subst e
  exact kk q H1 ⟨va_P.swap hP, va_D.swap hD, hS⟩
/-- a new object, laid behind the cells at hand -/
theorem r_new (C0 : Cx G own cc nL ret p s m args meth c) (Z : Zr G s (X ++ Y) H locs) {C : String} {T : u_T} {N ci index : Nat} (hin : ∀ w ∈ u_ws C T N, w ∈ tbg) (ty : Nat → FieldType) (hty : ∀ k, k < N → parseFieldDescriptor (T k).2.2.1 = some (ty k)) (hcl : Cond.classLink own index C ∈ tbg) (hinst : Cond.instantiable C N ∈ tbg) (hini : Cond.initialized C ∈ tbg) (hc : vwCl[ci]? = some (C, T, N)) {fs : List Value} (hfs : ∀ j, j < N → defaultValue (ty j) = vp_V fs j) (hcells : cells + 1 ≤ R.cells) (hslots : slots + N ≤ R.slots) (hdg : decode cc pc = .ok (.new index, 3))
    (kk : ∀ (q : Nat) (H1 : Heap), Zr G s ((X ++ [(q, .inr (ci, fs))]) ++ Y) H1 locs → W p l e R s m args below meth c H1 locs (cells + 1) (slots + N) Q (F0 m (pc + 3) ls (.ref q :: rest))) : W p l e R s m args below meth c H locs cells slots Q (F0 m pc ls rest) := by
  obtain ⟨hx, hb, -, -, -, hown, hts, K, -⟩ := C0
  have hgb := K.2.2.1
  exact va_new hx hb hts hin ty hty hown (hts _ hcl) (hts _ hinst) (hts _ hini) K.1 Z.1 Z.2.1 Z.2.2 (fun q hq => by show gb G ≤ q; omega) hc hfs hcells hslots hdg (fun q H1 hP hD hS => kk q H1 ⟨va_P.swap hP, va_D.swap hD, hS⟩)
/-- a field of the object in front -/
theorem r_put (C0 : Cx G own cc nL ret p s m args meth c) {ci : Nat} {fs : List Value} (Z : Zr G s ((a, .inr (ci, fs)) :: Y) H locs) {C : String} {T : u_T} {N index : Nat} {ty0 : Nat → FieldType} (hin : ∀ w ∈ u_ws C T N, w ∈ tbg) (hty : ∀ k, k < N → parseFieldDescriptor (T k).2.2.1 = some (ty0 k)) (hnm : ∀ a, a < N → ∀ b, b < N → a ≠ b → (T a).2.1 ≠ (T b).2.1) (hc : vwCl[ci]? = some (C, T, N)) (k : Nat) (hk : k < N) (hdc : (T k).1 = C) (hfin : (T k).2.2.2 = false) (hlink : Cond.fieldLink own index C (T k).2.1 (T k).2.2.1 ∈ tbg) {x : Value} (hn : narrow (ty0 k) x = x) (hfit : fits (ty0 k) x = true) (hl : k < fs.length) (hdg : decode cc pc = .ok (.putfield index, 3))
    (kk : ∀ (H1 : Heap) (locs1 : List Loc), Zr G s ((a, .inr (ci, fs.set k x)) :: Y) H1 locs1 → W p l e R s m args below meth c H1 locs1 cells slots Q (F0 m (pc + 3) ls rest)) : W p l e R s m args below meth c H locs cells slots Q (F0 m pc ls (x :: .ref a :: rest)) := by
  obtain ⟨hx, hb, -, -, -, hown, hts, K, -⟩ := C0
  exact va_put hx hb hts hin ty0 hty hnm hown K.1 Z.1 Z.2.1 Z.2.2 0 rfl hc k hk (hts _ hlink) (fun x h => by rw [hdc] at h; exact h) hfin (hty k hk) hn hfit hl hdg (fun H1 locs1 hP hD hS => kk H1 locs1 ⟨hP, hD, hS⟩)
theorem r_putF (C0 : Cx G own cc nL ret p s m args meth c) (hin2 : meth.name = "<init>") {ci : Nat} {fs : List Value} (Z : Zr G s ((a, .inr (ci, fs)) :: Y) H locs) {C : String} {T : u_T} {N index : Nat} {ty0 : Nat → FieldType} (hin : ∀ w ∈ u_ws C T N, w ∈ tbg) (hty : ∀ k, k < N → parseFieldDescriptor (T k).2.2.1 = some (ty0 k)) (hnm : ∀ a, a < N → ∀ b, b < N → a ≠ b → (T a).2.1 ≠ (T b).2.1) (hc : vwCl[ci]? = some (C, T, N)) (k : Nat) (hk : k < N) (hdc : (T k).1 = C) (hdecl : (T k).1 = own) (hfin : (T k).2.2.2 = true) (hlink : Cond.fieldLink own index C (T k).2.1 (T k).2.2.1 ∈ tbg) {x : Value} (hn : narrow (ty0 k) x = x) (hfit : fits (ty0 k) x = true) (hl : k < fs.length) (hdg : decode cc pc = .ok (.putfield index, 3))
    (kk : ∀ (H1 : Heap) (locs1 : List Loc), Zr G s ((a, .inr (ci, fs.set k x)) :: Y) H1 locs1 → W p l e R s m args below meth c H1 locs1 cells slots Q (F0 m (pc + 3) ls rest)) : W p l e R s m args below meth c H locs cells slots Q (F0 m pc ls (x :: .ref a :: rest)) := by
  obtain ⟨hx, hb, -, -, -, hown, hts, K, -⟩ := C0
  exact va_putF hx hb hts hin ty0 hty hnm hown K.1 Z.1 Z.2.1 Z.2.2 0 rfl hc k hk (hts _ hlink) (fun x h => by rw [hdc] at h; exact h) hfin hin2 hdecl (hty k hk) hn hfit hl hdg (fun H1 locs1 hP hD hS => kk H1 locs1 ⟨hP, hD, hS⟩)
/-- fields and ints of cells anywhere -/
theorem r_get (C0 : Cx G own cc nL ret p s m args meth c) (Z : Zr G s Wl H locs) {C : String} {T : u_T} {N ci index i0 : Nat} (hin : ∀ w ∈ u_ws C T N, w ∈ tbg) (hc : vwCl[ci]? = some (C, T, N)) (k : Nat) (hk : k < N) (hdc : (T k).1 = C) (hlink : Cond.fieldLink own index C (T k).2.1 (T k).2.2.1 ∈ tbg) {fs : List Value} (he : Wl[i0]? = some (a, .inr (ci, fs))) {x : Value} (hv : fs[k]? = some x) (hdg : decode cc pc = .ok (.getfield index, 3))
    (kk : W p l e R s m args below meth c H locs cells slots Q (F0 m (pc + 3) ls (x :: rest))) : W p l e R s m args below meth c H locs cells slots Q (F0 m pc ls (.ref a :: rest)) := by
  obtain ⟨hx, hb, -, -, -, hown, hts, K, -⟩ := C0
  exact va_get hx hb hts hin hown K.1 Z.1 i0 he hc k hk (hts _ hlink) (fun x h => by rw [hdc] at h; exact h) hv hdg kk
theorem r_iast (C0 : Cx G own cc nL ret p s m args meth c) (Z : Zr G s Wl H locs) {i0 N : Nat} {f : Nat → Int32} (he : Wl[i0]? = some (a, .inl (gcA G 0, N, .inl f))) {i x : Int32} (hin : vp_in i N) (hdg : decode cc pc = .ok (.iastore, 1))
    (kk : ∀ (H1 : Heap) (locs1 : List Loc), Zr G s (Wl.set i0 (a, .inl (gcA G 0, N, .inl (upd f i.toNatClampNeg x)))) H1 locs1 → W p l e R s m args below meth c H1 locs1 cells slots Q (F0 m (pc + 1) ls rest)) : W p l e R s m args below meth c H locs cells slots Q (F0 m pc ls (.int x :: .int i :: .ref a :: rest)) := by
  obtain ⟨hx, hb, -, -, -, hown, hts, K, -⟩ := C0
  exact va_iast hx hb K.1 Z.1 Z.2.1 Z.2.2 i0 0 he rfl hin hdg (fun H1 locs1 hP hD hS => kk H1 locs1 ⟨hP, hD, hS⟩)
end ZW
