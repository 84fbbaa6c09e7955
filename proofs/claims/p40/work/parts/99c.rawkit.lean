/-! RAW WORLDS: the order of cells doesn't matter; equal contents; calls; constant places -/
theorem va_D.iff {A : Nat → Prop} {ws : va_W} : va_D A ws ↔ (ws.map Prod.fst).Nodup ∧ ∀ q ∈ ws, A q.1 := by
  constructor
  · intro h
    refine ⟨List.pairwise_iff_getElem.mpr (fun i j hi hj hij e => ?_), fun q hq => ?_⟩
    · rw [List.length_map] at hi hj
      rw [List.getElem_map, List.getElem_map] at e
      have := h.1 i j _ _ (List.getElem?_eq_getElem hi) (List.getElem?_eq_getElem hj) e
      omega
    · obtain ⟨k, hk⟩ := List.getElem?_of_mem hq
      exact h.2 k q hk
  · intro h
    refine ⟨fun i j p q hi hj e => ?_, fun k q hk => h.2 q (List.mem_of_getElem? hk)⟩
    have hp := List.pairwise_iff_getElem.mp h.1
    obtain ⟨hi1, hi2⟩ := List.getElem?_eq_some_iff.mp hi
    obtain ⟨hj1, hj2⟩ := List.getElem?_eq_some_iff.mp hj
    rcases Nat.lt_trichotomy i j with hij | hij | hij
    · exact absurd (by rw [List.getElem_map, List.getElem_map, hi2, hj2]; exact e) (hp i j (by rw [List.length_map]; exact hi1) (by rw [List.length_map]; exact hj1) hij)
    · exact hij
    · exact absurd (by rw [List.getElem_map, List.getElem_map, hi2, hj2]; exact e.symm) (hp j i (by rw [List.length_map]; exact hj1) (by rw [List.length_map]; exact hi1) hij)
theorem va_P.perm {D : va_G} {cl : List vw_C} {ws ws' : va_W} {H : Heap} (h : va_P D cl ws H) (hp : ws.Perm ws') : va_P D cl ws' H := fun k q hk => by
  obtain ⟨k', hk'⟩ := List.getElem?_of_mem (hp.mem_iff.mpr (List.mem_of_getElem? hk))
  exact h k' q hk'
theorem va_D.perm {A : Nat → Prop} {ws ws' : va_W} (h : va_D A ws) (hp : ws.Perm ws') : va_D A ws' := by
  rw [va_D.iff] at h ⊢
  exact ⟨(hp.map Prod.fst).nodup_iff.mp h.1, fun q hq => h.2 q (hp.mem_iff.mpr hq)⟩
/-- contents that say the same of the heap -/
def Eqv (e e' : va_E) : Prop := ∀ (D : va_G) (cl : List vw_C) (a : Nat) (H : Heap), va_at D cl (a, e) H → va_at D cl (a, e') H
theorem Eqv.of {e e' : va_E} (h : e = e') : Eqv e e' := by
  subst h
  exact fun _ _ _ _ h => h
theorem vpi_congr {cA : ClassId} {N : Nat} {f g : Nat → Int32} (h : ∀ j, j < N → f j = g j) : vp_cell cA (N, .inl f) = vp_cell cA (N, .inl g) := by
  show arrV cA N (fun j => .int (f j)) = arrV cA N (fun j => .int (g j))
  unfold arrV
  congr 2
  funext j
  exact congrArg Value.int (h j.val j.isLt)
theorem vpq_congr {cA : ClassId} {N : Nat} {f g : Nat → Option Nat} (h : ∀ j, j < N → f j = g j) : vp_cell cA (N, .inr (.inr (.inr (.inr f)))) = vp_cell cA (N, .inr (.inr (.inr (.inr g)))) := by
  show arrV cA N (fun j => va_rf (f j)) = arrV cA N (fun j => va_rf (g j))
  unfold arrV
  congr 2
  funext j
  exact congrArg va_rf (h j.val j.isLt)
theorem Eqv.cell {cA : ClassId} {x y : vp_A} (h : vp_cell cA x = vp_cell cA y) : Eqv (.inl (cA, x)) (.inl (cA, y)) := fun D cl a H hx => by
  show H[a]? = some (vp_cell cA y)
  rw [← h]
  exact hx
theorem Eqv.i {cA : ClassId} {N : Nat} {f g : Nat → Int32} (h : ∀ j, j < N → f j = g j) : Eqv (.inl (cA, N, .inl f)) (.inl (cA, N, .inl g)) := Eqv.cell (vpi_congr h)
theorem Eqv.q {cA : ClassId} {N : Nat} {f g : Nat → Option Nat} (h : ∀ j, j < N → f j = g j) : Eqv (.inl (cA, N, .inr (.inr (.inr (.inr f))))) (.inl (cA, N, .inr (.inr (.inr (.inr g))))) := Eqv.cell (vpq_congr h)
/-- worlds that say the same -/
def Cv (W W' : va_W) : Prop := W.map Prod.fst = W'.map Prod.fst ∧ ∀ q ∈ W', ∃ e : va_E, (q.1, e) ∈ W ∧ Eqv e q.2
theorem Cv.rf (W : va_W) : Cv W W := ⟨rfl, fun q hq => ⟨q.2, hq, Eqv.of rfl⟩⟩
theorem Cv.of {W W' : va_W} (h : W = W') : Cv W W' := h ▸ Cv.rf W
theorem Cv.cons {a a' : Nat} {e e' : va_E} {W W' : va_W} (ha : a = a') (h : Eqv e e') (hW : Cv W W') : Cv ((a, e) :: W) ((a', e') :: W') := by
  subst ha
  refine ⟨by rw [List.map_cons, List.map_cons, hW.1], fun q hq => ?_⟩
  rcases List.mem_cons.mp hq with rfl | hq
  · exact ⟨e, List.mem_cons_self, h⟩
  · obtain ⟨e1, h1, h2⟩ := hW.2 q hq
    exact ⟨e1, List.mem_cons_of_mem _ h1, h2⟩
theorem Cv.app {W W' X X' : va_W} (hW : Cv W W') (hX : Cv X X') : Cv (W ++ X) (W' ++ X') := by
  refine ⟨by rw [List.map_append, List.map_append, hW.1, hX.1], fun q hq => ?_⟩
  rcases List.mem_append.mp hq with hq | hq
  · obtain ⟨e1, h1, h2⟩ := hW.2 q hq
    exact ⟨e1, List.mem_append_left _ h1, h2⟩
  · obtain ⟨e1, h1, h2⟩ := hX.2 q hq
    exact ⟨e1, List.mem_append_right _ h1, h2⟩
theorem Cv.map {T : Type} (L : List T) {f g : T → Nat} {x y : T → va_E} (h1 : ∀ t ∈ L, f t = g t) (h2 : ∀ t ∈ L, Eqv (x t) (y t)) : Cv (L.map (fun t => (f t, x t))) (L.map (fun t => (g t, y t))) := by
  refine ⟨by rw [List.map_map, List.map_map]; exact List.map_congr_left (fun t ht => h1 t ht), fun q hq => ?_⟩
  obtain ⟨t, ht, rfl⟩ := List.mem_map.mp hq
  exact ⟨x t, List.mem_map.mpr ⟨t, ht, by rw [h1 t ht]⟩, h2 t ht⟩
theorem va_P.cv {D : va_G} {cl : List vw_C} {ws ws' : va_W} {H : Heap} (h : va_P D cl ws H) (hc : Cv ws ws') : va_P D cl ws' H := fun k q hk => by
  obtain ⟨e, h1, h2⟩ := hc.2 q (List.mem_of_getElem? hk)
  obtain ⟨k', hk'⟩ := List.getElem?_of_mem h1
  exact h2 D cl q.1 H (h k' _ hk')
theorem va_D.cv {A : Nat → Prop} {ws ws' : va_W} (h : va_D A ws) (hc : Cv ws ws') : va_D A ws' := by
  rw [va_D.iff] at h ⊢
  refine ⟨by rw [← hc.1]; exact h.1, fun q hq => ?_⟩
  obtain ⟨e, h1, -⟩ := hc.2 q hq
  exact h.2 (q.1, e) h1
theorem Zr.perm {G : zG} {s : State} {W W' : va_W} {H : Heap} {locs : List Loc} (Z : Zr G s W H locs) (hp : W.Perm W') : Zr G s W' H locs := ⟨Z.1.perm hp, Z.2.1.perm hp, Z.2.2⟩
theorem Zr.cv {G : zG} {s : State} {W W' : va_W} {H : Heap} {locs : List Loc} (Z : Zr G s W H locs) (hc : Cv W W') : Zr G s W' H locs := ⟨Z.1.cv hc, Z.2.1.cv hc, Z.2.2⟩
theorem Zr.front {G : zG} {s : State} {X Y : va_W} {x : Nat × va_E} {H : Heap} {locs : List Loc} (Z : Zr G s (X ++ x :: Y) H locs) : Zr G s (x :: (X ++ Y)) H locs := Z.perm List.perm_middle
/-- a constructor's start -/
theorem r_ofI {l : Launch} {y : MethodName} {cc : ByteArray} {nL : Nat} {ret : Option FieldType} {fr lo mc ms : Nat} {G : zG} {av : List Value} {Wl : va_W} {Qc : Array Value → State → Outcome → State → Prop} (hg : 116 ≤ gn G) (hy : plainName y.cls = true) (hfit : (lg_sl av).length ≤ nL)
    (body : ∀ p e s m args below meth c ls, meth.name = y.name → Cx G y.cls cc nL ret p s m args meth c → Zr G s Wl s.heap [] → lv_has ls nL (lv_args 0 av) → W p l e { frames := fr, cells := mc, slots := ms, locals := lo } s m args below meth c s.heap [] 0 0 (MQ below Qc args s mc ms (zA G)) (F0 m 0 ls [])) :
    Mr l y cc nL ret fr lo mc ms G av Wl Qc := by
  refine Met.ofW (cc := cc) (maxL := nL) (ret := ret) hy rfl ?_
  intro p e s m args below meth c s₁ B hml hv
  obtain ⟨rfl, hR, K⟩ := hv
  have hts : ∀ w ∈ tbg, w.before av.toArray s = true := fun w h => atoms_spec (ws := .code y cc nL ret :: tbg) B.pre w (List.mem_cons_of_mem _ h)
  have hown : s.vm.findClass y.cls = some m.cls := findClass_of_methodNamed B.named
  have hl := lv_entry av (n := nL) hfit
  rw [lg_entry_eq]
  generalize (lg_sl av ++ List.replicate (nL - (lg_sl av).length) Slot.unset).toArray = ls at hl ⊢
  exact body p e s m av.toArray below meth c ls (name_of_methodNamed B.named B.method).1 ⟨B.exec, B.bytes, hml, B.returns, B.notSynchronized, hown, hts, K, hg⟩ ⟨hR.1, hR.2, va_S.rf⟩ hl
section ZY
variable {p : Program} {l : Launch} {e : Env} {R : Room} {s : State} {m : MethodId} {args : Array Value} {below : List Frame} {meth : Method} {c : Code} {H : Heap} {locs : List Loc} {cells slots : Nat} {Q : State → Prop}
variable {cc : ByteArray} {pc nL : Nat} {ls : Array Slot} {rest : List Value} {G : zG} {own : String} {ret : Option FieldType} {X Y Wl : va_W} {a : Nat}
theorem r_mna2 (C0 : Cx G own cc nL ret p s m args meth c) (Z : Zr G s (X ++ Y) H locs) {index : Nat} (hclink : Cond.classLink own index ("[" ++ (FieldType.array .int).toString) ∈ tbg) (harr : Cond.arrayClass .int ∈ tbg) {n k : Int32} {N' K' : Nat} (hn : ¬ n < 0) (hk : ¬ k < 0) (hN : n.toNatClampNeg = N') (hM : k.toNatClampNeg = K') (hb1 : N' * 4 ≤ 536870912) (hb2 : K' * componentBytes .int ≤ 536870912) (hb3 : K' ≤ 536870912) (hcells : cells + (1 + N') ≤ R.cells) (hslots : slots + (N' + N' * K') ≤ R.slots) (hdg : decode cc pc = .ok (.multianewarray index 2, 4))
    (kk : ∀ (q : Nat) (r : Nat → Nat) (H1 : Heap), Zr G s ((X ++ ((q, .inl (gcA G 5, N', .inr (.inr (.inr (.inr (fun i => some (r i))))))) :: (List.range N').map (fun i => (r i, .inl (gcA G 0, K', .inl (fun _ => 0)))))) ++ Y) H1 locs → W p l e R s m args below meth c H1 locs (cells + 1 + N') (slots + N' + N' * K') Q (F0 m (pc + 4) ls (.ref q :: rest))) : W p l e R s m args below meth c H locs cells slots Q (F0 m pc ls (.int k :: .int n :: rest)) :=
  r_mna C0 Z hclink harr hn hk hN hM hb1 hb2 hb3 hcells hslots hdg (fun q r H1 Z => kk q r H1 (Z.cv ((((Cv.rf X).app (Cv.cons rfl (Eqv.q (fun j hj => if_pos hj)) (Cv.rf _)))).app (Cv.rf Y))))
theorem r_objInit (C0 : Cx G own cc nL ret p s m args meth c) (hl : ls.size = nL) {index : Nat} (h1 : Cond.methodLink own index Lib.objectInit ∈ tbg) (h2 : Cond.instanceMethod Lib.objectInit ∈ tbg) (h3 : Cond.code Lib.objectInit ⟨#[0xb1]⟩ 1 none ∈ tbg) (hf : 1 ≤ R.frames) (hlo : (rest.map fun v => v.category).sum + 12 ≤ R.locals) (hdg : decode cc pc = .ok (.invokespecial index, 3))
    (kk : W p l e R s m args below meth c H locs cells slots Q (F0 m (pc + 3) ls rest)) : W p l e R s m args below meth c H locs cells slots Q (F0 m pc ls (.ref a :: rest)) := by
  refine W.objInit C0.1 C0.2.1 (cx_own C0) (cx_w C0 h1) (cx_w C0 h2) (cx_w C0 h3) rfl (by rw [C0.2.2.1]; exact hl) rfl hdg hf (by show 2 * 0 + _ + _ ≤ _; omega) ?_
  exact W.eq (g2 := F0 m (pc + 3) ls rest) rfl kk
theorem r_callI (C0 : Cx G own cc nL ret p s m args meth c) (Z : Zr G s Wl H locs) (hl : ls.size = nL) {y : MethodName} {cy : ByteArray} {nLy fr lo mc ms index n b : Nat} {As st0 : List Value} {Qy : va_W → Prop} (hM : Mr l y cy nLy none fr lo mc ms G (.ref b :: As) Wl (QvR G Qy)) (hcode : Cond.code y cy nLy none ∈ tbg) (hini : Cond.initialized y.cls ∈ tbg) (hlk : Cond.methodLink own index y ∈ tbg) (hin : Cond.instanceMethod y ∈ tbg) (hy : y.name = "<init>") (hd : dsc y n) (hR : fr + 1 ≤ R.frames ∧ 8 + (nLy + 11) + lo ≤ R.locals) (hn : As.length = n) (hst : st0 = As.reverse ++ .ref b :: rest) (hW : (rest.map fun v => v.category).sum ≤ 8) (hf : cells + mc ≤ R.cells ∧ slots + ms ≤ R.slots) (hdg : decode cc pc = .ok (.invokespecial index, 3))
    (kk : ∀ (u : va_W) (H1 : Heap) (locs1 : List Loc), Qy u → Zr G s u H1 locs1 → W p l e R s m args below meth c H1 locs1 (cells + mc) (slots + ms) Q (F0 m (pc + 3) ls rest)) : W p l e R s m args below meth c H locs cells slots Q (F0 m pc ls st0) := by
  obtain ⟨hx, hb, hml, -, -, hown, hts, K, -⟩ := C0
  have hgd : GoodIn tbg (.code y cy nLy none :: tbg) := tbg_good (fun w hw => (List.mem_cons.mp hw).elim (fun h => h ▸ hcode) id)
  refine va_callv (va_runI (As := As) (rest := rest) ⟨hx, hb, hml, hown, hts⟩ hM (cwI n hts hgd rfl rfl rfl (hts _ hini) (hts _ hlk) (hts _ hin) hy hd hR) ⟨PcR.blind, fun U hU hW => Z.pre K hU hW⟩ rfl hn hl hst (lv_room hW) hdg hf) Z.2.2 (fun q _ h => h) (fun q h => h) (fun u t H1 locs1 ht hvm hw hB hz1 hk1 hS => ?_)
  refine kk u H1 locs1 hw ⟨?_, hB.2, hS⟩
  have := hB.1
  rw [ht] at this
  exact this
theorem r_callVv (C0 : Cx G own cc nL ret p s m args meth c) (Z : Zr G s Wl H locs) (hl : ls.size = nL) {y : MethodName} {cy : ByteArray} {nLy : Nat} {rety : Option FieldType} {fr lo mc ms index n ci b q0 : Nat} {C : String} {T : u_T} {N : Nat} {fs As st0 : List Value} {Qy : va_W → Prop} (hM : Mr l y cy nLy rety fr lo mc ms G (.ref b :: As) Wl (QvR G Qy)) (hgd : GoodIn tbg (wsV own index C y (.code y cy nLy rety :: tbg))) (hyc : y.cls = C) (hd : dsc y n) (hR : fr + 1 ≤ R.frames ∧ 8 + (nLy + 11) + lo ≤ R.locals) (hc : vwCl[ci]? = some (C, T, N)) (he : Wl[q0]? = some (b, .inr (ci, fs))) (hn : As.length = n) (hst : st0 = As.reverse ++ .ref b :: rest) (hW : (rest.map fun v => v.category).sum ≤ 8) (hf : cells + mc ≤ R.cells ∧ slots + ms ≤ R.slots) (hdg : decode cc pc = .ok (.invokevirtual index, 3))
    (kk : ∀ (u : va_W) (H1 : Heap) (locs1 : List Loc), Qy u → Zr G s u H1 locs1 → W p l e R s m args below meth c H1 locs1 (cells + mc) (slots + ms) Q (F0 m (pc + 3) ls rest)) : W p l e R s m args below meth c H locs cells slots Q (F0 m pc ls st0) := by
  obtain ⟨hx, hb, hml, -, -, hown, hts, K, -⟩ := C0
  refine va_callv (va_runV (As := As) (rest := rest) ⟨hx, hb, hml, hown, hts⟩ hM (cwV n hts hgd rfl rfl rfl ⟨hyc, hd⟩ hR) ⟨PcR.blind, va_recv K.1 Z.1 hc he, fun U hU hW => Z.pre K hU hW⟩ rfl hn hl hst (lv_room hW) hdg hf) Z.2.2 (fun q _ h => h) (fun q h => h) (fun u t H1 locs1 ht hvm hw hB hz1 hk1 hS => ?_)
  refine kk u H1 locs1 hw ⟨?_, hB.2, hS⟩
  have := hB.1
  rw [ht] at this
  exact this
theorem r_getsN0 (C0 : Cx G own cc nL ret p s m args meth c) (Z : Zr G s Wl H locs) {index : Nat} (hq : (own, index, "SETTING_FIRST") ∈ zNst) (hdg : decode cc pc = .ok (.getstatic index, 3))
    (kk : W p l e R s m args below meth c H locs cells slots Q (F0 m (pc + 3) ls (.ref (gk G 0) :: rest))) : W p l e R s m args below meth c H locs cells slots Q (F0 m pc ls rest) :=
  va_getsN C0.1 C0.2.1 (cx_K C0).2.1.1.1.1 Z.2.2 (cx_own C0) (((cx_K C0).2.2.2.2.2.1 _ hq).use rfl) (fun x h => h) hdg kk
theorem r_newq (C0 : Cx G own cc nL ret p s m args meth c) (Z : Zr G s (X ++ Y) H locs) {index : Nat} (hclink : Cond.classLink own index "SpanLodge$Ledger" ∈ tbg) {n : Int32} {N' : Nat} (hn : ¬ n < 0) (hN : n.toNatClampNeg = N') (hbytes : N' * 4 ≤ 536870912) (hcells : cells + 1 ≤ R.cells) (hslots : slots + N' ≤ R.slots) (hdg : decode cc pc = .ok (.anewarray index, 3))
    (kk : ∀ (q : Nat) (H1 : Heap), Zr G s ((X ++ [(q, .inl (gcA G 6, N', .inr (.inr (.inr (.inr (fun _ => none))))))]) ++ Y) H1 locs → W p l e R s m args below meth c H1 locs (cells + 1) (slots + N') Q (F0 m (pc + 3) ls (.ref q :: rest))) : W p l e R s m args below meth c H locs cells slots Q (F0 m pc ls (.int n :: rest)) := by
  obtain ⟨hx, hb, -, -, -, hown, hts, K, -⟩ := C0
  have hgb := K.2.2.1
  refine va_newq hx hb hown (hts _ hclink) K.2.2.2.2.2.2.2.2.1 K.1 Z.1 Z.2.1 Z.2.2 (fun q hq => by show gb G ≤ q; omega) hn hN hbytes hcells hslots hdg (fun q cA H1 hK hP hD hS => ?_)
  have e : cA = gcA G 6 := ra_uniq (hK.2 4 (cA, .object "SpanLodge$Ledger") rfl).2 (K.1.2 3 _ rfl).2
  subst e
  exact kk q H1 ⟨va_P.swap hP, va_D.swap hD, hS⟩
/-- the first settings, out of the class's own row -/
theorem r_copyT0 (C0 : Cx G own cc nL ret p s m args meth c) (Z : Zr G s Wl H locs) (hl : ls.size = nL) {index b Nb i0 : Nat} {f : Nat → Int32} (hlink : Cond.methodLink own index arraycopyName ∈ tbg) (he : Wl[i0]? = some (b, .inl (gcA G 0, Nb, .inl f))) (h2 : 4 ≤ Nb) (hf : 1 ≤ R.frames) (hlo : (rest.map fun v => v.category).sum + (nativeFrameWords "java/lang/System" "arraycopy" 5 + 11) ≤ R.locals) (hdg : decode cc pc = .ok (.invokestatic index, 3))
    (kk : ∀ (H1 : Heap) (locs1 : List Loc), Zr G s (Wl.set i0 (b, .inl (gcA G 0, Nb, .inl (fun j => if j < 4 then f4 5 10 4 3 j else f j)))) H1 locs1 → W p l e R s m args below meth c H1 locs1 cells slots Q (F0 m (pc + 3) ls rest)) : W p l e R s m args below meth c H locs cells slots Q (F0 m pc ls (.int 4 :: .int 0 :: .ref b :: .int 0 :: .ref (gk G 0) :: rest)) := by
  obtain ⟨hP, hD, hS⟩ := Z
  obtain ⟨scr, hs1, hs2, hs3, hs4, -, hs5, hs7⟩ := (cx_K C0).2.1.1.1.2
  have hc0 : H[gk G 0]? = some scr := by rw [hS.2.1 _ (Array.getElem?_eq_some_iff.mp hs1).1 hs7]; exact hs1
  have hc1 : H[b]? = some (vp_cell (gcA G 0) (Nb, .inl f)) := hP i0 _ he
  obtain ⟨hs6, k0, hk0, cm0, hkk0⟩ := hs2
  obtain ⟨-, k1, hk1, cm1, hkk1⟩ := ((cx_K C0).1.2 0 _ rfl).1 Nb (fun j => .int (f j))
  intro T hT X
  obtain ⟨vm', X', step⟩ := X.arraycopy C0.1 (cx_own C0) (cx_w C0 hlink) (cx_w C0 tm_cpy_n) (cx_w C0 tm_cpy_s) (cx_w C0 tm_sys) (src := gk G 0) (dst := b) (cs := scr) (cd := vp_cell (gcA G 0) (Nb, .inl f)) (srcPos := 0) (destPos := 0) (n := 4) (by rw [hT]; exact hc0) (by rw [hT]; exact hc1)
    hs6 (fun _ h => by cases h) hs3 (fun h => by cases h) hk0 hk1 hkk0 hkk1 (by simp [refKind]) (by decide) (by decide) (by decide)
    (by have e1 : (0 : Int32).toInt = 0 := rfl
        have e2 : (4 : Int32).toInt = 4 := rfl
        rw [e1, e2]; omega)
    (by have e1 : (0 : Int32).toInt = 0 := rfl
        have e2 : (4 : Int32).toInt = 4 := rfl
        rw [e1, e2]; show ¬ _ > ((arrV (gcA G 0) Nb (fun j => .int (f j))).slots.size : Int); rw [arrV_size]; omega)
    (fun vm₁ _ i hi => by
      have hi4 : i < 4 := hi
      have e : scr.slots.getD ((0 : Int32).toNatClampNeg + i) .null = .int (f4 5 10 4 3 i) := by
        rw [Array.getD_eq_getD_getElem?, show (0 : Int32).toNatClampNeg + i = i from Nat.zero_add i, hs5 _ hi4]
        rfl
      refine ⟨?_, ?_⟩
      · rw [e]; rfl
      · rw [e]; exact trivial)
    (g := F0 m pc ls (.int 4 :: .int 0 :: .ref b :: .int 0 :: .ref (gk G 0) :: rest)) rfl (by rw [C0.2.2.1, ← hl]) (rest := rest) rfl (by rw [C0.2.1]; exact hdg) hf (by show 2 * 0 + _ + _ ≤ _; omega)
  have e1 : copied scr (vp_cell (gcA G 0) (Nb, .inl f)) 0 0 4 = vp_cell (gcA G 0) (Nb, .inl (fun j => if j < 4 then f4 5 10 4 3 j else f j)) := by
    have h := va_copiedX (fun z => .int z) scr (gcA G 0) (f4 5 10 4 3) f (sp := 0) (dp := 0) (n := 4) (n1 := Nb) hs5 (by decide)
    refine h.trans ?_
    rw [vp_cell_i]
    refine congrArg (arrV (gcA G 0) Nb) (funext fun j => ?_)
    show Value.int (if 0 ≤ j ∧ j < 0 + 4 then f4 5 10 4 3 (0 + (j - 0)) else f j) = Value.int (if j < 4 then f4 5 10 4 3 j else f j)
    simp
  rw [e1] at X' step
  have hl2 : b < H.size := (Array.getElem?_eq_some_iff.mp hc1).1
  generalize hce : vp_cell (gcA G 0) (Nb, .inl (fun j => if j < 4 then f4 5 10 4 3 j else f j)) = ce at X' step
  have hheap : ((T.setVm vm').setCell b ce).heap = H.setIfInBounds b ce := by rw [← hT]; rfl
  have oq : ∀ q : Nat, q ≠ b → (H.setIfInBounds b ce)[q]? = H[q]? := fun q hq => by simp [Array.getElem?_setIfInBounds, Ne.symm hq]
  have hP1 := hP.set hD he (show va_at (gD G) vwCl (b, .inl (gcA G 0, Nb, .inl (fun j => if j < 4 then f4 5 10 4 3 j else f j))) (H.setIfInBounds b ce) from (by show (H.setIfInBounds b ce)[b]? = some _; rw [hce]; simp [Array.getElem?_setIfInBounds, hl2])) oq
  have hD1 := hD.set (e := .inl (gcA G 0, Nb, .inl (fun j => if j < 4 then f4 5 10 4 3 j else f j))) he
  obtain ⟨t, a1, b1⟩ := kk _ _ ⟨hP1, hD1, ⟨by simp; exact hS.1, fun q g1 g2 => by
      rw [oq q (fun e => g2 (by rw [e]; exact hD.2 i0 _ he))]
      exact hS.2.1 q g1 g2, fun q hq => by
      rcases List.mem_append.mp hq with h | h
      · exact hS.2.2 q h
      · obtain ⟨z, -, hz⟩ := List.mem_map.mp h
        rw [← hz]
        exact hD.2 i0 _ he⟩⟩ _ hheap X'
  exact ⟨t, step t a1, b1⟩
end ZY
