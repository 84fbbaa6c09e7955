/-! ROWS: static arrays, copies, text constants, the JDK's String -/
theorem cp2_row (v : V3) (a b n : Nat) : cp2 v a b n b = fun j => if j < n then v a j else v b j := if_pos rfl
theorem cp2_off (v : V3) {a b n c : Nat} (h : c ≠ b) : cp2 v a b n c = v c := if_neg h
theorem cpT_row (v : V3) (b : Nat) (f : Nat → Int32) (n : Nat) : cpT v b f n b = fun j => if j < n then f j else v b j := if_pos rfl
theorem cpT_off (v : V3) {b n c : Nat} {f : Nat → Int32} (h : c ≠ b) : cpT v b f n c = v c := if_neg h
section ZR4
variable {p : Program} {l : Launch} {e : Env} {R : Room} {s : State} {m : MethodId} {args : Array Value} {below : List Frame} {meth : Method} {c : Code} {H : Heap} {locs : List Loc} {cells slots : Nat} {Q : State → Prop}
variable {cc : ByteArray} {pc nL : Nat} {ls : Array Slot} {rest : List Value} {G : zG} {v : V3} {own : String} {ret : Option FieldType}
theorem z_bastk (C0 : Cx G own cc nL ret p s m args meth c) (Z : Zs G s v H locs) {c0 N j : Nat} (hc0 : c0 < gn G) (he : ∀ w : V3, ent G w c0 = .inl (gcA G 1, N, .inl (w c0))) {i x : Int32} (hin : vp_in i N) (hj : ix i = j) (hdg : decode cc pc = .ok (.bastore, 1))
    (kk : ∀ (H1 : Heap) (locs1 : List Loc), Zs G s (up2 v c0 j (vp_nar .byte x)) H1 locs1 → W p l e R s m args below meth c H1 locs1 cells slots Q (F0 m (pc + 1) ls rest)) : W p l e R s m args below meth c H locs cells slots Q (F0 m pc ls (.int x :: .int i :: .ref (gad G c0) :: rest)) := by
  subst hj
  exact z_bast C0 Z hc0 he hin hdg kk
theorem z_gets1 (C0 : Cx G own cc nL ret p s m args meth c) (Z : Zs G s v H locs) {index : Nat} (hlink : Cond.fieldLink own index "SpanLodge" "SETTING_LEAST" "[I" ∈ tbg) (hdg : decode cc pc = .ok (.getstatic index, 3))
    (kk : W p l e R s m args below meth c H locs cells slots Q (F0 m (pc + 3) ls (.ref (gk G 1) :: rest))) : W p l e R s m args below meth c H locs cells slots Q (F0 m pc ls rest) :=
  va_gets C0.1 C0.2.1 (cx_K C0).2.1.1.2.1.1 Z.2.2 (cx_own C0) (cx_w C0 hlink) (fun x h => h) hdg kk
theorem z_gets2 (C0 : Cx G own cc nL ret p s m args meth c) (Z : Zs G s v H locs) {index : Nat} (hlink : Cond.fieldLink own index "SpanLodge" "SETTING_MOST" "[I" ∈ tbg) (hdg : decode cc pc = .ok (.getstatic index, 3))
    (kk : W p l e R s m args below meth c H locs cells slots Q (F0 m (pc + 3) ls (.ref (gk G 2) :: rest))) : W p l e R s m args below meth c H locs cells slots Q (F0 m pc ls rest) :=
  va_gets C0.1 C0.2.1 (cx_K C0).2.1.1.2.2.1 Z.2.2 (cx_own C0) (cx_w C0 hlink) (fun x h => h) hdg kk
theorem z_getsN0 (C0 : Cx G own cc nL ret p s m args meth c) (Z : Zs G s v H locs) {index : Nat} (hq : (own, index, "SETTING_FIRST") ∈ zNst) (hdg : decode cc pc = .ok (.getstatic index, 3))
    (kk : W p l e R s m args below meth c H locs cells slots Q (F0 m (pc + 3) ls (.ref (gk G 0) :: rest))) : W p l e R s m args below meth c H locs cells slots Q (F0 m pc ls rest) :=
  va_getsN C0.1 C0.2.1 (cx_K C0).2.1.1.1.1 Z.2.2 (cx_own C0) (((cx_K C0).2.2.2.2.2.1 _ hq).use rfl) (fun x h => h) hdg kk
theorem z_tab1 (C0 : Cx G own cc nL ret p s m args meth c) (Z : Zs G s v H locs) {i : Int32} (hin : vp_in i 4) (hdg : decode cc pc = .ok (.iaload, 1))
    (kk : W p l e R s m args below meth c H locs cells slots Q (F0 m (pc + 1) ls (.int (f4 0 0 1 1 (ix i)) :: rest))) : W p l e R s m args below meth c H locs cells slots Q (F0 m pc ls (.int i :: .ref (gk G 1) :: rest)) :=
  va_ti C0.1 C0.2.1 (cx_K C0).2.1.1.2.1.2 Z.2.2 hin rfl hdg kk
theorem z_tab2 (C0 : Cx G own cc nL ret p s m args meth c) (Z : Zs G s v H locs) {i : Int32} (hin : vp_in i 4) (hdg : decode cc pc = .ok (.iaload, 1))
    (kk : W p l e R s m args below meth c H locs cells slots Q (F0 m (pc + 1) ls (.int (f4 50 99 9 9 (ix i)) :: rest))) : W p l e R s m args below meth c H locs cells slots Q (F0 m pc ls (.int i :: .ref (gk G 2) :: rest)) :=
  va_ti C0.1 C0.2.1 (cx_K C0).2.1.1.2.2.2 Z.2.2 hin rfl hdg kk
theorem z_copy (C0 : Cx G own cc nL ret p s m args meth c) (Z : Zs G s v H locs) (hl : ls.size = nL) {index a b Na Nb : Nat} (hlink : Cond.methodLink own index arraycopyName ∈ tbg) (ha : a < gn G) (hea : ∀ w : V3, ent G w a = .inl (gcA G 0, Na, .inl (w a))) (hb : b < gn G) (heb : ∀ w : V3, ent G w b = .inl (gcA G 0, Nb, .inl (w b))) {n : Int32} {k : Nat} (hn : ix n = k) (h0 : ¬ n < 0) (h1 : k ≤ Na) (h2 : k ≤ Nb) (hf : 1 ≤ R.frames) (hlo : (rest.map fun v => v.category).sum + (nativeFrameWords "java/lang/System" "arraycopy" 5 + 11) ≤ R.locals) (hdg : decode cc pc = .ok (.invokestatic index, 3))
    (kk : ∀ (H1 : Heap) (locs1 : List Loc), Zs G s (cp2 v a b k) H1 locs1 → W p l e R s m args below meth c H1 locs1 cells slots Q (F0 m (pc + 3) ls rest)) : W p l e R s m args below meth c H locs cells slots Q (F0 m pc ls (.int n :: .int 0 :: .ref (gad G b) :: .int 0 :: .ref (gad G a) :: rest)) := by
  refine va_copyi (H0 := s.heap) (A := zA G) (cl := vwCl) (ws := WS G v) (tys := tysZ G) C0.1 C0.2.1 (C0.2.2.1.trans hl.symm) (cx_own C0) (cx_w C0 hlink) (cx_w C0 tm_cpy_n) (cx_w C0 tm_cpy_s) (cx_w C0 tm_sys) (cx_K C0).1 Z.1 Z.2.1 Z.2.2 a b 0 0 (WS_get ha (hea v)) (WS_get hb (heb v)) rfl rfl rfl (by decide) (by decide) h0 ?_ ?_ (fun i hi => rfl) hf hlo hdg (fun H1 locs1 hP hD hS => ?_)
  · show 0 + ix n ≤ Na
    omega
  · show 0 + ix n ≤ Nb
    omega
  · have e : va_cpy (v a) (v b) (Int32.toNatClampNeg 0) (Int32.toNatClampNeg 0) n.toNatClampNeg = cp2 v a b k b := by
      rw [cp2_row]
      funext j
      show (if 0 ≤ j ∧ j < 0 + ix n then v a (0 + (j - 0)) else v b j) = _
      rw [hn]
      simp
    rw [e] at hP hD
    rw [WS_set (v' := cp2 v a b k) hb (heb _) (fun c' h => cp2_off v h)] at hP hD
    exact kk H1 locs1 ⟨hP, hD, hS⟩
theorem z_copyT0 (C0 : Cx G own cc nL ret p s m args meth c) (Z : Zs G s v H locs) (hl : ls.size = nL) {index b Nb : Nat} (hlink : Cond.methodLink own index arraycopyName ∈ tbg) (hb : b < gn G) (heb : ∀ w : V3, ent G w b = .inl (gcA G 0, Nb, .inl (w b))) {n : Int32} {k : Nat} (hn : ix n = k) (h0 : n = 4) (h2 : k ≤ Nb) (hf : 1 ≤ R.frames) (hlo : (rest.map fun v => v.category).sum + (nativeFrameWords "java/lang/System" "arraycopy" 5 + 11) ≤ R.locals) (hdg : decode cc pc = .ok (.invokestatic index, 3))
    (kk : ∀ (H1 : Heap) (locs1 : List Loc), Zs G s (cpT v b (f4 5 10 4 3) k) H1 locs1 → W p l e R s m args below meth c H1 locs1 cells slots Q (F0 m (pc + 3) ls rest)) : W p l e R s m args below meth c H locs cells slots Q (F0 m pc ls (.int n :: .int 0 :: .ref (gad G b) :: .int 0 :: .ref (gk G 0) :: rest)) := by
  subst h0
  have hk4 : k = 4 := hn.symm
  subst hk4
  obtain ⟨hP, hD, hS⟩ := Z
  obtain ⟨scr, hs1, hs2, hs3, hs4, -, hs5, hs7⟩ := (cx_K C0).2.1.1.1.2
  have hc0 : H[gk G 0]? = some scr := by rw [hS.2.1 _ (Array.getElem?_eq_some_iff.mp hs1).1 hs7]; exact hs1
  have hc1 : H[gad G b]? = some (vp_cell (gcA G 0) (Nb, .inl (v b))) := hP b _ (WS_get hb (heb v))
  obtain ⟨hs6, k0, hk0, cm0, hkk0⟩ := hs2
  obtain ⟨-, k1, hk1, cm1, hkk1⟩ := ((cx_K C0).1.2 0 _ rfl).1 Nb (fun j => .int (v b j))
  intro T hT X
  obtain ⟨vm', X', step⟩ := X.arraycopy C0.1 (cx_own C0) (cx_w C0 hlink) (cx_w C0 tm_cpy_n) (cx_w C0 tm_cpy_s) (cx_w C0 tm_sys) (src := gk G 0) (dst := gad G b) (cs := scr) (cd := vp_cell (gcA G 0) (Nb, .inl (v b))) (srcPos := 0) (destPos := 0) (n := 4) (by rw [hT]; exact hc0) (by rw [hT]; exact hc1)
    hs6 (fun _ h => by cases h) hs3 (fun h => by cases h) hk0 hk1 hkk0 hkk1 (by simp [refKind]) (by decide) (by decide) (by decide)
    (by have e1 : (0 : Int32).toInt = 0 := rfl
        have e2 : (4 : Int32).toInt = 4 := rfl
        rw [e1, e2]; omega)
    (by have e1 : (0 : Int32).toInt = 0 := rfl
        have e2 : (4 : Int32).toInt = 4 := rfl
        rw [e1, e2]; show ¬ _ > ((arrV (gcA G 0) Nb (fun j => .int (v b j))).slots.size : Int); rw [arrV_size]; omega)
    (fun vm₁ _ i hi => by
      have hi4 : i < 4 := hi
      have e : scr.slots.getD ((0 : Int32).toNatClampNeg + i) .null = .int (f4 5 10 4 3 i) := by
        rw [Array.getD_eq_getD_getElem?, show (0 : Int32).toNatClampNeg + i = i from Nat.zero_add i, hs5 _ hi4]
        rfl
      refine ⟨?_, ?_⟩
      · rw [e]; rfl
      · rw [e]; exact trivial)
    (g := F0 m pc ls (.int 4 :: .int 0 :: .ref (gad G b) :: .int 0 :: .ref (gk G 0) :: rest)) rfl (by rw [C0.2.2.1, ← hl]) (rest := rest) rfl (by rw [C0.2.1]; exact hdg) hf (by show 2 * 0 + _ + _ ≤ _; omega)
  have e1 : copied scr (vp_cell (gcA G 0) (Nb, .inl (v b))) 0 0 4 = vp_cell (gcA G 0) (Nb, .inl (cpT v b (f4 5 10 4 3) 4 b)) := by
    have h := va_copiedX (fun z => .int z) scr (gcA G 0) (f4 5 10 4 3) (v b) (sp := 0) (dp := 0) (n := 4) (n1 := Nb) hs5 (by decide)
    refine h.trans ?_
    rw [cpT_row, vp_cell_i]
    refine congrArg (arrV (gcA G 0) Nb) (funext fun j => ?_)
    show Value.int (if 0 ≤ j ∧ j < 0 + 4 then f4 5 10 4 3 (0 + (j - 0)) else v b j) = Value.int (if j < 4 then f4 5 10 4 3 j else v b j)
    simp
  rw [e1] at X' step
  have hl2 : gad G b < H.size := (Array.getElem?_eq_some_iff.mp hc1).1
  have hheap : ((T.setVm vm').setCell (gad G b) (vp_cell (gcA G 0) (Nb, .inl (cpT v b (f4 5 10 4 3) 4 b)))).heap = H.setIfInBounds (gad G b) (vp_cell (gcA G 0) (Nb, .inl (cpT v b (f4 5 10 4 3) 4 b))) := by rw [← hT]; rfl
  have oq : ∀ q : Nat, q ≠ gad G b → (H.setIfInBounds (gad G b) (vp_cell (gcA G 0) (Nb, .inl (cpT v b (f4 5 10 4 3) 4 b))))[q]? = H[q]? := fun q hq => by simp [Array.getElem?_setIfInBounds, Ne.symm hq]
  have hP1 := hP.set hD (WS_get hb (heb v)) (show va_at (gD G) vwCl (gad G b, .inl (gcA G 0, Nb, .inl (cpT v b (f4 5 10 4 3) 4 b))) (H.setIfInBounds (gad G b) _) from (by show (H.setIfInBounds (gad G b) _)[gad G b]? = some _; simp [Array.getElem?_setIfInBounds, hl2])) oq
  have hD1 := hD.set (e := .inl (gcA G 0, Nb, .inl (cpT v b (f4 5 10 4 3) 4 b))) (WS_get hb (heb v))
  rw [WS_set (v' := cpT v b (f4 5 10 4 3) 4) hb (heb _) (fun c' h => cpT_off v h)] at hP1 hD1
  obtain ⟨t, a1, b1⟩ := kk _ _ ⟨hP1, hD1, ⟨by simp; exact hS.1, fun q g1 g2 => by
      rw [oq q (fun e => g2 (by rw [e]; exact hD.2 b _ (WS_get hb (heb v))))]
      exact hS.2.1 q g1 g2, fun q hq => by
      rcases List.mem_append.mp hq with h | h
      · exact hS.2.2 q h
      · obtain ⟨z, -, hz⟩ := List.mem_map.mp h
        rw [← hz]
        exact hD.2 b _ (WS_get hb (heb v))⟩⟩ _ hheap X'
  exact ⟨t, step t a1, b1⟩
/-- text constants -/
theorem z_nret {ty : FieldType} (C0 : Cx G own cc nL (some ty) p s m args meth c) (Z : Zs G s v H locs) {Q : Int32 → V3 → Prop} {x : Int32} (hn : narrow ty (.int x) = .int x) (hQ : Q x v) (hdg : decode cc pc = .ok (.ireturn, 1)) : W p l e R s m args below meth c H locs cells slots (MQ below (QiZ G Q) args s cells slots (zA G)) (F0 m pc ls [.int x]) := by
  obtain ⟨hx, hb, -, hr, hk, hown, hts, K, -⟩ := C0
  exact W.zret hx hb hr hn (fun t ht hW => ⟨⟨x, v, rfl, hQ, ⟨by rw [ht]; exact Z.1, Z.2.1⟩⟩, Z.2.2.F ht⟩) Z.2.2.2.2 hdg hk
end ZR4
abbrev QdZ (G : zG) (Q : UInt64 → V3 → Prop) : Array Value → State → Outcome → State → Prop := va_Qd Q (fun u t => Rp G u t.heap) (zA G)
abbrev QfZ (G : zG) (Q : UInt32 → V3 → Prop) : Array Value → State → Outcome → State → Prop := va_Qf Q (fun u t => Rp G u t.heap) (zA G)
section ZR5
variable {p : Program} {l : Launch} {e : Env} {R : Room} {s : State} {m : MethodId} {args : Array Value} {below : List Frame} {meth : Method} {c : Code} {H : Heap} {locs : List Loc} {cells slots : Nat}
variable {cc : ByteArray} {pc nL : Nat} {ls : Array Slot} {G : zG} {v : V3} {own : String}
theorem z_dret (C0 : Cx G own cc nL (some .double) p s m args meth c) (Z : Zs G s v H locs) {Q : UInt64 → V3 → Prop} {x : UInt64} (hQ : Q x v) (hdg : decode cc pc = .ok (.dreturn, 1)) : W p l e R s m args below meth c H locs cells slots (MQ below (QdZ G Q) args s cells slots (zA G)) (F0 m pc ls [.double x]) := by
  obtain ⟨hx, hb, -, hr, hk, hown, hts, K, -⟩ := C0
  exact W.dret hx hb hr (fun t ht hW => ⟨⟨x, v, rfl, hQ, ⟨by rw [ht]; exact Z.1, Z.2.1⟩⟩, Z.2.2.F ht⟩) Z.2.2.2.2 hdg hk
theorem z_fret (C0 : Cx G own cc nL (some .float) p s m args meth c) (Z : Zs G s v H locs) {Q : UInt32 → V3 → Prop} {x : UInt32} (hQ : Q x v) (hdg : decode cc pc = .ok (.freturn, 1)) : W p l e R s m args below meth c H locs cells slots (MQ below (QfZ G Q) args s cells slots (zA G)) (F0 m pc ls [.float x]) := by
  obtain ⟨hx, hb, -, hr, hk, hown, hts, K, -⟩ := C0
  exact W.fret hx hb hr (fun t ht hW => ⟨⟨x, v, rfl, hQ, ⟨by rw [ht]; exact Z.1, Z.2.1⟩⟩, Z.2.2.F ht⟩) Z.2.2.2.2 hdg hk
end ZR5
