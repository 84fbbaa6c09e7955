/-! WHAT THE STATEMENT GIVES OF THE START: classes, statics, constants, the script -/
abbrev nrw : List Cond := flatC (Jvm.Cond.and given_1 narrow_1)
abbrev tSt (n : String) : Term := .static "SpanLodge" n "[I"
theorem ty_of {args : Array Value} {s : State} {ty : FieldType} (h : (Cond.arrayClass ty).before args s = true) (ho : ∀ C, ty ≠ .object C) : ∃ c : ClassId, ArrOfT s c ty ∧ va_RA s c ty := by
  obtain ⟨c, k, comp, h1, h2, h3⟩ := Cond.arrayClass_spec h
  refine ⟨c, fun N z => ⟨(fun q hq => by cases hq), k, h2, comp, h3⟩, ?_⟩
  cases ty <;> first | exact h1 | exact absurd rfl (ho _)
theorem tw1 {w : Cond} (i : Nat) (h : tables_1_1[i]? = some w) : w ∈ lw_tbl := List.mem_append_right _ (List.mem_append_left _ (List.mem_of_getElem? h))
theorem tw2 {w : Cond} (i : Nat) (h : tables_1_2[i]? = some w) : w ∈ lw_tbl := List.mem_append_right _ (List.mem_append_right _ (List.mem_append_left _ (List.mem_of_getElem? h)))
theorem tw3 {w : Cond} (i : Nat) (h : tables_1_3[i]? = some w) : w ∈ lw_tbl := List.mem_append_right _ (List.mem_append_right _ (List.mem_append_right _ (List.mem_append_left _ (List.mem_of_getElem? h))))
theorem tw4 {w : Cond} (i : Nat) (h : tables_1_4[i]? = some w) : w ∈ lw_tbl := List.mem_append_right _ (List.mem_append_right _ (List.mem_append_right _ (List.mem_append_right _ (List.mem_of_getElem? h))))
theorem wm_msg : ∀ q ∈ zMsg, Cond.stringRef q.1 q.2.1 q.2.2 ∈ lw_tbl := by decide +kernel
theorem wm_sit : ∀ q ∈ zSit, Cond.stringRef q.1 q.2.1 (zTx q.2.2) ∈ lw_tbl := by decide +kernel
theorem wm_nst : ∀ q ∈ zNst, Cond.fieldLinkNest q.1 q.2.1 "SpanLodge" q.2.2 "[I" "SpanLodge" ∈ lw_tbl := by decide +kernel
theorem wm_thr : ∀ w ∈ zThr, w ∈ lw_tbl := by decide +kernel
theorem wn_msg : ∀ q ∈ zMsg, Cond.exactly (.string q.1 q.2.1) "java/lang/String" ∈ nrw := by decide +kernel
theorem wn_nc : ∀ q ∈ zNc, Cond.not (.castable q.1 q.2) ∈ nrw := by decide +kernel
theorem wn_S0 : Cond.arrayOf (tSt "SETTING_FIRST") .int ∈ nrw ∧ Cond.eq (.length (tSt "SETTING_FIRST")) (.int (Int32.ofNat 4)) ∈ nrw ∧ ∀ j, j < 4 → Cond.eq (.elem (tSt "SETTING_FIRST") (.int (Int32.ofNat j))) (.int (f4 5 10 4 3 j)) ∈ nrw := by decide +kernel
theorem wn_S1 : Cond.arrayOf (tSt "SETTING_LEAST") .int ∈ nrw ∧ Cond.eq (.length (tSt "SETTING_LEAST")) (.int (Int32.ofNat 4)) ∈ nrw ∧ ∀ j, j < 4 → Cond.eq (.elem (tSt "SETTING_LEAST") (.int (Int32.ofNat j))) (.int (f4 0 0 1 1 j)) ∈ nrw := by decide +kernel
theorem wn_S2 : Cond.arrayOf (tSt "SETTING_MOST") .int ∈ nrw ∧ Cond.eq (.length (tSt "SETTING_MOST")) (.int (Int32.ofNat 4)) ∈ nrw ∧ ∀ j, j < 4 → Cond.eq (.elem (tSt "SETTING_MOST") (.int (Int32.ofNat j))) (.int (f4 50 99 9 9 j)) ∈ nrw := by decide +kernel
theorem wn_us : Cond.isRef (.static Bundle.tN "UNASSIGNED_STACK" Bundle.steD) ∈ nrw := by decide +kernel
theorem wn_ss : Cond.isRef (.static Bundle.tN "SUPPRESSED_SENTINEL" Bundle.listD) ∈ nrw := by decide +kernel
/-- one of the class's static arrays -/
theorem st_arr {args : Array Value} {s : State} {n : String} {f : Nat → Int32} {A : Nat → Prop} (hs : ∀ w ∈ nrw, w.before args s = true) (hl : (Cond.laysStatic "SpanLodge" n "[I").before args s = true) (hi : (Cond.initialized "SpanLodge").before args s = true) (w : Cond.arrayOf (tSt n) .int ∈ nrw ∧ Cond.eq (.length (tSt n)) (.int (Int32.ofNat 4)) ∈ nrw ∧ ∀ j, j < 4 → Cond.eq (.elem (tSt n) (.int (Int32.ofNat j))) (.int (f j)) ∈ nrw) (hA : ∀ a : Nat, a < s.heap.size → ¬ A a) : ∃ t : Nat, va_Z "SpanLodge" n "[I" (.ref t) A s s.heap ∧ va_T .int t 4 (fun j => .int (f j)) A s s.heap := by
  obtain ⟨t, ht, hT⟩ := va_Tof (f := fun j => .int (f j)) (A := A) (N := 4) (by decide) (hs _ w.1) (va_eqt (hs _ w.2.1)) (fun j hj => va_eqt (hs _ (w.2.2 j hj))) hA
  exact ⟨t, va_Zref hl hi ht hA, hT⟩
theorem kw_start {s : State} {b L : Nat} {xs : Nat → Int32} (hL : L ≤ 260) (hX : va_X b L xs s s.heap) (hbl : b < s.heap.size) (hts : ∀ w ∈ lw_tbl, w.before #[Value.ref b] s = true) (hgv : (Jvm.Cond.and given_1 narrow_1).before #[Value.ref b] s = true) : ∃ G : zG, gb G = s.heap.size ∧ gn G = 116 ∧ gk G 3 = b ∧ KW G s := by
  have hs : ∀ w ∈ nrw, w.before #[Value.ref b] s = true := flat_of_before _ hgv
  have htb : ∀ w ∈ tbg, w.before #[Value.ref b] s = true := fun w h => hts w (List.mem_filter.mp h).1
  have hA : ∀ a : Nat, a < s.heap.size → ¬ (fun q : Nat => s.heap.size ≤ q) a := fun a h1 h2 => by
    have h2 : s.heap.size ≤ a := h2
    omega
  obtain ⟨c0, i0, k0⟩ := u_known (C := RX0) (T := TX0) (N := 2) (n := 2) htb in_X0 (htb _ (tb1 98 (by decide +kernel) (by decide +kernel)))
  obtain ⟨c1, i1, k1⟩ := u_known (C := RX1) (T := TX1) (N := 11) (n := 11) htb in_X1 (htb _ (tb1 28 (by decide +kernel) (by decide +kernel)))
  obtain ⟨c2, i2, k2⟩ := u_known (C := RX2) (T := TX2) (N := 9) (n := 9) htb in_X2 (htb _ (tb1 112 (by decide +kernel) (by decide +kernel)))
  obtain ⟨c3, i3, k3⟩ := u_known (C := RX3) (T := TX3) (N := 14) (n := 14) htb in_X3 (htb _ (tb1 22 (by decide +kernel) (by decide +kernel)))
  obtain ⟨c4, i4, k4⟩ := u_known (C := RL) (T := TL) (N := 5) (n := 5) htb in_L (htb _ (tb1 14 (by decide +kernel) (by decide +kernel)))
  obtain ⟨D, hD⟩ : ∃ D : va_G, ∀ (k : Nat) (q : vw_C), vwCl[k]? = some q → u_Kn s q.1 q.2.1 q.2.2 (D.1 k) (D.2 k) := by
    refine ⟨(fun k => if k = 0 then c0 else if k = 1 then c1 else if k = 2 then c2 else if k = 3 then c3 else c4, fun k => if k = 0 then i0 else if k = 1 then i1 else if k = 2 then i2 else if k = 3 then i3 else i4), ?_⟩
    intro k q hq
    match k, hq with
    | 0, hq => cases hq; exact k0
    | 1, hq => cases hq; exact k1
    | 2, hq => cases hq; exact k2
    | 3, hq => cases hq; exact k3
    | 4, hq => cases hq; exact k4
    | k + 5, hq => simp [vwCl] at hq
  obtain ⟨a0, A0, B0⟩ := ty_of (ty := .int) (htb _ (tb1 95 (by decide +kernel) (by decide +kernel))) (fun C h => by cases h)
  obtain ⟨a1, A1, B1⟩ := ty_of (ty := .byte) (htb _ (tb1 94 (by decide +kernel) (by decide +kernel))) (fun C h => by cases h)
  have o5 : (Cond.arrayOver (.array .int)).before #[Value.ref b] s = true := hts _ (tw1 34 (by decide +kernel))
  have o6 : (Cond.arrayOver (.object "SpanLodge$Ledger")).before #[Value.ref b] s = true := hts _ (tw1 96 (by decide +kernel))
  obtain ⟨p5, a5, q5, r1, -, r2, r3, r4⟩ := arrayOverA_spec o5
  obtain ⟨p6, a6, q6, s1, -, s2, s3, s4⟩ := Cond.arrayOver_spec o6
  obtain ⟨t0, z0, T0⟩ := st_arr (A := fun q : Nat => s.heap.size ≤ q) hs (hts _ (tw1 40 (by decide +kernel))) (hts _ (tw1 1 (by decide +kernel))) wn_S0 hA
  obtain ⟨t1, z1, T1⟩ := st_arr (A := fun q : Nat => s.heap.size ≤ q) hs (hts _ (tw2 86 (by decide +kernel))) (hts _ (tw1 1 (by decide +kernel))) wn_S1 hA
  obtain ⟨t2, z2, T2⟩ := st_arr (A := fun q : Nat => s.heap.size ≤ q) hs (hts _ (tw2 88 (by decide +kernel))) (hts _ (tw1 1 (by decide +kernel))) wn_S2 hA
  have hsc : va_T .int b L (fun j => .int (xs j)) (fun q : Nat => s.heap.size ≤ q) s s.heap := by
    obtain ⟨scr, hcb, hof, hkn, hsz, hval⟩ := hX
    exact ⟨scr, hcb, hof, hkn, Nat.le_of_eq hsz.symm, by rw [hsz], hval, hA b hbl⟩
  refine ⟨(D, fun _ => 0, fun i => if i = 0 then a0 else if i = 1 then a1 else if i = 5 then a5 else a6, 116, s.heap.size, fun i => if i = 0 then t0 else if i = 1 then t1 else if i = 2 then t2 else b), rfl, rfl, rfl, ⟨hD, ?_⟩, ⟨⟨⟨z0, T0⟩, ⟨z1, T1⟩, ⟨z2, T2⟩⟩, ⟨trivial, trivial, ?_, ?_⟩, ⟨L, xs, hL, hsc⟩⟩, Nat.le_refl _, ?_, ?_, ?_, ?_, ?_, ?_⟩
  · intro k q hq
    match k, hq with
    | 0, hq => cases hq; exact ⟨A0, B0⟩
    | 1, hq => cases hq; exact ⟨A1, B1⟩
    | 2, hq => cases hq; exact ⟨fun N z => ⟨(fun q hq => by cases hq), q5, r2, p5, r3⟩, r4⟩
    | 3, hq => cases hq; exact ⟨fun N z => ⟨(fun q hq => by cases hq), q6, s2, p6, s3⟩, q6, p6, s2, s3, s1, s4⟩
    | k + 4, hq => simp [tysZ] at hq
  · exact vx_Zqof (hts _ (tw2 18 (by decide +kernel))) (hts _ (tw1 7 (by decide +kernel))) (hs _ wn_us) hA
  · exact vx_Zqof (hts _ (tw2 20 (by decide +kernel))) (hts _ (tw1 7 (by decide +kernel))) (hs _ wn_ss) hA
  · intro q hq
    obtain ⟨a, _, _, _, q1, _⟩ := Cond.exactly_spec (args := #[Value.ref b]) (first := s) (o := none) (s := s) (idx := []) (t := .string q.1 q.2.1) (cls := "java/lang/String") (hs _ (wn_msg q hq))
    exact ⟨a, vk_R.of (hts _ (wm_msg q hq)) q1⟩
  · exact fun q hq => absurd hq List.not_mem_nil
  · exact fun q hq => va_Nw.of rfl (hts _ (wm_nst q hq))
  · have h1 : ∀ w' : Cond, w' ∈ zThr → w'.onTables = true := by decide +kernel
    exact fun w hw => va_Nw.of (h1 w hw) (hts _ (wm_thr w hw))
  · exact fun q hq => va_Nc.of (hs _ (wn_nc q hq))
  · exact ⟨va_AO.of o6, o5⟩
