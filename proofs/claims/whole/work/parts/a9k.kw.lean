/-! WHAT THE STATEMENT GIVES OF THE START: classes, statics, constants -/
abbrev nrw : List Cond := flatC (Jvm.Cond.and given_1 narrow_1)
def rI (i : Nat) : Nat := match i with
  | 0 => 74
  | 1 => 51
  | 2 => 60
  | 3 => 65
  | 4 => 114
  | _ => 120
def mI (i : Nat) : Nat := match i with
  | 0 => 188
  | 1 => 193
  | 2 => 198
  | 3 => 182
  | 4 => 171
  | _ => 176
abbrev tSt (n : String) : Term := .static "SpanLodge" n "[I"
abbrev tW (i : Nat) : Term := .string "SpanLodge$SetupReader" (rI i)
abbrev tB (i : Nat) : Term := .field (tW i) "java/lang/String" "value" "[B"
def gkf (t k v : Nat → Nat) : Nat → Nat := fun c => if c < 10 then t c else if c < 20 then k (c - 10) else v (c - 20)
theorem ty_of {args : Array Value} {s : State} {ty : FieldType} (h : (Cond.arrayClass ty).before args s = true) (ho : ∀ C, ty ≠ .object C) : ∃ c : ClassId, ArrOfT s c ty ∧ va_RA s c ty := by
  obtain ⟨c, k, comp, h1, h2, h3⟩ := Cond.arrayClass_spec h
  refine ⟨c, fun N z => ⟨(fun q hq => by cases hq), k, h2, comp, h3⟩, ?_⟩
  cases ty <;> first | exact h1 | exact absurd rfl (ho _)
theorem tm_7_15 : Cond.arrayClass .long ∈ tbg := tb7 15 (by decide +kernel) (by decide +kernel)
theorem tm_7_16 : Cond.arrayClass .double ∈ tbg := tb7 16 (by decide +kernel) (by decide +kernel)
theorem tm_1_19 : Cond.instantiable RX3 14 ∈ tbg := tb1 19 (by decide +kernel) (by decide +kernel)
theorem tm_4_190 : Cond.instantiable RX4 34 ∈ tbg := tb4 190 (by decide +kernel) (by decide +kernel)
theorem tw1 {w : Cond} (i : Nat) (h : tables_1_1[i]? = some w) : w ∈ lw_tbl := List.mem_append_right _ (List.mem_append_left _ (List.mem_of_getElem? h))
theorem tw2 {w : Cond} (i : Nat) (h : tables_1_2[i]? = some w) : w ∈ lw_tbl := List.mem_append_right _ (List.mem_append_right _ (List.mem_append_left _ (List.mem_of_getElem? h)))
theorem tw3 {w : Cond} (i : Nat) (h : tables_1_3[i]? = some w) : w ∈ lw_tbl := List.mem_append_right _ (List.mem_append_right _ (List.mem_append_right _ (List.mem_append_left _ (List.mem_of_getElem? h))))
theorem wm_msg : ∀ q ∈ zMsg, Cond.stringRef q.1 q.2.1 q.2.2 ∈ lw_tbl := by decide +kernel
theorem wm_sit : ∀ q ∈ zSit, Cond.stringRef q.1 q.2.1 (zTx q.2.2) ∈ lw_tbl := by decide +kernel
theorem wm_nst : ∀ q ∈ zNst, Cond.fieldLinkNest q.1 q.2.1 "SpanLodge" q.2.2 "[I" "SpanLodge" ∈ lw_tbl := by decide +kernel
theorem wm_thr : ∀ w ∈ zThr, w ∈ lw_tbl := by decide +kernel
theorem wn_msg : ∀ q ∈ zMsg, Cond.exactly (.string q.1 q.2.1) "java/lang/String" ∈ nrw := by decide +kernel
theorem wn_nc : ∀ q ∈ zNc, Cond.not (.castable q.1 q.2) ∈ nrw := by decide +kernel
theorem wn_ex : ∀ i, i < 6 → Cond.exactly (tW i) "java/lang/String" ∈ nrw := by decide +kernel
theorem wn_co : ∀ i, i < 6 → Cond.eq (.field (tW i) "java/lang/String" "coder" "B") (.int 0) ∈ nrw := by decide +kernel
theorem wn_ar : ∀ i, i < 6 → Cond.arrayOf (tB i) .byte ∈ nrw := by decide +kernel
theorem wn_le : ∀ i, i < 6 → Cond.eq (.length (tB i)) (.int (Int32.ofNat (zlen i))) ∈ nrw := by decide +kernel
theorem wn_el : ∀ i, i < 6 → ∀ j, j < zlen i → Cond.eq (.elem (tB i) (.int (Int32.ofNat j))) (.int (zch i j)) ∈ nrw := by decide +kernel
theorem wn_eq : ∀ i, i < 6 → Cond.eq (tW i) (.string "SpanLodgeModel" (mI i)) ∈ nrw := by decide +kernel
theorem wn_S0 : Cond.arrayOf (tSt "SETTING_FIRST") .int ∈ nrw ∧ Cond.eq (.length (tSt "SETTING_FIRST")) (.int (Int32.ofNat 4)) ∈ nrw ∧ ∀ j, j < 4 → Cond.eq (.elem (tSt "SETTING_FIRST") (.int (Int32.ofNat j))) (.int (f4 5 10 4 3 j)) ∈ nrw := by decide +kernel
theorem wn_S1 : Cond.arrayOf (tSt "SETTING_LEAST") .int ∈ nrw ∧ Cond.eq (.length (tSt "SETTING_LEAST")) (.int (Int32.ofNat 4)) ∈ nrw ∧ ∀ j, j < 4 → Cond.eq (.elem (tSt "SETTING_LEAST") (.int (Int32.ofNat j))) (.int (f4 0 0 1 1 j)) ∈ nrw := by decide +kernel
theorem wn_S2 : Cond.arrayOf (tSt "SETTING_MOST") .int ∈ nrw ∧ Cond.eq (.length (tSt "SETTING_MOST")) (.int (Int32.ofNat 4)) ∈ nrw ∧ ∀ j, j < 4 → Cond.eq (.elem (tSt "SETTING_MOST") (.int (Int32.ofNat j))) (.int (f4 50 99 9 9 j)) ∈ nrw := by decide +kernel
theorem zlen_lt : ∀ i, i < 6 → zlen i < 2 ^ 31 := by decide +kernel
theorem wn_cs : Cond.eq (.static "java/lang/String" "COMPACT_STRINGS" "Z") (.int 1) ∈ nrw := by decide +kernel
theorem wn_si : Cond.isRef (.static "jdk/internal/util/Preconditions" "SIOOBE_FORMATTER" "Ljava/util/function/BiFunction;") ∈ nrw := by decide +kernel
theorem wn_us : Cond.isRef (.static Bundle.tN "UNASSIGNED_STACK" Bundle.steD) ∈ nrw := by decide +kernel
theorem wn_ss : Cond.isRef (.static Bundle.tN "SUPPRESSED_SENTINEL" Bundle.listD) ∈ nrw := by decide +kernel
/-- one of the class's static arrays -/
theorem st_arr {args : Array Value} {s : State} {n : String} {f : Nat → Int32} {A : Nat → Prop} (hs : ∀ w ∈ nrw, w.before args s = true) (hl : (Cond.laysStatic "SpanLodge" n "[I").before args s = true) (hi : (Cond.initialized "SpanLodge").before args s = true) (w : Cond.arrayOf (tSt n) .int ∈ nrw ∧ Cond.eq (.length (tSt n)) (.int (Int32.ofNat 4)) ∈ nrw ∧ ∀ j, j < 4 → Cond.eq (.elem (tSt n) (.int (Int32.ofNat j))) (.int (f j)) ∈ nrw) (hA : ∀ a : Nat, a < s.heap.size → ¬ A a) : ∃ t : Nat, va_Z "SpanLodge" n "[I" (.ref t) A s s.heap ∧ va_T .int t 4 (fun j => .int (f j)) A s s.heap := by
  obtain ⟨t, ht, hT⟩ := va_Tof (f := fun j => .int (f j)) (A := A) (N := 4) (by decide) (hs _ w.1) (va_eqt (hs _ w.2.1)) (fun j hj => va_eqt (hs _ (w.2.2 j hj))) hA
  exact ⟨t, va_Zref hl hi ht hA, hT⟩
theorem kw_start {s : State} {b : Nat} (hts : ∀ w ∈ lw_tbl, w.before #[Value.ref b] s = true) (hgv : (Jvm.Cond.and given_1 narrow_1).before #[Value.ref b] s = true) : ∃ G : zG, gb G = s.heap.size ∧ gn G = 129 ∧ KW G s := by
  have hs : ∀ w ∈ nrw, w.before #[Value.ref b] s = true := flat_of_before _ hgv
  have htb : ∀ w ∈ tbg, w.before #[Value.ref b] s = true := fun w h => hts w (List.mem_filter.mp h).1
  have hA : ∀ a : Nat, a < s.heap.size → ¬ (fun q : Nat => s.heap.size ≤ q) a := fun a h1 h2 => by
    have h2 : s.heap.size ≤ a := h2
    omega
  -- classes
  obtain ⟨c0, i0, k0⟩ := u_known (C := RX0) (T := TX0) (N := 2) (n := 2) htb in_X0 (htb _ tm_1_101)
  obtain ⟨c1, i1, k1⟩ := u_known (C := RX1) (T := TX1) (N := 11) (n := 11) htb in_X1 (htb _ tm_1_27)
  obtain ⟨c2, i2, k2⟩ := u_known (C := RX2) (T := TX2) (N := 9) (n := 9) htb in_X2 (htb _ tm_1_115)
  obtain ⟨c3, i3, k3⟩ := u_known (C := RX3) (T := TX3) (N := 14) (n := 14) htb in_X3 (htb _ tm_1_19)
  obtain ⟨c4, i4, k4⟩ := u_known (C := RX4) (T := TX4) (N := 34) (n := 34) htb in_X4 (htb _ tm_4_190)
  obtain ⟨D, hD⟩ : ∃ D : va_G, ∀ (k : Nat) (q : vw_C), vwCl[k]? = some q → u_Kn s q.1 q.2.1 q.2.2 (D.1 k) (D.2 k) := by
    refine ⟨(fun k => if k = 0 then c0 else if k = 1 then c1 else if k = 2 then c2 else if k = 3 then c3 else c4, fun k => if k = 0 then i0 else if k = 1 then i1 else if k = 2 then i2 else if k = 3 then i3 else i4), ?_⟩
    intro k q hq
    match k, hq with
    | 0, hq => cases hq; exact k0
    | 1, hq => cases hq; exact k1
    | 2, hq => cases hq; exact k2
    | 3, hq => cases hq; exact k3
    | 4, hq => cases hq; exact k4
    | k + 5, hq => simp [vwCl] at hq
  -- array classes
  obtain ⟨a0, A0, B0⟩ := ty_of (htb _ tm_1_98) (fun C h => by cases h)
  obtain ⟨a1, A1, B1⟩ := ty_of (htb _ tm_1_97) (fun C h => by cases h)
  obtain ⟨a2, A2, B2⟩ := ty_of (htb _ tm_5_66) (fun C h => by cases h)
  obtain ⟨a3, A3, B3⟩ := ty_of (htb _ tm_7_15) (fun C h => by cases h)
  obtain ⟨a4, A4, B4⟩ := ty_of (htb _ tm_7_16) (fun C h => by cases h)
  have o5 : (Cond.arrayOver (.array .int)).before #[Value.ref b] s = true := hts _ (tw1 33 (by decide +kernel))
  have o6 : (Cond.arrayOver (.object "SpanLodge$Ledger")).before #[Value.ref b] s = true := hts _ (tw1 99 (by decide +kernel))
  obtain ⟨p5, a5, q5, r1, -, r2, r3, r4⟩ := arrayOverA_spec o5
  obtain ⟨p6, a6, q6, s1, -, s2, s3, s4⟩ := Cond.arrayOver_spec o6
  -- statics
  obtain ⟨t0, z0, T0⟩ := st_arr (A := fun q : Nat => s.heap.size ≤ q) hs (hts _ (tw1 39 (by decide +kernel))) (hts _ (tw1 1 (by decide +kernel))) wn_S0 hA
  obtain ⟨t1, z1, T1⟩ := st_arr (A := fun q : Nat => s.heap.size ≤ q) hs (hts _ (tw2 134 (by decide +kernel))) (hts _ (tw1 1 (by decide +kernel))) wn_S1 hA
  obtain ⟨t2, z2, T2⟩ := st_arr (A := fun q : Nat => s.heap.size ≤ q) hs (hts _ (tw2 136 (by decide +kernel))) (hts _ (tw1 1 (by decide +kernel))) wn_S2 hA
  -- words
  have hw : ∀ i : Nat, ∃ q : Nat × Nat, i < 6 → (tW i).eval #[Value.ref b] s none [] s = some (.ref q.1) ∧ va_O "java/lang/String" q.1 (fun q : Nat => s.heap.size ≤ q) s s.heap ∧ va_OF "java/lang/String" "coder" "B" (.int 0) q.1 (fun q : Nat => s.heap.size ≤ q) s s.heap ∧ va_OF "java/lang/String" "value" "[B" (.ref q.2) q.1 (fun q : Nat => s.heap.size ≤ q) s s.heap ∧ va_T .byte q.2 (zlen i) (fun j => .int (zch i j)) (fun q : Nat => s.heap.size ≤ q) s s.heap := by
    intro i
    by_cases hi : i < 6
    · obtain ⟨a, _, _, _, q1, _⟩ := Cond.exactly_spec (args := #[Value.ref b]) (first := s) (o := none) (s := s) (idx := []) (t := tW i) (cls := "java/lang/String") (hs _ (wn_ex i hi))
      obtain ⟨t, ht, hT⟩ := va_Tof (f := fun j => .int (zch i j)) (A := fun q : Nat => s.heap.size ≤ q) (N := zlen i) (zlen_lt i hi) (hs _ (wn_ar i hi)) (va_eqt (hs _ (wn_le i hi))) (fun j hj => va_eqt (hs _ (wn_el i hi j hj))) hA
      exact ⟨(a, t), fun _ => ⟨q1, va_Oof (hs _ (wn_ex i hi)) q1 hA, vk_OFof q1 (va_eqt (hs _ (wn_co i hi))) hA, vk_OFof q1 ht hA, hT⟩⟩
    · exact ⟨(0, 0), fun h => absurd h hi⟩
  obtain ⟨ad, had⟩ := Classical.axiomOfChoice hw
  have hm : ∀ i : Nat, i < 6 → (Term.string "SpanLodgeModel" (mI i)).eval #[Value.ref b] s none [] s = some (.ref (ad i).1) := fun i hi => by
    obtain ⟨y, y1, y2⟩ := Cond.eq_one (hs _ (wn_eq i hi))
    rw [y2, ← y1]
    exact (had i hi).1
  refine ⟨(D, fun _ => 0, fun i => if i = 0 then a0 else if i = 1 then a1 else if i = 2 then a2 else if i = 3 then a3 else if i = 4 then a4 else if i = 5 then a5 else a6, 129, s.heap.size, gkf (fun i => if i = 0 then t0 else if i = 1 then t1 else t2) (fun i => (ad i).1) (fun i => (ad i).2)), rfl, rfl, ⟨hD, ?_⟩, ⟨⟨⟨z0, T0⟩, ⟨z1, T1⟩, ⟨z2, T2⟩⟩, ⟨?_, ?_, ?_, ?_⟩, ?_⟩, Nat.le_refl _, ?_, ?_, ?_, ?_, ?_, ?_⟩
  · intro k q hq
    match k, hq with
    | 0, hq => cases hq; exact ⟨A0, B0⟩
    | 1, hq => cases hq; exact ⟨A1, B1⟩
    | 2, hq => cases hq; exact ⟨A2, B2⟩
    | 3, hq => cases hq; exact ⟨A3, B3⟩
    | 4, hq => cases hq; exact ⟨A4, B4⟩
    | 5, hq => cases hq; exact ⟨fun N z => ⟨(fun q hq => by cases hq), q5, r2, p5, r3⟩, r4⟩
    | 6, hq => cases hq; exact ⟨fun N z => ⟨(fun q hq => by cases hq), q6, s2, p6, s3⟩, q6, p6, s2, s3, s1, s4⟩
    | k + 7, hq => simp [tysZ] at hq
  · exact va_Zof (hts _ (tw2 1 (by decide +kernel))) (hts _ (tw1 13 (by decide +kernel))) (va_eqt (hs _ wn_cs)) hA
  · exact va_Zqof (hts _ (tw2 17 (by decide +kernel))) (hts _ (tw1 15 (by decide +kernel))) (hs _ wn_si) hA
  · exact vx_Zqof (hts _ (tw3 38 (by decide +kernel))) (hts _ (tw1 7 (by decide +kernel))) (hs _ wn_us) hA
  · exact vx_Zqof (hts _ (tw3 40 (by decide +kernel))) (hts _ (tw1 7 (by decide +kernel))) (hs _ wn_ss) hA
  · intro i hi
    have h6 : i < 6 := hi
    have e1 : gkf (fun i => if i = 0 then t0 else if i = 1 then t1 else t2) (fun i => (ad i).1) (fun i => (ad i).2) (10 + i) = (ad i).1 := by
      unfold gkf
      rw [if_neg (by omega), if_pos (by omega), Nat.add_sub_cancel_left]
    have e2 : gkf (fun i => if i = 0 then t0 else if i = 1 then t1 else t2) (fun i => (ad i).1) (fun i => (ad i).2) (20 + i) = (ad i).2 := by
      unfold gkf
      rw [if_neg (by omega), if_neg (by omega), Nat.add_sub_cancel_left]
    have h := (had i h6).2
    rw [← e1, ← e2] at h
    exact h
  · intro q hq
    obtain ⟨a, _, _, _, q1, _⟩ := Cond.exactly_spec (args := #[Value.ref b]) (first := s) (o := none) (s := s) (idx := []) (t := .string q.1 q.2.1) (cls := "java/lang/String") (hs _ (wn_msg q hq))
    exact ⟨a, vk_R.of (hts _ (wm_msg q hq)) q1⟩
  · intro q hq
    have h1 := hts _ (wm_sit q hq)
    simp only [zSit, List.mem_cons, List.not_mem_nil, or_false] at hq
    rcases hq with rfl | rfl | rfl | rfl | rfl | rfl | rfl | rfl | rfl | rfl | rfl | rfl
    · exact vk_R.of h1 (had 4 (by decide)).1
    · exact vk_R.of h1 (had 5 (by decide)).1
    · exact vk_R.of h1 (had 1 (by decide)).1
    · exact vk_R.of h1 (had 2 (by decide)).1
    · exact vk_R.of h1 (had 3 (by decide)).1
    · exact vk_R.of h1 (had 0 (by decide)).1
    · exact vk_R.of h1 (hm 4 (by decide))
    · exact vk_R.of h1 (hm 5 (by decide))
    · exact vk_R.of h1 (hm 3 (by decide))
    · exact vk_R.of h1 (hm 0 (by decide))
    · exact vk_R.of h1 (hm 1 (by decide))
    · exact vk_R.of h1 (hm 2 (by decide))
  · exact fun q hq => va_Nw.of rfl (hts _ (wm_nst q hq))
  · have h1 : ∀ w' : Cond, w' ∈ zThr → w'.onTables = true := by decide +kernel
    exact fun w hw => va_Nw.of (h1 w hw) (hts _ (wm_thr w hw))
  · exact fun q hq => va_Nc.of (hs _ (wn_nc q hq))
  · exact ⟨va_AO.of o6, o5⟩
