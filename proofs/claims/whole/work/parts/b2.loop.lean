/-! THE LAW'S LOOP -/
theorem IV_up {v : V3} {g : Nat} {B : Int} (h : IV v g B) (hB : B + 99 ≤ 900000) : IV v g (B + 99) := by
  obtain ⟨⟨n, m, S, hL, hO, hD⟩, hR⟩ := h
  exact ⟨⟨n, m, S, hL, OK_B hO (by omega), hD⟩, RS_B hR (by omega)⟩
/-- at the loop's head -/
def LwH (p : Program) (l : Launch) (e : Env) (s : State) (m : MethodId) (below : List Frame) (meth : Method) (c : Code) (b L : Nat) (Q : State → Prop) (i j : Nat) (pc : Nat) : Prop := ∀ (G : zG) (v : V3) (H : Heap) (locs : List Loc) (ls : Array Slot), Cx G RL cL_law 9 (some .boolean) p s m #[Value.ref b] meth c → gb G = s.heap.size → IV v (gn G) (10300 + 99 * (j : Int)) → Zs G s v H locs → lv_has ls 9 [(0, .ref b), (1, .ref (gad G 0)), (2, .ref (gad G 7)), (3, .ref (gad G 19)), (4, .ref (gad G 20)), (5, .int (nI i))] → W p l e room_1 s m #[Value.ref b] below meth c H locs (400 + 60 * j) (10000 + 700 * j) Q (F0 m pc ls [])
set_option maxRecDepth 100000 in
set_option maxHeartbeats 4000000 in
/-- one turn -/
theorem law_turn {p : Program} (l : Launch) (hst : l.stackTraces = false) {e : Env} {s : State} {m : MethodId} {below : List Frame} {meth : Method} {c : Code} {b L : Nat} {xs : Nat → Int32} (hX : va_X b L xs s s.heap) (hbl : b < s.heap.size) (hL : L ≤ 2560) {Q : State → Prop} {i j : Nat} (hij : i = 5 * j) (hj : j ≤ 512) (hend : LwH p l e s m below meth c b L Q i j 2234) (hnext : i + 5 ≤ L → ∀ (G : zG) (v : V3) (H : Heap) (locs : List Loc) (ls : Array Slot), Cx G RL cL_law 9 (some .boolean) p s m #[Value.ref b] meth c → gb G = s.heap.size → IV v (gn G) ((10300 + 99 * (j : Int)) + 99) → Zs G s v H locs → lv_has ls 9 [(0, .ref b), (1, .ref (gad G 0)), (2, .ref (gad G 7)), (3, .ref (gad G 19)), (4, .ref (gad G 20)), (5, .int (nI i))] → W p l e room_1 s m #[Value.ref b] below meth c H locs (400 + 60 * j + 60) (10000 + 700 * j + 700) Q (F0 m 2228 ls [])) : LwH p l e s m below meth c b L Q i j 28 := by
  intro G v H locs ls C0 hgb h Z hl
  have hx := C0.1
  have hb := C0.2.1
  have hbA : ¬ zA G b := by show ¬ gb G ≤ b; rw [hgb]; omega
  have hB : (10300 + 99 * (j : Int)) + 99 ≤ 900000 := by omega
  have hkc : 400 + 60 * j + 60 ≤ 601024 := by omega
  have hks : 10000 + 700 * j + 700 ≤ 7293034 := by omega
  refine lv_iload hx hb dL_law_28 (lv_at hl 5 rfl) ?_
  refine lv_aload_n hx hb dL_law_30 rfl (lv_at hl 0 rfl) ?_
  refine va_slen hx hb hX hbl hbA Z.2.2 dL_law_31 ?_
  refine lv_iconst (v := 5) hx hb dL_law_32 (by decide) ?_
  refine lv_isub hx hb dL_law_33 ?_
  have e5 : (Int32.ofNat L - 5 : Int32).toInt = (L : Int) - 5 := by
    have e1 : (Int32.ofNat L).toInt = (L : Int) := ti_nI (by omega)
    rw [ti_sub (by rw [e1, show (5 : Int32).toInt = 5 from rfl]; omega) (by rw [e1, show (5 : Int32).toInt = 5 from rfl]; omega), e1]
    rfl
  refine lv_icmp_gt (tgt := 2234) hx hb dL_law_34 (by decide) (fun _ => ?_) (fun c0 => ?_)
  · exact hend G v H locs ls C0 hgb h Z hl
  have hi5 : i + 5 ≤ L := by
    rw [ti_lt, e5, ti_nI (by omega)] at c0
    omega
  have hnx := hnext hi5
  refine lv_aload_n hx hb dL_law_37 rfl (lv_at hl 0 rfl) ?_
  refine lv_iload hx hb dL_law_38 (lv_at hl 5 rfl) ?_
  refine va_sld hx hb hX hbl hbA Z.2.2 (vp_in_nI (by omega) (by omega)) dL_law_40 ?_
  refine lv_bipush (v := 63) hx hb dL_law_41 (by decide) ?_
  refine lv_iand hx hb dL_law_43 ?_
  generalize (xs (nI i).toNatClampNeg &&& 63) = y
  have kk : ∀ (v' : V3) (H1 : Heap) (locs1 : List Loc) (ls1 : Array Slot), IV v' (gn G) ((10300 + 99 * (j : Int)) + 99) → Zs G s v' H1 locs1 → lv_has ls1 9 [(0, .ref b), (1, .ref (gad G 0)), (2, .ref (gad G 7)), (3, .ref (gad G 19)), (4, .ref (gad G 20)), (5, .int (nI i))] → W p l e room_1 s m #[Value.ref b] below meth c H1 locs1 (400 + 60 * j + 60) (10000 + 700 * j + 700) Q (F0 m 2228 ls1 []) := fun v' H1 locs1 ls1 hi Z hl => hnx G v' H1 locs1 ls1 C0 hgb hi Z hl
  by_cases c1 : y = 0
  · refine lv_tableIn (tgt := 208) (off := 164) hx hb dL_law_44 (by rw [c1]; decide) (by rw [c1]; decide) (by rw [c1]; rfl) (by decide) ?_
    exact lc_appendText l hst C0 Z hX hbl hbA hi5 hL h hB hkc hks hl kk
  by_cases c2 : y = 1
  · refine lv_tableIn (tgt := 264) (off := 220) hx hb dL_law_44 (by rw [c2]; decide) (by rw [c2]; decide) (by rw [c2]; rfl) (by decide) ?_
    exact lc_truncateText l hst C0 Z hX hbl hbA hi5 hL h hB hkc hks hl kk
  by_cases c3 : y = 2
  · refine lv_tableIn (tgt := 320) (off := 276) hx hb dL_law_44 (by rw [c3]; decide) (by rw [c3]; decide) (by rw [c3]; rfl) (by decide) ?_
    exact lc_load l hst C0 Z hX hbl hbA hi5 hL h hB hkc hks hl kk
  by_cases c4 : y = 3
  · refine lv_tableIn (tgt := 333) (off := 289) hx hb dL_law_44 (by rw [c4]; decide) (by rw [c4]; decide) (by rw [c4]; rfl) (by decide) ?_
    exact lc_errorCode l hst C0 Z hX hbl hbA hi5 hL h hB hkc hks hl kk
  by_cases c5 : y = 4
  · refine lv_tableIn (tgt := 346) (off := 302) hx hb dL_law_44 (by rw [c5]; decide) (by rw [c5]; decide) (by rw [c5]; rfl) (by decide) ?_
    exact lc_errorPosition l hst C0 Z hX hbl hbA hi5 hL h hB hkc hks hl kk
  by_cases c6 : y = 5
  · refine lv_tableIn (tgt := 359) (off := 315) hx hb dL_law_44 (by rw [c6]; decide) (by rw [c6]; decide) (by rw [c6]; rfl) (by decide) ?_
    exact lc_addOwner l hst C0 Z hX hbl hbA hi5 hL h hB hkc hks hl kk
  by_cases c7 : y = 6
  · refine lv_tableIn (tgt := 415) (off := 371) hx hb dL_law_44 (by rw [c7]; decide) (by rw [c7]; decide) (by rw [c7]; rfl) (by decide) ?_
    exact lc_set l hst C0 Z hX hbl hbA hi5 hL h hB hkc hks hl kk
  by_cases c8 : y = 7
  · refine lv_tableIn (tgt := 483) (off := 439) hx hb dL_law_44 (by rw [c8]; decide) (by rw [c8]; decide) (by rw [c8]; rfl) (by decide) ?_
    exact lc_count l hst C0 Z hX hbl hbA hi5 hL h hB hkc hks hl kk
  by_cases c9 : y = 8
  · refine lv_tableIn (tgt := 539) (off := 495) hx hb dL_law_44 (by rw [c9]; decide) (by rw [c9]; decide) (by rw [c9]; rfl) (by decide) ?_
    exact lc_owner l hst C0 Z hX hbl hbA hi5 hL h hB hkc hks hl kk
  by_cases c10 : y = 9
  · refine lv_tableIn (tgt := 607) (off := 563) hx hb dL_law_44 (by rw [c10]; decide) (by rw [c10]; decide) (by rw [c10]; rfl) (by decide) ?_
    exact lc_trust l hst C0 Z hX hbl hbA hi5 hL h hB hkc hks hl kk
  by_cases c11 : y = 10
  · refine lv_tableIn (tgt := 684) (off := 640) hx hb dL_law_44 (by rw [c11]; decide) (by rw [c11]; decide) (by rw [c11]; rfl) (by decide) ?_
    exact lc_forgive l hst C0 Z hX hbl hbA hi5 hL h hB hkc hks hl kk
  by_cases c12 : y = 11
  · refine lv_tableIn (tgt := 740) (off := 696) hx hb dL_law_44 (by rw [c12]; decide) (by rw [c12]; decide) (by rw [c12]; rfl) (by decide) ?_
    exact lc_draft l hst C0 Z hX hbl hbA hi5 hL h hB hkc hks hl kk
  by_cases c13 : y = 12
  · refine lv_tableIn (tgt := 800) (off := 756) hx hb dL_law_44 (by rw [c13]; decide) (by rw [c13]; decide) (by rw [c13]; rfl) (by decide) ?_
    exact lc_book l hst C0 Z hX hbl hbA hi5 hL h hB hkc hks hl kk
  by_cases c14 : y = 13
  · refine lv_tableIn (tgt := 892) (off := 848) hx hb dL_law_44 (by rw [c14]; decide) (by rw [c14]; decide) (by rw [c14]; rfl) (by decide) ?_
    exact lc_booking l hst C0 Z hX hbl hbA hi5 hL h hB hkc hks hl kk
  by_cases c15 : y = 14
  · refine lv_tableIn (tgt := 960) (off := 916) hx hb dL_law_44 (by rw [c15]; decide) (by rw [c15]; decide) (by rw [c15]; rfl) (by decide) ?_
    exact lc_waiter l hst C0 Z hX hbl hbA hi5 hL h hB hkc hks hl kk
  by_cases c16 : y = 15
  · refine lv_tableIn (tgt := 1016) (off := 972) hx hb dL_law_44 (by rw [c16]; decide) (by rw [c16]; decide) (by rw [c16]; rfl) (by decide) ?_
    exact lc_clean l hst C0 Z hX hbl hbA hi5 hL h hB hkc hks hl kk
  by_cases c17 : y = 16
  · refine lv_tableIn (tgt := 1029) (off := 985) hx hb dL_law_44 (by rw [c17]; decide) (by rw [c17]; decide) (by rw [c17]; rfl) (by decide) ?_
    exact lc_arrive l hst C0 Z hX hbl hbA hi5 hL h hB hkc hks hl kk
  by_cases c18 : y = 17
  · refine lv_tableIn (tgt := 1085) (off := 1041) hx hb dL_law_44 (by rw [c18]; decide) (by rw [c18]; decide) (by rw [c18]; rfl) (by decide) ?_
    exact lc_leave l hst C0 Z hX hbl hbA hi5 hL h hB hkc hks hl kk
  by_cases c19 : y = 18
  · refine lv_tableIn (tgt := 1141) (off := 1097) hx hb dL_law_44 (by rw [c19]; decide) (by rw [c19]; decide) (by rw [c19]; rfl) (by decide) ?_
    exact lc_extend l hst C0 Z hX hbl hbA hi5 hL h hB hkc hks hl kk
  by_cases c20 : y = 19
  · refine lv_tableIn (tgt := 1209) (off := 1165) hx hb dL_law_44 (by rw [c20]; decide) (by rw [c20]; decide) (by rw [c20]; rfl) (by decide) ?_
    exact lc_cancel l hst C0 Z hX hbl hbA hi5 hL h hB hkc hks hl kk
  by_cases c21 : y = 20
  · refine lv_tableIn (tgt := 1265) (off := 1221) hx hb dL_law_44 (by rw [c21]; decide) (by rw [c21]; decide) (by rw [c21]; rfl) (by decide) ?_
    exact lc_evict l hst C0 Z hX hbl hbA hi5 hL h hB hkc hks hl kk
  by_cases c22 : y = 21
  · refine lv_tableIn (tgt := 1321) (off := 1277) hx hb dL_law_44 (by rw [c22]; decide) (by rw [c22]; decide) (by rw [c22]; rfl) (by decide) ?_
    exact lc_swap l hst C0 Z hX hbl hbA hi5 hL h hB hkc hks hl kk
  by_cases c23 : y = 22
  · refine lv_tableIn (tgt := 1389) (off := 1345) hx hb dL_law_44 (by rw [c23]; decide) (by rw [c23]; decide) (by rw [c23]; rfl) (by decide) ?_
    exact lc_buy l hst C0 Z hX hbl hbA hi5 hL h hB hkc hks hl kk
  by_cases c24 : y = 23
  · refine lv_tableIn (tgt := 1457) (off := 1413) hx hb dL_law_44 (by rw [c24]; decide) (by rw [c24]; decide) (by rw [c24]; rfl) (by decide) ?_
    exact lc_bargain l hst C0 Z hX hbl hbA hi5 hL h hB hkc hks hl kk
  by_cases c25 : y = 24
  · refine lv_tableIn (tgt := 1470) (off := 1426) hx hb dL_law_44 (by rw [c25]; decide) (by rw [c25]; decide) (by rw [c25]; rfl) (by decide) ?_
    exact lc_pass l hst C0 Z hX hbl hbA hi5 hL h hB hkc hks hl kk
  by_cases c26 : y = 25
  · refine lv_tableIn (tgt := 1526) (off := 1482) hx hb dL_law_44 (by rw [c26]; decide) (by rw [c26]; decide) (by rw [c26]; rfl) (by decide) ?_
    exact lc_gain l hst C0 Z hX hbl hbA hi5 hL h hB hkc hks hl kk
  by_cases c27 : y = 26
  · refine lv_tableIn (tgt := 1594) (off := 1550) hx hb dL_law_44 (by rw [c27]; decide) (by rw [c27]; decide) (by rw [c27]; rfl) (by decide) ?_
    exact lc_best l hst C0 Z hX hbl hbA hi5 hL h hB hkc hks hl kk
  by_cases c28 : y = 27
  · refine lv_tableIn (tgt := 1650) (off := 1606) hx hb dL_law_44 (by rw [c28]; decide) (by rw [c28]; decide) (by rw [c28]; rfl) (by decide) ?_
    exact lc_holder l hst C0 Z hX hbl hbA hi5 hL h hB hkc hks hl kk
  by_cases c29 : y = 28
  · refine lv_tableIn (tgt := 1718) (off := 1674) hx hb dL_law_44 (by rw [c29]; decide) (by rw [c29]; decide) (by rw [c29]; rfl) (by decide) ?_
    exact lc_nextFree l hst C0 Z hX hbl hbA hi5 hL h hB hkc hks hl kk
  by_cases c30 : y = 29
  · refine lv_tableIn (tgt := 1774) (off := 1730) hx hb dL_law_44 (by rw [c30]; decide) (by rw [c30]; decide) (by rw [c30]; rfl) (by decide) ?_
    exact lc_mayWrite l hst C0 Z hX hbl hbA hi5 hL h hB hkc hks hl kk
  by_cases c31 : y = 30
  · refine lv_tableIn (tgt := 1861) (off := 1817) hx hb dL_law_44 (by rw [c31]; decide) (by rw [c31]; decide) (by rw [c31]; rfl) (by decide) ?_
    exact lc_usage l hst C0 Z hX hbl hbA hi5 hL h hB hkc hks hl kk
  by_cases c32 : y = 31
  · refine lv_tableIn (tgt := 1939) (off := 1895) hx hb dL_law_44 (by rw [c32]; decide) (by rw [c32]; decide) (by rw [c32]; rfl) (by decide) ?_
    exact lc_waitsFor l hst C0 Z hX hbl hbA hi5 hL h hB hkc hks hl kk
  by_cases c33 : y = 32
  · refine lv_tableIn (tgt := 2007) (off := 1963) hx hb dL_law_44 (by rw [c33]; decide) (by rw [c33]; decide) (by rw [c33]; rfl) (by decide) ?_
    exact lc_ahead l hst C0 Z hX hbl hbA hi5 hL h hB hkc hks hl kk
  by_cases c34 : y = 33
  · refine lv_tableIn (tgt := 2075) (off := 2031) hx hb dL_law_44 (by rw [c34]; decide) (by rw [c34]; decide) (by rw [c34]; rfl) (by decide) ?_
    exact lc_show l hst C0 Z hX hbl hbA hi5 hL h hB hkc hks hl kk
  by_cases c35 : y = 34
  · refine lv_tableIn (tgt := 2131) (off := 2087) hx hb dL_law_44 (by rw [c35]; decide) (by rw [c35]; decide) (by rw [c35]; rfl) (by decide) ?_
    exact lc_shown l hst C0 Z hX hbl hbA hi5 hL h hB hkc hks hl kk
  by_cases c36 : y = 35
  · refine lv_tableIn (tgt := 2156) (off := 2112) hx hb dL_law_44 (by rw [c36]; decide) (by rw [c36]; decide) (by rw [c36]; rfl) (by decide) ?_
    exact lc_save l hst C0 Z hX hbl hbA hi5 hL h hB hkc hks hl (fun G2 v2 H2 locs2 ls2 C2 g2 h2 Z2 hl2 => hnx G2 v2 H2 locs2 ls2 C2 (g2.trans hgb) h2 Z2 hl2)
  by_cases c37 : y = 36
  · refine lv_tableIn (tgt := 2192) (off := 2148) hx hb dL_law_44 (by rw [c37]; decide) (by rw [c37]; decide) (by rw [c37]; rfl) (by decide) ?_
    exact lc_restore l hst C0 Z hX hbl hbA hi5 hL h hB hkc hks hl kk
  refine lv_tableOut (tgt := 2228) hx hb dL_law_44 (by have q0 := lv_neT (a := 0) c1 (by decide); have q1 := lv_neT (a := 1) c2 (by decide); have q2 := lv_neT (a := 2) c3 (by decide); have q3 := lv_neT (a := 3) c4 (by decide); have q4 := lv_neT (a := 4) c5 (by decide); have q5 := lv_neT (a := 5) c6 (by decide); have q6 := lv_neT (a := 6) c7 (by decide); have q7 := lv_neT (a := 7) c8 (by decide); have q8 := lv_neT (a := 8) c9 (by decide); have q9 := lv_neT (a := 9) c10 (by decide); have q10 := lv_neT (a := 10) c11 (by decide); have q11 := lv_neT (a := 11) c12 (by decide); have q12 := lv_neT (a := 12) c13 (by decide); have q13 := lv_neT (a := 13) c14 (by decide); have q14 := lv_neT (a := 14) c15 (by decide); have q15 := lv_neT (a := 15) c16 (by decide); have q16 := lv_neT (a := 16) c17 (by decide); have q17 := lv_neT (a := 17) c18 (by decide); have q18 := lv_neT (a := 18) c19 (by decide); have q19 := lv_neT (a := 19) c20 (by decide); have q20 := lv_neT (a := 20) c21 (by decide); have q21 := lv_neT (a := 21) c22 (by decide); have q22 := lv_neT (a := 22) c23 (by decide); have q23 := lv_neT (a := 23) c24 (by decide); have q24 := lv_neT (a := 24) c25 (by decide); have q25 := lv_neT (a := 25) c26 (by decide); have q26 := lv_neT (a := 26) c27 (by decide); have q27 := lv_neT (a := 27) c28 (by decide); have q28 := lv_neT (a := 28) c29 (by decide); have q29 := lv_neT (a := 29) c30 (by decide); have q30 := lv_neT (a := 30) c31 (by decide); have q31 := lv_neT (a := 31) c32 (by decide); have q32 := lv_neT (a := 32) c33 (by decide); have q33 := lv_neT (a := 33) c34 (by decide); have q34 := lv_neT (a := 34) c35 (by decide); have q35 := lv_neT (a := 35) c36 (by decide); have q36 := lv_neT (a := 36) c37 (by decide); omega) (by decide) ?_
  refine W.widen (k := 400 + 60 * j + 60) (n := 10000 + 700 * j + 700) (by omega) (by omega) ?_
  exact kk v H locs ls (IV_up h hB) Z hl
set_option maxRecDepth 100000 in
set_option maxHeartbeats 4000000 in
/-- the whole loop: it comes to its end at 2234 -/
theorem law_loop {p : Program} (l : Launch) (hst : l.stackTraces = false) {e : Env} {s : State} {m : MethodId} {below : List Frame} {meth : Method} {c : Code} {b L : Nat} {xs : Nat → Int32} (hX : va_X b L xs s s.heap) (hbl : b < s.heap.size) (hL : L ≤ 2560) {Q : State → Prop} (hend : ∀ i j : Nat, j ≤ 512 → LwH p l e s m below meth c b L Q i j 2234) : ∀ (n i j : Nat), L + 1 ≤ i + n → i ≤ L → i = 5 * j → LwH p l e s m below meth c b L Q i j 28 := by
  intro n
  induction n with
  | zero => intro i j h1 h2; exact absurd h1 (by omega)
  | succ n ih =>
    intro i j h1 h2 hij
    refine law_turn l hst hX hbl hL hij (by omega) (hend i j (by omega)) (fun hi5 G v H locs ls C0 hgb h Z hl => ?_)
    have hx := C0.1
    have hb := C0.2.1
    refine lv_iinc (v := nI (i + 5)) (lv' := [(5, .int (nI (i + 5))), (0, .ref b), (1, .ref (gad G 0)), (2, .ref (gad G 7)), (3, .ref (gad G 19)), (4, .ref (gad G 20))]) hx hb dL_law_2228 hl (k := 5) rfl (nI_add i 5) (by decide) rfl (fun ls hl => ?_)
    refine lv_goto (tgt := 28) hx hb dL_law_2231 (by decide) ?_
    have h' : IV v (gn G) (10300 + 99 * ((j + 1 : Nat) : Int)) := by
      rw [show (10300 + 99 * ((j + 1 : Nat) : Int)) = (10300 + 99 * (j : Int)) + 99 by omega]
      exact h
    exact ih (i + 5) (j + 1) (by omega) (by omega) (by omega) G v H locs ls C0 hgb h' Z (lv_sub hl [1, 2, 3, 4, 5, 0] rfl)
