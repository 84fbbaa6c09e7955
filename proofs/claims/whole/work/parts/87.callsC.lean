/-! CALLS 3: trust, forgive, draft, waiter, holder, shown, booking -/
theorem finY {v v2 : V3} {g : Nat} {B : Int} {k : Int32} (hI : IV v g B) (hB : B + 99 ≤ 900000) (e9 : Eq9 v v2) : (up2 v2 7 11 k) 7 11 = k ∧ IVo v2 (up2 v2 7 11 k) g (B + 99) := by
  have e : up2 (up2 v2 7 11 0) 7 11 k = up2 v2 7 11 k := by
    funext c j
    by_cases hc : c = 7
    · subst hc
      rw [up2_row, up2_row, up2_row]
      by_cases hj : j = 11
      · subst hj; rw [pk_us, pk_us]
      · rw [pk_un hj, pk_un hj, pk_un hj]
    · rw [up2_off _ _ _ hc, up2_off _ _ _ hc, up2_off _ _ _ hc]
  have f := finX (k := k) hI hB e9 (Md_r (up2 v2 7 11 0)) (by rw [up2_off _ _ _ (by decide), e9 8 (by decide) (by decide)])
  rw [e] at f
  exact f
section CC
variable {v : V3} {g : Nat} {B : Int}
theorem md11 {v2 w : V3} (M : Md (up2 v2 7 11 0) w) : w 7 11 = 0 := (M.2 11 (.inr rfl)).trans (by rw [up2_row, pk_us])
theorem vf_d1 : vf_n64 FP.dconst1 := by unfold vf_n64 FP.dconst1; decide
theorem ca_trust (h : IV v g B) (hB : B + 99 ≤ 900000) (a : Int32) : w_X3_trust a v (exI g (B + 99) (w_X4_trust a) [(eIO, 1)]) (okD g (B + 99) (w_X4_trust a)) := by
  obtain ⟨⟨n, m, S, hL, hO, hD⟩, hR⟩ := id h
  have hm := hO.1.m8
  have hC := hO.1.cn
  refine uN_owner hL (fun o ho e1 => ?_) hm (fun h0 => ⟨1, mm1, fun v1 e9 => ?_⟩)
  · subst e1
    refine ⟨vp_in_nI (by omega) (by decide), ?_⟩
    rw [show ix (nI o) = o from nI_clamp (by omega), hL.ow ho 1 (by omega)]
    have ref : ∀ (r : UInt64), (¬ og (v 8) o 1 + brk (v 8) o = 0 → vf_n64 (FP.ddiv (FP.i2d (og (v 8) o 1)) (FP.i2d (og (v 8) o 1 + brk (v 8) o))) ∧ r = FP.ddiv (FP.i2d (og (v 8) o 1)) (FP.i2d (og (v 8) o 1 + brk (v 8) o))) → (og (v 8) o 1 + brk (v 8) o = 0 → r = FP.dconst1) → okD g (B + 99) (w_X4_trust (nI o)) r v := by
      intro r r1 r0 v1 e9
      have e8 : v1 8 = v 8 := e9 8 (by decide) (by decide)
      refine uM_isOwner (n := n) (m := m) (by rw [e8]; exact hC) (fun _ _ _ => zt1 (mst (Fc_r v) e9 (fun w h8 M hj => ⟨fun _ => ?_, fun q => absurd (md11 M) q⟩))) (fun p => absurd p (fun z => z.elim (nI_pos (by omega)) (nI_ge ho (by omega))))
      have f := fin0 h hB (Fc_r v) same e9 M h8
      rw [uM_oO1 (by omega), h8]
      refine uM_broken (by omega) ?_
      rw [h8]
      refine ⟨fun c => ⟨(r1 c).1, f.1, (r1 c).2.symm, by rw [(r1 c).2]; exact (r1 c).1, f.2⟩, fun c => ⟨f.1, (r0 c).symm, by rw [r0 c]; exact vf_d1, f.2⟩⟩
    refine uC_brk hL hm ho ⟨fun c => ?_, fun c => ?_⟩
    · have nn := fp_ddiv (og (v 8) o 1) c
      exact ⟨nn, ref _ (fun _ => ⟨nn, rfl⟩) (fun q => absurd q c)⟩
    · exact ref _ (fun q => absurd c q) (fun _ => rfl)
  · have e8 : v1 8 = v 8 := e9 8 (by decide) (by decide)
    refine uM_isOwner (n := n) (m := m) (by rw [e8]; exact hC) (fun k hk e => ?_) (fun _ => zt0 (nm_e ?_))
    · subst e
      exact absurd h0 (fun z => z.elim (nI_pos (by omega)) (nI_ge hk (by omega)))
    · have f := finY (k := 1) h hB e9
      exact ⟨fun q => absurd (f.1.symm.trans q) (by decide), fun _ => f⟩
theorem ca_forgive (h : IV v g B) (hB : B + 99 ≤ 900000) (a : Int32) : w_X3_forgive a v (exI g (B + 99) (w_X4_forgive a) [(eIO, 1)]) (okI g (B + 99) (w_X4_forgive a)) := by
  obtain ⟨⟨n, m, S, hL, hO, hD⟩, hR⟩ := id h
  have hn := hO.1.n40
  have hm := hO.1.m8
  have hC := hO.1.cn
  have hB0 := hR.2.2.2.2.2
  refine uN_owner hL (fun o ho e1 => ?_) hm (fun h0 => ⟨1, mm1, fun v1 e9 => mst (Fc_r v) e9 (fun w h8 M hj => ?_)⟩)
  · subst e1
    refine uC_brk hL hm ho ⟨vp_in_nI (by omega) (by decide), ?_⟩
    rw [show ix (nI o) = o from nI_clamp (by omega)]
    refine nm_e ⟨vp_in_nI (by omega) (by decide), nm_e ?_⟩
    intro v1 e9
    have F : Fc v (up2 (up2 v (21 + 6 + o) 2 0) (21 + 6 + o) 3 0) := Fc_1 (b := 21 + 6 + o) (fun c hc => by rw [up2_off _ _ _ hc, up2_off _ _ _ hc]) (by omega) (by omega)
    have hL2 := LA_o (LA_o hL hm ho (f := 2) (x := 0) (by omega)) hm ho (f := 3) (x := 0) (by omega)
    refine mst F e9 (fun w h8 M hj => uM_isOwner (n := n) (m := m) (by rw [h8]; exact hC) (fun _ _ _ => nt1 ?_) (fun p => absurd p (fun z => z.elim (nI_pos (by omega)) (nI_ge ho (by omega)))))
    refine uM_broken (by omega) ?_
    rw [uM_oO2 (by omega), show (2 : Int32) = nI 2 from rfl, uM_grow (by omega) (by omega), uM_oO3 (by omega), show (3 : Int32) = nI 3 from rfl, uM_grow (by omega) (by omega)]
    have e2 : (up2 w 8 (10 + 8 * o + 2) (og (w 8) o 2 + -og (w 8) o 2)) 8 = putO (v 8) o 2 0 := by
      rw [up2_8, h8, Int32.add_right_neg]; rfl
    have f := fin2 hR hB hD F hL2 e9 (Md_8 (Md_8 (w' := up2 w 8 (10 + 8 * o + 2) (og (w 8) o 2 + -og (w 8) o 2)) M (fun c hc => up2_off _ _ _ hc)) (fun c hc => up2_off (j := 10 + 8 * o + 3) (x := og (up2 w 8 (10 + 8 * o + 2) (og (w 8) o 2 + -og (w 8) o 2) 8) o 3 + -og (up2 w 8 (10 + 8 * o + 2) (og (w 8) o 2 + -og (w 8) o 2) 8) o 3) _ hc)) (by
      rw [up2_8, Int32.add_right_neg, up2_8, h8, Int32.add_right_neg]; rfl) (OK_B (n := n) (m := m) (S := S) ⟨wf_O (wf_O hO.1 (by omega) (by omega)) (by omega) (by omega), nf_O (nf_O hO.2.1 (by omega) (by omega)) (by omega) (by omega), by rw [sc_putO (by omega), sc_putO (by omega)]; exact hO.2.2⟩ (by omega))
    exact ⟨f.1, by rw [h8], f.2⟩
  · refine uM_isOwner (n := n) (m := m) (by rw [h8]; exact hC) (fun k hk e => ?_) (fun _ => nt0 (nm_e (finX h hB e9 M h8)))
    subst e
    exact absurd h0 (fun z => z.elim (nI_pos (by omega)) (nI_ge hk (by omega)))
/-- spans on both sides -/
theorem uN_span {n m S : Nat} {σ : Nat → Int32} {a b : Int32} {X : String → V3 → Prop} {Q : V3 → Prop} (hL : LA v 21 σ n m) (h4 : σ 4 = nI S) (hS : S ≤ 64) (h1 : ∀ k : Nat, k < S → a = nI k → b.toInt ≤ (S : Int) - k → 1 ≤ b.toInt → Q v) (hA : ∀ k : Nat, k < S → a = nI k → b.toInt ≤ (S : Int) - k → b.toInt < 1 → X eIA v) (h2 : ∀ k : Nat, k < S → a = nI k → (S : Int) - k < b.toInt → X eIO v) (h0 : (a < 0 ∨ nI S ≤ a) → X eIO v) : w_X3_needSpan a b v X Q := by
  refine uN_byte hL h4 hS (fun k hk e => ?_) h0
  subst e
  rw [hL.sz, h4]
  have es : (nI S - nI k).toInt = (S : Int) - k := by rw [ti_sub (by rw [ti_nI (by omega), ti_nI (by omega)]; omega) (by rw [ti_nI (by omega), ti_nI (by omega)]; omega), ti_nI (by omega), ti_nI (by omega)]
  refine br_c (fun c => ?_) (fun c => ?_)
  · rw [ti_le, es] at c
    refine br_c (fun d => h1 k hk rfl c ?_) (fun d => hA k hk rfl c ?_)
    · rw [ti_le, one_I] at d; exact d
    · rw [ti_le, one_I] at d; omega
  · rw [ti_le, es] at c
    exact h2 k hk rfl (by omega)
theorem uM_span {n m S : Nat} {w : V3} {a b : Int32} {Q : Int32 → V3 → Prop} (h4 : w 8 4 = nI S) (hS : S ≤ 64) (h1 : ∀ k : Nat, k < S → a = nI k → b.toInt ≤ (S : Int) - k → Q 1 w) (h2 : ∀ k : Nat, k < S → a = nI k → (S : Int) - k < b.toInt → Q 0 w) (h0 : (a < 0 ∨ nI S ≤ a) → Q 0 w) : w_X4_isSpan a b w Q := by
  refine uM_below (n := S) (by omega) h4 (fun k hk e => zt1 ?_) (fun p => zt0 ⟨.inl rfl, h0 p⟩)
  subst e
  have hb1 := ti_hi b
  have hb2 := ti_lo b
  have e64 : ((nI k).toInt64 + b.toInt64).toInt = (k : Int) + b.toInt := by
    rw [Int64.toInt_add, Int32.toInt_toInt64, Int32.toInt_toInt64, ti_nI (by omega)]
    exact Int.bmod_eq_of_le (by omega) (by omega)
  have ec : (0 < lg_cmp ((nI k).toInt64 + b.toInt64) (w 8 4).toInt64) ↔ (S : Int) < k + b.toInt := by
    rw [lg_cmp_gt, Int64.lt_iff_toInt_lt, e64, Int32.toInt_toInt64, h4, ti_nI (by omega)]
  refine br_c (fun c => ⟨.inl rfl, h2 k hk rfl (by have := ec.mp c; omega)⟩) (fun c => ⟨.inr rfl, h1 k hk rfl ?_⟩)
  have : ¬ (S : Int) < k + b.toInt := fun q => c (ec.mpr q)
  omega
theorem IV_dr {w : V3} {n m S : Nat} (h : RS v g B) (hL : LA v 21 (v 8) n m) (hO : OK (v 8) n m S B) (hB : B + 99 ≤ 900000) (hc : ∀ c, c ≠ 0 → c ≠ 7 → c ≠ 19 → c ≠ 20 → w c = v c) (h0 : ∀ j, j ≠ 9 → j ≠ 10 → j ≠ 11 → w 0 j = v 0 j) (h7 : ∀ j, j ≠ 8 → j ≠ 9 → j ≠ 10 → j ≠ 11 → w 7 j = v 7 j) (hD : DR w S) : IV w g (B + 99) := by
  obtain ⟨⟨T, hT⟩, hE, ⟨K, k1, k2, k3, k4⟩, -, -, hB0⟩ := id h
  have e8 := hc 8 (by decide) (by decide) (by decide) (by decide)
  have e1 := hc 1 (by decide) (by decide) (by decide) (by decide)
  have e16 := hc 16 (by decide) (by decide) (by decide) (by decide)
  refine ⟨⟨n, m, S, ?_, by rw [e8]; exact OK_B hO (by omega), hD⟩, RS_B (RS_gen h ⟨T, ?_⟩ ?_ ⟨K, k1, ?_, ?_, ?_⟩ (fun c q => hc c (by omega) (by omega) (by omega) (by omega))) (by omega)⟩
  · rw [e8]; exact LA_c hL hO.1.n40 hO.1.m8 (fun c _ _ _ _ => hc c (by omega) (by omega) (by omega) (by omega))
  · unfold TX; rw [h0 1 (by decide) (by decide) (by decide), h7 13 (by decide) (by decide) (by decide) (by decide), e1, e16]; exact hT
  · rw [h0 2 (by decide) (by decide) (by decide), h0 3 (by decide) (by decide) (by decide), h7 19 (by decide) (by decide) (by decide) (by decide), h7 20 (by decide) (by decide) (by decide) (by decide)]; exact hE
  · rw [h0 13 (by decide) (by decide) (by decide)]; exact k2
  · rw [h7 33 (by decide) (by decide) (by decide) (by decide)]; exact k3
  · rw [hc 2 (by decide) (by decide) (by decide) (by decide), hc 18 (by decide) (by decide) (by decide) (by decide)]; exact k4
theorem ca_draft (h : IV v g B) (hB : B + 99 ≤ 900000) (a1 a2 a3 : Int32) : w_X3_draft a1 a2 a3 v (exV g (B + 99) (w_X4_draft a1 a2 a3) [(eIO, 1), (eIA, 2)]) (okV g (B + 99) (w_X4_draft a1 a2 a3)) := by
  obtain ⟨⟨n, m, S, hL, hO, hD⟩, hR⟩ := id h
  have h4 := hO.1.s4
  have hS := hO.1.sp.2.2
  have two : ∀ v1, Eq9 v v1 → w_X4_draft_31 (fun v2 => v2 7 11 = 2 ∧ IVo v1 v2 g (B + 99)) a1 a2 a3 v1 := fun v1 e9 => by
    refine nm_e ?_
    have f := finY (k := 2) h hB e9
    exact ⟨fun _ => f, fun q => absurd (f.1.symm.trans q) (by decide)⟩
  have one : ∀ v1, Eq9 v v1 → w_X4_draft_36 (fun v2 => v2 7 11 = 1 ∧ IVo v1 v2 g (B + 99)) a1 a2 a3 1 v1 := fun v1 e9 => by
    refine nm_e ?_
    have f := finY (k := 1) h hB e9
    exact ⟨fun _ => f, fun q => absurd (f.1.symm.trans q) (by decide)⟩
  have e84 : ∀ v1 : V3, Eq9 v v1 → v1 8 4 = nI S := fun v1 e9 => by rw [e9 8 (by decide) (by decide)]; exact h4
  refine uN_span hL h4 hS (fun k hk e d1 d2 => ?_) (fun k hk e d1 d2 => ⟨2, mm2, fun v1 e9 => ?_⟩) (fun k hk e d1 => ⟨1, mm1, fun v1 e9 => ?_⟩) (fun h0 => ⟨1, mm1, fun v1 e9 => ?_⟩)
  · subst e
    refine uN_within (fun h1 h2 => nm_e (nm_e (nm_e ?_))) (fun h0 => ⟨2, mm2, fun v1 e9 => ?_⟩)
    · intro v1 e9
      have x8 : v1 8 = v 8 := by rw [e9 8 (by decide) (by decide), up2_off _ _ _ (by decide), up2_off _ _ _ (by decide), up2_off _ _ _ (by decide)]
      refine uM_span (n := n) (m := m) (S := S) (by rw [x8]; exact h4) hS (fun k' hk' e' _ => nt1 (br_f ?_ (uM_btw (lo := 1) (hi := 99) rfl rfl (fun _ _ => nt1 (nm_e ?_)) (fun p => absurd p (fun z => z.elim h1 h2))))) (fun k' hk' e' d' => ?_) (fun p => absurd p (fun z => z.elim (nI_pos (by omega)) (nI_ge hk (by omega))))
      · rw [ti_lt, one_I]; omega
      · have r11 : (up2 v1 7 11 0) 7 11 = 0 := by rw [up2_row, pk_us]
        refine ⟨fun q => absurd r11 q, fun _ => nm_e (nm_e (nm_e ?_))⟩
        have d3 : 1 ≤ a3.toInt ∧ a3.toInt ≤ 99 := by
          rw [ti_lt, one_I] at h1
          rw [ti_lt, show (99 : Int32).toInt = 99 from rfl] at h2
          omega
        have c0 : (up2 (up2 (up2 (up2 v1 7 11 0) 7 8 (nI k)) 7 9 a2) 7 10 a3) 0 = (up2 (up2 (up2 v 0 9 (nI k)) 0 10 a2) 0 11 a3) 0 := by
          rw [up2_off _ _ _ (by decide), up2_off _ _ _ (by decide), up2_off _ _ _ (by decide), up2_off _ _ _ (by decide), e9 0 (by decide) (by decide)]
        have c7 : (up2 (up2 (up2 (up2 v1 7 11 0) 7 8 (nI k)) 7 9 a2) 7 10 a3) 7 = upd (upd (upd (upd (v 7) 11 0) 8 (nI k)) 9 a2) 10 a3 := by
          rw [up2_row, up2_row, up2_row, up2_row, e9 7 (by decide) (by decide), up2_off _ _ _ (by decide), up2_off _ _ _ (by decide), up2_off _ _ _ (by decide)]
        have c19 : ∀ c, c ≠ 7 → (up2 (up2 (up2 (up2 v1 7 11 0) 7 8 (nI k)) 7 9 a2) 7 10 a3) c = v1 c := fun c hc => by rw [up2_off _ _ _ hc, up2_off _ _ _ hc, up2_off _ _ _ hc, up2_off _ _ _ hc]
        refine ⟨?_, IV_dr hR hL hO hB (fun c p0 p7 p19 p20 => ?_) (fun j p9 p10 p11 => ?_) (fun j p8 p9 p10 p11 => ?_) ⟨⟨?_, ?_, ?_⟩, ?_, ?_⟩, c19 19 (by decide), c19 20 (by decide)⟩
        · rw [c7, pk_un (by decide), pk_un (by decide), pk_un (by decide), pk_us]
        · rw [up2_off _ _ _ p7, up2_off _ _ _ p7, up2_off _ _ _ p7, up2_off _ _ _ p7, e9 c p19 p20, up2_off _ _ _ p0, up2_off _ _ _ p0, up2_off _ _ _ p0]
        · rw [c0, up2_row, up2_row, up2_row, pk_un p11, pk_un p10, pk_un p9]
        · rw [c7, pk_un p10, pk_un p9, pk_un p8, pk_un p11]
        · rw [c7, c0, up2_row, up2_row, up2_row, pk_un (by decide), pk_un (by decide), pk_us, pk_un (by decide), pk_un (by decide), pk_us]
        · rw [c7, c0, up2_row, up2_row, up2_row, pk_un (by decide), pk_us, pk_un (by decide), pk_us]
        · rw [c7, c0, up2_row, up2_row, up2_row, pk_us, pk_us]
        · rw [c0, up2_row, up2_row, up2_row, pk_un (by decide), pk_un (by decide), pk_us, pk_un (by decide), pk_us, ti_nI (by omega)]; omega
        · rw [c0, up2_row, up2_row, up2_row, pk_us]; exact d3
      · have : k' = k := ((nI_eq (by omega) (by omega)).mp e').symm
        omega
    · refine uM_span (n := n) (m := m) (S := S) (e84 v1 e9) hS (fun k' hk' e' _ => nt1 (br_f ?_ (uM_btw (lo := 1) (hi := 99) rfl rfl (fun p1 p2 => absurd h0 (fun z => z.elim p1 p2)) (fun _ => nt0 (two v1 e9))))) (fun k' hk' e' d' => ?_) (fun p => absurd p (fun z => z.elim (nI_pos (by omega)) (nI_ge hk (by omega))))
      · rw [ti_lt, one_I]; omega
      · have : k' = k := ((nI_eq (by omega) (by omega)).mp e').symm
        omega
  · subst e
    refine uM_span (n := n) (m := m) (S := S) (e84 v1 e9) hS (fun k' hk' e' _ => nt1 (br_t ?_ (two v1 e9))) (fun k' hk' e' d' => ?_) (fun p => absurd p (fun z => z.elim (nI_pos (by omega)) (nI_ge hk (by omega))))
    · rw [ti_lt, one_I]; omega
    · have : k' = k := ((nI_eq (by omega) (by omega)).mp e').symm
      omega
  · subst e
    refine uM_span (n := n) (m := m) (S := S) (e84 v1 e9) hS (fun k' hk' e' d' => ?_) (fun k' hk' e' d' => nt0 (one v1 e9)) (fun p => absurd p (fun z => z.elim (nI_pos (by omega)) (nI_ge hk (by omega))))
    have : k' = k := ((nI_eq (by omega) (by omega)).mp e').symm
    omega
  · refine uM_span (n := n) (m := m) (S := S) (e84 v1 e9) hS (fun k' hk' e' d' => ?_) (fun k' hk' e' d' => ?_) (fun p => nt0 (one v1 e9))
    · subst e'
      exact absurd h0 (fun z => z.elim (nI_pos (by omega)) (nI_ge hk' (by omega)))
    · subst e'
      exact absurd h0 (fun z => z.elim (nI_pos (by omega)) (nI_ge hk' (by omega)))
end CC
