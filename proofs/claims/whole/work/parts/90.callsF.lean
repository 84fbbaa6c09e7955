/-! CALLS 6: mayWrite, usage -/
section CF6
variable {v : V3} {g : Nat} {B : Int}
/-- the reference's byte: who holds it now, as owner o -/
theorem uM_heldNow {w : V3} {n m S : Nat} {B : Int} (hW : Wf (w 8) n m S B) {k : Nat} (hk : k ≤ 1000) {o : Int32} {P1 P0 : Prop} {A C E F : V3 → Prop} (h1 : heldS (w 8) n (nI k) o → A w) (h0 : ¬ heldS (w 8) n (nI k) o → C w) : w_X4_holderOf (nI k) (w 8 7) w (fun r10 v9 => ((r10 = (-1) → C v9) ∧ (¬ r10 = (-1) → w_X4_of r10 7 v9 (fun r13 v12 => ((¬ r13 = 2 → C v12) ∧ (r13 = 2 → w_X4_of r10 0 v12 (fun r16 v15 => ((¬ r16 = o → C v15) ∧ (r16 = o → A v15))))))))) := by
  have hn := hW.n40
  have t0 := hW.t0
  refine uM_holder (n := n) (m := m) (S := S) (B := B) hW.cn hW.tm hW.sp (by rw [ti_nI (by omega)]; omega) (by omega) ?_
  have un : ∀ j, j < n → hldS (w 8) n (nI k) (w 8 7) = nI j → heldS (w 8) n (nI k) o → bf (w 8) j 7 = 2 ∧ bf (w 8) j 0 = o := fun j hj e ⟨l, hl, e2, a, c⟩ => by
    have := (nI_eq (a := j) (b := l) (by omega) (by omega)).mp (e.symm.trans e2)
    subst this
    exact ⟨a, c⟩
  rcases hldS_cases (σ := w 8) hn (nI k) (w 8 7) with e | ⟨e0, j, hj, e⟩
  · exact ⟨fun _ => h0 (fun ⟨l, hl, e2, _⟩ => nI_neg1 (i := l) (by omega) (e2.symm.trans e)), fun q => absurd e q⟩
  · refine ⟨fun q => absurd q e0, fun _ => ?_⟩
    rw [e, uM_of7 (by omega)]
    refine ntc (fun c => h0 (fun q => c (un j hj e q).1)) (fun c => ?_)
    rw [uM_of0 (by omega)]
    exact ntc (fun d => h0 (fun q => d (un j hj e q).2)) (fun d => h1 ⟨j, hj, e, c, d⟩)
theorem ca_mayWrite (h : IV v g B) (hB : B + 99 ≤ 900000) (a1 a2 a3 : Int32) : w_X3_mayWrite a1 a2 a3 v (exI g (B + 99) (w_X4_mayWrite a1 a2 a3) [(eIO, 1), (eIA, 2)]) (okI g (B + 99) (w_X4_mayWrite a1 a2 a3)) := by
  obtain ⟨⟨n, m, S, hL, hO, hD⟩, hR⟩ := id h
  have hn := hO.1.n40
  have hm := hO.1.m8
  have hC := hO.1.cn
  have h4 := hO.1.s4
  have hS := hO.1.sp.2.2
  have ow1 : ∀ {w : V3} {Q : Int32 → V3 → Prop} {o : Nat}, o < m → w 8 = v 8 → Q 1 w → w_X4_isOwner (nI o) w Q := fun ho h8 hq => uM_isOwner (n := n) (m := m) (by rw [h8]; exact hC) (fun _ _ _ => hq) (fun p => absurd p (fun z => z.elim (nI_pos (by omega)) (nI_ge ho (by omega))))
  have bad : ∀ (k : Int32), ¬ k = 0 → ∀ v1, Eq9 v v1 → w_X4_mayWrite_32 (fun b v2 => v2 7 11 = k ∧ IVo v1 v2 g (B + 99)) a1 a2 a3 k v1 := fun k hk v1 e9 => by
    refine nm_e ?_
    have f := finY (k := k) h hB e9
    refine ⟨fun _ => ⟨1, ?_⟩, fun q => absurd (f.1.symm.trans q) hk⟩
    rw [w_X4_mayWrite_52]
    exact br_t rfl ⟨.inl rfl, f⟩
  refine uN_owner hL (fun o ho e1 => ?_) hm (fun h0 => ⟨1, mm1, fun v1 e9 => ?_⟩)
  · subst e1
    have e8 : ∀ v1 : V3, Eq9 v v1 → v1 8 = v 8 := fun v1 e9 => e9 8 (by decide) (by decide)
    have e84 : ∀ v1 : V3, Eq9 v v1 → v1 8 4 = nI S := fun v1 e9 => by rw [e8 v1 e9]; exact h4
    refine uN_span hL h4 hS (fun k hk e d1 d2 => ?_) (fun k hk e d1 d2 => ⟨2, mm2, fun v1 e9 => ?_⟩) (fun k hk e d1 => ⟨1, mm1, fun v1 e9 => ?_⟩) (fun h0 => ⟨1, mm1, fun v1 e9 => ?_⟩)
    · subst e
      obtain ⟨N, hN, rfl⟩ := nI_of (x := a3) (by rw [ti_lt, zero_I]; omega)
      rw [ti_nI (by omega)] at d1 d2
      have rf : ∀ x : Int32, ((∀ i, k ≤ i → i < k + N → heldS (v 8) n (nI i) (nI o)) → x = 1) → ((∃ i, (k ≤ i ∧ i < k + N) ∧ ¬ heldS (v 8) n (nI i) (nI o)) → x = 0) → okI g (B + 99) (w_X4_mayWrite (nI o) (nI k) (nI N)) x v := by
        intro x x1 x0 v1 e9
        refine ow1 ho (e8 v1 e9) (zt1 (uM_span (n := n) (m := m) (S := S) (e84 v1 e9) hS (fun k' hk' e' d' => nt1 (br_t ?_ (mst (Fc_r v) e9 (fun w h8 M hj => ⟨fun q => absurd (md11 M) q, fun _ => ?_⟩)))) (fun k' hk' e' d' => ?_) (fun p => absurd p (fun z => z.elim (nI_pos (by omega)) (nI_ge hk (by omega))))))
        · rw [ti_le, one_I, ti_nI (by omega)]; omega
        · have f := fin0 h hB (Fc_r v) same e9 M h8
          have hW : Wf (w 8) n m S B := by rw [h8]; exact hO.1
          refine loop_0 (W := fun r i (w' : V3 × Int32) => w_X4_mayWrite_52 (fun b v2 => v2 7 11 = 0 ∧ b = x ∧ IVo v1 v2 g (B + 99)) r (nI o) (nI k) (nI N) w'.2 (nI (k + i)) w'.1) (I := fun i w' => w'.1 = w ∧ ((w'.2 = 1 ∧ ∀ j, k ≤ j → j < k + i → heldS (v 8) n (nI j) (nI o)) ∨ (w'.2 = 0 ∧ ∃ j, (k ≤ j ∧ j < k + N) ∧ ¬ heldS (v 8) n (nI j) (nI o)))) N (w, 1) ⟨rfl, .inl ⟨rfl, fun j a b => by omega⟩⟩ ?_ ?_
          · intro r w' hw
            rw [w_X4_mayWrite_52]
            rcases hw with ⟨e, ⟨e1, hw⟩ | ⟨e0, hw⟩⟩
            · rw [e, e1, nI_add]
              exact zt1 (br_t Int32.le_rfl ⟨.inr rfl, f.1, (x1 hw).symm, f.2⟩)
            · rw [e, e0]
              exact zt0 ⟨.inl rfl, f.1, (x0 hw).symm, f.2⟩
          · intro r i w' hi hw ih
            rw [w_X4_mayWrite_52]
            rcases hw with ⟨e, ⟨e1, hw⟩ | ⟨e0, hw⟩⟩
            · rw [e, e1, nI_add]
              refine zt1 (br_f (nI_ge (by omega) (by omega)) ?_)
              rw [show k + (i + 1) = k + i + 1 by omega, nI_succ (k + i)] at ih
              refine uM_heldNow (P1 := True) (P0 := True) (E := fun _ => True) (F := fun _ => True) (A := fun u => w_X4_mayWrite_114 _ (w_X4_mayWrite_52 _ r) (nI o) (nI k) (nI N) (nI (k + i)) 1 u) (C := fun u => w_X4_mayWrite_113 _ (w_X4_mayWrite_52 _ r) (nI o) (nI k) (nI N) (nI (k + i)) u) hW (by omega) (fun hh => ?_) (fun hh => ?_)
              · rw [h8] at hh
                exact ih (w, 1) ⟨rfl, .inl ⟨rfl, fun j a b => by
                  by_cases z : j < k + i
                  · exact hw j a z
                  · obtain rfl : j = k + i := by omega
                    exact hh⟩⟩
              · rw [h8] at hh
                exact ih (w, 0) ⟨rfl, .inr ⟨rfl, k + i, ⟨by omega, by omega⟩, hh⟩⟩
            · rw [e, e0]
              exact zt0 ⟨.inl rfl, f.1, (x0 hw).symm, f.2⟩
        · have : k' = k := ((nI_eq (by omega) (by omega)).mp e').symm
          rw [ti_nI (by omega)] at d'
          omega
      refine loop_0 (W := fun r i w => w_X3_mayWrite_14 _ _ r (nI o) (nI k) (nI N) (nI (k + i)) w) (I := fun i w => w = v ∧ ∀ j, k ≤ j → j < k + i → heldS (v 8) n (nI j) (nI o)) N v ⟨rfl, fun j a b => by omega⟩ ?_ ?_
      · intro r w hw
        obtain ⟨rfl, hw⟩ := hw
        rw [w_X3_mayWrite_14, nI_add]
        exact br_t Int32.le_rfl (rf 1 (fun _ => rfl) (fun ⟨i, hi, hh⟩ => absurd (hw i hi.1 hi.2) hh))
      · intro r i w hi hw ih
        obtain ⟨rfl, hw⟩ := hw
        rw [w_X3_mayWrite_14, nI_add]
        refine br_f (nI_ge (by omega) (by omega)) ?_
        rw [show k + (i + 1) = k + i + 1 by omega, nI_succ (k + i)] at ih
        refine uC_heldNow hL hn (fun hh => nt1 (ih w ⟨rfl, fun j a b => ?_⟩)) (fun hh => nt0 (rf 0 (fun hx => absurd (hx (k + i) (by omega) (by omega)) hh) (fun _ => rfl)))
        by_cases z : j < k + i
        · exact hw j a z
        · obtain rfl : j = k + i := by omega
          exact hh
    · subst e
      refine ow1 ho (e8 v1 e9) (zt1 (uM_span (n := n) (m := m) (S := S) (e84 v1 e9) hS (fun k' hk' e' d' => nt1 (br_f ?_ (bad 2 (by decide) v1 e9))) (fun k' hk' e' d' => ?_) (fun p => absurd p (fun z => z.elim (nI_pos (by omega)) (nI_ge hk (by omega))))))
      · rw [ti_le, one_I]; omega
      · have : k' = k := ((nI_eq (by omega) (by omega)).mp e').symm
        omega
    · subst e
      refine ow1 ho (e8 v1 e9) (zt1 (uM_span (n := n) (m := m) (S := S) (e84 v1 e9) hS (fun k' hk' e' d' => ?_) (fun k' hk' e' d' => nt0 (bad 1 (by decide) v1 e9)) (fun p => absurd p (fun z => z.elim (nI_pos (by omega)) (nI_ge hk (by omega))))))
      have : k' = k := ((nI_eq (by omega) (by omega)).mp e').symm
      omega
    · refine ow1 ho (e8 v1 e9) (zt1 (uM_span (n := n) (m := m) (S := S) (e84 v1 e9) hS (fun k' hk' e' d' => ?_) (fun k' hk' e' d' => ?_) (fun p => nt0 (bad 1 (by decide) v1 e9))))
      · subst e'
        exact absurd h0 (fun z => z.elim (nI_pos (by omega)) (nI_ge hk' (by omega)))
      · subst e'
        exact absurd h0 (fun z => z.elim (nI_pos (by omega)) (nI_ge hk' (by omega)))
  · refine uM_isOwner (n := n) (m := m) (by rw [e9 8 (by decide) (by decide)]; exact hC) (fun k hk e => ?_) (fun _ => zt0 (bad 1 (by decide) v1 e9))
    subst e
    exact absurd h0 (fun z => z.elim (nI_pos (by omega)) (nI_ge hk (by omega)))
theorem use_rng {σ : Nat → Int32} {n m S K : Nat} {B : Int} (hW : Wf σ n m S B) (hK : K ≤ 1000) : ∃ u : Nat, useS σ n (nI K) = nI u ∧ u ≤ 64000 := by
  have t0 := hW.t0
  have hS := hW.sp.2.2
  refine ⟨_, use_N hW.n40 hW.tm hW.sp hW.nc (by omega) hK, ?_⟩
  have a : ∀ k, k < K → sN (fun a => indN σ n a (σ 7 + nI k)) S ≤ 64 := fun k _ => by
    have := sN_le (fun a => indN σ n a (σ 7 + nI k)) 1 S (fun i _ => by unfold indN; split <;> omega)
    omega
  have := sN_le (fun k => sN (fun a => indN σ n a (σ 7 + nI k)) S) 64 K a
  have : K * 64 ≤ 1000 * 64 := Nat.mul_le_mul_right 64 hK
  omega
theorem ca_usage (h : IV v g B) (hB : B + 99 ≤ 900000) (a : Int32) : w_X3_usage a v (exI g (B + 99) (w_X4_usage a) [(eIA, 1)]) (okF g (B + 99) (w_X4_usage a)) := by
  obtain ⟨⟨n, m, S, hL, hO, hD⟩, hR⟩ := id h
  have hn := hO.1.n40
  have hC := hO.1.cn
  have h4 := hO.1.s4
  have hS := hO.1.sp.2
  have t0 := hO.1.t0
  refine uN_within (fun h1 h2 => ?_) (fun h0 => ⟨1, mm1, fun v1 e9 => ?_⟩)
  · obtain ⟨K, hK, rfl⟩ := nI_of (x := a) (fun c => h1 (by rw [ti_lt, zero_I] at c; rw [ti_lt, one_I]; omega))
    rw [ti_lt, ti_nI hK, one_I] at h1
    rw [ti_lt, ti_nI hK, show (200 : Int32).toInt = 200 from rfl] at h2
    have eall : nI S * nI K = nI (S * K) := nI_mul S K
    have hb : S * K ≤ 64 * 200 := Nat.mul_le_mul hS.2 (by omega)
    have hp : 0 < S * K := Nat.mul_pos (by omega) (by omega)
    rw [hL.sz, h4, eall]
    have ne : ¬ nI (S * K) = 0 := nI_ne0 hp (by omega)
    refine ⟨fun _ => uC_used hL hn ?_, fun c => absurd c ne⟩
    obtain ⟨u, hu, hu2⟩ := use_rng hO.1 (K := K) (by omega)
    have nn : vf_n32 (FP.fdiv (FP.i2f (useS (v 8) n (nI K))) (FP.i2f (nI (S * K)))) := fp_fdiv (by rw [hu, ti_nI (by omega)]; omega) ne (by rw [ti_nI (by omega)]; omega)
    refine ⟨nn, nn, fun v1 e9 => uM_btw (lo := 1) (hi := 200) rfl rfl (fun _ _ => zt1 (mst (Fc_r v) e9 (fun w h8 M hj => ⟨fun _ => ?_, fun q => absurd (md11 M) q⟩))) (fun p => ?_)⟩
    · have f := fin0 h hB (Fc_r v) same e9 M h8
      rw [use_K hn hO.1.tm hO.1.sp hO.1.nc (by omega) (by omega)] at nn ⊢
      refine loop_sum (W := fun r a i => w_X4_usage_34 _ r (nI K) a (nI i) w) (f := fun k => bytS (v 8) n S (v 8 7 + nI k)) (n := K) (Qf := fun x => vf_n32 (FP.fdiv (FP.i2f x) (FP.i2f (nI (S * K)))) ∧ w 7 11 = 0 ∧ FP.fdiv (FP.i2f x) (FP.i2f (nI (S * K))) = FP.fdiv (FP.i2f (sumI (fun k => bytS (v 8) n S (v 8 7 + nI k)) K 0 0)) (FP.i2f (nI (S * K))) ∧ vf_n32 (FP.fdiv (FP.i2f (sumI (fun k => bytS (v 8) n S (v 8 7 + nI k)) K 0 0)) (FP.i2f (nI (S * K)))) ∧ IVo v1 w g (B + 99)) ?_ ?_ ⟨nn, f.1, rfl, nn, f.2⟩
      · intro r x hx
        rw [w_X4_usage_34, h8, h4, eall]
        exact br_t Int32.le_rfl hx
      · intro r x i hi hx
        rw [w_X4_usage_34]
        refine br_f (nI_ge hi (by omega)) ?_
        rw [nI_succ] at hx
        refine uM_bytes (n := n) (m := m) (S := S) (B := B) (by rw [h8]; exact hC) (by rw [h8]; exact hO.1.tm) (by rw [h8]; exact hO.1.sp) (by rw [h8]; exact h4) ?_ ?_
        · rw [h8, ti_add (by rw [ti_nI (by omega)]; omega) (by rw [ti_nI (by omega)]; omega), ti_nI (by omega)]; omega
        · rw [h8]; exact hx
    · rw [ti_lt, ti_lt, ti_nI hK, one_I, show (200 : Int32).toInt = 200 from rfl] at p
      omega
  · refine uM_btw (lo := 1) (hi := 200) rfl rfl (fun p1 p2 => absurd h0 (fun z => z.elim p1 p2)) (fun _ => zt0 (nm_e ?_))
    have f := finY (k := 1) h hB e9
    exact ⟨fun q => absurd (f.1.symm.trans q) (by decide), fun _ => f⟩
end CF6
