/-! THE TEXT OF A SETUP 5: the class reads all of it -/
section PE1
variable {v : V3} {β : Nat → Nat} {T st n m S : Nat} {σ τ : Nat → Int32}
theorem y0_ok (h1 : 1 ≤ S) (h2 : S ≤ 64) : OK (y0 τ S) 0 0 S 10300 := by
  have e7 : y0 τ S 7 = 0 := rfl
  have s0 : y0 τ S 0 = 5 := rfl
  have s1 : y0 τ S 1 = 10 := rfl
  have s2 : y0 τ S 2 = 4 := rfl
  have s3 : y0 τ S 3 = 3 := rfl
  have hg : Sg (y0 τ S) := by unfold Sg; rw [s0, s1, s2, s3]; decide
  refine ⟨⟨⟨⟨rfl, by omega, rfl, by omega⟩, rfl, by rw [e7]; decide, hg⟩, ⟨fun i hi => absurd hi (Nat.not_lt_zero i), h1, h2⟩, fun i hi => absurd hi (Nat.not_lt_zero i), fun i hi => absurd hi (Nat.not_lt_zero i), fun i hi => absurd hi (Nat.not_lt_zero i), ⟨fun i hi => absurd hi (Nat.not_lt_zero i), by omega⟩, fun i j hi => absurd hi (Nat.not_lt_zero i)⟩, fun i hi => absurd hi (Nat.not_lt_zero i), by rw [e7]; decide⟩
theorem uC_start {Q : V3 → Prop} (hQ : ∀ v', LA v' 75 (y0 τ S) 0 0 → Fr 75 v v' → Q v') : w_X1_startWith 75 (nI S) v Q := by
  unfold w_X1_startWith
  refine nm_e (nm_e (nm_e (nm_e (nm_e (nm_e (nm_e (hQ _ ?_ ?_)))))))
  · refine ⟨⟨fun j hj => ?_, rfl, rfl, rfl, rfl, rfl, rfl⟩, fun o ho => absurd ho (Nat.not_lt_zero o), fun i hi => absurd hi (Nat.not_lt_zero i)⟩
    match j, hj with
    | 0, _ => rfl
    | 1, _ => rfl
    | 2, _ => rfl
    | 3, _ => rfl
  · intro c hc
    have e : ∀ (w : V3) (f : Nat → Int32), cpT w (75 + 1) f 4 c = w c := fun w f => cpT_off w (by omega)
    rw [e, up2_off _ _ _ (by omega), up2_off _ _ _ (by omega), up2_off _ _ _ (by omega), up2_off _ _ _ (by omega), up2_off _ _ _ (by omega), up2_off _ _ _ (by omega)]
theorem uC_semi (hb : BY v β T) (h : CT v β T st) {Q : Int32 → V3 → Prop} (h1 : kd β T st = 3 → ∀ v', CT v' β T (nx β T st) → F6 v v' → Q 1 v') (h0 : ¬ kd β T st = 3 → ∀ v', CE v v' (1, st) → Q 0 v') : w_X2_readSemicolon v Q := by
  have k4 := kd_4 (β := β) (T := T) (st := st)
  unfold w_X2_readSemicolon
  rw [h.2.2.1]
  have k3 : nI (kd β T st) = 3 ↔ kd β T st = 3 := nI_eq (b := 3) (by omega) (by omega)
  exact br_c (fun c => uC_next hb h (fun v' t f => h1 (k3.mp c) v' t f)) (fun c => uC_fail h.2.2.2.1 (fun v' q => ⟨.inl rfl, h0 (fun z => c (k3.mpr z)) v' q⟩))
theorem uC_loop {Q : Int32 → V3 → Prop} : ∀ f st (σ : Nat → Int32) n m v, T - st ≤ f → f ≤ 800 → BY v β T → CT v β T st → LA v 75 σ n m → OK σ n m S 10300 → (∀ e, yL β T S f st σ n m = .error e → ∀ v', CE v v' e → Q 0 v') → (∀ σ' n' m', yL β T S f st σ n m = .ok (σ', n', m') → ∀ v', LA v' 75 σ' n' m' → OK σ' n' m' S 10300 → FO v v' → Q 1 v') → w_X2_readSetup_53 Q (f + 1) (nI f) v
  | 0, st, σ, n, m, v, hf, hf8, hb, h, hL, hO, hE, hQ => by
    rw [w_X2_readSetup_53]
    exact br_t (by decide) (hQ σ n m rfl v hL hO (FO_r v))
  | f + 1, st, σ, n, m, v, hf, hf8, hb, h, hL, hO, hE, hQ => by
    have hm := hO.1.m8
    have hn := hO.1.n40
    have k4 := kd_4 (β := β) (T := T) (st := st)
    have hs := h.2.2.2.2.2
    rw [w_X2_readSetup_53]
    refine br_f (nI_ge (b := f + 1) (a := 0) (by omega) (by omega)) ?_
    rw [h.2.2.1]
    have k0 : nI (kd β T st) = 0 ↔ kd β T st = 0 := nI_eq (b := 0) (by omega) (by omega)
    refine br_c (fun c => hQ σ n m (if_pos (k0.mp c)) v hL hO (FO_r v)) (fun c => ?_)
    have c : ¬ kd β T st = 0 := fun z => c (k0.mpr z)
    have bad : ∀ e, yI β T S st σ n m = .error e → ∀ v1, CE v v1 e → w_X2_readSetup_117 Q (w_X2_readSetup_53 Q (f + 1)) (nI (f + 1)) 0 v1 := fun e he v1 q => br_t rfl (hE e (by show (if kd β T st = 0 then _ else _) = _; rw [if_neg c, he]) v1 q)
    have good : ∀ s' σ' n' m', yI β T S st σ n m = .ok (s', σ', n', m') → ∀ v1, CT v1 β T s' → LA v1 75 σ' n' m' → FO v v1 → w_X2_readSetup_117 Q (w_X2_readSetup_53 Q (f + 1)) (nI (f + 1)) 1 v1 := fun s' σ' n' m' hi v1 t1 l1 f1 => by
      have ok := yI_ok hO (by omega) hs hi
      have b := nx_b (β := β) ok.2.1
      refine zt1 (uC_semi (BY_O hb f1) t1 (fun d v2 t2 f2 => nt1 ?_) (fun d v2 q => nt0 (hE (1, s') ?_ v2 (CE_t f1 q))))
      · rw [nI_dec]
        have key : yL β T S (f + 1) st σ n m = yL β T S f (nx β T s') σ' n' m' := by
          show (if kd β T st = 0 then _ else _) = _
          rw [if_neg c, hi]
          simp only []
          rw [if_pos d]
        have F2 := FO_t f1 (FO_6 f2)
        exact uC_loop f (nx β T s') σ' n' m' v2 (by omega) (by omega) (BY_O hb F2) t2 (LA_6 l1 ok.1.1.n40 ok.1.1.m8 f2) ok.1 (fun e he v' q => hE e (key.trans he) v' (CE_t F2 q)) (fun σ2 n2 m2 h2 v' p1 p2 p3 => hQ σ2 n2 m2 (key.trans h2) v' p1 p2 (FO_t F2 p3))
      · show (if kd β T st = 0 then _ else _) = _
        rw [if_neg c, hi]
        simp only []
        rw [if_neg d]
    refine uC_word (by omega) hb h (fun w1 => zt1 ?_) (fun w1 => zt0 (uC_word (by omega) hb h (fun w2 => zt1 ?_) (fun w2 => zt0 (uC_word (by omega) hb h (fun w3 => zt1 ?_) (fun w3 => zt0 ?_)))))
    · exact uC_owner hb h hL hn hm (fun e he v' q => bad e (by unfold yI; rw [if_pos w1, he]) v' q) (fun s' σ' hs' v' a b' d => good s' σ' n (m + 1) (by unfold yI; rw [if_pos w1, hs']) v' a b' d)
    · exact uC_book hb h hL hO (fun e he v' q => bad e (by unfold yI; rw [if_neg w1, if_pos w2, he]) v' q) (fun s' σ' hs' v' a b' d => good s' σ' (n + 1) m (by unfold yI; rw [if_neg w1, if_pos w2, hs']) v' a b' d)
    · exact uC_set hb h hL hn hm (fun e he v' q => bad e (by unfold yI; rw [if_neg w1, if_neg w2, if_pos w3, he]) v' q) (fun s' σ' hs' v' a b' d => good s' σ' n m (by unfold yI; rw [if_neg w1, if_neg w2, if_pos w3, hs']) v' a b' d)
    · exact uC_fail h.2.2.2.1 (fun v' q => bad (1, st) (by unfold yI; rw [if_neg w1, if_neg w2, if_neg w3]) v' q)
/-- all of it -/
theorem uC_read (hb : BY v β T) {Q : Int32 → V3 → Prop} (hE : ∀ e, yA β T τ = .error e → ∀ v', v' 6 7 = e.1 → v' 6 8 = nI e.2 → FI v v' → Q 0 v') (hQ : ∀ σ n m S, yA β T τ = .ok (σ, n, m, S) → ∀ v', LA v' 75 σ n m → OK σ n m S 10300 → v' 6 7 = 0 → v' 6 8 = -1 → FI v v' → Q 1 v') : w_X2_readSetup (nI T) v Q := by
  have hT := hb.1
  unfold w_X2_readSetup w_X2_readSetup_46
  have ez : zmin (nI T) 800 = nI T := by
    unfold zmin
    rw [if_neg]
    intro q
    have := (nI_ltI (a := 800) (b := T) (by omega) (by omega)).mp q
    omega
  rw [ez]
  refine nm_e (nm_e (nm_e (nm_e ?_)))
  have f0 : FI v (up2 (up2 (up2 (up2 v 6 2 (nI T)) 6 3 0) 6 7 0) 6 8 (-1)) := fun c a _ => by rw [up2_off _ _ _ a, up2_off _ _ _ a, up2_off _ _ _ a, up2_off _ _ _ a]
  have q2 : up2 (up2 (up2 (up2 v 6 2 (nI T)) 6 3 0) 6 7 0) 6 8 (-1) 6 2 = nI T := by rw [up2_row, pk_un (by decide), up2_row, pk_un (by decide), up2_row, pk_un (by decide), up2_row, pk_us]
  have q3 : up2 (up2 (up2 (up2 v 6 2 (nI T)) 6 3 0) 6 7 0) 6 8 (-1) 6 3 = nI 0 := by rw [up2_row, pk_un (by decide), up2_row, pk_un (by decide), up2_row, pk_us]; rfl
  have q7 : up2 (up2 (up2 (up2 v 6 2 (nI T)) 6 3 0) 6 7 0) 6 8 (-1) 6 7 = 0 := by rw [up2_row, pk_un (by decide), up2_row, pk_us]
  have q8 : up2 (up2 (up2 (up2 v 6 2 (nI T)) 6 3 0) 6 7 0) 6 8 (-1) 6 8 = -1 := by rw [up2_row, pk_us]
  generalize up2 (up2 (up2 (up2 v 6 2 (nI T)) 6 3 0) 6 7 0) 6 8 (-1) = u at *
  have hbu : BY u β T := BY_c hb (f0 1 (by decide) (by omega)) (f0 16 (by decide) (by omega))
  refine uC_adv hbu q2 q3 (Nat.zero_le T) (fun v1 t1 f1 => ?_)
  have hb1 := BY_F hbu f1
  have bad : ∀ e, yA β T τ = .error e → ∀ v' w, FO u w → CE w v' e → Q 0 v' := fun e he v' w hw q => hE e he v' q.1 q.2.1 (FI_t f0 (FI_t hw.1 q.2.2))
  unfold w_X2_readSize
  refine uC_word (by omega) hb1 t1 (fun w0 => nt1 (uC_next hb1 t1 (fun v2 t2 f2 => uC_num (BY_F hb1 f2) t2 (fun e he v' q => ntc (fun z => absurd rfl z) (fun _ => zt0 (bad e ?_ v' v2 (FO_6 (F6_t f1 f2)) q))) (fun S hS v3 t3 f3 => nm1 (yN_ok hS).2.2.2.2 ?_)))) (fun w0 => nt0 (uC_fail t1.2.2.2.1 (fun v' q => ⟨.inl rfl, zt0 (bad (1, sk β T 0) ?_ v' v1 (FO_6 f1) q)⟩)))
  · unfold yA; rw [if_pos w0, he]
  · have bS := yN_bd (a := 1) (b := 64) (by omega) (by omega) hS
    refine uC_start (τ := τ) (fun v4 l4 f4' => zt1 ?_)
    have F4 : FO u v4 := FO_t (FO_6 (F6_t f1 (F6_t f2 f3))) (FO_L f4')
    have t4 := CT_c t3 (f4' 6 (by omega))
    have hb4 := BY_O hbu F4
    refine uC_semi hb4 t4 (fun d v5 t5 f5 => nt1 ?_) (fun d v' q => nt0 (bad (1, nx β T (nx β T (sk β T 0))) ?_ v' v4 F4 q))
    · have F5 := FO_t F4 (FO_6 f5)
      rw [t5.1]
      have kE : ∀ e, yL β T S T (nx β T (nx β T (nx β T (sk β T 0)))) (y0 τ S) 0 0 = .error e → yA β T τ = .error e := fun e he => by
        unfold yA; rw [if_pos w0, hS]; simp only []; rw [if_pos d, he]
      have kO : ∀ σ n m, yL β T S T (nx β T (nx β T (nx β T (sk β T 0)))) (y0 τ S) 0 0 = .ok (σ, n, m) → yA β T τ = .ok (σ, n, m, S) := fun σ n m he => by
        unfold yA; rw [if_pos w0, hS]; simp only []; rw [if_pos d, he]
      refine ⟨T + 1, uC_loop (S := S) T _ (y0 τ S) 0 0 v5 (by omega) hT (BY_O hbu F5) t5 (LA_6 l4 (by omega) (by omega) f5) (y0_ok bS.1 bS.2) (fun e he v' q => bad e (kE e he) v' v5 F5 q) (fun σ' n' m' h2 v' p1 p2 p3 => ?_)⟩
      have F6' := FO_t F5 p3
      exact hQ σ' n' m' S (kO _ _ _ h2) v' p1 p2 (F6'.2.1.trans q7) (F6'.2.2.trans q8) (FI_t f0 F6'.1)
    · unfold yA; rw [if_pos w0, hS]; simp only []; rw [if_neg d]
  · unfold yA; rw [if_neg w0]
end PE1
