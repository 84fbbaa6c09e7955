/-! THE TEXT OF A SETUP 8: load -/
section RL
variable {w : V3} {β : Nat → Nat} {T st n m S : Nat} {σ : Nat → Int32} {Q : Int32 → V3 → Prop}
theorem uM_loop {x1 x2 x3 : Int32} : ∀ f st (σ : Nat → Int32) n m w, T - st ≤ f → BY w β T → w 7 19 = 0 → MTk w β T st → w 8 = σ → OK σ n m S 10300 → MK w → (∀ e, yL β T S f st σ n m = .error e → ∀ w', ME w w' e → w_X4_load_147 Q x1 x2 x3 w') → (∀ σ' n' m', yL β T S f st σ n m = .ok (σ', n', m') → ∀ w', w' 8 = σ' → OK σ' n' m' S 10300 → FG w w' → w_X4_load_147 Q x1 x2 x3 w') → w_X4_load_90 Q (f + 2) x1 x2 x3 w := by
  intro f
  induction f with
  | zero =>
    intro st σ n m w hf hb hg h h8 hO hM hE hQ
    have ek : kd β T st = 0 := by unfold kd; rw [if_pos (by omega)]
    rw [w_X4_load_90]
    refine uM_fine hg (zt1 ?_)
    rw [h.2.2.2.1, ek]
    exact br_t rfl (hQ σ n m rfl w h8 hO (FG_r w))
  | succ f ih =>
    intro st σ n m w hf hb hg h h8 hO hM hE hQ
    have hm := hO.1.m8
    have hn := hO.1.n40
    have k4 := kd_4 (β := β) (T := T) (st := st)
    have hs := h.2.2.2.2.2.2
    rw [w_X4_load_90]
    refine uM_fine hg (zt1 ?_)
    rw [h.2.2.2.1]
    have k0 : nI (kr (kd β T st)) = 0 ↔ kd β T st = 0 := kr_i (a := 0) k4 (by omega)
    refine br_c (fun c => hQ σ n m (if_pos (k0.mp c)) w h8 hO (FG_r w)) (fun c => ?_)
    have c : ¬ kd β T st = 0 := fun z => c (k0.mpr z)
    have bad : ∀ e, yI β T S st σ n m = .error e → ∀ w1, ME w w1 e → w_X4_load_140 Q (w_X4_load_90 Q (f + 2)) x1 x2 x3 w1 := fun e he w1 q => by
      have r := hE e (by show (if kd β T st = 0 then _ else _) = _; rw [if_neg c, he]) w1 q
      have d := ME_b q
      unfold w_X4_load_140
      refine uE_end d ?_
      rw [w_X4_load_90]
      exact uE_fine d (zt0 r)
    have good : ∀ s' σ' n' m', yI β T S st σ n m = .ok (s', σ', n', m') → ∀ w1, MTk w1 β T s' → w1 8 = σ' → FG w w1 → w_X4_load_140 Q (w_X4_load_90 Q (f + 2)) x1 x2 x3 w1 := fun s' σ' n' m' hi w1 t1 e1 f1 => by
      have ok := yI_ok hO (by omega) hs hi
      have b := nx_b (β := β) ok.2.1
      have g1 : w1 7 19 = 0 := f1.2.1.trans hg
      have hi8 : ∀ k, 474 ≤ k → w1 8 k = w 8 k := fun k hk => by rw [e1, h8]; exact ok.2.2.2 k hk
      unfold w_X4_load_140
      refine uM_semi g1 (BY_G hb f1) t1 (fun d w2 t2 f2 => ?_) (fun d w2 q => ?_)
      · have key : yL β T S (f + 1) st σ n m = yL β T S f (nx β T s') σ' n' m' := by
          show (if kd β T st = 0 then _ else _) = _
          rw [if_neg c, hi]
          simp only []
          rw [if_pos d]
        have F2 := FG_t f1 (FG_7 f2)
        have s2 : w2 8 = σ' := (f2.1 8 (by decide)).trans e1
        have M2 : MK w2 := by
          unfold MK
          rw [F2.1.1 13 (by decide) (by decide), F2.1.1 14 (by decide) (by decide), F2.1.1 15 (by decide) (by decide)]
          exact hM
        exact ih (nx β T s') σ' n' m' w2 (by omega) (BY_G hb F2) (g7 g1 f2) t2 s2 ok.1 M2 (fun e he w' q => hE e (key.trans he) w' (ME_t F2 (fun k hk => by rw [s2, ← e1]; exact hi8 k hk) q)) (fun σ2 n2 m2 h2 w' p1 p2 p3 => hQ σ2 n2 m2 (key.trans h2) w' p1 p2 (FG_t F2 p3))
      · have r := hE (1, s') (by
          show (if kd β T st = 0 then _ else _) = _
          rw [if_neg c, hi]
          simp only []
          rw [if_neg d]) w2 (ME_t f1 hi8 q)
        rw [w_X4_load_90]
        exact uE_fine (ME_b q) (zt0 r)
    refine uM_word (by omega) hb h (fun w1 => zt1 ?_) (fun w1 => zt0 (uM_word (by omega) hb h (fun w2 => zt1 ?_) (fun w2 => zt0 ?_)))
    · exact uM_owner hg hb h h8 hO.1.cn.1 hm (fun e he w' q => bad e (by unfold yI; rw [if_pos w1, he]) w' q) (fun s' σ' hs' w' a b' d => good s' σ' n (m + 1) (by unfold yI; rw [if_pos w1, hs']) w' a b' d)
    · exact uM_book hg hb h h8 hO (fun e he w' q => bad e (by unfold yI; rw [if_neg w1, if_pos w2, he]) w' q) (fun s' σ' hs' w' a b' d => good s' σ' (n + 1) m (by unfold yI; rw [if_neg w1, if_pos w2, hs']) w' a b' d)
    · by_cases w3 : wd β T st 3
      · exact uM_set hg hb h h8 hM w3 (fun e he w' q => bad e (by unfold yI; rw [if_neg w1, if_neg w2, if_pos w3, he]) w' q) (fun s' σ' hs' w' a b' d => good s' σ' n m (by unfold yI; rw [if_neg w1, if_neg w2, if_pos w3, hs']) w' a b' d)
      · unfold w_X4_parseSet
        refine uM_word (by omega) hb h (fun z => absurd z w3) (fun _ => uM_req0 hg h.2.2.1 (by decide) (fun w' q => ?_))
        have d := ME_b q
        exact uE_adv d (uE_num d (fun _ => uE_fine d (zt0 (bad (1, st) (by unfold yI; rw [if_neg w1, if_neg w2, if_neg w3]) w' q))))
/-- a state begins anew -/
theorem uM_clear {S0 : Int32} {w : V3} {Q : V3 → Prop} (hM : MK w) (hQ : ∀ w', (∀ k, w' 8 k = if k < 4 then f4 5 10 4 3 k else if k = 4 then S0 else if k < 474 then 0 else w 8 k) → (∀ c, c ≠ 8 → w' c = w c) → Q w') : w_X4_clear S0 w Q := by
  unfold w_X4_clear
  refine loop_0 (W := fun r i w => w_X4_clear_2 Q r S0 (nI i) w) (I := fun i w' => (∀ k, w' 8 k = if k < i then 0 else w 8 k) ∧ ∀ c, c ≠ 8 → w' c = w c) 474 w ⟨fun k => (if_neg (Nat.not_lt_zero k)).symm, fun _ _ => rfl⟩ ?_ ?_
  · intro r w1 h1
    rw [w_X4_clear_2]
    refine br_t (by decide) ?_
    refine loop_0 (W := fun r i w => w_X4_clear_24 Q r S0 (nI i) w) (I := fun i w' => (∀ k, w' 8 k = if k < i then f4 5 10 4 3 k else if k < 474 then 0 else w 8 k) ∧ ∀ c, c ≠ 8 → w' c = w c) 4 w1 ⟨fun k => by rw [h1.1 k, if_neg (Nat.not_lt_zero k)], h1.2⟩ ?_ ?_
    · intro r w2 h2
      rw [w_X4_clear_24]
      refine br_t (by decide) (nm_e (hQ _ (fun k => ?_) (fun c hc => by rw [up2_off _ _ _ hc]; exact h2.2 c hc)))
      rw [up2_row]
      by_cases e : k = 4
      · subst e; rw [pk_us, if_neg (by omega), if_pos rfl]
      · rw [pk_un e, h2.1 k, if_neg e]
    · intro r i w2 hi h2 ih
      rw [w_X4_clear_24]
      refine br_f (nI_ge (b := 4) hi (by omega)) ⟨vp_in_nI (by omega) (by decide), vp_in_nI (by omega) (by decide), nm_e ?_⟩
      rw [show ix (nI i) = i from nI_clamp (by omega), h2.2 13 (by decide), (hM i hi).1]
      rw [nI_succ] at ih
      refine ih _ ⟨fun k => ?_, fun c hc => by rw [up2_off _ _ _ hc]; exact h2.2 c hc⟩
      rw [up2_row]
      by_cases e : k = i
      · subst e; rw [pk_us, if_pos (by omega)]
      · rw [pk_un e, h2.1 k]
        by_cases q : k < i
        · rw [if_pos q, if_pos (by omega)]
        · rw [if_neg q, if_neg (show ¬ k < i + 1 by omega)]
  · intro r i w1 hi h1 ih
    rw [w_X4_clear_2]
    refine br_f (nI_ge (b := 474) hi (by omega)) ⟨vp_in_nI (by omega) (by decide), nm_e ?_⟩
    rw [show ix (nI i) = i from nI_clamp (by omega)]
    rw [nI_succ] at ih
    refine ih _ ⟨fun k => ?_, fun c hc => by rw [up2_off _ _ _ hc]; exact h1.2 c hc⟩
    rw [up2_row]
    by_cases e : k = i
    · subst e; rw [pk_us, if_pos (by omega)]
    · rw [pk_un e, h1.1 k]
      by_cases q : k < i
      · rw [if_pos q, if_pos (by omega)]
      · rw [if_neg q, if_neg (by omega)]
/-- what stays through all of it -/
def FL (w w' : V3) : Prop := (∀ c, c ≠ 7 → c ≠ 8 → c ≠ 9 → w' c = w c) ∧ ∀ j, (j < 8 ∨ j = 11 ∨ j = 12 ∨ (21 < j ∧ j < 34)) → w' 7 j = w 7 j
theorem uM_load (hb : BY w β T) (h13 : w 7 13 = nI T) (hM : MK w) (hE : ∀ e, yA β T (w 8) = .error e → ∀ w', FL w w' → w' 8 = w 8 → w' 7 8 = w 7 8 → w' 7 9 = w 7 9 → w' 7 10 = w 7 10 → w' 7 13 = 0 → w' 7 19 = e.1 → w' 7 20 = nI e.2 → Q (-1) w') (hQ : ∀ σ n m S, yA β T (w 8) = .ok (σ, n, m, S) → ∀ w', FL w w' → w' 8 = σ → OK σ n m S 10300 → w' 7 8 = 0 → w' 7 9 = 1 → w' 7 10 = 1 → w' 7 13 = 0 → w' 7 19 = 0 → w' 7 20 = -1 → Q (nI n) w') : w_X4_copy 8 474 0 9 474 0 w (fun v2 => w_X4_clear 32 v2 (fun v3 => ∀ v4 : V3, v4 = up2 v3 7 19 0 → ∀ v5 : V3, v5 = up2 v4 7 20 (-1) → ∀ v6 : V3, v6 = up2 v5 7 14 0 → w_X4_nextToken v6 (fun v7 => w_X4_isWord 0 v7 (fun r9 v8 => w_X4_require r9 1 v8 (fun v10 => w_X4_advance v10 (fun v11 => w_X4_parseNumber 1 64 v11 (fun r13 v12 => ∀ v14 : V3, v14 = up2 v12 8 4 r13 → w_X4_parseEnd v14 (fun v15 => ∃ m90 : Nat, w_X4_load_90 Q m90 (v2 7 8) (v2 7 9) (v2 7 10) v15)))))))) := by
  refine uM_copy (c1 := 8) (c2 := 9) (N1 := 474) (N2 := 474) (d1 := 0) (d2 := 0) (by decide) (by omega) (by omega) (by omega) (fun v2 b1 b2 b3 => ?_)
  have M2 : MK v2 := by unfold MK; rw [b3 13 (by decide), b3 14 (by decide), b3 15 (by decide)]; exact hM
  refine uM_clear M2 (fun v3 c1 c2 => nm_e (nm_e (nm_e ?_)))
  have z7 : ∀ j, j ≠ 14 → j ≠ 19 → j ≠ 20 → up2 (up2 (up2 v3 7 19 0) 7 20 (-1)) 7 14 0 7 j = w 7 j := fun j p q r => by rw [up2_row, pk_un p, up2_row, pk_un r, up2_row, pk_un q, c2 7 (by decide), b3 7 (by decide)]
  have z14 : up2 (up2 (up2 v3 7 19 0) 7 20 (-1)) 7 14 0 7 14 = nI 0 := by rw [up2_row, pk_us]; rfl
  have z19 : up2 (up2 (up2 v3 7 19 0) 7 20 (-1)) 7 14 0 7 19 = 0 := by rw [up2_row, pk_un (by decide), up2_row, pk_un (by decide), up2_row, pk_us]
  have z20 : up2 (up2 (up2 v3 7 19 0) 7 20 (-1)) 7 14 0 7 20 = -1 := by rw [up2_row, pk_un (by decide), up2_row, pk_us]
  have zc : ∀ c, c ≠ 7 → c ≠ 8 → c ≠ 9 → up2 (up2 (up2 v3 7 19 0) 7 20 (-1)) 7 14 0 c = w c := fun c p q r => by rw [up2_off _ _ _ p, up2_off _ _ _ p, up2_off _ _ _ p, c2 c q, b3 c r]
  have z9 : ∀ k, k < 474 → up2 (up2 (up2 v3 7 19 0) 7 20 (-1)) 7 14 0 9 k = w 8 k := fun k hk => by
    rw [up2_off _ _ _ (by decide), up2_off _ _ _ (by decide), up2_off _ _ _ (by decide), c2 9 (by decide)]
    have := b1 k hk
    rw [Nat.zero_add] at this
    exact this
  have z8 : ∀ k, up2 (up2 (up2 v3 7 19 0) 7 20 (-1)) 7 14 0 8 k = if k < 4 then f4 5 10 4 3 k else if k = 4 then 32 else if k < 474 then 0 else w 8 k := fun k => by
    rw [up2_off _ _ _ (by decide), up2_off _ _ _ (by decide), up2_off _ _ _ (by decide), c1 k, b3 8 (by decide)]
  rw [b3 7 (by decide)]
  generalize up2 (up2 (up2 v3 7 19 0) 7 20 (-1)) 7 14 0 = u at *
  have hbu : BY u β T := BY_c hb (zc 1 (by decide) (by decide) (by decide)) (zc 16 (by decide) (by decide) (by decide))
  have hi8 : ∀ k, 474 ≤ k → u 8 k = w 8 k := fun k hk => by rw [z8 k, if_neg (by omega), if_neg (by omega), if_neg (by omega)]
  have bad : ∀ e, yA β T (w 8) = .error e → ∀ w', ME u w' e → w_X4_load_147 Q (w 7 8) (w 7 9) (w 7 10) w' := fun e he w' q => by
    obtain ⟨q1, q2, q3, q4, q5⟩ := q
    unfold w_X4_load_147 w_X4_clearDraft
    refine nm_e (nm_e (nm_e (nm_e ?_)))
    have p19 : up2 (up2 (up2 (up2 w' 7 13 0) 7 8 0) 7 9 1) 7 10 1 7 19 = e.1 := by rw [up2_row, pk_un (by decide), up2_row, pk_un (by decide), up2_row, pk_un (by decide), up2_row, pk_un (by decide)]; exact q1
    have p20 : up2 (up2 (up2 (up2 w' 7 13 0) 7 8 0) 7 9 1) 7 10 1 7 20 = nI e.2 := by rw [up2_row, pk_un (by decide), up2_row, pk_un (by decide), up2_row, pk_un (by decide), up2_row, pk_un (by decide)]; exact q2
    have p13 : up2 (up2 (up2 (up2 w' 7 13 0) 7 8 0) 7 9 1) 7 10 1 7 13 = 0 := by rw [up2_row, pk_un (by decide), up2_row, pk_un (by decide), up2_row, pk_un (by decide), up2_row, pk_us]
    have pc : ∀ c, c ≠ 7 → up2 (up2 (up2 (up2 w' 7 13 0) 7 8 0) 7 9 1) 7 10 1 c = w' c := fun c hc => by rw [up2_off _ _ _ hc, up2_off _ _ _ hc, up2_off _ _ _ hc, up2_off _ _ _ hc]
    have pj : ∀ j, (j < 8 ∨ j = 11 ∨ j = 12 ∨ (21 < j ∧ j < 34)) → up2 (up2 (up2 (up2 w' 7 13 0) 7 8 0) 7 9 1) 7 10 1 7 j = w' 7 j := fun j hj => by rw [up2_row, pk_un (by omega), up2_row, pk_un (by omega), up2_row, pk_un (by omega), up2_row, pk_un (by omega)]
    generalize up2 (up2 (up2 (up2 w' 7 13 0) 7 8 0) 7 9 1) 7 10 1 = x at *
    refine uE_fine (by rw [p19]; exact q3) (nt0 (uM_copy (c1 := 9) (c2 := 8) (N1 := 474) (N2 := 474) (d1 := 0) (d2 := 0) (by decide) (by omega) (by omega) (by omega) (fun y r1 r2 r3 => nm_e (nm_e (nm_e ?_)))))
    have y7 : y 7 = x 7 := r3 7 (by decide)
    have yj : ∀ j, j ≠ 8 → j ≠ 9 → j ≠ 10 → up2 (up2 (up2 y 7 8 (w 7 8)) 7 9 (w 7 9)) 7 10 (w 7 10) 7 j = x 7 j := fun j a b c => by rw [up2_row, pk_un c, up2_row, pk_un b, up2_row, pk_un a, y7]
    have yc : ∀ c, c ≠ 7 → up2 (up2 (up2 y 7 8 (w 7 8)) 7 9 (w 7 9)) 7 10 (w 7 10) c = y c := fun c hc => by rw [up2_off _ _ _ hc, up2_off _ _ _ hc, up2_off _ _ _ hc]
    refine hE e he _ ⟨fun c a b d => ?_, fun j hj => ?_⟩ ?_ ?_ ?_ ?_ ?_ ?_ ?_
    · rw [yc c a, r3 c b, pc c a, q5.1 c a b, zc c a b d]
    · rw [yj j (by omega) (by omega) (by omega), pj j hj, q5.2 j (by unfold km; omega), z7 j (by omega) (by omega) (by omega)]
    · rw [yc 8 (by decide)]
      funext k
      rcases Nat.lt_or_ge k 474 with hk | hk
      · have := r1 k hk
        rw [Nat.zero_add, pc 9 (by decide), q5.1 9 (by decide) (by decide), z9 k hk] at this
        exact this
      · rw [r2 k (.inr (by omega)), pc 8 (by decide), q4 k hk, hi8 k hk]
    · rw [up2_row, pk_un (by decide), up2_row, pk_un (by decide), up2_row, pk_us]
    · rw [up2_row, pk_un (by decide), up2_row, pk_us]
    · rw [up2_row, pk_us]
    · rw [yj 13 (by decide) (by decide) (by decide)]; exact p13
    · rw [yj 19 (by decide) (by decide) (by decide)]; exact p19
    · rw [yj 20 (by decide) (by decide) (by decide)]; exact p20
  -- an early error runs through the rest
  have early : ∀ e, yA β T (w 8) = .error e → ∀ w', ME u w' e → ∀ x : Int32, ∀ v14 : V3, v14 = up2 w' 8 4 x → w_X4_parseEnd v14 (fun v15 => ∃ m90 : Nat, w_X4_load_90 Q m90 (w 7 8) (w 7 9) (w 7 10) v15) := fun e he w' q x => nm_e (by
    have q' : ME u (up2 w' 8 4 x) e := ⟨by rw [up2_off _ _ _ (by decide)]; exact q.1, by rw [up2_off _ _ _ (by decide)]; exact q.2.1, q.2.2.1, fun k hk => by rw [up2_row, pk_un (by omega)]; exact q.2.2.2.1 k hk, fun c a b => by rw [up2_off _ _ _ b]; exact q.2.2.2.2.1 c a b, fun j hj => by rw [up2_off _ _ _ (by decide)]; exact q.2.2.2.2.2 j hj⟩
    have d := ME_b q'
    refine uE_end d ⟨1, ?_⟩
    rw [w_X4_load_90]
    exact uE_fine d (zt0 (bad e he _ q')))
  refine uM_next0 hbu ((z7 13 (by decide) (by decide) (by decide)).trans h13) z14 (Nat.zero_le T) (fun v7 t7 f7 => ?_)
  have hb7 := BY_7 hbu f7
  have g7' := g7 z19 f7
  have u8 : ∀ {x : V3}, F7 u x → ∀ k, 474 ≤ k → x 8 k = u 8 k := fun f => e88 (f.1 8 (by decide))
  refine uM_word (by omega) hb7 t7 (fun w0 => uM_req1 ?_) (fun w0 => uM_req0 g7' t7.2.2.1 (by decide) (fun w' q => ?_))
  · refine uM_adv g7' hb7 t7 (fun v11 t11 f11 => ?_)
    have F11 := F7_t f7 f11
    refine uM_num (g7 z19 F11) (BY_7 hbu F11) t11 (by decide) (by decide) (fun e he w' q x => early e (by unfold yA; rw [if_pos w0, he]) w' (ME_t (FG_7 F11) (u8 F11) q) x) (fun S hS v12 t12 f12 => nm_e ?_)
    have F12 := F7_t F11 f12
    have bS := yN_bd (a := 1) (b := 64) (by omega) (by omega) hS
    have G12 : FG u (up2 v12 8 4 (nI S)) := FG_t (FG_7 F12) (FG_8 (fun c hc => up2_off _ _ _ hc))
    have s12 : (up2 v12 8 4 (nI S)) 8 = y0 (w 8) S := by
      rw [up2_row]
      funext k
      unfold y0
      by_cases e : k = 4
      · subst e; rw [pk_us, if_neg (by omega), if_pos rfl]
      · rw [pk_un e, F12.1 8 (by decide), z8 k, if_neg e, if_neg e]
    have h12 : ∀ k, 474 ≤ k → (up2 v12 8 4 (nI S)) 8 k = u 8 k := fun k hk => by rw [up2_row, pk_un (by omega), F12.1 8 (by decide)]
    have t14 : MTk (up2 v12 8 4 (nI S)) β T (nx β T (nx β T (sk β T 0))) := MT_c t12 (up2_off _ _ _ (by decide))
    have g14 : (up2 v12 8 4 (nI S)) 7 19 = 0 := G12.2.1.trans z19
    have M12 : MK (up2 v12 8 4 (nI S)) := by
      unfold MK
      rw [G12.1.1 13 (by decide) (by decide), G12.1.1 14 (by decide) (by decide), G12.1.1 15 (by decide) (by decide), zc 13 (by decide) (by decide) (by decide), zc 14 (by decide) (by decide) (by decide), zc 15 (by decide) (by decide) (by decide)]
      exact hM
    generalize up2 v12 8 4 (nI S) = u14 at *
    refine uM_semi g14 (BY_G hbu G12) t14 (fun d v15 t15 f15 => ?_) (fun d w' q => ⟨1, ?_⟩)
    · have kE : ∀ e, yL β T S T (nx β T (nx β T (nx β T (sk β T 0)))) (y0 (w 8) S) 0 0 = .error e → yA β T (w 8) = .error e := fun e he => by
        unfold yA; rw [if_pos w0, hS]; simp only []; rw [if_pos d, he]
      have kO : ∀ σ n m, yL β T S T (nx β T (nx β T (nx β T (sk β T 0)))) (y0 (w 8) S) 0 0 = .ok (σ, n, m) → yA β T (w 8) = .ok (σ, n, m, S) := fun σ n m he => by
        unfold yA; rw [if_pos w0, hS]; simp only []; rw [if_pos d, he]
      have G15 := FG_t G12 (FG_7 f15)
      have s15 : v15 8 = y0 (w 8) S := (f15.1 8 (by decide)).trans s12
      have M15 : MK v15 := by unfold MK; rw [f15.1 13 (by decide), f15.1 14 (by decide), f15.1 15 (by decide)]; exact M12
      refine ⟨T + 2, uM_loop (S := S) T _ (y0 (w 8) S) 0 0 v15 (by omega) (BY_G hbu G15) (G15.2.1.trans z19) t15 s15 (y0_ok bS.1 bS.2) M15 (fun e he w' q => bad e (kE e he) w' (ME_t G15 (fun k hk => by rw [s15, ← s12]; exact h12 k hk) q)) (fun σ' n' m' h2 w' p1 p2 p3 => ?_)⟩
      have G := FG_t G15 p3
      unfold w_X4_load_147 w_X4_clearDraft
      refine nm_e (nm_e (nm_e (nm_e ?_)))
      have pj : ∀ j, j ≠ 8 → j ≠ 9 → j ≠ 10 → j ≠ 13 → up2 (up2 (up2 (up2 w' 7 13 0) 7 8 0) 7 9 1) 7 10 1 7 j = w' 7 j := fun j a b c d => by rw [up2_row, pk_un c, up2_row, pk_un b, up2_row, pk_un a, up2_row, pk_un d]
      have pc : ∀ c, c ≠ 7 → up2 (up2 (up2 (up2 w' 7 13 0) 7 8 0) 7 9 1) 7 10 1 c = w' c := fun c hc => by rw [up2_off _ _ _ hc, up2_off _ _ _ hc, up2_off _ _ _ hc, up2_off _ _ _ hc]
      have p8 : up2 (up2 (up2 (up2 w' 7 13 0) 7 8 0) 7 9 1) 7 10 1 7 8 = 0 := by rw [up2_row, pk_un (by decide), up2_row, pk_un (by decide), up2_row, pk_us]
      have p9 : up2 (up2 (up2 (up2 w' 7 13 0) 7 8 0) 7 9 1) 7 10 1 7 9 = 1 := by rw [up2_row, pk_un (by decide), up2_row, pk_us]
      have p10 : up2 (up2 (up2 (up2 w' 7 13 0) 7 8 0) 7 9 1) 7 10 1 7 10 = 1 := by rw [up2_row, pk_us]
      have p13 : up2 (up2 (up2 (up2 w' 7 13 0) 7 8 0) 7 9 1) 7 10 1 7 13 = 0 := by rw [up2_row, pk_un (by decide), up2_row, pk_un (by decide), up2_row, pk_un (by decide), up2_row, pk_us]
      generalize up2 (up2 (up2 (up2 w' 7 13 0) 7 8 0) 7 9 1) 7 10 1 = x at *
      refine uM_fine ((pj 19 (by decide) (by decide) (by decide) (by decide)).trans (G.2.1.trans z19)) (nt1 ?_)
      have x8 : x 8 = σ' := (pc 8 (by decide)).trans p1
      rw [show x 8 6 = nI n' by rw [x8]; exact p2.1.cn.2.2.1]
      refine hQ σ' n' m' S (kO _ _ _ h2) x ⟨fun c a b d => ?_, fun j hj => ?_⟩ x8 p2 p8 p9 p10 p13 ?_ ?_
      · rw [pc c a, G.1.1 c a b, zc c a b d]
      · rw [pj j (by omega) (by omega) (by omega) (by omega), G.1.2 j (by unfold km; omega), z7 j (by omega) (by omega) (by omega)]
      · exact (pj 19 (by decide) (by decide) (by decide) (by decide)).trans (G.2.1.trans z19)
      · exact (pj 20 (by decide) (by decide) (by decide) (by decide)).trans (G.2.2.trans z20)
    · have q' : ME u w' (1, nx β T (nx β T (sk β T 0))) := ME_t G12 h12 q
      rw [w_X4_load_90]
      refine uE_fine (ME_b q') (zt0 (bad _ ?_ w' q'))
      unfold yA; rw [if_pos w0, hS]; simp only []; rw [if_neg d]
  · have q' : ME u w' (1, sk β T 0) := ME_t (FG_7 f7) (u8 f7) q
    have d := ME_b q'
    exact uE_adv d (uE_num d (fun x => early (1, sk β T 0) (by unfold yA; rw [if_neg w0]) w' q' x))
end RL
section CL
variable {v : V3} {g : Nat} {B : Int}
theorem ld_tx {T : Nat} (h : TX v T) : BY v (fun k => ix (v 16 k)) T := by
  refine ⟨h.1.2.2, fun k hk => ?_⟩
  have t := h.2 k hk
  have n0 : ¬ v 16 k < 0 := fun z => by rw [ti_lt] at z; have : (0 : Int32).toInt = 0 := rfl; omega
  obtain ⟨j, hj, e⟩ := nI_of n0
  have ej : ix (v 16 k) = j := by rw [e]; exact nI_clamp hj
  have tj := t.2.2
  rw [e, ti_nI hj] at tj
  show ix (v 16 k) < 256 ∧ v 16 k = nI (ix (v 16 k)) ∧ v 1 k = (nI (ix (v 16 k))).toInt8.toInt32
  rw [ej, t.1, e]
  exact ⟨by omega, rfl, rfl⟩
theorem ca_load (h : IV v g B) (hB : B + 99 ≤ 900000) : w_X3_load v (okI g (B + 99) w_X4_load) := by
  obtain ⟨⟨n, m, S, hL, hO, hD⟩, hR⟩ := id h
  have hn := hO.1.n40
  have hm := hO.1.m8
  have hR0 := hR
  obtain ⟨⟨T, hT⟩, hE7, ⟨K, k1, k2, k3, k4⟩, hsv, hM, hB0⟩ := hR
  have hT0 := hT
  obtain ⟨⟨t1, t2, t3⟩, -⟩ := hT
  have hb := ld_tx hT0
  generalize (fun k => ix (v 16 k)) = β at hb
  unfold w_X3_load
  rw [t1]
  -- the end of both, from what each of them left
  have RSw : ∀ (x y w : V3), (∀ c, (0 < c ∧ c < 5) ∨ (6 < c ∧ c < 21) ∨ 129 ≤ c → x c = v c) → (∀ j, j = 13 → x 0 j = v 0 j) → x 0 1 = 0 → Eq9 x y → FL (up2 y 7 11 0) w → w 7 13 = 0 → w 7 19 = x 0 2 → w 7 20 = x 0 3 → RS w g (B + 99) ∧ w 7 11 = 0 ∧ w 19 = y 19 ∧ w 20 = y 20 ∧ ∀ c, c ≠ 7 → c ≠ 8 → c ≠ 9 → c ≠ 19 → c ≠ 20 → w c = x c := fun x y w hx h13 h1 e9 F q13 q19 q20 => by
    have wc : ∀ c, c ≠ 7 → c ≠ 8 → c ≠ 9 → c ≠ 19 → c ≠ 20 → w c = x c := fun c a b d e f => by rw [F.1 c a b d, up2_off _ _ _ a, e9 c e f]
    refine ⟨RS_B (RS_gen hR0 ⟨0, ⟨?_, q13, by omega⟩, fun k hk => absurd hk (Nat.not_lt_zero k)⟩ ?_ ⟨K, k1, ?_, ?_, ?_⟩ (fun c hc => ?_)) (by omega), ?_, ?_, ?_, wc⟩
    · rw [wc 0 (by decide) (by decide) (by decide) (by decide) (by decide)]; exact h1
    · rw [wc 0 (by decide) (by decide) (by decide) (by decide) (by decide)]; exact ⟨q19, q20⟩
    · rw [wc 0 (by decide) (by decide) (by decide) (by decide) (by decide), h13 13 rfl]; exact k2
    · rw [F.2 33 (by omega), up2_row, pk_un (by decide), e9 7 (by decide) (by decide), hx 7 (by omega)]; exact k3
    · rw [wc 2 (by decide) (by decide) (by decide) (by decide) (by decide), wc 18 (by decide) (by decide) (by decide) (by decide) (by decide), hx 2 (by omega), hx 18 (by omega)]; exact k4
    · rw [wc c (by omega) (by omega) (by omega) (by omega) (by omega)]; exact hx c (by omega)
    · rw [F.2 11 (by omega), up2_row, pk_us]
    · rw [F.1 19 (by decide) (by decide) (by decide), up2_off _ _ _ (by decide)]
    · rw [F.1 20 (by decide) (by decide) (by decide), up2_off _ _ _ (by decide)]
  -- the reference begins
  have beg : ∀ (x y : V3), (∀ c, (0 < c ∧ c < 5) ∨ (6 < c ∧ c < 21) ∨ 129 ≤ c → x c = v c) → Eq9 x y → BY (up2 y 7 11 0) β T ∧ (up2 y 7 11 0) 7 13 = nI T ∧ MK (up2 y 7 11 0) ∧ (up2 y 7 11 0) 8 = v 8 ∧ ∀ j, j ≠ 11 → (up2 y 7 11 0) 7 j = v 7 j := fun x y hx e9 => by
    have u : ∀ c, (0 < c ∧ c < 5) ∨ (7 < c ∧ c < 19) → (up2 y 7 11 0) c = v c := fun c hc => by rw [up2_off _ _ _ (by omega), e9 c (by omega) (by omega)]; exact hx c (by omega)
    have uj : ∀ j, j ≠ 11 → (up2 y 7 11 0) 7 j = v 7 j := fun j hj => by rw [up2_row, pk_un hj, e9 7 (by decide) (by decide), hx 7 (by omega)]
    refine ⟨BY_c hb (u 1 (by omega)) (u 16 (by omega)), (uj 13 (by decide)).trans t2, ?_, u 8 (by omega), uj⟩
    unfold MK; rw [u 13 (by omega), u 14 (by omega), u 15 (by omega)]; exact hM
  refine uC_read (τ := v 8) hb (fun e he v1 a7 a8 F => nm_e (nm_e (nm_e (nt0 ?_)))) (fun σ n' m' S' he v1 l1 ok1 a7 a8 F => nm_e (nm_e (nm_e (nt1 ?_))))
  · have c6 : (up2 v1 0 1 0) 6 7 = e.1 := by rw [up2_off _ _ _ (by decide)]; exact a7
    rw [c6]
    have c8 : (up2 (up2 v1 0 1 0) 0 2 e.1) 6 8 = nI e.2 := by rw [up2_off _ _ _ (by decide), up2_off _ _ _ (by decide)]; exact a8
    rw [c8]
    have xc : ∀ c, c ≠ 0 → c ≠ 6 → (c < 75 ∨ 129 ≤ c) → up2 (up2 (up2 v1 0 1 0) 0 2 e.1) 0 3 (nI e.2) c = v c := fun c a b d => by rw [up2_off _ _ _ a, up2_off _ _ _ a, up2_off _ _ _ a]; exact F c b d
    have x0 : ∀ j, j ≠ 1 → j ≠ 2 → j ≠ 3 → up2 (up2 (up2 v1 0 1 0) 0 2 e.1) 0 3 (nI e.2) 0 j = v 0 j := fun j a b c => by rw [up2_row, pk_un c, up2_row, pk_un b, up2_row, pk_un a, F 0 (by decide) (by omega)]
    have x1 : up2 (up2 (up2 v1 0 1 0) 0 2 e.1) 0 3 (nI e.2) 0 1 = 0 := by rw [up2_row, pk_un (by decide), up2_row, pk_un (by decide), up2_row, pk_us]
    have x2 : up2 (up2 (up2 v1 0 1 0) 0 2 e.1) 0 3 (nI e.2) 0 2 = e.1 := by rw [up2_row, pk_un (by decide), up2_row, pk_us]
    have x3 : up2 (up2 (up2 v1 0 1 0) 0 2 e.1) 0 3 (nI e.2) 0 3 = nI e.2 := by rw [up2_row, pk_us]
    generalize up2 (up2 (up2 v1 0 1 0) 0 2 e.1) 0 3 (nI e.2) = x at *
    intro y e9
    have hx : ∀ c, (0 < c ∧ c < 5) ∨ (6 < c ∧ c < 21) ∨ 129 ≤ c → x c = v c := fun c hc => xc c (by omega) (by omega) (by omega)
    obtain ⟨b1, b2, b3, b4, b5⟩ := beg x y hx e9
    refine nm_e (uM_load b1 b2 b3 (fun e' he' w F' s8 d8 d9 d10 q13 q19 q20 => ?_) (fun σ n' m' S' he' => ?_))
    · rw [b4, he] at he'
      obtain rfl : e = e' := Except.error.inj he'
      obtain ⟨r1, r2, r3, r4, r5⟩ := RSw x y w hx (fun j hj => x0 j (by omega) (by omega) (by omega)) x1 e9 F' q13 (q19.trans x2.symm) (q20.trans x3.symm)
      refine ⟨r2, rfl, ⟨⟨n, m, S, ?_, ?_, ?_⟩, r1⟩, r3, r4⟩
      · rw [s8, b4]
        exact LA_c hL hn hm (fun c c1 c2 _ _ => by rw [r5 c (by omega) (by omega) (by omega) (by omega) (by omega)]; exact xc c (by omega) (by omega) (by omega))
      · rw [s8, b4]; exact OK_B hO (by omega)
      · unfold DR DE
        rw [r5 0 (by decide) (by decide) (by decide) (by decide) (by decide), x0 9 (by decide) (by decide) (by decide), x0 10 (by decide) (by decide) (by decide), x0 11 (by decide) (by decide) (by decide), d8, d9, d10, b5 8 (by decide), b5 9 (by decide), b5 10 (by decide)]
        exact hD
    · rw [b4, he] at he'; cases he'
  · have c6 : (up2 v1 0 1 0) 6 7 = 0 := by rw [up2_off _ _ _ (by decide)]; exact a7
    rw [c6]
    have c8 : (up2 (up2 v1 0 1 0) 0 2 0) 6 8 = -1 := by rw [up2_off _ _ _ (by decide), up2_off _ _ _ (by decide)]; exact a8
    rw [c8]
    have xc : ∀ c, c ≠ 0 → up2 (up2 (up2 v1 0 1 0) 0 2 0) 0 3 (-1) c = v1 c := fun c a => by rw [up2_off _ _ _ a, up2_off _ _ _ a, up2_off _ _ _ a]
    have x0 : ∀ j, j ≠ 1 → j ≠ 2 → j ≠ 3 → up2 (up2 (up2 v1 0 1 0) 0 2 0) 0 3 (-1) 0 j = v 0 j := fun j a b c => by rw [up2_row, pk_un c, up2_row, pk_un b, up2_row, pk_un a, F 0 (by decide) (by omega)]
    have x1 : up2 (up2 (up2 v1 0 1 0) 0 2 0) 0 3 (-1) 0 1 = 0 := by rw [up2_row, pk_un (by decide), up2_row, pk_un (by decide), up2_row, pk_us]
    have x2 : up2 (up2 (up2 v1 0 1 0) 0 2 0) 0 3 (-1) 0 2 = 0 := by rw [up2_row, pk_un (by decide), up2_row, pk_us]
    have x3 : up2 (up2 (up2 v1 0 1 0) 0 2 0) 0 3 (-1) 0 3 = -1 := by rw [up2_row, pk_us]
    generalize up2 (up2 (up2 v1 0 1 0) 0 2 0) 0 3 (-1) = x at *
    have n1 := ok1.1.n40
    have m1 := ok1.1.m8
    have lx : LA x 75 σ n' m' := LA_c l1 n1 m1 (fun c c1 c2 _ _ => xc c (by omega))
    refine uC_copy (b := 21) lx n1 m1 (by omega) (fun z lz fz => ?_)
    unfold w_X3_resetDraft
    refine nm_e (nm_e (nm_e ?_))
    have zc : ∀ c, c ≠ 0 → up2 (up2 (up2 z 0 9 0) 0 10 1) 0 11 1 c = z c := fun c a => by rw [up2_off _ _ _ a, up2_off _ _ _ a, up2_off _ _ _ a]
    have zj : ∀ j, j < 9 ∨ 11 < j → up2 (up2 (up2 z 0 9 0) 0 10 1) 0 11 1 0 j = x 0 j := fun j hj => by rw [up2_row, pk_un (by omega), up2_row, pk_un (by omega), up2_row, pk_un (by omega), fz 0 (by omega)]
    have z9 : up2 (up2 (up2 z 0 9 0) 0 10 1) 0 11 1 0 9 = 0 := by rw [up2_row, pk_un (by decide), up2_row, pk_un (by decide), up2_row, pk_us]
    have z10 : up2 (up2 (up2 z 0 9 0) 0 10 1) 0 11 1 0 10 = 1 := by rw [up2_row, pk_un (by decide), up2_row, pk_us]
    have z11 : up2 (up2 (up2 z 0 9 0) 0 10 1) 0 11 1 0 11 = 1 := by rw [up2_row, pk_us]
    generalize up2 (up2 (up2 z 0 9 0) 0 10 1) 0 11 1 = y0' at *
    have ly : LA y0' 21 σ n' m' := LA_c lz n1 m1 (fun c c1 c2 _ _ => zc c (by omega))
    rw [ly.n8]
    intro y e9
    have hx : ∀ c, (0 < c ∧ c < 5) ∨ (6 < c ∧ c < 21) ∨ 129 ≤ c → y0' c = v c := fun c hc => by
      rw [zc c (by omega), fz c (by omega), xc c (by omega)]; exact F c (by omega) (by omega)
    obtain ⟨b1, b2, b3, b4, b5⟩ := beg y0' y hx e9
    refine nm_e (uM_load b1 b2 b3 (fun e' he' => ?_) (fun σ2 n2 m2 S2 he' w F' s8 hO2 d8 d9 d10 q13 q19 q20 => ?_))
    · rw [b4, he] at he'; cases he'
    · rw [b4, he] at he'
      obtain ⟨rfl, i1⟩ := Prod.mk.inj (Except.ok.inj he')
      obtain ⟨rfl, i2⟩ := Prod.mk.inj i1
      obtain ⟨rfl, rfl⟩ := Prod.mk.inj i2
      obtain ⟨r1, r2, r3, r4, r5⟩ := RSw y0' y w hx (fun j hj => by rw [zj j (by omega)]; exact x0 j (by omega) (by omega) (by omega)) ((zj 1 (by omega)).trans x1) e9 F' q13 (q19.trans ((zj 2 (by omega)).trans x2).symm) (q20.trans ((zj 3 (by omega)).trans x3).symm)
      have w0 := r5 0 (by decide) (by decide) (by decide) (by decide) (by decide)
      refine ⟨r2, rfl, ⟨⟨n', m', S', ?_, ?_, ?_⟩, r1⟩, r3, r4⟩
      · rw [s8]
        exact LA_c ly n1 m1 (fun c c1 c2 _ _ => r5 c (by omega) (by omega) (by omega) (by omega) (by omega))
      · rw [s8]; exact OK_B hO2 (by omega)
      · have hS := hO2.1.2.1.2
        unfold DR DE
        rw [w0, d8, d9, d10, z9, z10, z11]
        have e0 : (0 : Int32).toInt = 0 := rfl
        have e1 : (1 : Int32).toInt = 1 := rfl
        rw [e0, e1]
        exact ⟨⟨rfl, rfl, rfl⟩, ⟨by omega, by omega, by omega⟩, by omega, by omega⟩
end CL
