/-! PURE LEVEL 8: ticks -/
def endS (σ : Nat → Int32) (i : Nat) (s : Int32) (f : Nat) : Nat → Int32 := putO (putB σ i 7 s) (ownI σ i) f (og σ (ownI σ i) f + 1)
def endStep (cond : (Nat → Int32) → Nat → Bool) (s : Int32) (f : Nat) (a : (Nat → Int32) × Int32) (i : Nat) : (Nat → Int32) × Int32 := if cond a.1 i = true then (endS a.1 i s f, a.2 + 1) else a
def finC (σ : Nat → Int32) (i : Nat) : Bool := decide (bf σ i 7 = 2 ∧ ¬ σ 7 < bf σ i 9)
def bmpC (σ : Nat → Int32) (i : Nat) : Bool := decide (bf σ i 7 = 1 ∧ ¬ σ 7 ≤ bf σ i 8 + σ 0)
def expC (σ : Nat → Int32) (i : Nat) : Bool := decide (bf σ i 7 = 0 ∧ ¬ σ 7 ≤ bf σ i 4 + bf σ i 5)
def endF (cond : (Nat → Int32) → Nat → Bool) (s : Int32) (f n : Nat) (σ : Nat → Int32) (c : Int32) : (Nat → Int32) × Int32 := foldN (endStep cond s f) n 0 (σ, c)
theorem end_add (cond : (Nat → Int32) → Nat → Bool) (s : Int32) (f : Nat) (d : Int32) : ∀ k i (σ : Nat → Int32) (c : Int32), foldN (endStep cond s f) k i (σ, d + c) = ((foldN (endStep cond s f) k i (σ, c)).1, d + (foldN (endStep cond s f) k i (σ, c)).2) := by
  intro k
  induction k with
  | zero => intro i σ c; rfl
  | succ k ih =>
    intro i σ c
    rw [foldN, foldN]
    by_cases h : cond σ i = true
    · rw [show endStep cond s f (σ, d + c) i = (endS σ i s f, d + (c + 1)) from by
        unfold endStep
        rw [if_pos h, Int32.add_assoc], show endStep cond s f (σ, c) i = (endS σ i s f, c + 1) from if_pos h]
      exact ih (i + 1) _ _
    · rw [show endStep cond s f (σ, d + c) i = (σ, d + c) from if_neg h, show endStep cond s f (σ, c) i = (σ, c) from if_neg h]
      exact ih (i + 1) _ _
theorem endF_add (cond : (Nat → Int32) → Nat → Bool) (s : Int32) (f n : Nat) (σ : Nat → Int32) (c : Int32) : endF cond s f n σ c = ((endF cond s f n σ 0).1, c + (endF cond s f n σ 0).2) := by
  have h := end_add cond s f c n 0 σ 0
  rw [Int32.add_zero] at h
  exact h
theorem endF_1 {cond : (Nat → Int32) → Nat → Bool} {s : Int32} {f n : Nat} {σ : Nat → Int32} (c : Int32) : (endF cond s f n σ c).1 = (endF cond s f n σ 0).1 := by rw [endF_add]
/-- how many ended; none: nothing changed -/
theorem endF_cnt (cond : (Nat → Int32) → Nat → Bool) (s : Int32) (f n : Nat) (σ : Nat → Int32) : ∃ j, j ≤ n ∧ (endF cond s f n σ 0).2 = nI j ∧ (j = 0 → (endF cond s f n σ 0).1 = σ) := by
  refine foldN_inv (P := fun i (a : (Nat → Int32) × Int32) => ∃ j, j ≤ i ∧ a.2 = nI j ∧ (j = 0 → a.1 = σ)) ⟨0, Nat.le_refl 0, rfl, fun _ => rfl⟩ (fun i a hi ⟨j, h1, h2, h3⟩ => ?_)
  unfold endStep
  by_cases h : cond a.1 i = true
  · rw [if_pos h]
    exact ⟨j + 1, by omega, by rw [nI_succ]; show a.2 + 1 = _; rw [h2], fun q => absurd q (by omega)⟩
  · rw [if_neg h]
    exact ⟨j, by omega, h2, h3⟩
theorem end_ch {σ : Nat → Int32} {n m i f : Nat} {s : Int32} (hO : Ow σ n m) (hm : m ≤ 8) (hi : i < n) (hf : f < 8) : Ch σ (endS σ i s f) n i :=
  Ch_t (Ch_b (by omega) (by omega)) (Ch_o (by have := (own_of hO hm hi).1; omega) hf)
theorem end_7 {σ : Nat → Int32} {n m i f : Nat} {s : Int32} (hO : Ow σ n m) (hm : m ≤ 8) (hi : i < n) (hf : f < 8) : bf (endS σ i s f) i 7 = s := by
  unfold endS
  rw [bf_putO (by have := (own_of hO hm hi).1; omega) hf, bf_put (by omega) (by omega), if_pos ⟨rfl, rfl⟩]
/-- ending keeps all in order, and the count of those who find no time -/
theorem endF_inv {cond : (Nat → Int32) → Nat → Bool} {s f : Nat} {n m S : Nat} {B : Int} {σ : Nat → Int32} (h : Wf σ n m S B) (hf : f < 8) (hs : s = 3 ∨ s = 5 ∨ s = 6) (c : Int32) : Wf (endF cond (nI s) f n σ c).1 n m S B ∧ (∀ k, k < 8 → (endF cond (nI s) f n σ c).1 k = σ k) ∧ ((∀ σ i, cond σ i = true → bf σ i 7 = 0) → NF σ n → NF (endF cond (nI s) f n σ c).1 n) := by
  refine foldN_inv (P := fun _ (a : (Nat → Int32) × Int32) => Wf a.1 n m S B ∧ (∀ k, k < 8 → a.1 k = σ k) ∧ ((∀ σ i, cond σ i = true → bf σ i 7 = 0) → NF σ n → NF a.1 n)) ⟨h, fun _ _ => rfl, fun _ h => h⟩ (fun i a hi ⟨h1, h2, h3⟩ => ?_)
  unfold endStep
  by_cases hc : cond a.1 i = true
  · rw [if_pos hc]
    have ch := end_ch (s := nI s) (f := f) h1.ow h1.m8 hi hf
    have e7 := end_7 (s := nI s) (f := f) h1.ow h1.m8 hi hf
    refine ⟨Ch_wf0 h1 ch ⟨s, by omega, e7⟩ ?_, fun k hk => (ch.1 k hk).trans (h2 k hk), fun hz hN => ?_⟩
    · unfold lvB
      rw [e7]
      rcases hs with rfl | rfl | rfl <;> decide
    · intro j hj hj0
      have e : j ≠ i := fun q => by
        rw [q] at hj0
        have := e7.symm.trans hj0
        rcases hs with rfl | rfl | rfl <;> exact absurd this (by decide)
      have hj0' : bf a.1 j 7 = 0 := (ch.2 j hj 7 (by omega) (.inl e)).symm.trans hj0
      exact NFi_ch ch (lv_0 (hz _ _ hc)) hj (h3 hz hN j hj hj0')
  · rw [if_neg hc]
    exact ⟨h1, h2, h3⟩
/-- a tick: the state, and what is counted: bumped, expired, placed, done -/
def tickS (n : Nat) (a : (Nat → Int32) × (Nat → Int32)) : (Nat → Int32) × (Nat → Int32) :=
  let F := endF finC 3 1 n (upd a.1 7 (a.1 7 + 1)) (a.2 3)
  let M := endF bmpC 5 2 n F.1 (a.2 0)
  let E := endF expC 6 5 n M.1 (a.2 1)
  let P := plcS E.1 n (a.2 2)
  (P.1, fun k => if k = 0 then M.2 else if k = 1 then E.2 else if k = 2 then P.2 else F.2)
theorem time_wf {σ : Nat → Int32} {n m S : Nat} {B : Int} (h : Wf σ n m S B) {t : Int32} (ht : 0 ≤ t.toInt ∧ t.toInt ≤ 20200) : Wf (upd σ 7 t) n m S B := by
  obtain ⟨⟨hC, h4, h7, hg⟩, hSp, hSt, hRg, hOw, hTm, hNC⟩ := h
  have eb : ∀ j f, bf (upd σ 7 t) j f = bf σ j f := fun j f => bf_sc (by omega)
  refine ⟨⟨⟨(pk_un (by decide)).trans hC.1, hC.2.1, (pk_un (by decide)).trans hC.2.2.1, hC.2.2.2⟩, (pk_un (by decide)).trans h4, ?_, ?_⟩, ⟨fun j hj => ?_, hSp.2⟩, fun j hj => ?_, fun j hj => ?_, fun j hj => ?_, ⟨fun j hj hlj => ?_, hTm.2⟩, fun j k hj hk hne l1 l2 => ?_⟩
  · rw [pk_us]; exact ht
  · unfold Sg; rw [pk_un (by decide), pk_un (by decide), pk_un (by decide), pk_un (by decide)]; exact hg
  · rw [eb, eb]; exact hSp.1 j hj
  · rw [eb]; exact hSt j hj
  · unfold Rg; rw [eb, eb, eb]; exact hRg j hj
  · rw [eb]; exact hOw j hj
  · rw [eb, eb]; exact hTm.1 j hj ((lv_of (eb j 7)).symm.trans hlj)
  · rw [eb, eb, eb, eb, eb, eb, eb, eb]; exact hNC j k hj hk hne ((lv_of (eb j 7)).symm.trans l1) ((lv_of (eb k 7)).symm.trans l2)
theorem time_nf {σ : Nat → Int32} {n : Nat} {t : Int32} (h : NF σ n) (ht : (σ 7).toInt ≤ t.toInt) : NF (upd σ 7 t) n := by
  have eb : ∀ j f, bf (upd σ 7 t) j f = bf σ j f := fun j f => bf_sc (by omega)
  intro i hi h0 z
  rw [pk_us, eb, eb, eb, eb, eb]
  rw [eb] at h0
  intro z1 z2 z3
  obtain ⟨j, hj, a, s, c, d⟩ := h i hi h0 z (by omega) z2 z3
  refine ⟨j, hj, (lv_of (eb j 7)).trans a, ?_, ?_, ?_⟩
  · unfold spB; rw [eb, eb]; exact s
  · rw [eb]; exact c
  · rw [eb]; exact d
theorem sec_I {σ : Nat → Int32} (h : (σ 7).toInt ≤ 20199) (h0 : 0 ≤ (σ 7).toInt) : (σ 7 + 1).toInt = (σ 7).toInt + 1 := by
  rw [ti_add (by rw [one_I]; omega) (by rw [one_I]; omega), one_I]
/-- the state behind expiring -/
def tickE (n : Nat) (σ : Nat → Int32) : (Nat → Int32) := (endF expC 6 5 n (endF bmpC 5 2 n (endF finC 3 1 n (upd σ 7 (σ 7 + 1)) 0).1 0).1 0).1
theorem tickE_wf {σ : Nat → Int32} {n m S : Nat} {B : Int} (h : Wf σ n m S B) (ht : (σ 7).toInt ≤ 20199) : Wf (tickE n σ) n m S B ∧ tickE n σ 7 = σ 7 + 1 := by
  have t0 := h.t0
  have w1 := time_wf h (t := σ 7 + 1) (by rw [sec_I ht t0.1]; omega)
  have f := endF_inv (cond := finC) (s := 3) (f := 1) w1 (by omega) (.inl rfl) 0
  have g := endF_inv (cond := bmpC) (s := 5) (f := 2) f.1 (by omega) (.inr (.inl rfl)) 0
  have e := endF_inv (cond := expC) (s := 6) (f := 5) g.1 (by omega) (.inr (.inr rfl)) 0
  exact ⟨e.1, (e.2.1 7 (by omega)).trans ((g.2.1 7 (by omega)).trans ((f.2.1 7 (by omega)).trans pk_us))⟩
abbrev tkF (n : Nat) (σ : Nat → Int32) : Nat → Int32 := (endF finC 3 1 n (upd σ 7 (σ 7 + 1)) 0).1
abbrev tkM (n : Nat) (σ : Nat → Int32) : Nat → Int32 := (endF bmpC 5 2 n (tkF n σ) 0).1
theorem tick_0 (n : Nat) (σ τ : Nat → Int32) : (tickS n (σ, τ)).2 0 = (endF bmpC 5 2 n (tkF n σ) (τ 0)).2 := by
  show (endF bmpC 5 2 n (endF finC 3 1 n (upd σ 7 (σ 7 + 1)) (τ 3)).1 (τ 0)).2 = _
  rw [endF_1 (τ 3)]
theorem tick_e (n : Nat) (σ τ : Nat → Int32) : (tickS n (σ, τ)).2 1 = (endF expC 6 5 n (tkM n σ) (τ 1)).2 := by
  show (endF expC 6 5 n (endF bmpC 5 2 n (endF finC 3 1 n (upd σ 7 (σ 7 + 1)) (τ 3)).1 (τ 0)).1 (τ 1)).2 = _
  rw [endF_1 (τ 3), endF_1 (τ 0)]
theorem tick_2 (n : Nat) (σ τ : Nat → Int32) : (tickS n (σ, τ)).2 2 = (plcS (tickE n σ) n (τ 2)).2 := by
  show (plcS (endF expC 6 5 n (endF bmpC 5 2 n (endF finC 3 1 n (upd σ 7 (σ 7 + 1)) (τ 3)).1 (τ 0)).1 (τ 1)).1 n (τ 2)).2 = _
  rw [endF_1 (τ 3), endF_1 (τ 0), endF_1 (τ 1)]
  rfl
theorem tick_3 (n : Nat) (σ τ : Nat → Int32) : (tickS n (σ, τ)).2 3 = (endF finC 3 1 n (upd σ 7 (σ 7 + 1)) (τ 3)).2 := rfl
theorem tick_1 (n : Nat) (a : (Nat → Int32) × (Nat → Int32)) : (tickS n a).1 = (plcS (tickE n a.1) n (a.2 2)).1 := by
  show (plcS (endF expC 6 5 n (endF bmpC 5 2 n (endF finC 3 1 n (upd a.1 7 (a.1 7 + 1)) (a.2 3)).1 (a.2 0)).1 (a.2 1)).1 n (a.2 2)).1 = _
  rw [endF_1 (a.2 3), endF_1 (a.2 0), endF_1 (a.2 1)]
  rfl
theorem plc_7 {σ : Nat → Int32} {n m S : Nat} {B : Int} (hB : 10300 ≤ B) (h : Wf σ n m S B) (c : Int32) : (plcS σ n c).1 7 = σ 7 := (plc_PI hB h c).2.2.2.2.1 7 (by omega)
theorem tick_wf {n m S : Nat} {B : Int} {a : (Nat → Int32) × (Nat → Int32)} (h : Wf a.1 n m S B) (hB : 10300 ≤ B) (ht : (a.1 7).toInt ≤ 20199) : Wf (tickS n a).1 n m S B ∧ NF (tickS n a).1 n ∧ (tickS n a).1 7 = a.1 7 + 1 := by
  have e := tickE_wf h ht
  rw [tick_1]
  exact ⟨plc_wf hB e.1 _, plc_nf hB e.1 _, (plc_7 hB e.1 _).trans e.2⟩
section TC
variable {v : V3} {b n m S : Nat} {B : Int} {σ : Nat → Int32}
/-- a booking ends: the ledger -/
theorem LA_end (hL : LA v b σ n m) (hn : n ≤ 40) (hm : m ≤ 8) (hO : Ow σ n m) {i f : Nat} {s : Int32} (hi : i < n) (hf : f < 8) : (up2 v (b + 14 + i) 7 s) (b + 14 + i) 0 = nI (ownI σ i) ∧ LA (up2 (up2 v (b + 14 + i) 7 s) (b + 6 + ownI σ i) f ((up2 v (b + 14 + i) 7 s) (b + 6 + ownI σ i) f + 1)) b (endS σ i s f) n m := by
  have o := own_of hO hm hi
  have hL1 := LA_b hL hn hm hi (f := 7) (x := s) (by omega)
  refine ⟨?_, ?_⟩
  · rw [hL1.bk hi 0 (by omega), bf_put (by omega) (by omega), if_neg (by omega)]; exact o.2
  · rw [hL1.ow o.1 f hf, og_put (by omega) hf]
    exact LA_o hL1 hm o.1 hf
theorem uC_fin (hL : LA v b σ n m) (hW : Wf σ n m S B) {Q : Int32 → V3 → Prop} (hQ : ∀ v', LA v' b (endF finC 3 1 n σ 0).1 n m → v' (b + 4) 3 = v (b + 4) 3 + (endF finC 3 1 n σ 0).2 → (∀ k, k ≠ 3 → v' (b + 4) k = v (b + 4) k) → Fr b v v' → Q (endF finC 3 1 n σ 0).2 v') : w_X1_finishHeld b v Q := by
  have hn := hW.n40
  have hm := hW.m8
  refine loop_st (W := fun r (a : (Nat → Int32) × Int32) i v => w_X1_finishHeld_4 b Q r a.2 (nI i) v) (s := endStep finC 3 1) (n := n) (a0 := (σ, 0)) (I := fun a i v' => Wf a.1 n m S B ∧ LA v' b a.1 n m ∧ v' (b + 4) = v (b + 4) ∧ Fr b v v') ?_ ?_ ⟨hW, hL, rfl, Fr_r b v⟩
  · intro r v' h
    rw [w_X1_finishHeld_4, h.2.1.n8]
    refine br_t Int32.le_rfl (nm_e (hQ _ (LA_x h.2.1 hn hm (by omega)) ?_ (fun k hk => ?_) (Fr_u h.2.2.2 (by omega) (by omega))))
    · rw [up2_row, pk_us, h.2.2.1]; rfl
    · rw [up2_row, pk_un hk, h.2.2.1]
  · intro r a i v' hi h ih
    obtain ⟨hW', hL', h4, hF⟩ := h
    rw [w_X1_finishHeld_4, hL'.n8]
    refine br_f (nx_le hi hn) ⟨nx_in hi hn, ?_⟩
    rw [nx_ix hi hn, hL'.bk hi 7 (by omega), hL'.bk hi 9 (by omega), hL'.tm]
    have skip : ¬ finC a.1 i = true → w_X1_finishHeld_4 b Q r a.2 (nI i + 1) v' := fun hc => by
      have e : endStep finC 3 1 a i = a := if_neg hc
      rw [e, nI_succ] at ih
      exact ih v' ⟨hW', hL', h4, hF⟩
    refine ⟨fun h2 => skip (by simp only [finC, decide_eq_true_eq]; exact fun q => h2 q.1), fun h2 => br_c (fun h9 => skip (by simp only [finC, decide_eq_true_eq]; exact fun q => q.2 h9)) (fun h9 => nm_e ?_)⟩
    have hc : finC a.1 i = true := by simp only [finC, decide_eq_true_eq]; exact ⟨h2, h9⟩
    have e : endStep finC 3 1 a i = (endS a.1 i 3 1, a.2 + 1) := if_pos hc
    obtain ⟨e0, hL2⟩ := LA_end hL' hn hm hW'.ow hi (f := 1) (s := 3) (by omega)
    have o := own_of hW'.ow hm hi
    rw [e0, show ix (nI (ownI a.1 i)) = ownI a.1 i from nI_clamp (by omega)]
    refine ⟨vp_in_nI (by omega) (by decide), nm_e ?_⟩
    rw [e, nI_succ] at ih
    have w := endF_inv (cond := fun σ j => decide (j = i)) (s := 3) (f := 1) hW' (by omega) (.inl rfl) 0
    exact ih _ ⟨Ch_wf0 hW' (end_ch hW'.ow hm hi (by omega)) ⟨3, by omega, end_7 hW'.ow hm hi (by omega)⟩ (by unfold lvB; rw [end_7 hW'.ow hm hi (by omega)]; decide), hL2, by rw [up2_off _ _ _ (by omega), up2_off _ _ _ (by omega)]; exact h4, Fr_u (Fr_u hF (by omega) (by omega)) (by omega) (by omega)⟩
theorem uC_bump (hL : LA v b σ n m) (hW : Wf σ n m S B) {Q : Int32 → V3 → Prop} (hQ : ∀ v', LA v' b (endF bmpC 5 2 n σ 0).1 n m → v' (b + 4) 0 = v (b + 4) 0 + (endF bmpC 5 2 n σ 0).2 → (∀ k, k ≠ 0 → v' (b + 4) k = v (b + 4) k) → Fr b v v' → Q (endF bmpC 5 2 n σ 0).2 v') : w_X1_bumpLate b v Q := by
  have hn := hW.n40
  have hm := hW.m8
  refine loop_st (W := fun r (a : (Nat → Int32) × Int32) i v => w_X1_bumpLate_4 b Q r a.2 (nI i) v) (s := endStep bmpC 5 2) (n := n) (a0 := (σ, 0)) (I := fun a i v' => Wf a.1 n m S B ∧ LA v' b a.1 n m ∧ v' (b + 4) = v (b + 4) ∧ Fr b v v') ?_ ?_ ⟨hW, hL, rfl, Fr_r b v⟩
  · intro r v' h
    rw [w_X1_bumpLate_4, h.2.1.n8]
    refine br_t Int32.le_rfl (nm_e (hQ _ (LA_x h.2.1 hn hm (by omega)) ?_ (fun k hk => ?_) (Fr_u h.2.2.2 (by omega) (by omega))))
    · rw [up2_row, pk_us, h.2.2.1]; rfl
    · rw [up2_row, pk_un hk, h.2.2.1]
  · intro r a i v' hi h ih
    obtain ⟨hW', hL', h4, hF⟩ := h
    rw [w_X1_bumpLate_4, hL'.n8]
    refine br_f (nx_le hi hn) ⟨nx_in hi hn, ?_⟩
    rw [nx_ix hi hn, hL'.bk hi 7 (by omega), hL'.bk hi 8 (by omega), hL'.tm, hL'.st (by omega)]
    have skip : ¬ bmpC a.1 i = true → w_X1_bumpLate_4 b Q r a.2 (nI i + 1) v' := fun hc => by
      have e : endStep bmpC 5 2 a i = a := if_neg hc
      rw [e, nI_succ] at ih
      exact ih v' ⟨hW', hL', h4, hF⟩
    refine ⟨fun h2 => skip (by simp only [bmpC, decide_eq_true_eq]; exact fun q => h2 q.1), fun h2 => br_c (fun h9 => skip (by simp only [bmpC, decide_eq_true_eq]; exact fun q => q.2 h9)) (fun h9 => nm_e ?_)⟩
    have hc : bmpC a.1 i = true := by simp only [bmpC, decide_eq_true_eq]; exact ⟨h2, h9⟩
    have e : endStep bmpC 5 2 a i = (endS a.1 i 5 2, a.2 + 1) := if_pos hc
    obtain ⟨e0, hL2⟩ := LA_end hL' hn hm hW'.ow hi (f := 2) (s := 5) (by omega)
    have o := own_of hW'.ow hm hi
    rw [e0, show ix (nI (ownI a.1 i)) = ownI a.1 i from nI_clamp (by omega)]
    refine ⟨vp_in_nI (by omega) (by decide), nm_e ?_⟩
    rw [e, nI_succ] at ih
    exact ih _ ⟨Ch_wf0 hW' (end_ch hW'.ow hm hi (by omega)) ⟨5, by omega, end_7 hW'.ow hm hi (by omega)⟩ (by unfold lvB; rw [end_7 hW'.ow hm hi (by omega)]; decide), hL2, by rw [up2_off _ _ _ (by omega), up2_off _ _ _ (by omega)]; exact h4, Fr_u (Fr_u hF (by omega) (by omega)) (by omega) (by omega)⟩
theorem uC_exp (hL : LA v b σ n m) (hW : Wf σ n m S B) {Q : V3 → Prop} (hQ : ∀ v', LA v' b (endF expC 6 5 n σ (v (b + 4) 1)).1 n m → v' (b + 4) 1 = (endF expC 6 5 n σ (v (b + 4) 1)).2 → (∀ k, k ≠ 1 → v' (b + 4) k = v (b + 4) k) → Fr b v v' → Q v') : w_X1_expireWaiting b v Q := by
  have hn := hW.n40
  have hm := hW.m8
  refine loop_st (W := fun r (a : (Nat → Int32) × Int32) i v => w_X1_expireWaiting_2 b Q r (nI i) v) (s := endStep expC 6 5) (n := n) (a0 := (σ, v (b + 4) 1)) (I := fun a i v' => Wf a.1 n m S B ∧ LA v' b a.1 n m ∧ v' (b + 4) 1 = a.2 ∧ (∀ k, k ≠ 1 → v' (b + 4) k = v (b + 4) k) ∧ Fr b v v') ?_ ?_ ⟨hW, hL, rfl, fun _ _ => rfl, Fr_r b v⟩
  · intro r v' h
    rw [w_X1_expireWaiting_2, h.2.1.n8]
    exact br_t Int32.le_rfl (hQ _ h.2.1 h.2.2.1 h.2.2.2.1 h.2.2.2.2)
  · intro r a i v' hi h ih
    obtain ⟨hW', hL', h4, h5, hF⟩ := h
    rw [w_X1_expireWaiting_2, hL'.n8]
    refine br_f (nx_le hi hn) ⟨nx_in hi hn, ?_⟩
    rw [nx_ix hi hn, hL'.bk hi 7 (by omega), hL'.bk hi 4 (by omega), hL'.bk hi 5 (by omega), hL'.tm]
    have skip : ¬ expC a.1 i = true → w_X1_expireWaiting_2 b Q r (nI i + 1) v' := fun hc => by
      have e : endStep expC 6 5 a i = a := if_neg hc
      rw [e, nI_succ] at ih
      exact ih v' ⟨hW', hL', h4, h5, hF⟩
    refine ⟨fun h2 => skip (by simp only [expC, decide_eq_true_eq]; exact fun q => h2 q.1), fun h2 => br_c (fun h9 => skip (by simp only [expC, decide_eq_true_eq]; exact fun q => q.2 h9)) (fun h9 => nm_e ?_)⟩
    have hc : expC a.1 i = true := by simp only [expC, decide_eq_true_eq]; exact ⟨h2, h9⟩
    have e : endStep expC 6 5 a i = (endS a.1 i 6 5, a.2 + 1) := if_pos hc
    obtain ⟨e0, hL2⟩ := LA_end hL' hn hm hW'.ow hi (f := 5) (s := 6) (by omega)
    have o := own_of hW'.ow hm hi
    rw [e0, show ix (nI (ownI a.1 i)) = ownI a.1 i from nI_clamp (by omega)]
    refine ⟨vp_in_nI (by omega) (by decide), nm_e (nm_e ?_)⟩
    rw [e, nI_succ] at ih
    refine ih _ ⟨Ch_wf0 hW' (end_ch hW'.ow hm hi (by omega)) ⟨6, by omega, end_7 hW'.ow hm hi (by omega)⟩ (by unfold lvB; rw [end_7 hW'.ow hm hi (by omega)]; decide), LA_x hL2 hn hm (by omega), ?_, fun k hk => ?_, Fr_u (Fr_u (Fr_u hF (by omega) (by omega)) (by omega) (by omega)) (by omega) (by omega)⟩
    · rw [up2_row, pk_us, up2_off _ _ _ (by omega), up2_off _ _ _ (by omega), h4]
    · rw [up2_row, pk_un hk, up2_off _ _ _ (by omega), up2_off _ _ _ (by omega)]; exact h5 k hk
/-- the tally of a ledger -/
def TLy (v : V3) (b : Nat) (τ : Nat → Int32) : Prop := ∀ k, k < 4 → v (b + 4) k = τ k
theorem uC_tick {τ : Nat → Int32} (hL : LA v b σ n m) (hT : TLy v b τ) (hW : Wf σ n m S B) (hN : NF σ n) (hB : 10300 ≤ B) (ht : (σ 7).toInt ≤ 20199) {Q : V3 → Prop} (hQ : ∀ v', LA v' b (tickS n (σ, τ)).1 n m → TLy v' b (tickS n (σ, τ)).2 → Fr b v v' → Q v') : w_X1_tick b v Q := by
  have hn := hW.n40
  have hm := hW.m8
  have t0 := hW.t0
  have w1 := time_wf hW (t := σ 7 + 1) (by rw [sec_I ht t0.1]; omega)
  have f := endF_inv (cond := finC) (s := 3) (f := 1) w1 (by omega) (.inl rfl) 0
  have g := endF_inv (cond := bmpC) (s := 5) (f := 2) f.1 (by omega) (.inr (.inl rfl)) 0
  refine nm_e ?_
  rw [hL.tm]
  have hL1 := LA_7 hL hn hm (x := σ 7 + 1)
  refine uC_fin hL1 w1 (fun v2 hL2 h23 h2 hF2 => uC_bump hL2 f.1 (fun v3 hL3 h30 h3 hF3 => ?_))
  refine uC_exp hL3 g.1 (fun v4 hL4 h41 h4 hF4 => ?_)
  have hF : Fr b v v4 := Fr_t (Fr_t (Fr_t (Fr_u (Fr_r b v) (by omega) (by omega)) hF2) hF3) hF4
  have e1 : v3 (b + 4) 1 = τ 1 := by rw [h3 1 (by decide), h2 1 (by decide), up2_off _ _ _ (by omega)]; exact hT 1 (by omega)
  rw [e1, endF_add] at hL4 h41
  have a0 : v4 (b + 4) 0 = (endF bmpC 5 2 n (endF finC 3 1 n (upd σ 7 (σ 7 + 1)) 0).1 (τ 0)).2 := by
    rw [h4 0 (by decide), h30, h2 0 (by decide), up2_off _ _ _ (by omega), hT 0 (by omega), endF_add bmpC 5 2 n _ (τ 0)]
  have a3 : v4 (b + 4) 3 = (endF finC 3 1 n (upd σ 7 (σ 7 + 1)) (τ 3)).2 := by
    rw [h4 3 (by decide), h3 3 (by decide), h23, up2_off _ _ _ (by omega), hT 3 (by omega), endF_add finC 3 1 n _ (τ 3)]
  have a2 : v4 (b + 4) 2 = τ 2 := by
    rw [h4 2 (by decide), h3 2 (by decide), h2 2 (by decide), up2_off _ _ _ (by omega)]; exact hT 2 (by omega)
  have e := tickE_wf hW ht
  have fin : ∀ v', LA v' b (plcS (tickE n σ) n (τ 2)).1 n m → v' (b + 4) 2 = (plcS (tickE n σ) n (τ 2)).2 → (∀ k, k ≠ 2 → v' (b + 4) k = v4 (b + 4) k) → Fr b v v' → Q v' := by
    intro v' q1 q2 q3 q4
    refine hQ v' ?_ ?_ q4
    · rw [tick_1]; exact q1
    · intro k hk
      by_cases k0 : k = 0
      · subst k0; rw [q3 0 (by decide), a0, tick_0]
      · by_cases k1 : k = 1
        · subst k1; rw [q3 1 (by decide), h41, tick_e, endF_add expC 6 5 n _ (τ 1)]
        · by_cases k2 : k = 2
          · subst k2; rw [q2, tick_2]
          · rw [show k = 3 by omega, q3 3 (by decide), a3, tick_3]
  obtain ⟨j1, c1, d1, z1⟩ := endF_cnt finC 3 1 n (upd σ 7 (σ 7 + 1))
  obtain ⟨j2, c2, d2, z2⟩ := endF_cnt bmpC 5 2 n (endF finC 3 1 n (upd σ 7 (σ 7 + 1)) 0).1
  refine br_c (fun hc => ?_) (fun hc => ?_)
  · rw [d1, d2, nI_add] at hc
    have hz : j1 + j2 = 0 := Classical.byContradiction (fun q => nI_nle (by omega) (by omega) hc)
    have hN1 := time_nf hN (t := σ 7 + 1) (by rw [sec_I ht t0.1]; omega)
    have s1 := z1 (by omega)
    have s2 := (z2 (by omega)).trans s1
    have en := endF_inv (cond := expC) (s := 6) (f := 5) g.1 (by omega) (.inr (.inr rfl)) 0
    have hN2 : NF (tickE n σ) n := by
      have : NF (endF bmpC 5 2 n (endF finC 3 1 n (upd σ 7 (σ 7 + 1)) 0).1 0).1 n := by rw [s2]; exact hN1
      exact en.2.2 (fun σ i q => by simp only [expC, decide_eq_true_eq] at q; exact q.1) this
    have id := plc_id e.1 hN2 (τ 2)
    refine fin v4 ?_ ?_ (fun _ _ => rfl) hF
    · rw [id]; exact hL4
    · rw [id]; exact a2
  · refine uC_placeW (σ := tickE n σ) hL4 e.1 hB (fun v5 q1 q2 q3 q4 => ?_)
    rw [a2] at q1 q2
    exact fin v5 q1 q2 q3 (Fr_t hF q4)
end TC
