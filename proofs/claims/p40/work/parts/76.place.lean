/-! PURE LEVEL 7: placing those who wait -/
def settleS (σ : Nat → Int32) (i : Nat) (t : Int32) : Nat → Int32 := putB (putB (putB σ i 7 1) i 8 t) i 9 (t + bf σ i 3)
def awaitS (σ : Nat → Int32) (i : Nat) : Nat → Int32 := putB (putB (putB σ i 7 0) i 8 (-1)) i 9 (-1)
section ST
variable {σ : Nat → Int32} {i j n : Nat} {t : Int32}
theorem stl_7 : bf (settleS σ i t) i 7 = 1 := by
  unfold settleS
  rw [bf_put (by omega) (by omega), if_neg (by omega), bf_put (by omega) (by omega), if_neg (by omega), bf_put (by omega) (by omega), if_pos ⟨rfl, rfl⟩]
theorem stl_8 : bf (settleS σ i t) i 8 = t := by
  unfold settleS
  rw [bf_put (by omega) (by omega), if_neg (by omega), bf_put (by omega) (by omega), if_pos ⟨rfl, rfl⟩]
theorem stl_9 : bf (settleS σ i t) i 9 = t + bf σ i 3 := by
  unfold settleS
  rw [bf_put (by omega) (by omega), if_pos ⟨rfl, rfl⟩]
theorem stl_ch : Ch σ (settleS σ i t) n i := Ch_t (Ch_t (Ch_b (by omega) (by omega)) (Ch_b (by omega) (by omega))) (Ch_b (by omega) (by omega))
theorem aw_7 : bf (awaitS σ i) i 7 = 0 := by
  unfold awaitS
  rw [bf_put (by omega) (by omega), if_neg (by omega), bf_put (by omega) (by omega), if_neg (by omega), bf_put (by omega) (by omega), if_pos ⟨rfl, rfl⟩]
theorem aw_ch : Ch σ (awaitS σ i) n i := Ch_t (Ch_t (Ch_b (by omega) (by omega)) (Ch_b (by omega) (by omega))) (Ch_b (by omega) (by omega))
theorem stl_n (hj : j < n) (hji : j ≠ i) {f : Nat} (hf : f < 10) : bf (settleS σ i t) j f = bf σ j f := (stl_ch (n := n)).2 j hj f hf (.inl hji)
end ST
theorem spB_I {σ : Nat → Int32} {n S i j : Nat} (hS : Sp σ n S) (hi : i < n) (hj : j < n) : spB σ (bf σ i 1) (bf σ i 2) j ↔ (bf σ j 1).toInt < (bf σ i 1).toInt + (bf σ i 2).toInt ∧ (bf σ i 1).toInt < (bf σ j 1).toInt + (bf σ j 2).toInt := by
  have a := hS.1 i hi
  have c := hS.1 j hj
  have s := hS.2.2
  unfold spB
  rw [ti_le, ti_le, ti_add (by omega) (by omega), ti_add (by omega) (by omega)]
  omega
theorem bst_ok {σ : Nat → Int32} {n m S i : Nat} {B : Int} (h : Wf σ n m S B) (hi : i < n) (h0 : bf σ i 7 = 0) (hb : ¬ bstS σ n i = -1) : ((σ 7).toInt ≤ (bstS σ n i).toInt ∧ (bstS σ n i).toInt ≤ 10098) ∧ ¬ hitI σ n (bf σ i 1) (bf σ i 2) (bf σ i 3).toInt (bstS σ n i).toInt := by
  have hr := h.rg hi
  obtain ⟨r1, r2, r3, r4, r5, r6⟩ := hr
  rcases bst_BT h.n40 hi ⟨r1, r2, r3, r4, r5, r6⟩ (lv_0 h0) h.t0.1 with ⟨g, _⟩ | ⟨⟨g1, g2, g3, g4⟩, _⟩
  · exact absurd g hb
  · exact ⟨⟨g1, by omega⟩, g4⟩
/-- a booking that fits is placed -/
theorem stl_wf {σ : Nat → Int32} {n m S i : Nat} {B : Int} (h : Wf σ n m S B) (hB : 10300 ≤ B) (hi : i < n) {t : Int32} (ht : 0 ≤ t.toInt ∧ t.toInt ≤ 10200 ∧ t.toInt + (bf σ i 3).toInt ≤ B) (hf : ∀ j, j < n → j ≠ i → lvB σ j = true → spB σ (bf σ i 1) (bf σ i 2) j → (bf σ j 8).toInt < t.toInt + (bf σ i 3).toInt → t.toInt < (bf σ j 9).toInt → False) : Wf (settleS σ i t) n m S B := by
  obtain ⟨r1, r2, r3, r4, r5, r6⟩ := h.rg hi
  have e : (t + bf σ i 3).toInt = t.toInt + (bf σ i 3).toInt := ti_add (by omega) (by omega)
  refine Ch_wf h ⟨Int.le_refl _, h.tm.2⟩ stl_ch ⟨1, by omega, stl_7⟩ (fun _ => ⟨?_, fun j hj hji hl a c d q => ?_⟩)
  · rw [stl_8, stl_9, e]; omega
  · rw [stl_8] at d
    rw [stl_9, e] at q
    exact hf j hj hji hl ((spB_I h.sp hi hj).mpr ⟨c, a⟩) q d
theorem bst_wf {σ : Nat → Int32} {n m S i : Nat} {B : Int} (h : Wf σ n m S B) (hB : 10300 ≤ B) (hi : i < n) (h0 : bf σ i 7 = 0) (hb : ¬ bstS σ n i = -1) : Wf (settleS σ i (bstS σ n i)) n m S B := by
  have g := bst_ok h hi h0 hb
  have t0 := h.t0
  obtain ⟨r1, r2, r3, r4, r5, r6⟩ := h.rg hi
  exact stl_wf h hB hi ⟨by omega, by omega, by omega⟩ (fun j hj _ hl hs a c => g.2 ⟨j, hj, hl, hs, a, c⟩)
/-- more live bookings hit more -/
theorem hit_ch {σ σ' : Nat → Int32} {n i : Nat} {x1 x2 : Int32} {D t : Int} (hc : Ch σ σ' n i) (hl : lvB σ i = false) (h : hitI σ n x1 x2 D t) : hitI σ' n x1 x2 D t := by
  obtain ⟨j, hj, a, s, c, d⟩ := h
  have hji : j ≠ i := fun q => by rw [q] at a; rw [a] at hl; exact absurd hl (by decide)
  refine ⟨j, hj, ?_, ?_, ?_, ?_⟩
  · rw [lv_of (hc.2 j hj 7 (by omega) (.inl hji))]; exact a
  · unfold spB; rw [hc.2 j hj 1 (by omega) (.inl hji), hc.2 j hj 2 (by omega) (.inl hji)]; exact s
  · rw [hc.2 j hj 8 (by omega) (.inl hji)]; exact c
  · rw [hc.2 j hj 9 (by omega) (.inl hji)]; exact d
/-- no time for booking i -/
def NFi (σ : Nat → Int32) (n i : Nat) : Prop := ∀ t : Int, (σ 7).toInt ≤ t → (bf σ i 4).toInt - (bf σ i 5).toInt ≤ t → t ≤ (bf σ i 4).toInt + (bf σ i 5).toInt → hitI σ n (bf σ i 1) (bf σ i 2) (bf σ i 3).toInt t
theorem NFi_ch {σ σ' : Nat → Int32} {n i j : Nat} (hc : Ch σ σ' n i) (hl : lvB σ i = false) (hj : j < n) (h : NFi σ n j) : NFi σ' n j := by
  intro t
  rw [hc.1 7 (by omega), hc.2 j hj 4 (by omega) (.inr (by omega)), hc.2 j hj 5 (by omega) (.inr (by omega)), hc.2 j hj 1 (by omega) (.inr (by omega)), hc.2 j hj 2 (by omega) (.inr (by omega)), hc.2 j hj 3 (by omega) (.inr (by omega))]
  exact fun t1 t2 t3 => hit_ch hc hl (h t t1 t2 t3)
def plcStep (n : Nat) (g : Nat → Nat) (a : (Nat → Int32) × Int32) (k : Nat) : (Nat → Int32) × Int32 := if bstS a.1 n (g k) = -1 then a else (settleS a.1 (g k) (bstS a.1 n (g k)), a.2 + 1)
def plcS (σ : Nat → Int32) (n : Nat) (c : Int32) : (Nat → Int32) × Int32 := foldN (plcStep n (ordS σ n).1) (ordS σ n).2 0 (σ, c)
/-- what holds while those who wait are placed -/
def PI (σ0 : Nat → Int32) (n m S : Nat) (B : Int) (k : Nat) (σ : Nat → Int32) : Prop := Wf σ n m S B ∧ (∀ l, k ≤ l → l < (ordS σ0 n).2 → bf σ ((ordS σ0 n).1 l) 7 = 0) ∧ (∀ l, l < k → l < (ordS σ0 n).2 → ¬ bf σ ((ordS σ0 n).1 l) 7 = 0 ∨ NFi σ n ((ordS σ0 n).1 l)) ∧ (∀ j, j < n → bf σ j 7 = 0 → bf σ0 j 7 = 0) ∧ (∀ k, k < 8 → σ k = σ0 k) ∧ (∀ j, j < n → ∀ f, f < 7 → bf σ j f = bf σ0 j f) ∧ (∀ k, k < 74 → σ k = σ0 k)
theorem PI_0 {σ : Nat → Int32} {n m S : Nat} {B : Int} (h : Wf σ n m S B) : PI σ n m S B 0 σ :=
  ⟨h, fun l _ hl => ((QI_ord σ n).2.1 l hl).2, fun l hl => absurd hl (Nat.not_lt_zero l), fun _ _ h => h, fun _ _ => rfl, fun _ _ _ _ => rfl, fun _ _ => rfl⟩
theorem PI_s {σ0 : Nat → Int32} {n m S : Nat} {B : Int} (hB : 10300 ≤ B) {k : Nat} (hk : k < (ordS σ0 n).2) {a : (Nat → Int32) × Int32} (h : PI σ0 n m S B k a.1) : PI σ0 n m S B (k + 1) (plcStep n (ordS σ0 n).1 a k).1 := by
  obtain ⟨hW, h1, h2, h3, h4, h5, h6⟩ := h
  have hq := QI_ord σ0 n
  have hg := (hq.2.1 k hk).1
  have g0 := h1 k (Nat.le_refl k) hk
  unfold plcStep
  by_cases hb : bstS a.1 n ((ordS σ0 n).1 k) = -1
  · rw [if_pos hb]
    refine ⟨hW, fun l l1 l2 => h1 l (by omega) l2, fun l l1 l2 => ?_, h3, h4, h5, h6⟩
    by_cases e : l = k
    · subst e; exact .inr ((bst_no hW.n40 hg (hW.rg hg) (lv_0 g0) hW.t0.1).mp hb)
    · exact h2 l (by omega) l2
  · rw [if_neg hb]
    have hc : Ch a.1 (settleS a.1 ((ordS σ0 n).1 k) (bstS a.1 n ((ordS σ0 n).1 k))) n ((ordS σ0 n).1 k) := stl_ch
    have ne : ∀ l, l < (ordS σ0 n).2 → l ≠ k → (ordS σ0 n).1 l ≠ (ordS σ0 n).1 k := fun l hl e q => e (hq.2.2.1 l k hl hk q)
    refine ⟨bst_wf hW hB hg g0 hb, fun l l1 l2 => ?_, fun l l1 l2 => ?_, fun j hj hj0 => ?_, fun z hz => (hc.1 z hz).trans (h4 z hz), fun j hj f hf => (hc.2 j hj f (by omega) (.inr hf)).trans (h5 j hj f hf), fun z hz => ?_⟩
    · exact (hc.2 _ (hq.2.1 l l2).1 7 (by omega) (.inl (ne l l2 (by omega)))).trans (h1 l (by omega) l2)
    · by_cases e : l = k
      · subst e
        left
        rw [show bf (settleS a.1 ((ordS σ0 n).1 l) (bstS a.1 n ((ordS σ0 n).1 l)), a.2 + 1).1 ((ordS σ0 n).1 l) 7 = 1 from stl_7]
        decide
      · have e7 := hc.2 _ (hq.2.1 l l2).1 7 (by omega) (.inl (ne l l2 e))
        rcases h2 l (by omega) l2 with p | p
        · exact .inl (fun q => p (e7.symm.trans q))
        · exact .inr (NFi_ch hc (lv_0 g0) (hq.2.1 l l2).1 p)
    · by_cases e : j = (ordS σ0 n).1 k
      · rw [e]; exact (hq.2.1 k hk).2
      · exact h3 j hj ((hc.2 j hj 7 (by omega) (.inl e)).symm.trans hj0)
    · show settleS a.1 _ _ z = _
      unfold settleS
      rw [sc_put hz, sc_put hz, sc_put hz]; exact h6 z hz
theorem plc_PI {σ : Nat → Int32} {n m S : Nat} {B : Int} (hB : 10300 ≤ B) (h : Wf σ n m S B) (c : Int32) : PI σ n m S B (ordS σ n).2 (plcS σ n c).1 :=
  foldN_inv (P := fun k (a : (Nat → Int32) × Int32) => PI σ n m S B k a.1) (PI_0 h) (fun k a hk hp => PI_s hB hk hp)
theorem plc_wf {σ : Nat → Int32} {n m S : Nat} {B : Int} (hB : 10300 ≤ B) (h : Wf σ n m S B) (c : Int32) : Wf (plcS σ n c).1 n m S B := (plc_PI hB h c).1
theorem plc_nf {σ : Nat → Int32} {n m S : Nat} {B : Int} (hB : 10300 ≤ B) (h : Wf σ n m S B) (c : Int32) : NF (plcS σ n c).1 n := by
  have p := plc_PI hB h c
  intro i hi h0
  obtain ⟨k, hk, e⟩ := (QI_ord σ n).2.2.2 i hi (p.2.2.2.1 i hi h0)
  rcases p.2.2.1 k hk hk with q | q
  · rw [e] at q; exact absurd h0 q
  · rw [e] at q; exact q
/-- nothing is placed where no one finds a time -/
theorem plc_id {σ : Nat → Int32} {n m S : Nat} {B : Int} (h : Wf σ n m S B) (hF : NF σ n) (c : Int32) : plcS σ n c = (σ, c) := by
  refine foldN_inv (P := fun _ a => a = (σ, c)) (s := plcStep n (ordS σ n).1) rfl (fun k a hk hp => ?_)
  have hq := (QI_ord σ n).2.1 k hk
  rw [hp]
  unfold plcStep
  exact if_pos ((bst_no h.n40 hq.1 (h.rg hq.1) (lv_0 hq.2) h.t0.1).mpr (hF _ hq.1 hq.2))
section PC
variable {v : V3} {b n m S : Nat} {B : Int} {σ : Nat → Int32}
theorem uC_bookAt (hL : LA v b σ n m) (hn : n ≤ 40) (hm : m ≤ 8) {i : Nat} (hi : i < n) {t : Int32} {Q : Int32 → V3 → Prop} (h0 : t = -1 → Q 0 v) (h1 : ∀ v', ¬ t = -1 → LA v' b (settleS σ i t) n m → (∀ c, c ≠ b + 14 + i → v' c = v c) → Q 1 v') : w_X1_bookAt b (nI i) t v Q := by
  refine ⟨fun h => ⟨nx_in hi hn, ?_⟩, h0⟩
  rw [nx_ix hi hn]
  refine nm_e (nm_e (nm_e ?_))
  have hL2 := LA_b (LA_b hL hn hm hi (f := 7) (x := 1) (by omega)) hn hm hi (f := 8) (x := t) (by omega)
  have e3 : bf (putB (putB σ i 7 1) i 8 t) i 3 = bf σ i 3 := by
    rw [bf_put (by omega) (by omega), if_neg (by omega), bf_put (by omega) (by omega), if_neg (by omega)]
  rw [hL2.bk hi 3 (by omega), e3]
  refine h1 _ h (LA_b hL2 hn hm hi (by omega)) (fun c hc => ?_)
  rw [up2_off _ _ _ hc, up2_off _ _ _ hc, up2_off _ _ _ hc]
theorem uC_letWait (hL : LA v b σ n m) (hn : n ≤ 40) (hm : m ≤ 8) {i : Nat} (hi : i < n) {Q : V3 → Prop} (h1 : ∀ v', LA v' b (awaitS σ i) n m → (∀ c, c ≠ b + 14 + i → v' c = v c) → Q v') : w_X1_letWait b (nI i) v Q := by
  refine ⟨nx_in hi hn, ?_⟩
  rw [nx_ix hi hn]
  refine nm_e (nm_e (nm_e (h1 _ (LA_b (LA_b (LA_b hL hn hm hi (by omega)) hn hm hi (by omega)) hn hm hi (by omega)) (fun c hc => ?_))))
  rw [up2_off _ _ _ hc, up2_off _ _ _ hc, up2_off _ _ _ hc]
/-- those who wait are placed: the ledger -/
theorem uC_placeW (hL : LA v b σ n m) (hW : Wf σ n m S B) (hB : 10300 ≤ B) {Q : V3 → Prop} (hQ : ∀ v', LA v' b (plcS σ n (v (b + 4) 2)).1 n m → v' (b + 4) 2 = (plcS σ n (v (b + 4) 2)).2 → (∀ k, k ≠ 2 → v' (b + 4) k = v (b + 4) k) → Fr b v v' → Q v') : w_X1_placeWaiting b v Q := by
  have hn := hW.n40
  have hm := hW.m8
  refine uC_queue hL hn hm hW.ow (fun v1 h1 h2 => ?_)
  have hq := QI_ord σ n
  have hw := hq.1
  refine loop_st (W := fun r (a : (Nat → Int32) × Int32) i v => w_X1_placeWaiting_7 b Q r (nI (ordS σ n).2) (nI i) v) (s := plcStep n (ordS σ n).1) (n := (ordS σ n).2) (a0 := (σ, v (b + 4) 2)) (I := fun a k v' => PI σ n m S B k a.1 ∧ LA v' b a.1 n m ∧ v' (b + 4) 2 = a.2 ∧ (∀ k, k < (ordS σ n).2 → v' (b + 5) k = nI ((ordS σ n).1 k)) ∧ (∀ k, k ≠ 2 → v' (b + 4) k = v (b + 4) k) ∧ Fr b v v') ?_ ?_ ⟨PI_0 hW, LA_c hL hn hm (fun c _ _ _ h5 => h2 c h5), by rw [h2 _ (by omega)], h1, fun k _ => by rw [h2 _ (by omega)], fun c hc => h2 c (by omega)⟩
  · intro r v' h
    rw [w_X1_placeWaiting_7]
    exact br_t Int32.le_rfl (hQ v' h.2.1 h.2.2.1 h.2.2.2.2.1 h.2.2.2.2.2)
  · intro r a i v' hi h ih
    have hP := PI_s hB hi h.1
    obtain ⟨hI, hL', h4, h5, h6, hF⟩ := h
    have hW' := hI.1
    have hg := (hq.2.1 i hi).1
    have g0 := hI.2.1 i (Nat.le_refl i) hi
    rw [w_X1_placeWaiting_7]
    refine br_f (nI_ge hi (by omega)) ⟨vp_in_nI (by omega) (by decide), vp_in_nI (by omega) (by decide), ?_⟩
    rw [show ix (nI i) = i from nI_clamp (by omega), h5 i hi]
    have t0 := hW'.t0
    refine uC_best hL' hn hW'.tm ⟨t0.1, by omega⟩ hg (hW'.rg hg) (lv_0 g0) ?_
    refine uC_bookAt hL' hn hm hg (fun e => br_t rfl ?_) (fun v2 e hL2 hf2 => br_f (by decide) (nm_e ?_))
    · have e1 : plcStep n (ordS σ n).1 a i = a := if_pos e
      rw [e1, nI_succ] at ih
      rw [e1] at hP
      exact ih v' ⟨hP, hL', h4, h5, h6, hF⟩
    · have e1 : plcStep n (ordS σ n).1 a i = (settleS a.1 ((ordS σ n).1 i) (bstS a.1 n ((ordS σ n).1 i)), a.2 + 1) := if_neg e
      rw [e1, nI_succ] at ih
      rw [e1] at hP
      refine ih _ ⟨hP, LA_x hL2 hn hm (by omega), ?_, fun k hk => ?_, fun k hk => ?_, Fr_u (fun c hc => ?_) (by omega) (by omega)⟩
      · rw [up2_row, pk_us, hf2 _ (by omega), h4]
      · rw [up2_off _ _ _ (by omega), hf2 _ (by omega)]; exact h5 k hk
      · rw [up2_row, pk_un hk, hf2 _ (by omega)]; exact h6 k hk
      · rw [hf2 c (by omega)]; exact hF c hc
end PC
section PM
variable {v : V3} {n m S : Nat} {B : Int}
theorem up2_8 {k : Nat} {x : Int32} : up2 v 8 k x 8 = upd (v 8) k x := up2_row v 8 k x
end PM
