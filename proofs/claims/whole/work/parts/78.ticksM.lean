/-! PURE LEVEL 9: ticks of the reference, many ticks, copies -/
/-- states that agree -/
def Ag (σ σ' : Nat → Int32) : Prop := ∀ k, k < 474 → σ' k = σ k
theorem Ag.bf {σ σ' : Nat → Int32} (h : Ag σ σ') {j f : Nat} (hj : j < 40) (hf : f < 10) : bf σ' j f = bf σ j f := h _ (by omega)
theorem Ag.og {σ σ' : Nat → Int32} (h : Ag σ σ') {o f : Nat} (ho : o < 8) (hf : f < 8) : og σ' o f = og σ o f := h _ (by omega)
theorem Ag_r (σ : Nat → Int32) : Ag σ σ := fun _ _ => rfl
theorem Wf_e {σ σ' : Nat → Int32} {n m S : Nat} {B : Int} (h : Wf σ n m S B) (hk : ∀ k, k < 8 → σ' k = σ k) (hb : ∀ j, j < n → ∀ f, f < 10 → bf σ' j f = bf σ j f) : Wf σ' n m S B := by
  obtain ⟨⟨hC, h4, h7, hg⟩, hSp, hSt, hRg, hOw, hTm, hNC⟩ := h
  refine ⟨⟨⟨(hk 5 (by omega)).trans hC.1, hC.2.1, (hk 6 (by omega)).trans hC.2.2.1, hC.2.2.2⟩, (hk 4 (by omega)).trans h4, ?_, ?_⟩, ⟨fun j hj => ?_, hSp.2⟩, fun j hj => ?_, fun j hj => ?_, fun j hj => ?_, ⟨fun j hj hlj => ?_, hTm.2⟩, fun j k hj hkn hne l1 l2 => ?_⟩
  · rw [hk 7 (by omega)]; exact h7
  · unfold Sg; rw [hk 0 (by omega), hk 1 (by omega), hk 2 (by omega), hk 3 (by omega)]; exact hg
  · rw [hb j hj 1 (by omega), hb j hj 2 (by omega)]; exact hSp.1 j hj
  · rw [hb j hj 7 (by omega)]; exact hSt j hj
  · unfold Rg; rw [hb j hj 3 (by omega), hb j hj 4 (by omega), hb j hj 5 (by omega)]; exact hRg j hj
  · rw [hb j hj 0 (by omega)]; exact hOw j hj
  · rw [hb j hj 8 (by omega), hb j hj 9 (by omega)]; exact hTm.1 j hj ((lv_of (hb j hj 7 (by omega))).symm.trans hlj)
  · rw [hb j hj 1 (by omega), hb j hj 2 (by omega), hb j hj 8 (by omega), hb j hj 9 (by omega), hb k hkn 1 (by omega), hb k hkn 2 (by omega), hb k hkn 8 (by omega), hb k hkn 9 (by omega)]
    exact hNC j k hj hkn hne ((lv_of (hb j hj 7 (by omega))).symm.trans l1) ((lv_of (hb k hkn 7 (by omega))).symm.trans l2)
theorem hit_e {σ σ' : Nat → Int32} {n : Nat} {x1 x2 : Int32} {D t : Int} (hb : ∀ j, j < n → ∀ f, f < 10 → bf σ' j f = bf σ j f) (h : hitI σ n x1 x2 D t) : hitI σ' n x1 x2 D t := by
  obtain ⟨j, hj, a, s, c, d⟩ := h
  refine ⟨j, hj, (lv_of (hb j hj 7 (by omega))).trans a, ?_, ?_, ?_⟩
  · unfold spB; rw [hb j hj 1 (by omega), hb j hj 2 (by omega)]; exact s
  · rw [hb j hj 8 (by omega)]; exact c
  · rw [hb j hj 9 (by omega)]; exact d
theorem NF_e {σ σ' : Nat → Int32} {n : Nat} (h : NF σ n) (h7 : (σ 7).toInt ≤ (σ' 7).toInt) (hb : ∀ j, j < n → ∀ f, f < 10 → bf σ' j f = bf σ j f) : NF σ' n := by
  intro i hi h0 t t1 t2 t3
  rw [hb i hi 4 (by omega), hb i hi 5 (by omega)] at t2 t3
  rw [hb i hi 1 (by omega), hb i hi 2 (by omega), hb i hi 3 (by omega)]
  exact hit_e hb (h i hi ((hb i hi 7 (by omega)).symm.trans h0) t (by omega) t2 t3)
theorem Wf_B {σ : Nat → Int32} {n m S : Nat} {B B' : Int} (h : Wf σ n m S B) (hB : B ≤ B' ∧ B' ≤ 1000000) : Wf σ n m S B' := by
  obtain ⟨a, hSp, hSt, hRg, hOw, hTm, hNC⟩ := h
  exact ⟨a, hSp, hSt, hRg, hOw, ⟨fun j hj hl => by have := hTm.1 j hj hl; omega, hB.2⟩, hNC⟩
/-- cells that ticks of the reference leave -/
def FMt (v v' : V3) : Prop := (∀ c, c ≠ 7 → c ≠ 8 → c ≠ 17 → v' c = v c) ∧ (∀ j, j < 23 ∨ 27 < j → v' 7 j = v 7 j)
theorem FMt_r (v : V3) : FMt v v := ⟨fun _ _ _ _ => rfl, fun _ _ => rfl⟩
theorem FMt_t {v v' v'' : V3} (h : FMt v v') (h' : FMt v' v'') : FMt v v'' := ⟨fun c a b d => (h'.1 c a b d).trans (h.1 c a b d), fun j hj => (h'.2 j hj).trans (h.2 j hj)⟩
theorem FMt_8 {v v' : V3} (h : FMt v v') {k : Nat} {x : Int32} : FMt v (up2 v' 8 k x) := ⟨fun c a b d => by rw [up2_off _ _ _ b]; exact h.1 c a b d, fun j hj => by rw [up2_off _ _ _ (by decide)]; exact h.2 j hj⟩
theorem FMt_7 {v v' : V3} (h : FMt v v') {k : Nat} {x : Int32} (hk : 23 ≤ k ∧ k ≤ 27) : FMt v (up2 v' 7 k x) := ⟨fun c a b d => by rw [up2_off _ _ _ a]; exact h.1 c a b d, fun j hj => by rw [up2_row, pk_un (by omega)]; exact h.2 j hj⟩
/-- the counts of the reference -/
def MT (v : V3) (τ : Nat → Int32) : Prop := v 7 25 = τ 0 ∧ v 7 26 = τ 1 ∧ v 7 24 = τ 2 ∧ v 7 27 = τ 3
section TM
variable {v : V3} {n m S : Nat} {B : Int}
theorem uM_end {i f : Nat} {s : Int32} {P : V3 → Prop} (hO : Ow (v 8) n m) (hm : m ≤ 8) (hn : n ≤ 40) (hi : i < n) (hf : f < 8) (hP : ∀ v', v' 8 = endS (v 8) i s f → (∀ c, c ≠ 8 → v' c = v c) → P v') : w_X4_put (nI i) 7 s v (fun v8 => w_X4_of (nI i) 0 v8 (fun r v9 => w_X4_grow r (nI f) 1 v9 P)) := by
  have hi4 : i < 40 := by omega
  have o := own_of hO hm hi
  rw [show (7 : Int32) = nI 7 from rfl, uM_put hi4 (by omega), uM_of0 hi4, up2_8]
  have e0 : bf (upd (v 8) (74 + 10 * i + 7) s) i 0 = bf (v 8) i 0 := (bf_put (f := 7) (by omega) (by omega)).trans (if_neg (by omega))
  rw [e0, o.2, uM_grow (by omega) hf, up2_8]
  refine hP _ ?_ (fun c hc => by rw [up2_off _ _ _ hc, up2_off _ _ _ hc])
  rw [up2_8, up2_8]
  have e1 : og (upd (v 8) (74 + 10 * i + 7) s) (ownI (v 8) i) f = og (v 8) (ownI (v 8) i) f := og_put (f := 7) (by omega) hf
  rw [e1]
  rfl
theorem uM_endHeld (hW : Wf (v 8) n m S B) {Q : V3 → Prop} (hQ : ∀ v', v' 8 = (endF finC 3 1 n (v 8) (v 7 27)).1 → v' 7 27 = (endF finC 3 1 n (v 8) (v 7 27)).2 → (∀ c, c ≠ 7 → c ≠ 8 → v' c = v c) → (∀ j, j ≠ 27 → v' 7 j = v 7 j) → Q v') : w_X4_endHeld v Q := by
  have hn := hW.n40
  have hm := hW.m8
  refine loop_st (W := fun r (a : (Nat → Int32) × Int32) i v => w_X4_endHeld_2 Q r (nI i) v) (s := endStep finC 3 1) (n := n) (a0 := (v 8, v 7 27)) (I := fun a i v' => Wf a.1 n m S B ∧ v' 8 = a.1 ∧ v' 7 27 = a.2 ∧ (∀ c, c ≠ 7 → c ≠ 8 → v' c = v c) ∧ (∀ j, j ≠ 27 → v' 7 j = v 7 j)) ?_ ?_ ⟨hW, rfl, rfl, fun _ _ _ => rfl, fun _ _ => rfl⟩
  · intro r v' h
    rw [w_X4_endHeld_2, show v' 8 6 = nI n by rw [h.2.1]; exact h.1.cn.2.2.1]
    exact br_t Int32.le_rfl (hQ v' h.2.1 h.2.2.1 h.2.2.2.1 h.2.2.2.2)
  · intro r a i v' hi h ih
    obtain ⟨hW', h8, h27, hc, h7⟩ := h
    have hi4 : i < 40 := by omega
    have h6 : v' 8 6 = nI n := by rw [h8]; exact hW'.cn.2.2.1
    rw [w_X4_endHeld_2, h6]
    refine br_f (nx_le hi hn) ?_
    rw [uM_of7 hi4, uM_of9 hi4, h8]
    have skip : ¬ finC a.1 i = true → w_X4_endHeld_2 Q r (nI i + 1) v' := fun hz => by
      have e : endStep finC 3 1 a i = a := if_neg hz
      rw [e, nI_succ] at ih
      exact ih v' ⟨hW', h8, h27, hc, h7⟩
    refine ⟨fun h2 => skip (by simp only [finC, decide_eq_true_eq]; exact fun q => h2 q.1), fun h2 => br_c (fun h9 => skip (by simp only [finC, decide_eq_true_eq]; exact fun q => q.2 h9)) (fun h9 => ?_)⟩
    have hz : finC a.1 i = true := by simp only [finC, decide_eq_true_eq]; exact ⟨h2, h9⟩
    have e : endStep finC 3 1 a i = (endS a.1 i 3 1, a.2 + 1) := if_pos hz
    rw [e, nI_succ] at ih
    refine uM_end (f := 1) (by rw [h8]; exact hW'.ow) hm hn hi (by omega) (fun v2 e8 ec => nm_e ?_)
    rw [h8] at e8
    have e7 := ec 7 (by decide)
    exact ih _ ⟨Ch_wf0 hW' (end_ch hW'.ow hm hi (by omega)) ⟨3, by omega, end_7 hW'.ow hm hi (by omega)⟩ (by unfold lvB; rw [end_7 hW'.ow hm hi (by omega)]; decide), by rw [up2_off _ _ _ (by decide)]; exact e8, by rw [up2_row, pk_us, e7, h27], fun c c1 c2 => by rw [up2_off _ _ _ c1, ec c c2]; exact hc c c1 c2, fun j hj => by rw [up2_row, pk_un hj, e7]; exact h7 j hj⟩
theorem uM_bumpLate (hW : Wf (v 8) n m S B) {Q : V3 → Prop} (hQ : ∀ v', v' 8 = (endF bmpC 5 2 n (v 8) (v 7 25)).1 → v' 7 25 = (endF bmpC 5 2 n (v 8) (v 7 25)).2 → (∀ c, c ≠ 7 → c ≠ 8 → v' c = v c) → (∀ j, j ≠ 25 → v' 7 j = v 7 j) → Q v') : w_X4_bumpLate v Q := by
  have hn := hW.n40
  have hm := hW.m8
  refine loop_st (W := fun r (a : (Nat → Int32) × Int32) i v => w_X4_bumpLate_2 Q r (nI i) v) (s := endStep bmpC 5 2) (n := n) (a0 := (v 8, v 7 25)) (I := fun a i v' => Wf a.1 n m S B ∧ v' 8 = a.1 ∧ v' 7 25 = a.2 ∧ (∀ c, c ≠ 7 → c ≠ 8 → v' c = v c) ∧ (∀ j, j ≠ 25 → v' 7 j = v 7 j)) ?_ ?_ ⟨hW, rfl, rfl, fun _ _ _ => rfl, fun _ _ => rfl⟩
  · intro r v' h
    rw [w_X4_bumpLate_2, show v' 8 6 = nI n by rw [h.2.1]; exact h.1.cn.2.2.1]
    exact br_t Int32.le_rfl (hQ v' h.2.1 h.2.2.1 h.2.2.2.1 h.2.2.2.2)
  · intro r a i v' hi h ih
    obtain ⟨hW', h8, h27, hc, h7⟩ := h
    have hi4 : i < 40 := by omega
    have h6 : v' 8 6 = nI n := by rw [h8]; exact hW'.cn.2.2.1
    rw [w_X4_bumpLate_2, h6]
    refine br_f (nx_le hi hn) ?_
    rw [uM_of7 hi4, uM_of8 hi4, h8]
    have skip : ¬ bmpC a.1 i = true → w_X4_bumpLate_2 Q r (nI i + 1) v' := fun hz => by
      have e : endStep bmpC 5 2 a i = a := if_neg hz
      rw [e, nI_succ] at ih
      exact ih v' ⟨hW', h8, h27, hc, h7⟩
    refine ⟨fun h2 => skip (by simp only [bmpC, decide_eq_true_eq]; exact fun q => h2 q.1), fun h2 => br_c (fun h9 => skip (by simp only [bmpC, decide_eq_true_eq]; exact fun q => q.2 h9)) (fun h9 => ?_)⟩
    have hz : bmpC a.1 i = true := by simp only [bmpC, decide_eq_true_eq]; exact ⟨h2, h9⟩
    have e : endStep bmpC 5 2 a i = (endS a.1 i 5 2, a.2 + 1) := if_pos hz
    rw [e, nI_succ] at ih
    refine uM_end (f := 2) (by rw [h8]; exact hW'.ow) hm hn hi (by omega) (fun v2 e8 ec => nm_e ?_)
    rw [h8] at e8
    have e7 := ec 7 (by decide)
    exact ih _ ⟨Ch_wf0 hW' (end_ch hW'.ow hm hi (by omega)) ⟨5, by omega, end_7 hW'.ow hm hi (by omega)⟩ (by unfold lvB; rw [end_7 hW'.ow hm hi (by omega)]; decide), by rw [up2_off _ _ _ (by decide)]; exact e8, by rw [up2_row, pk_us, e7, h27], fun c c1 c2 => by rw [up2_off _ _ _ c1, ec c c2]; exact hc c c1 c2, fun j hj => by rw [up2_row, pk_un hj, e7]; exact h7 j hj⟩
theorem uM_expire (hW : Wf (v 8) n m S B) {Q : V3 → Prop} (hQ : ∀ v', v' 8 = (endF expC 6 5 n (v 8) (v 7 26)).1 → v' 7 26 = (endF expC 6 5 n (v 8) (v 7 26)).2 → (∀ c, c ≠ 7 → c ≠ 8 → v' c = v c) → (∀ j, j ≠ 26 → v' 7 j = v 7 j) → Q v') : w_X4_expire v Q := by
  have hn := hW.n40
  have hm := hW.m8
  refine loop_st (W := fun r (a : (Nat → Int32) × Int32) i v => w_X4_expire_2 Q r (nI i) v) (s := endStep expC 6 5) (n := n) (a0 := (v 8, v 7 26)) (I := fun a i v' => Wf a.1 n m S B ∧ v' 8 = a.1 ∧ v' 7 26 = a.2 ∧ (∀ c, c ≠ 7 → c ≠ 8 → v' c = v c) ∧ (∀ j, j ≠ 26 → v' 7 j = v 7 j)) ?_ ?_ ⟨hW, rfl, rfl, fun _ _ _ => rfl, fun _ _ => rfl⟩
  · intro r v' h
    rw [w_X4_expire_2, show v' 8 6 = nI n by rw [h.2.1]; exact h.1.cn.2.2.1]
    exact br_t Int32.le_rfl (hQ v' h.2.1 h.2.2.1 h.2.2.2.1 h.2.2.2.2)
  · intro r a i v' hi h ih
    obtain ⟨hW', h8, h27, hc, h7⟩ := h
    have hi4 : i < 40 := by omega
    have h6 : v' 8 6 = nI n := by rw [h8]; exact hW'.cn.2.2.1
    rw [w_X4_expire_2, h6]
    refine br_f (nx_le hi hn) ?_
    rw [uM_of7 hi4, uM_of4 hi4, uM_of5 hi4, h8]
    have skip : ¬ expC a.1 i = true → w_X4_expire_2 Q r (nI i + 1) v' := fun hz => by
      have e : endStep expC 6 5 a i = a := if_neg hz
      rw [e, nI_succ] at ih
      exact ih v' ⟨hW', h8, h27, hc, h7⟩
    refine ⟨fun h2 => skip (by simp only [expC, decide_eq_true_eq]; exact fun q => h2 q.1), fun h2 => br_c (fun h9 => skip (by simp only [expC, decide_eq_true_eq]; exact fun q => q.2 h9)) (fun h9 => ?_)⟩
    have hz : expC a.1 i = true := by simp only [expC, decide_eq_true_eq]; exact ⟨h2, h9⟩
    have e : endStep expC 6 5 a i = (endS a.1 i 6 5, a.2 + 1) := if_pos hz
    rw [e, nI_succ] at ih
    refine uM_end (f := 5) (by rw [h8]; exact hW'.ow) hm hn hi (by omega) (fun v2 e8 ec => nm_e ?_)
    rw [h8] at e8
    have e7 := ec 7 (by decide)
    exact ih _ ⟨Ch_wf0 hW' (end_ch hW'.ow hm hi (by omega)) ⟨6, by omega, end_7 hW'.ow hm hi (by omega)⟩ (by unfold lvB; rw [end_7 hW'.ow hm hi (by omega)]; decide), by rw [up2_off _ _ _ (by decide)]; exact e8, by rw [up2_row, pk_us, e7, h27], fun c c1 c2 => by rw [up2_off _ _ _ c1, ec c c2]; exact hc c c1 c2, fun j hj => by rw [up2_row, pk_un hj, e7]; exact h7 j hj⟩
theorem uM_tick {τ : Nat → Int32} (hT : MT v τ) (hW : Wf (v 8) n m S B) (hB : 10300 ≤ B) (ht : (v 8 7).toInt ≤ 20199) {Q : V3 → Prop} (hQ : ∀ v', v' 8 = (tickS n (v 8, τ)).1 → MT v' (tickS n (v 8, τ)).2 → FMt v v' → Q v') : w_X4_passTick v Q := by
  have t0 := hW.t0
  have w1 := time_wf hW (t := v 8 7 + 1) (by rw [sec_I ht t0.1]; omega)
  refine nm_e ?_
  have e8 : (up2 v 8 7 (v 8 7 + 1)) 8 = upd (v 8) 7 (v 8 7 + 1) := up2_8
  obtain ⟨T0, T1, T2, T3⟩ := hT
  refine uM_endHeld (n := n) (m := m) (S := S) (B := B) (by rw [e8]; exact w1) (fun v2 a8 a27 ac a7 => ?_)
  rw [e8, up2_off _ _ _ (by decide), T3] at a8 a27
  have f := endF_inv (cond := finC) (s := 3) (f := 1) w1 (by omega) (.inl rfl) (τ 3)
  refine uM_bumpLate (n := n) (m := m) (S := S) (B := B) (by rw [a8]; exact f.1) (fun v3 b8 b25 bc b7 => ?_)
  have q25 : v2 7 25 = τ 0 := by rw [a7 25 (by decide), up2_off _ _ _ (by decide)]; exact T0
  rw [a8, q25] at b8 b25
  have g := endF_inv (cond := bmpC) (s := 5) (f := 2) f.1 (by omega) (.inr (.inl rfl)) (τ 0)
  refine uM_expire (n := n) (m := m) (S := S) (B := B) (by rw [b8]; exact g.1) (fun v4 c8 c26 cc c7 => ?_)
  have q26 : v3 7 26 = τ 1 := by rw [b7 26 (by decide), a7 26 (by decide), up2_off _ _ _ (by decide)]; exact T1
  rw [b8, q26] at c8 c26
  have h := endF_inv (cond := expC) (s := 6) (f := 5) g.1 (by omega) (.inr (.inr rfl)) (τ 1)
  refine uM_placeAll (n := n) (m := m) (S := S) (B := B) (by rw [c8]; exact h.1) hB (fun v5 d8 d24 dc d7 => ?_)
  have q24 : v4 7 24 = τ 2 := by rw [c7 24 (by decide), b7 24 (by decide), a7 24 (by decide), up2_off _ _ _ (by decide)]; exact T2
  rw [c8, q24] at d8 d24
  refine hQ v5 d8 ⟨?_, ?_, d24, ?_⟩ ⟨fun c k1 k2 k3 => ?_, fun j hj => ?_⟩
  · rw [d7 25 (by decide) (by decide), c7 25 (by decide)]; exact b25
  · rw [d7 26 (by decide) (by decide)]; exact c26
  · rw [d7 27 (by decide) (by decide), c7 27 (by decide), b7 27 (by decide)]; exact a27
  · rw [dc c k1 k2 k3, cc c k1 k2, bc c k1 k2, ac c k1 k2, up2_off _ _ _ k2]
  · rw [d7 j (by omega) (by omega), c7 j (by omega), b7 j (by omega), a7 j (by omega), up2_off _ _ _ (by decide)]
end TM
/-- many ticks -/
def tkN (n k : Nat) (a : (Nat → Int32) × (Nat → Int32)) : (Nat → Int32) × (Nat → Int32) := foldN (fun a _ => tickS n a) k 0 a
theorem tk_step {n m S : Nat} {B t : Int} {a : (Nat → Int32) × (Nat → Int32)} (hB : 10300 ≤ B) (ht : t ≤ 20199) (h : Wf a.1 n m S B ∧ NF a.1 n ∧ (a.1 7).toInt = t) : Wf (tickS n a).1 n m S B ∧ NF (tickS n a).1 n ∧ ((tickS n a).1 7).toInt = t + 1 := by
  obtain ⟨h1, h2, h3⟩ := h
  have g := tick_wf h1 hB (by omega)
  refine ⟨g.1, g.2.1, ?_⟩
  rw [g.2.2, sec_I (by omega) h1.t0.1]
  omega
theorem tkN_inv {n m S k : Nat} {B t : Int} {a : (Nat → Int32) × (Nat → Int32)} (hB : 10300 ≤ B) (ht : t + k ≤ 20200) (h : Wf a.1 n m S B ∧ NF a.1 n ∧ (a.1 7).toInt = t) : Wf (tkN n k a).1 n m S B ∧ NF (tkN n k a).1 n ∧ ((tkN n k a).1 7).toInt = t + k := by
  refine foldN_inv (P := fun i (a : (Nat → Int32) × (Nat → Int32)) => Wf a.1 n m S B ∧ NF a.1 n ∧ (a.1 7).toInt = t + i) ⟨h.1, h.2.1, by omega⟩ (fun i a hi hp => ?_)
  have := tk_step (t := t + i) hB (by omega) hp
  exact ⟨this.1, this.2.1, by omega⟩
section TK
variable {v : V3} {b n m S K : Nat} {B : Int} {σ : Nat → Int32}
theorem uC_clearT (hL : LA v b σ n m) (hn : n ≤ 40) (hm : m ≤ 8) {Q : V3 → Prop} (hQ : ∀ v', LA v' b σ n m → TL v' b (fun _ => 0) → Fr b v v' → Q v') : w_X1_clearTally b v Q := by
  refine loop_0 (W := fun r i v => w_X1_clearTally_2 b Q r (nI i) v) (I := fun i v' => LA v' b σ n m ∧ (∀ k, k < i → v' (b + 4) k = 0) ∧ Fr b v v') 4 v ⟨hL, fun k hk => absurd hk (Nat.not_lt_zero k), Fr_r b v⟩ ?_ ?_
  · intro r v' h
    rw [w_X1_clearTally_2]
    exact br_t (by decide) (hQ v' h.1 h.2.1 h.2.2)
  · intro r i v' hi h ih
    rw [w_X1_clearTally_2]
    refine br_f (nI_ge (b := 4) hi (by omega)) ⟨vp_in_nI hi (by decide), nm_e ?_⟩
    rw [show ix (nI i) = i from nI_clamp (by omega)]
    rw [nI_succ] at ih
    refine ih _ ⟨LA_x h.1 hn hm (by omega), fun k hk => ?_, Fr_u h.2.2 (by omega) (by omega)⟩
    rw [up2_row]
    by_cases e : k = i
    · subst e; exact pk_us
    · rw [pk_un e]; exact h.2.1 k (by omega)
theorem uC_ticks (hL : LA v b σ n m) (hW : Wf σ n m S B) (hN : NF σ n) (hB : 10300 ≤ B) (ht : (σ 7).toInt + K ≤ 20200) (hK : K ≤ 1000) {x : Nat} (hx : x < 4) {Q : Int32 → V3 → Prop} (hQ : ∀ v', LA v' b (tkN n K (σ, fun _ => 0)).1 n m → Fr b v v' → Q ((tkN n K (σ, fun _ => 0)).2 x) v') : w_X3_tallyOf b (nI K) (nI x) v Q := by
  refine uC_clearT hL hW.n40 hW.m8 (fun v1 hL1 hT1 hF1 => ?_)
  refine loop_st (W := fun r (a : (Nat → Int32) × (Nat → Int32)) i v => w_X3_tallyOf_6 b Q r (nI K) (nI x) (nI i) v) (s := fun a _ => tickS n a) (n := K) (a0 := (σ, fun _ => 0)) (I := fun a i v' => (Wf a.1 n m S B ∧ NF a.1 n ∧ (a.1 7).toInt = (σ 7).toInt + i) ∧ LA v' b a.1 n m ∧ TL v' b a.2 ∧ Fr b v v') ?_ ?_ ⟨⟨hW, hN, by show (σ 7).toInt = _; omega⟩, hL1, hT1, hF1⟩
  · intro r v' h
    rw [w_X3_tallyOf_6]
    refine br_t Int32.le_rfl ⟨vp_in_nI hx (by decide), ?_⟩
    rw [show ix (nI x) = x from nI_clamp (by omega), h.2.2.1 x hx]
    exact hQ v' h.2.1 h.2.2.2
  · intro r a i v' hi h ih
    rw [w_X3_tallyOf_6]
    refine br_f (nI_ge hi (by omega)) ?_
    have p := tk_step (t := (σ 7).toInt + i) hB (by omega) h.1
    rw [nI_succ] at ih
    refine uC_tick (σ := a.1) (τ := a.2) h.2.1 h.2.2.1 h.1.1 h.1.2.1 hB (by have := h.1.2.2; omega) (fun v2 q1 q2 q3 => ih v2 ⟨⟨p.1, p.2.1, by have := p.2.2; omega⟩, q1, q2, Fr_t h.2.2.2 q3⟩)
theorem uM_ticks (hW : Wf (v 8) n m S B) (hN : NF (v 8) n) (hB : 10300 ≤ B) (ht : (v 8 7).toInt + K ≤ 20200) (hK : K ≤ 1000) {Q : V3 → Prop} (hQ : ∀ v', v' 8 = (tkN n K (v 8, fun _ => 0)).1 → MT v' (tkN n K (v 8, fun _ => 0)).2 → FMt v v' → Q v') : w_X4_passTicks (nI K) v Q := by
  refine nm_e (nm_e (nm_e (nm_e ?_)))
  refine loop_st (W := fun r (a : (Nat → Int32) × (Nat → Int32)) i v => w_X4_passTicks_22 Q r (nI K) (nI i) v) (s := fun a _ => tickS n a) (n := K) (a0 := (v 8, fun _ => 0)) (I := fun a i v' => (Wf a.1 n m S B ∧ NF a.1 n ∧ (a.1 7).toInt = (v 8 7).toInt + i) ∧ v' 8 = a.1 ∧ MT v' a.2 ∧ FMt v v') ?_ ?_ ⟨⟨hW, hN, by show (v 8 7).toInt = _; omega⟩, rfl, ⟨rfl, rfl, rfl, rfl⟩, FMt_7 (FMt_7 (FMt_7 (FMt_7 (FMt_r v) (by decide)) (by decide)) (by decide)) (by decide)⟩
  · intro r v' h
    rw [w_X4_passTicks_22]
    exact br_t Int32.le_rfl (hQ v' h.2.1 h.2.2.1 h.2.2.2)
  · intro r a i v' hi h ih
    rw [w_X4_passTicks_22]
    refine br_f (nI_ge hi (by omega)) ?_
    have p := tk_step (t := (v 8 7).toInt + i) hB (by omega) h.1
    rw [nI_succ] at ih
    have e8 := h.2.1
    refine uM_tick (n := n) (m := m) (S := S) (B := B) h.2.2.1 (by rw [e8]; exact h.1.1) hB (by rw [e8]; have := h.1.2.2; omega) (fun v2 q1 q2 q3 => ?_)
    rw [e8] at q1 q2
    exact ih v2 ⟨⟨p.1, p.2.1, by have := p.2.2; omega⟩, q1, q2, FMt_t h.2.2.2 q3⟩
/-- copies of a ledger -/
theorem uC_copy {b' : Nat} (hL : LA v b' σ n m) (hn : n ≤ 40) (hm : m ≤ 8) (hd : b + 54 ≤ b' ∨ b' + 54 ≤ b) {Q : V3 → Prop} (hQ : ∀ v', LA v' b σ n m → Fr b v v' → Q v') : w_X1_copyFrom b b' v Q := by
  refine nm_e (nm_e (nm_e (nm_e (nm_e (nm_e (nm_e ?_))))))
  have hne : b' ≠ b := by omega
  have ho : ∀ (w : V3) (j : Nat) (x : Int32), up2 w b j x b' = w b' := fun w j x => up2_off w j x hne
  simp only [ho, hL.sz, hL.tm, hL.m7, hL.n8, hL.1.2.2.2.2.2.1, hL.1.2.2.2.2.2.2]
  generalize hv1 : up2 (up2 (up2 (up2 (up2 (up2 v b 5 (σ 4)) b 6 (σ 7)) b 7 (nI m)) b 8 (nI n)) b 9 (σ 8)) b 10 (σ 9) = v1
  have o1 : ∀ c, c ≠ b → v1 c = v c := fun c hc => by
    rw [← hv1, up2_off _ _ _ hc, up2_off _ _ _ hc, up2_off _ _ _ hc, up2_off _ _ _ hc, up2_off _ _ _ hc, up2_off _ _ _ hc]
  have s1 : v1 b 5 = σ 4 ∧ v1 b 6 = σ 7 ∧ v1 b 7 = nI m ∧ v1 b 8 = nI n ∧ v1 b 9 = σ 8 ∧ v1 b 10 = σ 9 := by
    rw [← hv1, up2_row, up2_row, up2_row, up2_row, up2_row, up2_row]
    exact ⟨rfl, rfl, rfl, rfl, rfl, rfl⟩
  generalize hv2 : cp2 v1 (b' + 1) (b + 1) 4 = v2
  have o2 : ∀ c, c ≠ b + 1 → v2 c = v1 c := fun c hc => by rw [← hv2, cp2_off _ hc]
  have s2 : ∀ j, j < 4 → v2 (b + 1) j = σ j := fun j hj => by
    rw [← hv2, cp2_row]
    show (if j < 4 then v1 (b' + 1) j else _) = _
    rw [if_pos hj, o1 _ (by omega)]
    exact hL.st hj
  have src : ∀ v' : V3, Fr b v v' → LA v' b' σ n m := fun v' h => LA_fr hL hn hm h (by omega)
  refine loop_0 (W := fun r i v => w_X1_copyFrom_64 b b' Q r (nI i) v) (I := fun i v' => Fr b v v' ∧ v' b = v2 b ∧ v' (b + 1) = v2 (b + 1) ∧ (∀ o, o < i → ∀ f, f < 8 → v' (b + 6 + o) f = og σ o f)) m v2 ⟨fun c hc => by rw [o2 c (by omega), o1 c (by omega)], rfl, rfl, fun o ho => absurd ho (Nat.not_lt_zero o)⟩ ?_ ?_
  · intro r v' h
    have e7 : v' b 7 = nI m := by rw [h.2.1, o2 _ (by omega)]; exact s1.2.2.1
    rw [w_X1_copyFrom_64, e7]
    refine br_t Int32.le_rfl ?_
    refine loop_0 (W := fun r i v => w_X1_copyFrom_99 b b' Q r (nI i) v) (I := fun i v' => Fr b v v' ∧ v' b = v2 b ∧ v' (b + 1) = v2 (b + 1) ∧ (∀ o, o < m → ∀ f, f < 8 → v' (b + 6 + o) f = og σ o f) ∧ (∀ j, j < i → ∀ f, f < 10 → v' (b + 14 + j) f = bf σ j f)) n v' ⟨h.1, h.2.1, h.2.2.1, h.2.2.2, fun o ho => absurd ho (Nat.not_lt_zero o)⟩ ?_ ?_
    · intro r v3 h3
      have e8 : v3 b 8 = nI n := by rw [h3.2.1, o2 _ (by omega)]; exact s1.2.2.2.1
      rw [w_X1_copyFrom_99, e8]
      refine br_t Int32.le_rfl (hQ v3 ⟨⟨fun j hj => ?_, ?_, ?_, ?_, e8, ?_, ?_⟩, h3.2.2.2.1, h3.2.2.2.2⟩ h3.1)
      · rw [h3.2.2.1]; exact s2 j hj
      · rw [h3.2.1, o2 _ (by omega)]; exact s1.1
      · rw [h3.2.1, o2 _ (by omega)]; exact s1.2.1
      · rw [h3.2.1, o2 _ (by omega)]; exact s1.2.2.1
      · rw [h3.2.1, o2 _ (by omega)]; exact s1.2.2.2.2.1
      · rw [h3.2.1, o2 _ (by omega)]; exact s1.2.2.2.2.2
    · intro r i v3 hi h3 ih
      have e8 : v3 b 8 = nI n := by rw [h3.2.1, o2 _ (by omega)]; exact s1.2.2.2.1
      rw [w_X1_copyFrom_99, e8]
      refine br_f (nI_ge hi (by omega)) ⟨nx_in hi hn, nx_in hi hn, nm_e ?_⟩
      rw [nx_ix hi hn]
      rw [nI_succ] at ih
      refine ih _ ⟨fun c hc => ?_, ?_, ?_, fun o ho f hf => ?_, fun j hj f hf => ?_⟩
      · rw [cp2_off _ (by omega)]; exact h3.1 c hc
      · rw [cp2_off _ (by omega)]; exact h3.2.1
      · rw [cp2_off _ (by omega)]; exact h3.2.2.1
      · rw [cp2_off _ (by omega)]; exact h3.2.2.2.1 o ho f hf
      · by_cases e : j = i
        · subst e
          rw [cp2_row]
          show (if f < 10 then v3 (b' + 14 + j) f else _) = _
          rw [if_pos hf]
          exact (src v3 h3.1).bk hi f hf
        · rw [cp2_off _ (by omega)]; exact h3.2.2.2.2 j (by omega) f hf
  · intro r i v3 hi h3 ih
    have e7 : v3 b 7 = nI m := by rw [h3.2.1, o2 _ (by omega)]; exact s1.2.2.1
    rw [w_X1_copyFrom_64, e7]
    refine br_f (nI_ge hi (by omega)) ⟨vp_in_nI (by omega) (by decide), vp_in_nI (by omega) (by decide), nm_e ?_⟩
    rw [show ix (nI i) = i from nI_clamp (by omega)]
    rw [nI_succ] at ih
    refine ih _ ⟨fun c hc => ?_, ?_, ?_, fun o ho f hf => ?_⟩
    · rw [cp2_off _ (by omega)]; exact h3.1 c hc
    · rw [cp2_off _ (by omega)]; exact h3.2.1
    · rw [cp2_off _ (by omega)]; exact h3.2.2.1
    · by_cases e : o = i
      · subst e
        rw [cp2_row]
        show (if f < 8 then v3 (b' + 6 + o) f else _) = _
        rw [if_pos hf]
        exact (src v3 h3.1).ow hi f hf
      · rw [cp2_off _ (by omega)]; exact h3.2.2.2 o (by omega) f hf
/-- copies of a flat state -/
theorem uM_copy {c1 c2 N1 N2 d1 d2 : Nat} (hne : c1 ≠ c2) (h1 : d1 + 474 ≤ N1) (h2 : d2 + 474 ≤ N2) (hN : N1 ≤ 1000 ∧ N2 ≤ 1000) {Q : V3 → Prop} (hQ : ∀ v', (∀ k, k < 474 → v' c2 (d2 + k) = v c1 (d1 + k)) → (∀ k, k < d2 ∨ d2 + 474 ≤ k → v' c2 k = v c2 k) → (∀ c, c ≠ c2 → v' c = v c) → Q v') : w_X4_copy c1 N1 (nI d1) c2 N2 (nI d2) v Q := by
  refine loop_0 (W := fun r i v => w_X4_copy_3 c1 N1 c2 N2 Q r (nI d1) (nI d2) (nI i) v) (I := fun i v' => (∀ k, k < i → v' c2 (d2 + k) = v c1 (d1 + k)) ∧ (∀ k, k < d2 ∨ d2 + 474 ≤ k → v' c2 k = v c2 k) ∧ (∀ c, c ≠ c2 → v' c = v c)) 474 v ⟨fun k hk => absurd hk (Nat.not_lt_zero k), fun _ _ => rfl, fun _ _ => rfl⟩ ?_ ?_
  · intro r v' h
    rw [w_X4_copy_3]
    exact br_t (by decide) (hQ v' h.1 h.2.1 h.2.2)
  · intro r i v' hi h ih
    rw [w_X4_copy_3, nI_add, nI_add]
    refine br_f (nI_ge (b := 474) hi (by omega)) ⟨vp_in_nI (by omega) (by omega), vp_in_nI (by omega) (by omega), nm_e ?_⟩
    rw [show ix (nI (d1 + i)) = d1 + i from nI_clamp (by omega), show ix (nI (d2 + i)) = d2 + i from nI_clamp (by omega)]
    rw [nI_succ] at ih
    refine ih _ ⟨fun k hk => ?_, fun k hk => ?_, fun c hc => ?_⟩
    · rw [up2_row]
      by_cases e : k = i
      · subst e; rw [pk_us, h.2.2 c1 hne]
      · rw [pk_un (by omega)]; exact h.1 k (by omega)
    · rw [up2_row, pk_un (by omega)]; exact h.2.1 k hk
    · rw [up2_off _ _ _ hc]; exact h.2.2 c hc
end TK
