/-! PURE LEVEL 9: ticks of the reference, many ticks, copies -/
theorem Wf_e {σ σ' : Nat → Int32} {n m S : Nat} {B : Int} (h : Wf σ n m S B) (hk : ∀ k, k < 8 → σ' k = σ k) (hb : ∀ j, j < n → ∀ f, f < 10 → bf σ' j f = bf σ j f) : Wf σ' n m S B := by
  obtain ⟨⟨hC, h4, h7, hg⟩, hSp, hSt, hRg, hOw, hTm, hNC⟩ := h
  refine ⟨⟨⟨(hk 5 (by omega)).trans hC.1, hC.2.1, (hk 6 (by omega)).trans hC.2.2.1, hC.2.2.2⟩, (hk 4 (by omega)).trans h4, ?_, ?_⟩, ⟨fun j hj => ?_, hSp.2⟩, fun j hj => ?_, fun j hj => ?_, fun j hj => ?_, ⟨fun j hj hlj => ?_, hTm.2⟩, fun j k hj hkn hne l1 l2 => ?_⟩
  · rw [hk 7 (by omega)]; exact h7
  · unfold Sg; rw [hk 0 (by omega), hk 1 (by omega), hk 2 (by omega), hk 3 (by omega)]; exact hg
  · rw [hb j hj 1 (by omega), hb j hj 2 (by omega)]; exact hSp.1 j hj
  · rw [hb j hj 7 (by omega)]; exact hSt j hj
  · unfold Rg; rw [hb j hj 3 (by omega), hb j hj 4 (by omega), hb j hj 5 (by omega)]; exact hRg j hj
  · rw [hb j hj 0 (by omega)]; exact hOw j hj
  · rw [hb j hj 8 (by omega), hb j hj 9 (by omega)]; exact hTm.1 j hj ((lv_of (hb j hj 7 (by omega))).symm.trans hlj)
  · rw [hb j hj 1 (by omega), hb j hj 2 (by omega), hb j hj 8 (by omega), hb j hj 9 (by omega), hb k hkn 1 (by omega), hb k hkn 2 (by omega), hb k hkn 8 (by omega), hb k hkn 9 (by omega)]
    exact hNC j k hj hkn hne ((lv_of (hb j hj 7 (by omega))).symm.trans l1) ((lv_of (hb k hkn 7 (by omega))).symm.trans l2)
theorem hit_e {σ σ' : Nat → Int32} {n : Nat} {x1 x2 : Int32} {D t : Int} (hb : ∀ j, j < n → ∀ f, f < 10 → bf σ' j f = bf σ j f) (h : hitI σ n x1 x2 D t) : hitI σ' n x1 x2 D t := by
  obtain ⟨j, hj, a, s, c, d⟩ := h
  refine ⟨j, hj, (lv_of (hb j hj 7 (by omega))).trans a, ?_, ?_, ?_⟩
  · unfold spB; rw [hb j hj 1 (by omega), hb j hj 2 (by omega)]; exact s
  · rw [hb j hj 8 (by omega)]; exact c
  · rw [hb j hj 9 (by omega)]; exact d
theorem NF_e {σ σ' : Nat → Int32} {n : Nat} (h : NF σ n) (h7 : (σ 7).toInt ≤ (σ' 7).toInt) (hb : ∀ j, j < n → ∀ f, f < 10 → bf σ' j f = bf σ j f) : NF σ' n := by
  intro i hi h0 t t1 t2 t3
  rw [hb i hi 4 (by omega), hb i hi 5 (by omega)] at t2 t3
  rw [hb i hi 1 (by omega), hb i hi 2 (by omega), hb i hi 3 (by omega)]
  exact hit_e hb (h i hi ((hb i hi 7 (by omega)).symm.trans h0) t (by omega) t2 t3)
theorem Wf_B {σ : Nat → Int32} {n m S : Nat} {B B' : Int} (h : Wf σ n m S B) (hB : B ≤ B' ∧ B' ≤ 1000000) : Wf σ n m S B' := by
  obtain ⟨a, hSp, hSt, hRg, hOw, hTm, hNC⟩ := h
  exact ⟨a, hSp, hSt, hRg, hOw, ⟨fun j hj hl => by have := hTm.1 j hj hl; omega, hB.2⟩, hNC⟩
/-- cells that ticks of the reference leave -/
def FMt (v v' : V3) : Prop := (∀ c, c ≠ 7 → c ≠ 8 → c ≠ 17 → v' c = v c) ∧ (∀ j, j < 23 ∨ 27 < j → v' 7 j = v 7 j)
theorem FMt_r (v : V3) : FMt v v := ⟨fun _ _ _ _ => rfl, fun _ _ => rfl⟩
theorem FMt_t {v v' v'' : V3} (h : FMt v v') (h' : FMt v' v'') : FMt v v'' := ⟨fun c a b d => (h'.1 c a b d).trans (h.1 c a b d), fun j hj => (h'.2 j hj).trans (h.2 j hj)⟩
theorem FMt_8 {v v' : V3} (h : FMt v v') {k : Nat} {x : Int32} : FMt v (up2 v' 8 k x) := ⟨fun c a b d => by rw [up2_off _ _ _ b]; exact h.1 c a b d, fun j hj => by rw [up2_off _ _ _ (by decide)]; exact h.2 j hj⟩
theorem FMt_7 {v v' : V3} (h : FMt v v') {k : Nat} {x : Int32} (hk : 23 ≤ k ∧ k ≤ 27) : FMt v (up2 v' 7 k x) := ⟨fun c a b d => by rw [up2_off _ _ _ a]; exact h.1 c a b d, fun j hj => by rw [up2_row, pk_un (by omega)]; exact h.2 j hj⟩
/-- the counts of the reference -/
def MT (v : V3) (τ : Nat → Int32) : Prop := v 7 25 = τ 0 ∧ v 7 26 = τ 1 ∧ v 7 24 = τ 2 ∧ v 7 27 = τ 3
/-- many ticks -/
def tkN (n k : Nat) (a : (Nat → Int32) × (Nat → Int32)) : (Nat → Int32) × (Nat → Int32) := foldN (fun a _ => tickS n a) k 0 a
theorem tk_step {n m S : Nat} {B t : Int} {a : (Nat → Int32) × (Nat → Int32)} (hB : 10300 ≤ B) (ht : t ≤ 20199) (h : Wf a.1 n m S B ∧ NF a.1 n ∧ (a.1 7).toInt = t) : Wf (tickS n a).1 n m S B ∧ NF (tickS n a).1 n ∧ ((tickS n a).1 7).toInt = t + 1 := by
  obtain ⟨h1, h2, h3⟩ := h
  have g := tick_wf h1 hB (by omega)
  refine ⟨g.1, g.2.1, ?_⟩
  rw [g.2.2, sec_I (by omega) h1.t0.1]
  omega
theorem tkN_inv {n m S k : Nat} {B t : Int} {a : (Nat → Int32) × (Nat → Int32)} (hB : 10300 ≤ B) (ht : t + k ≤ 20200) (h : Wf a.1 n m S B ∧ NF a.1 n ∧ (a.1 7).toInt = t) : Wf (tkN n k a).1 n m S B ∧ NF (tkN n k a).1 n ∧ ((tkN n k a).1 7).toInt = t + k := by
  refine foldN_inv (P := fun i (a : (Nat → Int32) × (Nat → Int32)) => Wf a.1 n m S B ∧ NF a.1 n ∧ (a.1 7).toInt = t + i) ⟨h.1, h.2.1, by omega⟩ (fun i a hi hp => ?_)
  have := tk_step (t := t + i) hB (by omega) hp
  exact ⟨this.1, this.2.1, by omega⟩
section TK
variable {v : V3} {b n m S K : Nat} {B : Int} {σ : Nat → Int32}
theorem uC_clearT (hL : LA v b σ n m) (hn : n ≤ 40) (hm : m ≤ 8) {Q : V3 → Prop} (hQ : ∀ v', LA v' b σ n m → TLy v' b (fun _ => 0) → Fr b v v' → Q v') : w_X1_clearTally b v Q := by
  refine loop_0 (W := fun r i v => w_X1_clearTally_2 b Q r (nI i) v) (I := fun i v' => LA v' b σ n m ∧ (∀ k, k < i → v' (b + 4) k = 0) ∧ Fr b v v') 4 v ⟨hL, fun k hk => absurd hk (Nat.not_lt_zero k), Fr_r b v⟩ ?_ ?_
  · intro r v' h
    rw [w_X1_clearTally_2]
    exact br_t (by decide) (hQ v' h.1 h.2.1 h.2.2)
  · intro r i v' hi h ih
    rw [w_X1_clearTally_2]
    refine br_f (nI_ge (b := 4) hi (by omega)) ⟨vp_in_nI hi (by decide), nm_e ?_⟩
    rw [show ix (nI i) = i from nI_clamp (by omega)]
    rw [nI_succ] at ih
    refine ih _ ⟨LA_x h.1 hn hm (by omega), fun k hk => ?_, Fr_u h.2.2 (by omega) (by omega)⟩
    rw [up2_row]
    by_cases e : k = i
    · subst e; exact pk_us
    · rw [pk_un e]; exact h.2.1 k (by omega)
theorem uC_ticks (hL : LA v b σ n m) (hW : Wf σ n m S B) (hN : NF σ n) (hB : 10300 ≤ B) (ht : (σ 7).toInt + K ≤ 20200) (hK : K ≤ 1000) {x : Nat} (hx : x < 4) {Q : Int32 → V3 → Prop} (hQ : ∀ v', LA v' b (tkN n K (σ, fun _ => 0)).1 n m → Fr b v v' → Q ((tkN n K (σ, fun _ => 0)).2 x) v') : w_X3_tallyOf b (nI K) (nI x) v Q := by
  refine uC_clearT hL hW.n40 hW.m8 (fun v1 hL1 hT1 hF1 => ?_)
  refine loop_st (W := fun r (a : (Nat → Int32) × (Nat → Int32)) i v => w_X3_tallyOf_6 b Q r (nI K) (nI x) (nI i) v) (s := fun a _ => tickS n a) (n := K) (a0 := (σ, fun _ => 0)) (I := fun a i v' => (Wf a.1 n m S B ∧ NF a.1 n ∧ (a.1 7).toInt = (σ 7).toInt + i) ∧ LA v' b a.1 n m ∧ TLy v' b a.2 ∧ Fr b v v') ?_ ?_ ⟨⟨hW, hN, by show (σ 7).toInt = _; omega⟩, hL1, hT1, hF1⟩
  · intro r v' h
    rw [w_X3_tallyOf_6]
    refine br_t Int32.le_rfl ⟨vp_in_nI hx (by decide), ?_⟩
    rw [show ix (nI x) = x from nI_clamp (by omega), h.2.2.1 x hx]
    exact hQ v' h.2.1 h.2.2.2
  · intro r a i v' hi h ih
    rw [w_X3_tallyOf_6]
    refine br_f (nI_ge hi (by omega)) ?_
    have p := tk_step (t := (σ 7).toInt + i) hB (by omega) h.1
    rw [nI_succ] at ih
    refine uC_tick (σ := a.1) (τ := a.2) h.2.1 h.2.2.1 h.1.1 h.1.2.1 hB (by have := h.1.2.2; omega) (fun v2 q1 q2 q3 => ih v2 ⟨⟨p.1, p.2.1, by have := p.2.2; omega⟩, q1, q2, Fr_t h.2.2.2 q3⟩)
/-- copies of a ledger -/
theorem uC_copy {b' : Nat} (hL : LA v b' σ n m) (hn : n ≤ 40) (hm : m ≤ 8) (hd : b + 54 ≤ b' ∨ b' + 54 ≤ b) {Q : V3 → Prop} (hQ : ∀ v', LA v' b σ n m → Fr b v v' → Q v') : w_X1_copyFrom b b' v Q := by
  refine nm_e (nm_e (nm_e (nm_e (nm_e (nm_e (nm_e ?_))))))
  have hne : b' ≠ b := by omega
  have ho : ∀ (w : V3) (j : Nat) (x : Int32), up2 w b j x b' = w b' := fun w j x => up2_off w j x hne
  simp only [ho, hL.sz, hL.tm, hL.m7, hL.n8, hL.1.2.2.2.2.2.1, hL.1.2.2.2.2.2.2]
  generalize hv1 : up2 (up2 (up2 (up2 (up2 (up2 v b 5 (σ 4)) b 6 (σ 7)) b 7 (nI m)) b 8 (nI n)) b 9 (σ 8)) b 10 (σ 9) = v1
  have o1 : ∀ c, c ≠ b → v1 c = v c := fun c hc => by
    rw [← hv1, up2_off _ _ _ hc, up2_off _ _ _ hc, up2_off _ _ _ hc, up2_off _ _ _ hc, up2_off _ _ _ hc, up2_off _ _ _ hc]
  have s1 : v1 b 5 = σ 4 ∧ v1 b 6 = σ 7 ∧ v1 b 7 = nI m ∧ v1 b 8 = nI n ∧ v1 b 9 = σ 8 ∧ v1 b 10 = σ 9 := by
    rw [← hv1, up2_row, up2_row, up2_row, up2_row, up2_row, up2_row]
    exact ⟨rfl, rfl, rfl, rfl, rfl, rfl⟩
  generalize hv2 : cp2 v1 (b' + 1) (b + 1) 4 = v2
  have o2 : ∀ c, c ≠ b + 1 → v2 c = v1 c := fun c hc => by rw [← hv2, cp2_off _ hc]
  have s2 : ∀ j, j < 4 → v2 (b + 1) j = σ j := fun j hj => by
    rw [← hv2, cp2_row]
    show (if j < 4 then v1 (b' + 1) j else _) = _
    rw [if_pos hj, o1 _ (by omega)]
    exact hL.st hj
  have src : ∀ v' : V3, Fr b v v' → LA v' b' σ n m := fun v' h => LA_fr hL hn hm h (by omega)
  refine loop_0 (W := fun r i v => w_X1_copyFrom_64 b b' Q r (nI i) v) (I := fun i v' => Fr b v v' ∧ v' b = v2 b ∧ v' (b + 1) = v2 (b + 1) ∧ (∀ o, o < i → ∀ f, f < 8 → v' (b + 6 + o) f = og σ o f)) m v2 ⟨fun c hc => by rw [o2 c (by omega), o1 c (by omega)], rfl, rfl, fun o ho => absurd ho (Nat.not_lt_zero o)⟩ ?_ ?_
  · intro r v' h
    have e7 : v' b 7 = nI m := by rw [h.2.1, o2 _ (by omega)]; exact s1.2.2.1
    rw [w_X1_copyFrom_64, e7]
    refine br_t Int32.le_rfl ?_
    refine loop_0 (W := fun r i v => w_X1_copyFrom_99 b b' Q r (nI i) v) (I := fun i v' => Fr b v v' ∧ v' b = v2 b ∧ v' (b + 1) = v2 (b + 1) ∧ (∀ o, o < m → ∀ f, f < 8 → v' (b + 6 + o) f = og σ o f) ∧ (∀ j, j < i → ∀ f, f < 10 → v' (b + 14 + j) f = bf σ j f)) n v' ⟨h.1, h.2.1, h.2.2.1, h.2.2.2, fun o ho => absurd ho (Nat.not_lt_zero o)⟩ ?_ ?_
    · intro r v3 h3
      have e8 : v3 b 8 = nI n := by rw [h3.2.1, o2 _ (by omega)]; exact s1.2.2.2.1
      rw [w_X1_copyFrom_99, e8]
      refine br_t Int32.le_rfl (hQ v3 ⟨⟨fun j hj => ?_, ?_, ?_, ?_, e8, ?_, ?_⟩, h3.2.2.2.1, h3.2.2.2.2⟩ h3.1)
      · rw [h3.2.2.1]; exact s2 j hj
      · rw [h3.2.1, o2 _ (by omega)]; exact s1.1
      · rw [h3.2.1, o2 _ (by omega)]; exact s1.2.1
      · rw [h3.2.1, o2 _ (by omega)]; exact s1.2.2.1
      · rw [h3.2.1, o2 _ (by omega)]; exact s1.2.2.2.2.1
      · rw [h3.2.1, o2 _ (by omega)]; exact s1.2.2.2.2.2
    · intro r i v3 hi h3 ih
      have e8 : v3 b 8 = nI n := by rw [h3.2.1, o2 _ (by omega)]; exact s1.2.2.2.1
      rw [w_X1_copyFrom_99, e8]
      refine br_f (nI_ge hi (by omega)) ⟨nx_in hi hn, nx_in hi hn, nm_e ?_⟩
      rw [nx_ix hi hn]
      rw [nI_succ] at ih
      refine ih _ ⟨fun c hc => ?_, ?_, ?_, fun o ho f hf => ?_, fun j hj f hf => ?_⟩
      · rw [cp2_off _ (by omega)]; exact h3.1 c hc
      · rw [cp2_off _ (by omega)]; exact h3.2.1
      · rw [cp2_off _ (by omega)]; exact h3.2.2.1
      · rw [cp2_off _ (by omega)]; exact h3.2.2.2.1 o ho f hf
      · by_cases e : j = i
        · subst e
          rw [cp2_row]
          show (if f < 10 then v3 (b' + 14 + j) f else _) = _
          rw [if_pos hf]
          exact (src v3 h3.1).bk hi f hf
        · rw [cp2_off _ (by omega)]; exact h3.2.2.2.2 j (by omega) f hf
  · intro r i v3 hi h3 ih
    have e7 : v3 b 7 = nI m := by rw [h3.2.1, o2 _ (by omega)]; exact s1.2.2.1
    rw [w_X1_copyFrom_64, e7]
    refine br_f (nI_ge hi (by omega)) ⟨vp_in_nI (by omega) (by decide), vp_in_nI (by omega) (by decide), nm_e ?_⟩
    rw [show ix (nI i) = i from nI_clamp (by omega)]
    rw [nI_succ] at ih
    refine ih _ ⟨fun c hc => ?_, ?_, ?_, fun o ho f hf => ?_⟩
    · rw [cp2_off _ (by omega)]; exact h3.1 c hc
    · rw [cp2_off _ (by omega)]; exact h3.2.1
    · rw [cp2_off _ (by omega)]; exact h3.2.2.1
    · by_cases e : o = i
      · subst e
        rw [cp2_row]
        show (if f < 8 then v3 (b' + 6 + o) f else _) = _
        rw [if_pos hf]
        exact (src v3 h3.1).ow hi f hf
      · rw [cp2_off _ (by omega)]; exact h3.2.2.2 o (by omega) f hf
end TK
