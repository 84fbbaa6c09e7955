/-! PURE LEVEL 5: changes of the flat state -/
section PB
variable {σ : Nat → Int32} {i j o o' f g k : Nat} {x : Int32}
theorem bf_put (hf : f < 10) (hg : g < 10) : bf (putB σ i f x) j g = if j = i ∧ g = f then x else bf σ j g := by
  unfold putB
  by_cases h : j = i ∧ g = f
  · rw [if_pos h]
    obtain ⟨rfl, rfl⟩ := h
    exact pk_us
  · rw [if_neg h]
    exact pk_un (by omega)
theorem bf_putO (ho : o < 8) (hf : f < 8) : bf (putO σ o f x) j g = bf σ j g := pk_un (by omega)
theorem og_put (ho : o < 8) (hg : g < 8) : og (putB σ i f x) o g = og σ o g := pk_un (by omega)
theorem og_putO (hf : f < 8) (hg : g < 8) : og (putO σ o f x) o' g = if o' = o ∧ g = f then x else og σ o' g := by
  unfold putO
  by_cases h : o' = o ∧ g = f
  · rw [if_pos h]
    obtain ⟨rfl, rfl⟩ := h
    exact pk_us
  · rw [if_neg h]
    exact pk_un (by omega)
theorem sc_put (hk : k < 74) : putB σ i f x k = σ k := pk_un (by omega)
theorem bf_sc (hk : k < 74) : bf (upd σ k x) j g = bf σ j g := pk_un (by omega)
theorem og_sc (hk : k < 10) : og (upd σ k x) o g = og σ o g := pk_un (by omega)
theorem sc_putO (hk : k < 10) : putO σ o f x k = σ k := pk_un (by omega)
end PB
/-- cells outside of a ledger stay -/
def Fr (b : Nat) (v v' : V3) : Prop := ∀ c, c < b ∨ b + 54 ≤ c → v' c = v c
theorem Fr_r (b : Nat) (v : V3) : Fr b v v := fun _ _ => rfl
theorem Fr_t {b : Nat} {v v' v'' : V3} (h : Fr b v v') (h' : Fr b v' v'') : Fr b v v'' := fun c hc => (h' c hc).trans (h c hc)
theorem Fr_u {b c : Nat} {v v' : V3} (h : Fr b v v') {j : Nat} {x : Int32} (h1 : b ≤ c) (h2 : c < b + 54) : Fr b v (up2 v' c j x) := fun c' hc => by
  rw [up2_off v' j x (by omega)]
  exact h c' hc
section LS
variable {v : V3} {b n m : Nat} {σ : Nat → Int32}
theorem LA_b (hL : LA v b σ n m) (hn : n ≤ 40) (hm : m ≤ 8) {i f : Nat} {x : Int32} (hi : i < n) (hf : f < 10) : LA (up2 v (b + 14 + i) f x) b (putB σ i f x) n m := by
  obtain ⟨⟨a1, a2, a3, a4, a5, a6, a7⟩, ho, hb⟩ := hL
  refine ⟨⟨fun j hj => ?_, ?_, ?_, ?_, ?_, ?_, ?_⟩, fun o hom g hg => ?_, fun j hj g hg => ?_⟩
  · rw [up2_off v f x (by omega), sc_put (by omega)]; exact a1 j hj
  · rw [up2_off v f x (by omega), sc_put (by omega)]; exact a2
  · rw [up2_off v f x (by omega), sc_put (by omega)]; exact a3
  · rw [up2_off v f x (by omega)]; exact a4
  · rw [up2_off v f x (by omega)]; exact a5
  · rw [up2_off v f x (by omega), sc_put (by omega)]; exact a6
  · rw [up2_off v f x (by omega), sc_put (by omega)]; exact a7
  · rw [up2_off v f x (by omega), og_put (by omega) hg]; exact ho o hom g hg
  · rw [bf_put hf hg]
    by_cases h : j = i
    · subst h
      rw [up2_row]
      by_cases hgf : g = f
      · subst hgf
        rw [if_pos ⟨rfl, rfl⟩, pk_us]
      · rw [if_neg (fun q => hgf q.2), pk_un hgf]; exact hb j hj g hg
    · rw [if_neg (fun q => h q.1), up2_off v f x (by omega)]; exact hb j hj g hg
theorem LA_o (hL : LA v b σ n m) (hm : m ≤ 8) {o f : Nat} {x : Int32} (hom : o < m) (hf : f < 8) : LA (up2 v (b + 6 + o) f x) b (putO σ o f x) n m := by
  obtain ⟨⟨a1, a2, a3, a4, a5, a6, a7⟩, ho, hb⟩ := hL
  refine ⟨⟨fun j hj => ?_, ?_, ?_, ?_, ?_, ?_, ?_⟩, fun p hp g hg => ?_, fun j hj g hg => ?_⟩
  · rw [up2_off v f x (by omega), sc_putO (by omega)]; exact a1 j hj
  · rw [up2_off v f x (by omega), sc_putO (by omega)]; exact a2
  · rw [up2_off v f x (by omega), sc_putO (by omega)]; exact a3
  · rw [up2_off v f x (by omega)]; exact a4
  · rw [up2_off v f x (by omega)]; exact a5
  · rw [up2_off v f x (by omega), sc_putO (by omega)]; exact a6
  · rw [up2_off v f x (by omega), sc_putO (by omega)]; exact a7
  · rw [og_putO hf hg]
    by_cases h : p = o
    · subst h
      rw [up2_row]
      by_cases hgf : g = f
      · subst hgf
        rw [if_pos ⟨rfl, rfl⟩, pk_us]
      · rw [if_neg (fun q => hgf q.2), pk_un hgf]; exact ho p hp g hg
    · rw [if_neg (fun q => h q.1), up2_off v f x (by omega)]; exact ho p hp g hg
  · rw [up2_off v f x (by omega), bf_putO (by omega) hf]; exact hb j hj g hg
/-- only the cells of the ledger matter, but its tally and its queue -/
theorem LA_c {v' : V3} (hL : LA v b σ n m) (hn : n ≤ 40) (hm : m ≤ 8) (h : ∀ c, b ≤ c → c < b + 54 → c ≠ b + 4 → c ≠ b + 5 → v' c = v c) : LA v' b σ n m := by
  obtain ⟨⟨a1, a2, a3, a4, a5, a6, a7⟩, ho, hb⟩ := hL
  have e0 := h b (by omega) (by omega) (by omega) (by omega)
  have e1 := h (b + 1) (by omega) (by omega) (by omega) (by omega)
  refine ⟨⟨fun j hj => ?_, ?_, ?_, ?_, ?_, ?_, ?_⟩, fun p hp g hg => ?_, fun j hj g hg => ?_⟩
  · rw [e1]; exact a1 j hj
  · rw [e0]; exact a2
  · rw [e0]; exact a3
  · rw [e0]; exact a4
  · rw [e0]; exact a5
  · rw [e0]; exact a6
  · rw [e0]; exact a7
  · rw [h (b + 6 + p) (by omega) (by omega) (by omega) (by omega)]; exact ho p hp g hg
  · rw [h (b + 14 + j) (by omega) (by omega) (by omega) (by omega)]; exact hb j hj g hg
theorem LA_x (hL : LA v b σ n m) (hn : n ≤ 40) (hm : m ≤ 8) {c j : Nat} {x : Int32} (hc : c < b ∨ b + 54 ≤ c ∨ c = b + 4 ∨ c = b + 5) : LA (up2 v c j x) b σ n m :=
  LA_c hL hn hm (fun c' h1 h2 h3 h4 => up2_off v j x (by omega))
theorem LA_fr {v' : V3} {b' : Nat} (hL : LA v b σ n m) (hn : n ≤ 40) (hm : m ≤ 8) (h : Fr b' v v') (hb : b + 54 ≤ b' ∨ b' + 54 ≤ b) : LA v' b σ n m :=
  LA_c hL hn hm (fun c h1 h2 _ _ => h c (by omega))
/-- the scalars of the ledger -/
theorem LA_7 (hL : LA v b σ n m) (hn : n ≤ 40) (hm : m ≤ 8) {x : Int32} : LA (up2 v b 6 x) b (upd σ 7 x) n m := by
  obtain ⟨⟨a1, a2, a3, a4, a5, a6, a7⟩, ho, hb⟩ := hL
  refine ⟨⟨fun j hj => ?_, ?_, ?_, ?_, ?_, ?_, ?_⟩, fun p hp g hg => ?_, fun j hj g hg => ?_⟩
  · rw [up2_off v 6 x (by omega), pk_un (by omega)]; exact a1 j hj
  · rw [up2_row, pk_un (by decide), pk_un (by decide)]; exact a2
  · rw [up2_row, pk_us, pk_us]
  · rw [up2_row, pk_un (by decide)]; exact a4
  · rw [up2_row, pk_un (by decide)]; exact a5
  · rw [up2_row, pk_un (by decide), pk_un (by decide)]; exact a6
  · rw [up2_row, pk_un (by decide), pk_un (by decide)]; exact a7
  · rw [up2_off v 6 x (by omega)]; exact (ho p hp g hg).trans (og_sc (by omega)).symm
  · rw [up2_off v 6 x (by omega)]; exact (hb j hj g hg).trans (bf_sc (by omega)).symm
theorem LA_8 (hL : LA v b σ n m) (hn : n ≤ 40) (hm : m ≤ 8) {x : Int32} : LA (up2 v b 9 x) b (upd σ 8 x) n m := by
  obtain ⟨⟨a1, a2, a3, a4, a5, a6, a7⟩, ho, hb⟩ := hL
  refine ⟨⟨fun j hj => ?_, ?_, ?_, ?_, ?_, ?_, ?_⟩, fun p hp g hg => ?_, fun j hj g hg => ?_⟩
  · rw [up2_off v 9 x (by omega), pk_un (by omega)]; exact a1 j hj
  · rw [up2_row, pk_un (by decide), pk_un (by decide)]; exact a2
  · rw [up2_row, pk_un (by decide), pk_un (by decide)]; exact a3
  · rw [up2_row, pk_un (by decide)]; exact a4
  · rw [up2_row, pk_un (by decide)]; exact a5
  · rw [up2_row, pk_us, pk_us]
  · rw [up2_row, pk_un (by decide), pk_un (by decide)]; exact a7
  · rw [up2_off v 9 x (by omega)]; exact (ho p hp g hg).trans (og_sc (by omega)).symm
  · rw [up2_off v 9 x (by omega)]; exact (hb j hj g hg).trans (bf_sc (by omega)).symm
theorem LA_9 (hL : LA v b σ n m) (hn : n ≤ 40) (hm : m ≤ 8) {x : Int32} : LA (up2 v b 10 x) b (upd σ 9 x) n m := by
  obtain ⟨⟨a1, a2, a3, a4, a5, a6, a7⟩, ho, hb⟩ := hL
  refine ⟨⟨fun j hj => ?_, ?_, ?_, ?_, ?_, ?_, ?_⟩, fun p hp g hg => ?_, fun j hj g hg => ?_⟩
  · rw [up2_off v 10 x (by omega), pk_un (by omega)]; exact a1 j hj
  · rw [up2_row, pk_un (by decide), pk_un (by decide)]; exact a2
  · rw [up2_row, pk_un (by decide), pk_un (by decide)]; exact a3
  · rw [up2_row, pk_un (by decide)]; exact a4
  · rw [up2_row, pk_un (by decide)]; exact a5
  · rw [up2_row, pk_un (by decide), pk_un (by decide)]; exact a6
  · rw [up2_row, pk_us, pk_us]
  · rw [up2_off v 10 x (by omega)]; exact (ho p hp g hg).trans (og_sc (by omega)).symm
  · rw [up2_off v 10 x (by omega)]; exact (hb j hj g hg).trans (bf_sc (by omega)).symm
theorem LA_s (hL : LA v b σ n m) (hn : n ≤ 40) (hm : m ≤ 8) {k : Nat} (hk : k < 4) {x : Int32} : LA (up2 v (b + 1) k x) b (upd σ k x) n m := by
  obtain ⟨⟨a1, a2, a3, a4, a5, a6, a7⟩, ho, hb⟩ := hL
  refine ⟨⟨fun j hj => ?_, ?_, ?_, ?_, ?_, ?_, ?_⟩, fun p hp g hg => ?_, fun j hj g hg => ?_⟩
  · rw [up2_row]
    by_cases h : j = k
    · subst h; rw [pk_us, pk_us]
    · rw [pk_un h, pk_un h]; exact a1 j hj
  · rw [up2_off v k x (by omega), pk_un (by omega)]; exact a2
  · rw [up2_off v k x (by omega), pk_un (by omega)]; exact a3
  · rw [up2_off v k x (by omega)]; exact a4
  · rw [up2_off v k x (by omega)]; exact a5
  · rw [up2_off v k x (by omega), pk_un (by omega)]; exact a6
  · rw [up2_off v k x (by omega), pk_un (by omega)]; exact a7
  · rw [up2_off v k x (by omega)]; exact (ho p hp g hg).trans (og_sc (by omega)).symm
  · rw [up2_off v k x (by omega)]; exact (hb j hj g hg).trans (bf_sc (by omega)).symm
/-- a ledger holds what agrees with its state -/
theorem LA_e {σ' : Nat → Int32} (hL : LA v b σ n m) (h : ∀ k, k < 10 → k ≠ 5 → k ≠ 6 → σ' k = σ k) (ho : ∀ o, o < m → ∀ f, f < 8 → og σ' o f = og σ o f) (hb : ∀ i, i < n → ∀ f, f < 10 → bf σ' i f = bf σ i f) : LA v b σ' n m := by
  obtain ⟨⟨a1, a2, a3, a4, a5, a6, a7⟩, ho', hb'⟩ := hL
  refine ⟨⟨fun j hj => ?_, ?_, ?_, a4, a5, ?_, ?_⟩, fun p hp g hg => ?_, fun j hj g hg => ?_⟩
  · rw [h j (by omega) (by omega) (by omega)]; exact a1 j hj
  · rw [h 4 (by omega) (by omega) (by omega)]; exact a2
  · rw [h 7 (by omega) (by omega) (by omega)]; exact a3
  · rw [h 8 (by omega) (by omega) (by omega)]; exact a6
  · rw [h 9 (by omega) (by omega) (by omega)]; exact a7
  · rw [ho p hp g hg]; exact ho' p hp g hg
  · rw [hb j hj g hg]; exact hb' j hj g hg
end LS
/-- owners of bookings -/
def Ow (σ : Nat → Int32) (n m : Nat) : Prop := ∀ i, i < n → ∃ o, o < m ∧ bf σ i 0 = nI o
/-- settings in their ranges -/
def Sg (σ : Nat → Int32) : Prop := (0 ≤ (σ 0).toInt ∧ (σ 0).toInt ≤ 50) ∧ (0 ≤ (σ 1).toInt ∧ (σ 1).toInt ≤ 99) ∧ (1 ≤ (σ 2).toInt ∧ (σ 2).toInt ≤ 9) ∧ (1 ≤ (σ 3).toInt ∧ (σ 3).toInt ≤ 9)
/-- a state in which all is in order -/
def Wf (σ : Nat → Int32) (n m S : Nat) (B : Int) : Prop := (Cn σ n m ∧ σ 4 = nI S ∧ (0 ≤ (σ 7).toInt ∧ (σ 7).toInt ≤ 20200) ∧ Sg σ) ∧ Sp σ n S ∧ St σ n ∧ (∀ i, i < n → Rg σ i) ∧ Ow σ n m ∧ Tm σ n B ∧ NC σ n
/-- who waits finds no time -/
def NF (σ : Nat → Int32) (n : Nat) : Prop := ∀ i, i < n → bf σ i 7 = 0 → ∀ t : Int, (σ 7).toInt ≤ t → (bf σ i 4).toInt - (bf σ i 5).toInt ≤ t → t ≤ (bf σ i 4).toInt + (bf σ i 5).toInt → hitI σ n (bf σ i 1) (bf σ i 2) (bf σ i 3).toInt t
section WF
variable {σ : Nat → Int32} {n m S : Nat} {B : Int}
theorem Wf.cn (h : Wf σ n m S B) : Cn σ n m := h.1.1
theorem Wf.n40 (h : Wf σ n m S B) : n ≤ 40 := h.1.1.2.2.2
theorem Wf.m8 (h : Wf σ n m S B) : m ≤ 8 := h.1.1.2.1
theorem Wf.tm (h : Wf σ n m S B) : Tm σ n B := h.2.2.2.2.2.1
theorem Wf.nc (h : Wf σ n m S B) : NC σ n := h.2.2.2.2.2.2
theorem Wf.sp (h : Wf σ n m S B) : Sp σ n S := h.2.1
theorem Wf.st (h : Wf σ n m S B) : St σ n := h.2.2.1
theorem Wf.rg (h : Wf σ n m S B) {i : Nat} (hi : i < n) : Rg σ i := h.2.2.2.1 i hi
theorem Wf.ow (h : Wf σ n m S B) : Ow σ n m := h.2.2.2.2.1
theorem Wf.t0 (h : Wf σ n m S B) : 0 ≤ (σ 7).toInt ∧ (σ 7).toInt ≤ 20200 := h.1.2.2.1
theorem Wf.s4 (h : Wf σ n m S B) : σ 4 = nI S := h.1.2.1
theorem Wf.sg (h : Wf σ n m S B) : Sg σ := h.1.2.2.2
end WF
theorem lv_0 {σ : Nat → Int32} {i : Nat} (h : bf σ i 7 = 0) : lvB σ i = false := by
  unfold lvB
  rw [h]
  decide
theorem lv_of {σ σ' : Nat → Int32} {i j : Nat} (h : bf σ' i 7 = bf σ j 7) : lvB σ' i = lvB σ j := by
  unfold lvB
  rw [h]
/-- a change of the state and the times of one booking -/
def Ch (σ σ' : Nat → Int32) (n i : Nat) : Prop := (∀ k, k < 8 → σ' k = σ k) ∧ (∀ j, j < n → ∀ f, f < 10 → (j ≠ i ∨ f < 7) → bf σ' j f = bf σ j f)
theorem Ch_wf {σ σ' : Nat → Int32} {n m S i : Nat} {B B' : Int} (h : Wf σ n m S B) (hB : B ≤ B' ∧ B' ≤ 1000000) (hc : Ch σ σ' n i) (hs : ∃ s : Nat, s ≤ 6 ∧ bf σ' i 7 = nI s) (hl : lvB σ' i = true → (0 ≤ (bf σ' i 8).toInt ∧ (bf σ' i 8).toInt < (bf σ' i 9).toInt ∧ (bf σ' i 9).toInt ≤ B') ∧ ∀ j, j < n → j ≠ i → lvB σ j = true → (bf σ i 1).toInt < (bf σ j 1).toInt + (bf σ j 2).toInt → (bf σ j 1).toInt < (bf σ i 1).toInt + (bf σ i 2).toInt → (bf σ' i 8).toInt < (bf σ j 9).toInt → (bf σ j 8).toInt < (bf σ' i 9).toInt → False) : Wf σ' n m S B' := by
  obtain ⟨⟨hC, h4, h7, hg⟩, hSp, hSt, hRg, hOw, hTm, hNC⟩ := h
  obtain ⟨c1, c2⟩ := hc
  have lv : ∀ j, j < n → j ≠ i → lvB σ' j = lvB σ j := fun j hj hji => lv_of (c2 j hj 7 (by omega) (.inl hji))
  refine ⟨⟨⟨(c1 5 (by omega)).trans hC.1, hC.2.1, (c1 6 (by omega)).trans hC.2.2.1, hC.2.2.2⟩, (c1 4 (by omega)).trans h4, ?_, ?_⟩, ⟨fun j hj => ?_, hSp.2⟩, fun j hj => ?_, fun j hj => ?_, fun j hj => ?_, ⟨fun j hj hlj => ?_, hB.2⟩, fun j k hj hk hne l1 l2 => ?_⟩
  · rw [c1 7 (by omega)]; exact h7
  · unfold Sg; rw [c1 0 (by omega), c1 1 (by omega), c1 2 (by omega), c1 3 (by omega)]; exact hg
  · rw [c2 j hj 1 (by omega) (.inr (by omega)), c2 j hj 2 (by omega) (.inr (by omega))]; exact hSp.1 j hj
  · by_cases hji : j = i
    · subst hji; exact hs
    · rw [c2 j hj 7 (by omega) (.inl hji)]; exact hSt j hj
  · unfold Rg; rw [c2 j hj 3 (by omega) (.inr (by omega)), c2 j hj 4 (by omega) (.inr (by omega)), c2 j hj 5 (by omega) (.inr (by omega))]; exact hRg j hj
  · rw [c2 j hj 0 (by omega) (.inr (by omega))]; exact hOw j hj
  · by_cases hji : j = i
    · subst hji; exact (hl hlj).1
    · rw [lv j hj hji] at hlj
      rw [c2 j hj 8 (by omega) (.inl hji), c2 j hj 9 (by omega) (.inl hji)]
      have := hTm.1 j hj hlj
      exact ⟨this.1, this.2.1, by omega⟩
  · rw [c2 j hj 1 (by omega) (.inr (by omega)), c2 j hj 2 (by omega) (.inr (by omega)), c2 k hk 1 (by omega) (.inr (by omega)), c2 k hk 2 (by omega) (.inr (by omega))]
    by_cases hji : j = i
    · subst hji
      have hkj : k ≠ j := fun q => hne q.symm
      rw [lv k hk hkj] at l2
      rw [c2 k hk 8 (by omega) (.inl hkj), c2 k hk 9 (by omega) (.inl hkj)]
      exact (hl l1).2 k hk hkj l2
    · rw [lv j hj hji] at l1
      rw [c2 j hj 8 (by omega) (.inl hji), c2 j hj 9 (by omega) (.inl hji)]
      by_cases hki : k = i
      · subst hki
        exact fun a b c d => (hl l2).2 j hj hji l1 b a d c
      · rw [lv k hk hki] at l2
        rw [c2 k hk 8 (by omega) (.inl hki), c2 k hk 9 (by omega) (.inl hki)]
        exact hNC j k hj hk hne l1 l2
/-- an ended or waiting booking stands in no one's way -/
theorem Ch_wf0 {σ σ' : Nat → Int32} {n m S i : Nat} {B : Int} (h : Wf σ n m S B) (hc : Ch σ σ' n i) (hs : ∃ s : Nat, s ≤ 6 ∧ bf σ' i 7 = nI s) (hl : lvB σ' i = false) : Wf σ' n m S B :=
  Ch_wf h ⟨Int.le_refl _, h.tm.2⟩ hc hs (fun q => by rw [hl] at q; exact absurd q (by decide))
theorem Ch_t {σ σ' σ'' : Nat → Int32} {n i : Nat} (h : Ch σ σ' n i) (h' : Ch σ' σ'' n i) : Ch σ σ'' n i :=
  ⟨fun k hk => (h'.1 k hk).trans (h.1 k hk), fun j hj f hf a => (h'.2 j hj f hf a).trans (h.2 j hj f hf a)⟩
theorem Ch_b {σ : Nat → Int32} {n i f : Nat} {x : Int32} (h7 : 7 ≤ f) (hf : f < 10) : Ch σ (putB σ i f x) n i :=
  ⟨fun k hk => sc_put (by omega), fun j hj g hg a => by rw [bf_put hf hg, if_neg (by omega)]⟩
theorem Ch_o {σ : Nat → Int32} {n i o f : Nat} {x : Int32} (ho : o < 8) (hf : f < 8) : Ch σ (putO σ o f x) n i :=
  ⟨fun k hk => sc_putO (by omega), fun j hj g hg a => bf_putO ho hf⟩
