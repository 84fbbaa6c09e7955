/-! CALLS 13: clean -/
def cpB (σ : Nat → Int32) (i k f : Nat) : Nat → Int32 := fun x => if 74 + 10 * k ≤ x ∧ x < 74 + 10 * k + f then σ (74 + 10 * i + (x - (74 + 10 * k))) else σ x
/-- what has been kept of the first i bookings: which ones, and the state -/
def KI (σ0 σ : Nat → Int32) (i k : Nat) : Prop := k ≤ i ∧ (∀ x, x < 74 → σ x = σ0 x) ∧ (∀ j f, i ≤ j → f < 10 → bf σ j f = bf σ0 j f) ∧ ∃ q : Nat → Nat, (∀ j, j < k → q j < i) ∧ (∀ j l, j < k → l < k → q j = q l → j = l) ∧ (∀ j, j < k → ∀ f, f < 10 → bf σ j f = bf σ0 (q j) f) ∧ ∀ l, l < i → actB σ0 l = true → ∃ j, j < k ∧ q j = l
section CK
variable {v : V3} {b n m S : Nat} {B : Int} {σ σ0 : Nat → Int32}
theorem cpB_b {i k j f : Nat} (hf : f < 10) : bf (cpB σ i k 10) j f = if j = k then bf σ i f else bf σ j f := by
  show (if 74 + 10 * k ≤ 74 + 10 * j + f ∧ 74 + 10 * j + f < 74 + 10 * k + 10 then σ (74 + 10 * i + (74 + 10 * j + f - (74 + 10 * k))) else σ (74 + 10 * j + f)) = _
  by_cases e : j = k
  · subst e
    rw [if_pos (by omega), if_pos rfl, show 74 + 10 * i + (74 + 10 * j + f - (74 + 10 * j)) = 74 + 10 * i + f by omega]
  · rw [if_neg (by omega), if_neg e]
theorem KI_0 (σ0 : Nat → Int32) : KI σ0 σ0 0 0 := ⟨Nat.le_refl 0, fun _ _ => rfl, fun _ _ _ _ => rfl, fun j => j, fun j hj => absurd hj (Nat.not_lt_zero j), fun j l hj => absurd hj (Nat.not_lt_zero j), fun j hj => absurd hj (Nat.not_lt_zero j), fun l hl => absurd hl (Nat.not_lt_zero l)⟩
theorem KI_n {i k : Nat} (h : KI σ0 σ i k) (ha : ¬ actB σ0 i = true) : KI σ0 σ (i + 1) k := by
  obtain ⟨h1, h2, h3, q, h4, h5, h6, h7⟩ := h
  refine ⟨by omega, h2, fun j f hj hf => h3 j f (by omega) hf, q, fun j hj => by have := h4 j hj; omega, h5, h6, fun l hl hal => ?_⟩
  by_cases e : l = i
  · subst e; exact absurd hal ha
  · exact h7 l (by omega) hal
theorem KI_y {i k : Nat} (h : KI σ0 σ i k) : KI σ0 (cpB σ i k 10) (i + 1) (k + 1) := by
  obtain ⟨h1, h2, h3, q, h4, h5, h6, h7⟩ := h
  refine ⟨by omega, fun x hx => ?_, fun j f hj hf => ?_, fun j => if j = k then i else q j, fun j hj => ?_, fun j l hj hl e => ?_, fun j hj f hf => ?_, fun l hl hal => ?_⟩
  · unfold cpB; rw [if_neg (by omega)]; exact h2 x hx
  · rw [cpB_b hf, if_neg (by omega)]; exact h3 j f (by omega) hf
  · show (if j = k then i else q j) < i + 1
    by_cases c : j = k
    · rw [if_pos c]; omega
    · rw [if_neg c]; have := h4 j (by omega); omega
  · have e' : (if j = k then i else q j) = (if l = k then i else q l) := e
    by_cases c : j = k
    · by_cases d : l = k
      · omega
      · rw [if_pos c, if_neg d] at e'
        have := h4 l (by omega)
        omega
    · by_cases d : l = k
      · rw [if_neg c, if_pos d] at e'
        have := h4 j (by omega)
        omega
      · rw [if_neg c, if_neg d] at e'
        exact h5 j l (by omega) (by omega) e'
  · show _ = bf σ0 (if j = k then i else q j) f
    rw [cpB_b hf]
    by_cases c : j = k
    · rw [if_pos c, if_pos c]; exact h3 i f (Nat.le_refl i) hf
    · rw [if_neg c, if_neg c]; exact h6 j (by omega) f hf
  · by_cases e : l = i
    · exact ⟨k, by omega, by show (if k = k then i else q k) = l; rw [if_pos rfl, e]⟩
    · obtain ⟨j, hj, hq⟩ := h7 l (by omega) hal
      exact ⟨j, by omega, by show (if j = k then i else q j) = l; rw [if_neg (by omega)]; exact hq⟩
theorem KI_act {i k : Nat} (h : KI σ0 σ i k) : actB σ i = actB σ0 i := by
  unfold actB
  rw [h.2.2.1 i 7 (Nat.le_refl i) (by omega)]
/-- the state behind clean -/
theorem KI_ok {k : Nat} (hO : OK σ0 n m S B) (h : KI σ0 σ n k) : OK (upd σ 6 (nI k)) k m S B := by
  obtain ⟨h1, h2, h3, q, h4, h5, h6, h7⟩ := h
  have hn := hO.1.n40
  have eb : ∀ j, j < k → ∀ f, f < 10 → bf (upd σ 6 (nI k)) j f = bf σ0 (q j) f := fun j hj f hf => by rw [bf_sc (by omega)]; exact h6 j hj f hf
  have es : ∀ x, x < 74 → x ≠ 6 → upd σ 6 (nI k) x = σ0 x := fun x hx h6 => by rw [pk_un h6]; exact h2 x hx
  refine ⟨Wf_re hO.1 q ⟨(es 5 (by omega) (by omega)).trans hO.1.cn.1, hO.1.m8, pk_us, by omega⟩ (Nat.le_refl m) (es 4 (by omega) (by omega)) (es 7 (by omega) (by omega)) ?_ h4 h5 eb, NF_re hO.2.1 q (es 7 (by omega) (by omega)) h4 eb (fun i hi hl => h7 i hi ?_), by rw [es 7 (by omega) (by omega)]; exact hO.2.2⟩
  · unfold Sg
    rw [es 0 (by omega) (by omega), es 1 (by omega) (by omega), es 2 (by omega) (by omega), es 3 (by omega) (by omega)]
    exact hO.1.sg
  · unfold lvB at hl
    unfold actB
    exact decide_eq_true ((of_decide_eq_true hl).elim (fun z => .inr (.inl z)) (fun z => .inr (.inr z)))
theorem LA_cp (hL : LA v b σ n m) (hn : n ≤ 40) (hm : m ≤ 8) {i k : Nat} (hi : i < n) (hk : k < n) : LA (cp2 v (b + 14 + i) (b + 14 + k) 10) b (cpB σ i k 10) n m := by
  obtain ⟨⟨a1, a2, a3, a4, a5, a6, a7⟩, ho, hb⟩ := hL
  have sc : ∀ x, x < 74 → cpB σ i k 10 x = σ x := fun x hx => by unfold cpB; rw [if_neg (by omega)]
  refine ⟨⟨fun j hj => ?_, ?_, ?_, ?_, ?_, ?_, ?_⟩, fun p hp f hf => ?_, fun j hj f hf => ?_⟩
  · rw [cp2_off _ (by omega), sc _ (by omega)]; exact a1 j hj
  · rw [cp2_off _ (by omega), sc _ (by omega)]; exact a2
  · rw [cp2_off _ (by omega), sc _ (by omega)]; exact a3
  · rw [cp2_off _ (by omega)]; exact a4
  · rw [cp2_off _ (by omega)]; exact a5
  · rw [cp2_off _ (by omega), sc _ (by omega)]; exact a6
  · rw [cp2_off _ (by omega), sc _ (by omega)]; exact a7
  · rw [cp2_off _ (by omega)]; exact (ho p hp f hf).trans (sc _ (by omega)).symm
  · rw [cpB_b hf]
    by_cases e : j = k
    · subst e
      rw [if_pos rfl, cp2_row]
      show (if f < 10 then v (b + 14 + i) f else _) = _
      rw [if_pos hf]
      exact hb i hi f hf
    · rw [if_neg e, cp2_off _ (by omega)]; exact hb j hj f hf
/-- fewer bookings -/
theorem LA_less (hL : LA v b σ n m) {k : Nat} (hk : k ≤ n) (hn : n ≤ 40) : LA (up2 v b 8 (nI k)) b (upd σ 6 (nI k)) k m := by
  obtain ⟨⟨a1, a2, a3, a4, a5, a6, a7⟩, ho, hb⟩ := hL
  refine ⟨⟨fun j hj => ?_, ?_, ?_, ?_, ?_, ?_, ?_⟩, fun p hp f hf => ?_, fun j hj f hf => ?_⟩
  · rw [up2_off _ _ _ (by omega), pk_un (by omega)]; exact a1 j hj
  · rw [up2_row, pk_un (by decide), pk_un (by decide)]; exact a2
  · rw [up2_row, pk_un (by decide), pk_un (by decide)]; exact a3
  · rw [up2_row, pk_un (by decide)]; exact a4
  · rw [up2_row, pk_us]
  · rw [up2_row, pk_un (by decide), pk_un (by decide)]; exact a6
  · rw [up2_row, pk_un (by decide), pk_un (by decide)]; exact a7
  · rw [up2_off _ _ _ (by omega)]; exact (ho p hp f hf).trans (og_sc (by omega)).symm
  · rw [up2_off _ _ _ (by omega)]; exact (hb j (by omega) f hf).trans (bf_sc (by omega)).symm
def clnS (σ : Nat → Int32) (n : Nat) : (Nat → Int32) × Nat := foldN (fun a i => if actB a.1 i = true then (cpB a.1 i a.2 10, a.2 + 1) else a) n 0 (σ, 0)
theorem cln_KI (σ0 : Nat → Int32) (n : Nat) : KI σ0 (clnS σ0 n).1 n (clnS σ0 n).2 := by
  refine foldN_inv (P := fun i (a : (Nat → Int32) × Nat) => KI σ0 a.1 i a.2) (KI_0 σ0) (fun i a hi h => ?_)
  show KI σ0 (if actB a.1 i = true then (cpB a.1 i a.2 10, a.2 + 1) else a).1 (i + 1) (if actB a.1 i = true then (cpB a.1 i a.2 10, a.2 + 1) else a).2
  by_cases c : actB a.1 i = true
  · rw [if_pos c]; exact KI_y h
  · rw [if_neg c]; exact KI_n h (by rw [← KI_act h]; exact c)
theorem uC_drop (hL : LA v b σ n m) (hn : n ≤ 40) (hm : m ≤ 8) {Q : Int32 → V3 → Prop} (hQ : ∀ v', LA v' b (upd (clnS σ n).1 6 (nI (clnS σ n).2)) (clnS σ n).2 m → Fr b v v' → Q (nI n - nI (clnS σ n).2) v') : w_X1_dropEnded b v Q := by
  refine loop_st (W := fun r (a : (Nat → Int32) × Nat) i w => w_X1_dropEnded_4 b Q r (nI a.2) (nI i) w) (s := fun a i => if actB a.1 i = true then (cpB a.1 i a.2 10, a.2 + 1) else a) (n := n) (a0 := (σ, 0)) (I := fun a i w => KI σ a.1 i a.2 ∧ LA w b a.1 n m ∧ Fr b v w) ?_ ?_ ⟨KI_0 σ, hL, Fr_r b v⟩
  · intro r w h
    rw [w_X1_dropEnded_4, h.2.1.n8]
    refine br_t Int32.le_rfl (nm_e ?_)
    exact hQ _ (LA_less h.2.1 h.1.1 hn) (Fr_u h.2.2 (by omega) (by omega))
  · intro r a i w hi h ih
    obtain ⟨hK, hL', hF⟩ := h
    rw [w_X1_dropEnded_4, hL'.n8]
    refine br_f (nx_le hi hn) (uC_act hL' hn hi ?_)
    by_cases c : actB a.1 i = true
    · rw [if_pos c]
      rw [if_pos c, nI_succ i] at ih
      have k1 := hK.1
      refine zt1 ⟨nx_in hi hn, nx_in (show a.2 < n by omega) hn, nm_e ?_⟩
      rw [nx_ix hi hn, nx_ix (show a.2 < n by omega) hn, nI_1]
      exact ih _ ⟨KI_y hK, LA_cp hL' hn hm hi (by omega), fun c' hc => by rw [cp2_off _ (by omega)]; exact hF c' hc⟩
    · rw [if_neg c]
      rw [if_neg c, nI_succ i] at ih
      exact zt0 (ih w ⟨KI_n hK (by rw [← KI_act hK]; exact c), hL', hF⟩)
theorem cpB_0 {i k : Nat} : cpB σ i k 0 = σ := by
  funext x
  unfold cpB
  rw [if_neg (by omega)]
theorem cpB_st {i k f : Nat} (hk : k ≤ i) (hf : f < 10) : upd (cpB σ i k f) (74 + 10 * k + f) (bf (cpB σ i k f) i f) = cpB σ i k (f + 1) := by
  have e0 : bf (cpB σ i k f) i f = σ (74 + 10 * i + f) := by
    show (if 74 + 10 * k ≤ 74 + 10 * i + f ∧ 74 + 10 * i + f < 74 + 10 * k + f then σ (74 + 10 * i + (74 + 10 * i + f - (74 + 10 * k))) else σ (74 + 10 * i + f)) = _
    rw [if_neg (by omega)]
  rw [e0]
  funext x
  by_cases e : x = 74 + 10 * k + f
  · subst e
    rw [pk_us]
    unfold cpB
    rw [if_pos (by omega), show 74 + 10 * k + f - (74 + 10 * k) = f by omega]
  · rw [pk_un e]
    unfold cpB
    by_cases c : 74 + 10 * k ≤ x ∧ x < 74 + 10 * k + f
    · rw [if_pos c, if_pos (by omega)]
    · rw [if_neg c, if_neg (by omega)]
end CK
