/-! THE LAW: builds -/
/-- while owners are added -/
def BQ (v w : V3) (τ : Nat → Int32) (k : Nat) (x : Int) : Prop := LA w 8 τ 0 k ∧ ((τ 0 = 5 ∧ τ 1 = 10 ∧ τ 2 = 4 ∧ τ 3 = 3) ∧ τ 4 = nI 32 ∧ τ 7 = 0) ∧ (∀ o, o < k → og τ o 2 = 0 ∧ og τ o 3 = 0) ∧ w 7 3 = sO τ k 0 ∧ Nx w x ∧ w 7 1 = v 7 1 ∧ w 3 = v 3
theorem wf_0 {σ : Nat → Int32} {m : Nat} {B : Int} (h5 : σ 5 = nI m) (hm : m ≤ 8) (h6 : σ 6 = nI 0) (h4 : σ 4 = nI 32) (h7 : σ 7 = 0) (hg : Sg σ) (hB : B ≤ 1000000) : Wf σ 0 m 32 B :=
  ⟨⟨⟨h5, hm, h6, by omega⟩, h4, by rw [h7]; decide, hg⟩, ⟨fun i hi => absurd hi (Nat.not_lt_zero i), by omega, by omega⟩, fun i hi => absurd hi (Nat.not_lt_zero i), fun i hi => absurd hi (Nat.not_lt_zero i), fun i hi => absurd hi (Nat.not_lt_zero i), ⟨fun i hi => absurd hi (Nat.not_lt_zero i), hB⟩, fun i j hi => absurd hi (Nat.not_lt_zero i)⟩
theorem LA_56 {v : V3} {b n m : Nat} {σ : Nat → Int32} (h : LA v b σ n m) (hm : m ≤ 8) {x y : Int32} : LA v b (upd (upd σ 5 x) 6 y) n m :=
  LA_e h (fun k hk h5 h6 => by rw [pk_un h6, pk_un h5]) (fun o ho f hf => by
    show upd (upd σ 5 x) 6 y (10 + 8 * o + f) = _
    rw [pk_un (by omega), pk_un (by omega)]) (fun i _ f _ => by
    show upd (upd σ 5 x) 6 y (74 + 10 * i + f) = _
    rw [pk_un (by omega), pk_un (by omega)])
section LB
variable {v : V3} {σ : Nat → Int32} {N : Nat}
theorem us_builds (hL : LA v 8 σ 0 0) (h0 : (σ 0 = 5 ∧ σ 1 = 10 ∧ σ 2 = 4 ∧ σ 3 = 3) ∧ σ 4 = nI 32 ∧ σ 7 = 0) (h71 : ¬ v 7 1 = 0) (hx : Nx v 0) (h3 : v 7 3 = 0) (hS : SV v N) {Q : Int32 → V3 → Prop} (h : ∀ (v' : V3) (σ' : Nat → Int32) (m : Nat), VI v' N 1 σ' 0 m → Q 1 v') : w_L_builds v Q := by
  refine us_draw (N := 7) (by omega) h71 hx (by omega) (fun r hr v1 c1 j1 x1 => ?_)
  rw [show (2 + nI r : Int32) = nI (2 + r) from nI_add 2 r]
  have start : BQ v v1 σ 0 1 := ⟨LA_c hL (by omega) (by omega) (fun c h1 _ _ _ => c1 c (by omega)), h0, fun o ho => absurd ho (Nat.not_lt_zero o), by rw [j1 3 (by decide)]; exact h3, x1, j1 1 (by decide), c1 3 (by decide)⟩
  have key : ∀ d k (w : V3) (τ : Nat → Int32), k + d = 2 + r → BQ v w τ k (1 + k) → w_L_builds_11 Q (d + 1) (nI (2 + r)) (nI k) w := by
    intro d
    induction d with
    | zero =>
      intro k w τ hk ⟨hL, ⟨hs, h4, h7⟩, hb, hc, hx, w1, w3⟩
      obtain rfl : k = 2 + r := by omega
      rw [w_L_builds_11]
      refine br_t Int32.le_rfl ?_
      refine us_draw (N := 9) (by omega) (by rw [w1]; exact h71) hx (by omega) (fun a ha w2 c2 j2 x2 => ?_)
      have hL2 : LA w2 8 τ 0 (2 + r) := LA_c hL (by omega) (by omega) (fun c q1 _ _ _ => c2 c (by omega))
      refine us_set (k := 0) hL2 (by omega) (by omega) (by omega) (by rw [ti_nI (by omega)]; exact Int.ofNat_nonneg a) (by rw [ti_nI (by omega)]; show (a : Int) ≤ 50; omega) (fun w3' hL3 f3 => ?_)
      rw [hs.1]
      refine ⟨fun q => absurd rfl q, fun _ => ?_⟩
      have e7 : ∀ j, w3' 7 j = w2 7 j := fun j => by rw [f3 7 (by omega)]
      refine us_draw (N := 30) (by omega) (by rw [e7, j2 1 (by decide), w1]; exact h71) (Nx_e x2 (e7 2)) (by omega) (fun b hb2 w4 c4 j4 x4 => ?_)
      have hL4 : LA w4 8 (upd τ 0 (nI a)) 0 (2 + r) := LA_c hL3 (by omega) (by omega) (fun c q1 _ _ _ => c4 c (by omega))
      refine us_set (k := 1) hL4 (by omega) (by omega) (by omega) (by rw [ti_nI (by omega)]; exact Int.ofNat_nonneg b) (by rw [ti_nI (by omega)]; show (b : Int) ≤ 99; omega) (fun w5 hL5 f5 => ?_)
      rw [pk_un (by decide), hs.2.1]
      refine ⟨fun q => absurd rfl q, fun _ => us_set (k := 2) (a := 9) hL5 (by omega) (by omega) (by omega) (by decide) (by decide) (fun w6 hL6 f6 => ?_)⟩
      rw [pk_un (by decide), pk_un (by decide), hs.2.2.1]
      refine ⟨fun q => absurd rfl q, fun _ => us_set (k := 3) (a := 9) hL6 (by omega) (by omega) (by omega) (by decide) (by decide) (fun w7 hL7 f7 => ?_)⟩
      rw [pk_un (by decide), pk_un (by decide), pk_un (by decide), hs.2.2.2]
      refine ⟨fun q => absurd rfl q, fun _ => ⟨.inr rfl, ?_⟩⟩
      have z7 : ∀ j, j ≠ 2 → w7 7 j = w 7 j := fun j hj => by rw [f7 7 (by omega), f6 7 (by omega), f5 7 (by omega), j4 j hj, e7, j2 j hj]
      have zx : w7 7 2 = w4 7 2 := by rw [f7 7 (by omega), f6 7 (by omega), f5 7 (by omega)]
      have z3 : w7 3 = v 3 := by rw [f7 3 (by omega), f6 3 (by omega), f5 3 (by omega), c4 3 (by decide), f3 3 (by omega), c2 3 (by decide), w3]
      -- the state, with its counts
      obtain ⟨ρ, eρ⟩ : ∃ ρ, ρ = upd (upd (upd (upd (upd (upd τ 0 (nI a)) 1 (nI b)) 2 9) 3 9) 5 (nI (2 + r))) 6 (nI 0) := ⟨_, rfl⟩
      have ρ0 : ρ 0 = nI a := by rw [eρ, pk_un (by decide), pk_un (by decide), pk_un (by decide), pk_un (by decide), pk_un (by decide), pk_us]
      have ρ1 : ρ 1 = nI b := by rw [eρ, pk_un (by decide), pk_un (by decide), pk_un (by decide), pk_un (by decide), pk_us]
      have ρ2 : ρ 2 = 9 := by rw [eρ, pk_un (by decide), pk_un (by decide), pk_un (by decide), pk_us]
      have ρ3 : ρ 3 = 9 := by rw [eρ, pk_un (by decide), pk_un (by decide), pk_us]
      have ρ5 : ρ 5 = nI (2 + r) := by rw [eρ, pk_un (by decide), pk_us]
      have ρ6 : ρ 6 = nI 0 := by rw [eρ, pk_us]
      have ρk : ∀ k, (k = 4 ∨ 6 < k) → ρ k = τ k := fun k hk => by rw [eρ, pk_un (by omega), pk_un (by omega), pk_un (by omega), pk_un (by omega), pk_un (by omega), pk_un (by omega)]
      have ρo : ∀ o f, og ρ o f = og τ o f := fun o f => ρk _ (by omega)
      have hLρ : LA w7 8 ρ 0 (2 + r) := by rw [eρ]; exact LA_56 hL7 (by omega)
      have g7 : ρ 7 = 0 := (ρk 7 (by omega)).trans h7
      refine h w7 ρ (2 + r) ⟨hLρ, ⟨wf_0 ρ5 (by omega) ρ6 ((ρk 4 (by omega)).trans h4) g7 ?_ (by omega), fun i hi => absurd hi (Nat.not_lt_zero i), by rw [g7]; decide⟩, ⟨by omega, ⟨by rw [ρ0, ti_nI (by omega)]; omega, ρ2, ρ3⟩, fun i hi => absurd hi (Nat.not_lt_zero i), fun i hi => absurd hi (Nat.not_lt_zero i), fun o ho => ?_⟩, by rw [g7]; decide, by rw [z7 1 (by decide), w1]; exact h71, Nx_m (Nx_e x4 zx) (by omega), ?_, SV_e hS z3⟩
      · unfold Sg
        rw [ρ0, ρ1, ρ2, ρ3, ti_nI (by omega), ti_nI (by omega), show (9 : Int32).toInt = 9 from rfl]
        omega
      · rw [ρo, ρo, (hb o ho).1, (hb o ho).2]
        decide
      · rw [z7 3 (by decide), hc]
        exact (sO_c (fun o _ => ρo o 0)).symm
    | succ d ih =>
      intro k w τ hk ⟨hL, ⟨hs, h4, h7⟩, hb, hc, hx, w1, w3⟩
      rw [w_L_builds_11]
      refine br_f (nI_ge (by omega) (by omega)) ?_
      refine us_draw (N := 1000) (by omega) (by rw [w1]; exact h71) hx (by omega) (fun a ha w2 c2 j2 x2 => nm_e ?_)
      have hL2 : LA (up2 w2 7 3 (w2 7 3 + nI a)) 8 τ 0 k := LA_c hL (by omega) (by omega) (fun c q1 _ _ _ => by rw [up2_off _ _ _ (by omega)]; exact c2 c (by omega))
      refine us_addOwner hL2 (by omega) (by rw [ti_nI (by omega)]; exact Int.ofNat_nonneg a) (by rw [ti_nI (by omega)]; omega) (fun w4 hL4 f4 => ⟨fun _ => ?_, fun q => absurd rfl q⟩)
      have e7 : ∀ j, j ≠ 3 → w4 7 j = w2 7 j := fun j hj => by rw [f4 7 (by omega), up2_row, pk_un hj]
      have nx := ih (k + 1) w4 (addOS τ k (nI a)) (by omega) ⟨hL4, ⟨⟨by rw [addOS_s (by omega) (by omega)]; exact hs.1, by rw [addOS_s (by omega) (by omega)]; exact hs.2.1, by rw [addOS_s (by omega) (by omega)]; exact hs.2.2.1, by rw [addOS_s (by omega) (by omega)]; exact hs.2.2.2⟩, by rw [addOS_s (by omega) (by omega)]; exact h4, by rw [addOS_s (by omega) (by omega)]; exact h7⟩, fun o ho => ?_, ?_, Nx_m (Nx_e x2 (e7 2 (by decide))) (by omega), ?_, ?_⟩
      · rw [nI_succ k] at nx
        exact nx
      · rw [addOS_o (by omega), addOS_o (by omega)]
        by_cases e : o = k
        · rw [if_pos e, if_pos e, if_neg (by omega), if_neg (by omega)]
          exact ⟨rfl, rfl⟩
        · rw [if_neg e, if_neg e]
          exact hb o (by omega)
      · rw [f4 7 (by omega), up2_row, pk_us, j2 3 (by decide), hc]
        show _ = sumI (fun o => og (addOS τ k (nI a)) o 0) (k + 1) 0 0
        rw [sumI_s, Nat.zero_add, addOS_o (by omega), if_pos rfl, if_pos rfl]
        exact congrArg (fun z => z + nI a) (sO_c (fun o ho => by rw [addOS_o (by omega), if_neg (by omega)])).symm
      · rw [e7 1 (by decide), j2 1 (by decide), w1]
      · rw [f4 3 (by omega), up2_off _ _ _ (by decide), c2 3 (by decide), w3]
  exact ⟨2 + r + 1, key (2 + r) 0 v1 σ (by omega) start⟩
end LB
