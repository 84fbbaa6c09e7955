/-! THE CLASS'S CALLS: waitsFor, show, shown -/
/-- behind how many ticks a booking waits no more -/
def WfR (σ : Nat → Int32) (n i K : Nat) (r : Int32) : Prop := (∃ k, 1 ≤ k ∧ k ≤ K ∧ r = nI k ∧ ¬ bf (stN n σ k) i 7 = 0 ∧ ∀ j, 1 ≤ j → j < k → bf (stN n σ j) i 7 = 0) ∨ (r = -1 ∧ ∀ j, 1 ≤ j → j ≤ K → bf (stN n σ j) i 7 = 0)
theorem WfR_un {σ : Nat → Int32} {n i K : Nat} (hK : K ≤ 1000) {r r' : Int32} (h : WfR σ n i K r) (h' : WfR σ n i K r') : r = r' := by
  rcases h with ⟨k, a1, a2, a3, a4, a5⟩ | ⟨a1, a2⟩
  · rcases h' with ⟨k', b1, b2, b3, b4, b5⟩ | ⟨b1, b2⟩
    · have : k = k' := by
        rcases Nat.lt_trichotomy k k' with c | c | c
        · exact absurd (b5 k a1 c) a4
        · exact c
        · exact absurd (a5 k' b1 c) b4
      rw [a3, b3, this]
    · exact absurd (b2 k a1 a2) a4
  · rcases h' with ⟨k', b1, b2, b3, b4, b5⟩ | ⟨b1, b2⟩
    · exact absurd (a2 k' b1 b2) b4
    · rw [a1, b1]
def lnS (σ : Nat → Int32) (n : Nat) (t : Int32) (k : Nat) : Int32 := if hldS σ n (nI k) t = -1 then 46 else 48 + bf σ (ix (hldS σ n (nI k) t)) 0
theorem ln_nar : ∀ o, o < 8 → vp_nar .byte ((48 + nI o).toInt8.toInt32) = 48 + nI o := by decide
section UL
variable {v : V3} {n m : Nat} {σ : Nat → Int32} {B : Int}
theorem us_waitsFor (hL : LA v 8 σ n m) (hO : OK σ n m 32 B) (hB : 10300 ≤ B) {i K : Nat} (hi : i < n) (hK : 1 ≤ K ∧ K ≤ 200) {Q : Int32 → V3 → Prop} (h0 : ¬ bf σ i 7 = 0 → Q 0 v) (h1 : bf σ i 7 = 0 → ∀ r, WfR σ n i K r → ∀ v', Fr 62 v v' → Q r v') : w_L_waitsFor (nI i) (nI K) v Q := by
  rw [w_L_waitsFor]
  have hn := hO.1.n40
  have hm := hO.1.m8
  have t1 := hO.2.2
  refine us_needB hL hn hi (us_within (by rw [ti_nI (by omega)]; exact Int.ofNat_le.mpr hK.1) (by rw [ti_nI (by omega), show (200 : Int32).toInt = 200 from rfl]; omega) (uC_isIn hL hn hi ?_))
  by_cases c : bf σ i 7 = 0
  · rw [if_pos c]
    refine nt1 (uC_copy hL hn hm (by omega) (fun v1 hL1 hF1 => ?_))
    have key : ∀ d k (v1 : V3), k + d = K + 1 → 1 ≤ k → LA v1 62 (stN n σ (k - 1)) n m → (∀ j, 1 ≤ j → j < k → bf (stN n σ j) i 7 = 0) → Fr 62 v v1 → w_X3_waitsFor_40 Q (d + 1) (nI i) (nI K) (nI k) v1 := by
      intro d
      induction d with
      | zero =>
        intro k v1 hk h1k hL1 hw hF
        rw [w_X3_waitsFor_40]
        refine br_t (nI_lt (by omega) (by omega)) (h1 c _ (.inr ⟨rfl, fun j j1 j2 => hw j j1 (by omega)⟩) v1 hF)
      | succ d ih =>
        intro k v1 hk h1k hL1 hw hF
        obtain ⟨k, rfl⟩ : ∃ k', k = k' + 1 := ⟨k - 1, by omega⟩
        have ok := stN_ok hB hO.1 hO.2.1 k (by omega)
        rw [show k + 1 - 1 = k from rfl] at hL1
        rw [w_X3_waitsFor_40]
        refine br_f (nI_nlt (by omega) (by omega)) ?_
        refine uC_tick (τ := fun z => v1 (62 + 4) z) hL1 (fun z _ => rfl) ok.1 ok.2.1 hB (by omega) (fun v2 hL2 _ hF2 => ?_)
        rw [stp_t] at hL2
        refine uC_isIn hL2 hn hi ?_
        by_cases d0 : bf (stN n σ (k + 1)) i 7 = 0
        · have d1 : bf (stp n (stN n σ k)) i 7 = 0 := d0
          rw [if_pos d1]
          refine nt1 ?_
          rw [← nI_succ]
          exact ih (k + 2) v2 (by omega) (by omega) hL2 (fun j j1 j2 => by
            by_cases e : j = k + 1
            · rw [e]; exact d0
            · exact hw j j1 (by omega)) (Fr_t hF hF2)
        · have d1 : ¬ bf (stp n (stN n σ k)) i 7 = 0 := d0
          rw [if_neg d1]
          exact nt0 (h1 c _ (.inl ⟨k + 1, by omega, by omega, rfl, d0, hw⟩) v2 (Fr_t hF hF2))
    exact ⟨K + 1, key K 1 v1 (by omega) (by omega) hL1 (fun j j1 j2 => by omega) hF1⟩
  · rw [if_neg c]
    exact nt0 (h0 c)
theorem us_show (hL : LA v 8 σ n m) (hO : OK σ n m 32 B) {t : Int32} (ht : 0 ≤ t.toInt ∧ t.toInt ≤ 20100) {Q : Int32 → V3 → Prop} (h : ∀ v' : V3, (∀ c, c ≠ 0 → c ≠ 2 → v' c = v c) → (∀ j, j ≠ 13 → v' 0 j = v 0 j) → v' 0 13 = nI 32 → (∀ k, k < 32 → v' 2 k = lnS σ n t k) → Q (nI 32) v') : w_L_show t v Q := by
  rw [w_L_show]
  have hn := hO.1.n40
  have hm := hO.1.m8
  have h4 := hO.1.s4
  have rowc : ∀ k, (hldS σ n (nI k) t = -1 ∧ lnS σ n t k = 46) ∨ (∃ j, j < n ∧ ¬ hldS σ n (nI k) t = -1 ∧ hldS σ n (nI k) t = nI j ∧ lnS σ n t k = 48 + bf σ j 0) := fun k => by
    unfold lnS
    rcases hldS_cases (σ := σ) hn (nI k) t with e | ⟨e0, j, hj, e⟩
    · exact .inl ⟨e, if_pos e⟩
    · exact .inr ⟨j, hj, e0, e, by rw [if_neg e0, e, nx_ix hj hn]⟩
  refine us_within ht.1 ht.2 ?_
  refine loop_0 (W := fun r i w => w_X3_show_10 _ r t (nI i) w) (I := fun i w => (∀ c, c ≠ 2 → w c = v c) ∧ ∀ k, k < i → w 2 k = lnS σ n t k) 32 v ⟨fun _ _ => rfl, fun k hk => absurd hk (Nat.not_lt_zero k)⟩ ?_ ?_
  · intro r v' hv
    have hL' : LA v' 8 σ n m := LA_c hL hn hm (fun c _ _ _ _ => hv.1 c (by omega))
    rw [w_X3_show_10, hL'.sz, h4]
    refine br_t Int32.le_rfl (nm_e ?_)
    rw [up2_row, pk_us]
    refine h _ (fun c c0 c2 => by rw [up2_off _ _ _ c0, hv.1 c c2]) (fun j hj => by rw [up2_row, pk_un hj, hv.1 0 (by decide)]) (by rw [up2_row, pk_us]) (fun k hk => by rw [up2_off _ _ _ (by decide)]; exact hv.2 k hk)
  · intro r i w hi hw ih
    have hL' : LA w 8 σ n m := LA_c hL hn hm (fun c _ _ _ _ => hw.1 c (by omega))
    rw [w_X3_show_10, hL'.sz, h4]
    refine br_f (nI_ge hi (by omega)) (uC_holder hL' hn ?_)
    rw [nI_succ] at ih
    have step : ∀ x : Int32, vp_nar .byte (x.toInt8.toInt32) = lnS σ n t i → w_X3_show_60 Q (w_X3_show_10 Q r) t (nI i) (nI i) x w := by
      intro x hx
      refine ⟨vp_in_nI (by omega) (by decide), nm_e ?_⟩
      rw [show ix (nI i) = i from nI_clamp (by omega), hx]
      refine ih _ ⟨fun c hc => by rw [up2_off _ _ _ hc]; exact hw.1 c hc, fun k hk => ?_⟩
      rw [up2_row]
      by_cases e : k = i
      · subst e; rw [pk_us]
      · rw [pk_un e]; exact hw.2 k (by omega)
    rcases rowc i with ⟨e, el⟩ | ⟨j, hj, e0, e, el⟩
    · rw [e]
      exact ⟨fun q => absurd rfl q, fun _ => step 46 (by rw [el]; decide)⟩
    · refine ⟨fun _ => ?_, fun q => absurd q e0⟩
      rw [e, nx_ix hj hn, hL'.bk hj 0 (by omega)]
      refine ⟨nx_in hj hn, step _ ?_⟩
      obtain ⟨ow, ho, eo⟩ := hO.1.ow j hj
      rw [el, eo]
      exact ln_nar ow (by omega)
theorem us_shown {k : Nat} (hk : k < 32) (h13 : v 0 13 = nI 32) {Q : Int32 → V3 → Prop} (h : Q (v 2 k) v) : w_X3_shown (nI k) v Q := by
  unfold w_X3_shown
  rw [h13]
  refine br_f (nI_pos (by omega)) (br_f (nI_ge hk (by omega)) ⟨vp_in_nI (by omega) (by decide), ?_⟩)
  rw [show ix (nI k) = k from nI_clamp (by omega)]
  exact h
theorem us_shown32 (h13 : v 0 13 = nI 32) {Q : Int32 → V3 → Prop} (h : Q (-1) v) : w_X3_shown 32 v Q := by
  unfold w_X3_shown
  rw [h13]
  exact br_f (by decide) (br_t (by decide) h)
end UL
