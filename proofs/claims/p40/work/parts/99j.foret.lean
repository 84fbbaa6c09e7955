/-! THE LAW: foretells -/
section LFT
variable {v : V3} {N r n m : Nat} {x : Int} {σ : Nat → Int32} {Q : Int32 → V3 → Prop}
/-- when a booking waits no more, as far as is known behind k ticks -/
def IsR (σ : Nat → Int32) (n i k : Nat) (z : Int32) : Prop := (¬ bf σ i 7 = 0 ∧ z = 0) ∨ (bf σ i 7 = 0 ∧ WfR σ n i k z)
theorem IsR_un {i K : Nat} (hK : K ≤ 1000) {z z' : Int32} (h : IsR σ n i K z) (h' : IsR σ n i K z') : z = z' := by
  rcases h with ⟨a, b⟩ | ⟨a, b⟩
  · rcases h' with ⟨c, d⟩ | ⟨c, d⟩
    · rw [b, d]
    · exact absurd c a
  · rcases h' with ⟨c, d⟩ | ⟨c, d⟩
    · exact absurd a c
    · exact WfR_un hK b d
theorem IsR_y {i k : Nat} {z : Int32} (h : IsR σ n i k z) (h0 : (0 : Int32) ≤ z) : IsR σ n i (k + 1) z := by
  rcases h with h | ⟨a, ⟨j, b1, b2, b3⟩ | ⟨b1, b2⟩⟩
  · exact .inl h
  · exact .inr ⟨a, .inl ⟨j, b1, by omega, b3⟩⟩
  · rw [b1] at h0; exact absurd h0 (by decide)
theorem IsR_n {i k : Nat} (hk : k ≤ 1000) {z : Int32} (h : IsR σ n i k z) (h0 : ¬ (0 : Int32) ≤ z) : bf σ i 7 = 0 ∧ z = -1 ∧ ∀ j, 1 ≤ j → j ≤ k → bf (stN n σ j) i 7 = 0 := by
  rcases h with ⟨_, e⟩ | ⟨a, ⟨j, b1, b2, b3, _⟩ | ⟨b1, b2⟩⟩
  · rw [e] at h0; exact absurd (by decide) h0
  · rw [b3] at h0; exact absurd (nI_pos' (by omega)) h0
  · exact ⟨a, b1, b2⟩
theorem us_save (hV : VJ v N r x σ n m) {Q : Int32 → Nat → V3 → Prop} (h : ∀ v', VJ v' 170 r x σ n m → LA v' 116 σ n m → Q 0 170 v') : w_L_save N 1 v Q := by
  obtain ⟨s0, s1⟩ := hV.2.2.2.2.2.2.2
  have hn := hV.2.1.1.n40
  have hm := hV.2.1.1.m8
  have i1 : ix (1 : Int32) = 1 := by decide
  have i2 : ix (nI 2) = 2 := by decide
  refine ⟨fun j hj => ?_, us_within (by decide) (by decide) ⟨rfl, by unfold vp_in; decide, ?_⟩⟩
  · rcases (show j = 0 ∨ j = 1 by omega) with rfl | rfl
    · exact .inl s0
    · rcases s1 with ⟨a, _⟩ | ⟨a, b⟩
      · exact .inl a
      · exact .inr (by rw [a, i2, b]; omega)
  rw [i1]
  rcases s1 with ⟨a, rfl⟩ | ⟨a, rfl⟩
  · refine ⟨fun _ => ⟨.inl rfl, fun v2 c2 e2 => ?_⟩, fun q => absurd a q⟩
    have hL2 : LA v2 8 σ n m := LA_c hV.1 hn hm (fun c q1 q2 _ _ => c2 c (by omega) (by omega))
    refine uC_copy hL2 hn hm (by omega) (fun v' hL' hF' => h v' ?_ hL')
    obtain ⟨b1, b2, b3, b4, b5, b6, b7, b8⟩ := hV
    have e7 : v' 7 = v 7 := (hF' 7 (by omega)).trans (c2 7 (by decide) (by omega))
    have e3 : v' 3 = upd (v 3) 1 (nI 2) := (hF' 3 (by omega)).trans e2
    refine ⟨LA_fr hL2 hn hm hF' (by omega), b2, b3, b4, by rw [e7]; exact b5, Nx_e b6 (by rw [e7]), by rw [e7]; exact b7, ?_⟩
    unfold SV
    rw [e3, pk_un (by decide), pk_us]
    exact ⟨s0, .inr ⟨rfl, rfl⟩⟩
  · refine ⟨fun q => absurd (a.symm.trans q) (by decide), fun _ => ⟨116, by rw [a, i2], .inl rfl, by omega, uC_copy hV.1 hn hm (by omega) (fun v' hL' hF' => h v' ?_ hL')⟩⟩
    exact VJ_k hV (LA_fr hV.1 hn hm hF' (by omega)) (hF' 7 (by omega)) (hF' 3 (by omega))
theorem us_restore {ρ : Nat → Int32} {n' : Nat} (h3 : v 3 1 = nI 2) (hL : LA v 116 σ n m) (hn : n ≤ 40) (hm : m ≤ 8) (h : ∀ v', LA v' 8 σ n m → (∀ c, (1 ≤ c ∧ c < 8) ∨ 62 ≤ c → v' c = v c) → Q 0 v') : w_L_restore 170 1 v Q := by
  have i1 : ix (1 : Int32) = 1 := by decide
  have i2 : ix (nI 2) = 2 := by decide
  refine us_within (by decide) (by decide) ⟨by unfold vp_in; decide, ?_⟩
  rw [i1]
  refine ⟨fun q => absurd (h3.symm.trans q) (by decide), fun _ => ⟨116, by rw [h3, i2], .inl rfl, by omega, uC_copy hL hn hm (by omega) (fun v' hL' hF' => nm_e (nm_e (nm_e ?_)))⟩⟩
  exact h _ (LA_c hL' hn hm (fun c q1 _ _ _ => by rw [up2_off _ _ _ (by omega), up2_off _ _ _ (by omega), up2_off _ _ _ (by omega)])) (fun c hc => by rw [up2_off _ _ _ (by omega), up2_off _ _ _ (by omega), up2_off _ _ _ (by omega)]; exact hF' c (by omega))
theorem us_waitsR (hL : LA v 8 σ n m) {B : Int} (hO : OK σ n m 32 B) (hB : 10300 ≤ B) {i K : Nat} (hi : i < n) (hK : 1 ≤ K ∧ K ≤ 200) (h : ∀ z, IsR σ n i K z → ∀ v', Fr 62 v v' → Q z v') : w_L_waitsFor (nI i) (nI K) v Q :=
  us_waitsFor hL hO hB hi hK (fun c => h 0 (.inl ⟨c, rfl⟩) v (Fr_r 62 v)) (fun c z hz v' hF => h z (.inr ⟨c, hz⟩) v' hF)
theorem ar_w {a b c d : Int32} (h : a + b + c = d) : a = d - b - c := by
  rw [← h, Int32.sub_eq_add_neg, Int32.sub_eq_add_neg, Int32.add_assoc, Int32.add_assoc, Int32.add_assoc]
  have : b + (c + (-b + -c)) = 0 := by
    rw [show b + (c + (-b + -c)) = (b + -b) + (c + -c) by ac_rfl, Int32.add_right_neg, Int32.add_right_neg, Int32.add_zero]
  rw [this, Int32.add_zero]
theorem us_foretells (hV : VI v N r σ n m) (hr : r ≤ 400) {Q : Int32 → Nat → V3 → Prop} (h : ∀ (v' : V3) (N' : Nat) (σ' : Nat → Int32) (n' : Nat), VI v' N' (r + 1) σ' n' m → Q 1 N' v') : w_L_foretells N v Q := by
  have hO := hV.2.1
  have hn := hO.1.n40
  have hm := hO.1.m8
  have hT := hV.2.2.2.1
  have t0 := hO.1.t0.1
  refine us_drawJ (K := 40) hV (by omega) (by omega) (fun y hy v1 V1 => us_count_6 V1.1 ⟨fun c => ⟨fun q => absurd c q, fun _ => ⟨.inr rfl, h v1 N σ n (VI_g V1 (by omega) hr)⟩⟩, fun c => ?_⟩)
  rw [show (1 + nI y : Int32) = nI (1 + y) from nI_add 1 y]
  generalize hK : 1 + y = K
  have n1 : 1 ≤ n := Nat.one_le_iff_ne_zero.mpr (fun z => c (by rw [z]; rfl))
  refine us_save V1 (fun v2 V2 hL2 => ⟨fun _ => ?_, fun q => absurd rfl q⟩)
  refine us_draw (N := n) (by omega) V2.2.2.2.2.1 V2.2.2.2.2.2.1 (by omega) (fun i hi v3 c3 j3 x3 => ?_)
  have V3' := VJ_d V2 c3 j3 x3
  obtain ⟨E, -, -, -, s0⟩ := tkN_all (K := K) hO.1 hO.2.1 (by omega) (by omega)
  rw [tkN_st] at s0
  have cw := ar_w s0
  -- the saved ledger stays
  have keep : ∀ {w w' : V3}, LA w 116 σ n m → (∀ c, 116 ≤ c → w' c = w c) → LA w' 116 σ n m := fun hl hc => LA_c hl hn hm (fun c q _ _ _ => hc c q)
  have K3 := keep hL2 (w' := v3) (fun c hc => c3 c (by omega))
  refine us_waitsR V3'.1 hO (by omega) hi (by omega) (fun z hz v4 F4 => ?_)
  have V4 := VJ_62 V3' F4
  have K4 := keep K3 (w' := v4) (fun c hc => F4 c (by omega))
  refine us_ahead (x := 1) V4.1 hO (by omega) (by omega) (by omega) (fun v5 F5 => ?_)
  have V5 := VJ_62 V4 F5
  have K5 := keep K4 (w' := v5) (fun c hc => F5 c (by omega))
  refine us_ahead (x := 2) V5.1 hO (by omega) (by omega) (by omega) (fun v6 F6 => ?_)
  have V6 := VJ_62 V5 F6
  have K6 := keep K5 (w' := v6) (fun c hc => F6 c (by omega))
  have loop : ∀ s, IsR σ n i 0 s → w_L_foretells_112 170 (fun r u => Q r 170 u) (nI K) (nI i) z ((tkN n K (σ, fun _ => 0)).2 1) ((tkN n K (σ, fun _ => 0)).2 2) (cntS σ n 0) s v6 := by
    intro s hs
    have key : ∀ d k (s : Int32) (w : V3), k + d = K → IsR σ n i k s → LA w 8 (stN n σ k) n m → LA w 116 σ n m → w 7 = v6 7 → w 3 = v6 3 → w_L_foretells_117 170 (fun r u => Q r 170 u) (d + 1) (nI K) (nI i) z ((tkN n K (σ, fun _ => 0)).2 1) ((tkN n K (σ, fun _ => 0)).2 2) (cntS σ n 0) s (nI (k + 1)) w := by
      intro d
      induction d with
      | zero =>
        intro k s w hk hs hL hS h7 h3
        obtain rfl : k = K := by omega
        rw [w_L_foretells_117]
        have es := IsR_un (by omega) hs hz
        refine br_t (nI_lt (by omega) (by omega)) ⟨fun q => absurd es q, fun _ => us_count_8 hL hn ⟨fun q => absurd cw q, fun _ => ?_⟩⟩
        have v31 : w 3 1 = nI 2 := by
          rw [h3]
          rcases V6.2.2.2.2.2.2.2.2 with ⟨_, q⟩ | ⟨q, _⟩
          · exact absurd q (by decide)
          · exact q
        refine us_restore (ρ := σ) (n' := n) v31 hS hn hm (fun v7 hL7 f7 => ⟨fun q => absurd rfl q, fun _ => us_count_8 hL7 hn ⟨fun q => absurd rfl q, fun _ => us_waitsR hL7 hO (by omega) hi (by omega) (fun z' hz' v8 F8 => ?_)⟩⟩)
        refine ⟨fun q => absurd (IsR_un (by omega) hz' hz) q, fun _ => ⟨.inr rfl, h v8 170 σ n ?_⟩⟩
        have V7 : VJ v7 170 r (100 * r + 1 + 1) σ n m := VJ_k V6 hL7 ((f7 7 (by omega)).trans h7) ((f7 3 (by omega)).trans h3)
        exact VI_g (VJ_62 V7 F8) (by omega) hr
      | succ d ih =>
        intro k s w hk hs hL hS h7 h3
        have ok := stN_ok (n := n) (m := m) (S := 32) (B := 10300 + 99 * r) (σ := σ) (by omega) hO.1 hO.2.1 k (by omega)
        rw [w_L_foretells_117]
        refine br_f (nI_nlt (by omega) (by omega)) (us_pass (K := 1) hL ⟨ok.1, ok.2.1, by omega⟩ (by omega) (by omega) (by omega) (fun w2 hL2 F2 => ?_))
        have e1 : (tkN n 1 (stN n σ k, fun _ => 0)).1 = stN n σ (k + 1) := tkN_st n 1 _ _
        rw [e1] at hL2
        have S2 := keep hS (w' := w2) (fun c hc => F2 c (by omega))
        have q7 : w2 7 = v6 7 := (F2 7 (by omega)).trans h7
        have q3 : w2 3 = v6 3 := (F2 3 (by omega)).trans h3
        have pos : (0 : Int32) ≤ (tkN n 1 (stN n σ k, fun _ => 0)).2 0 := by
          have e : (tkN n 1 (stN n σ k, fun _ => 0)).2 0 = (endF bmpC 5 2 n (tkF n (stN n σ k)) 0).2 := tick_0 n (stN n σ k) (fun _ => 0)
          obtain ⟨j, j1, j2, _⟩ := endF_cnt bmpC 5 2 n (tkF n (stN n σ k))
          rw [e, j2]
          exact nI_pos' (by omega)
        have nx : ∀ s', IsR σ n i (k + 1) s' → w_L_foretells_117 170 (fun r u => Q r 170 u) (d + 1) (nI K) (nI i) z ((tkN n K (σ, fun _ => 0)).2 1) ((tkN n K (σ, fun _ => 0)).2 2) (cntS σ n 0) s' (nI (k + 1) + 1) w2 := fun s' hs' => by
          rw [← nI_succ]
          exact ih (k + 1) s' w2 (by omega) hs' hL2 S2 q7 q3
        refine br_t pos (br_c (fun p => nx s (IsR_y hs p)) (fun p => us_booking_7 hL2 hn hi ?_))
        obtain ⟨a0, a1, a2⟩ := IsR_n (by omega) hs p
        refine br_c (fun q => nx s (.inr ⟨a0, .inr ⟨a1, fun j j1 j2 => ?_⟩⟩)) (fun q => nx (nI (k + 1)) (.inr ⟨a0, .inl ⟨k + 1, by omega, by omega, rfl, q, fun j j1 j2 => a2 j j1 (by omega)⟩⟩))
        by_cases e : j = k + 1
        · rw [e]; exact q
        · exact a2 j j1 (by omega)
    exact ⟨K + 1, key K 0 s v6 (by omega) hs V6.1 K6 rfl rfl⟩
  refine us_count_8 V6.1 hn (us_booking_7 V6.1 hn hi (ntc (fun q => loop 0 (.inl ⟨q, rfl⟩)) (fun q => loop (-1) (.inr ⟨q, .inr ⟨rfl, fun j j1 j2 => by omega⟩⟩))))
end LFT
