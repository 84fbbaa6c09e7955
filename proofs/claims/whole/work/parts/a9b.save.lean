/-! save: both sides; the new ledger, if one is made, stands at the end of the world -/
section SV
variable {v : V3} {g : Nat} {B : Int}
def w_X3_save (N : Nat) (a1 : Int32) (v : V3) (X : String → V3 → Prop) (Q : Nat → V3 → Prop) : Prop := w_X3_needWithin a1 0 1 v X (fun v1 => vp_in a1 2 ∧ ((v1 3 (ix a1) = 0 → (N = 129 ∨ N = 183) ∧ ∀ v2 : V3, (∀ c, c ≠ 3 → c < N → v2 c = v1 c) → v2 3 = upd (v1 3) (ix a1) (nI ((N - 21) / 54)) → w_X1_copyFrom N 21 v2 (fun v3 => Q (N + 54) v3)) ∧ (¬ v1 3 (ix a1) = 0 → ∃ b, 21 + 54 * ix (v1 3 (ix a1)) = b ∧ (b = 129 ∨ b = 183) ∧ b + 54 ≤ N ∧ w_X1_copyFrom b 21 v1 (fun v3 => Q N v3))))
theorem SV1_o {w : V3} {k : Nat} (h : SV1 v B k) (h3 : w 3 k = v 3 k) (h12 : w 12 k = v 12 k) (hs : ∀ j, j < 474 → sv w k j = sv v k j) (hc : ∀ q, (q = 2 ∨ q = 3) → v 3 k = nI q → ∀ c, 21 + 54 * q ≤ c → c < 21 + 54 * q + 54 → w c = v c) : SV1 w B k := by
  rcases h with q | ⟨q12, q, hq, e, n, m, S, hL, hO⟩
  · left; rw [h3, h12]; exact q
  · right
    exact ⟨h12.trans q12, q, hq, h3.trans e, n, m, S, LA_cg (LA_c hL hO.1.n40 hO.1.m8 (fun c c1 c2 _ _ => hc q hq e c (by omega) (by omega))) hO.1.n40 hO.1.m8 hs, OK_cg hO hs⟩
/-- behind the class's half -/
theorem sv_fin {z : V3} {g' k q : Nat} (h : IV v g B) (hB : B + 99 ≤ 900000) (hk : k ≤ 1) (hq : q = 2 ∨ q = 3) (hz : ∀ c, c ≠ 3 → c < 75 → z c = v c) (hz3 : z 3 = upd (v 3) k (nI q)) (hL2 : ∀ n m, LA v 21 (v 8) n m → n ≤ 40 → m ≤ 8 → LA z (21 + 54 * q) (v 8) n m) (hother : ∀ q', (q' = 2 ∨ q' = 3) → v 3 (1 - k) = nI q' → ∀ c, 21 + 54 * q' ≤ c → c < 21 + 54 * q' + 54 → z c = v c) (hg : SVg z g') : okV g' (B + 99) (w_X4_save (nI k)) z := by
  obtain ⟨⟨n, m, S, hL, hO, hD⟩, hR⟩ := id h
  obtain ⟨⟨T, hT⟩, hE7, ⟨K, k1, k2, k3, k4⟩, ⟨s0, s1, sg⟩, hM, hB0⟩ := hR
  have hn := hO.1.n40
  have hm := hO.1.m8
  intro y e9
  refine uM_btw (lo := 0) (hi := 1) rfl rfl (fun _ _ => zt1 ?_) (fun p => absurd p (fun p => p.elim (nI_pos (by omega)) (fun q => by have := (nI_ltI (a := 1) (by omega) (by omega)).mp q; omega)))
  unfold w_X4_save_16
  refine nm_e (ntc (fun z => absurd (by rw [up2_row, pk_us]) z) (fun _ => ?_))
  rw [show (474 : Int32) = nI 474 from rfl, nI_mul]
  refine uM_copy (c1 := 8) (c2 := 11) (N1 := 474) (N2 := 948) (d1 := 0) (d2 := 474 * k) (by decide) (by omega) (by omega) (by omega) (fun u r1 r2 r3 => ⟨vp_in_nI (by omega) (by decide), nm_e ?_⟩)
  rw [show ix (nI k) = k from nI_clamp (by omega), show vp_nar .boolean 1 = 1 from rfl]
  have wc : ∀ c, c ≠ 12 → up2 u 12 k 1 c = u c := fun c a => up2_off _ _ _ a
  have w12 : up2 u 12 k 1 12 = upd (v 12) k 1 := by rw [up2_row, r3 12 (by decide), up2_off _ _ _ (by decide), e9 12 (by decide) (by decide), hz 12 (by decide) (by omega)]
  generalize up2 u 12 k 1 = w at *
  have uc : ∀ c, c ≠ 7 → c ≠ 11 → c ≠ 12 → c ≠ 19 → c ≠ 20 → w c = z c := fun c a b d f i => by rw [wc c d, r3 c b, up2_off _ _ _ a, e9 c f i]
  have uv : ∀ c, c ≠ 3 → c ≠ 7 → c ≠ 11 → c ≠ 12 → c ≠ 19 → c ≠ 20 → c < 75 → w c = v c := fun c a b d f i j q => (uc c b d f i j).trans (hz c a q)
  have w7 : ∀ j, j ≠ 11 → w 7 j = v 7 j := fun j hj => by rw [wc 7 (by decide), r3 7 (by decide), up2_row, pk_un hj, e9 7 (by decide) (by decide), hz 7 (by decide) (by omega)]
  have w3 : w 3 = upd (v 3) k (nI q) := (uc 3 (by decide) (by decide) (by decide) (by decide) (by decide)).trans hz3
  have w8 : w 8 = v 8 := uv 8 (by decide) (by decide) (by decide) (by decide) (by decide) (by decide) (by omega)
  have w0 : w 0 = v 0 := uv 0 (by decide) (by decide) (by decide) (by decide) (by decide) (by decide) (by omega)
  have w11k : ∀ j, j < 474 → sv w k j = v 8 j := fun j hj => by
    have q1 := r1 j hj
    rw [Nat.zero_add, up2_off _ _ _ (by decide), e9 8 (by decide) (by decide), hz 8 (by decide) (by omega)] at q1
    show w 11 (474 * k + j) = v 8 j
    rw [wc 11 (by decide)]
    exact q1
  have w11o : ∀ j, j < 474 → sv w (1 - k) j = sv v (1 - k) j := fun j hj => by
    show w 11 (474 * (1 - k) + j) = v 11 (474 * (1 - k) + j)
    rw [wc 11 (by decide), r2 _ (by omega), up2_off _ _ _ (by decide), e9 11 (by decide) (by decide), hz 11 (by decide) (by omega)]
  have sk : SV1 w (B + 99) k := .inr ⟨by rw [w12, pk_us], q, hq, by rw [w3, pk_us], n, m, S, LA_cg (LA_c (hL2 n m hL hn hm) hn hm (fun c c1 c2 _ _ => uc c (by omega) (by omega) (by omega) (by omega) (by omega))) hn hm w11k, OK_cg (OK_B hO (by omega)) w11k⟩
  have so0 : SV1 v B (1 - k) := by
    rcases (show k = 0 ∨ k = 1 by omega) with rfl | rfl
    · exact s1
    · exact s0
  have so : SV1 w (B + 99) (1 - k) := SV1_B (SV1_o so0 (by rw [w3, pk_un (by omega)]) (by rw [w12, pk_un (by omega)]) w11o (fun q' hq' e c c1 c2 => by rw [uc c (by omega) (by omega) (by omega) (by omega) (by omega)]; exact hother q' hq' e c c1 c2)) (by omega)
  have s01 : SV1 w (B + 99) 0 ∧ SV1 w (B + 99) 1 := by
    rcases (show k = 0 ∨ k = 1 by omega) with rfl | rfl
    · exact ⟨sk, so⟩
    · exact ⟨so, sk⟩
  refine ⟨?_, ⟨⟨n, m, S, ?_, ?_, ?_⟩, ⟨T, ?_⟩, ?_, ⟨K, k1, ?_, ?_, ?_⟩, ⟨s01.1, s01.2, ?_⟩, ?_, by omega⟩, ?_, ?_⟩
  · rw [wc 7 (by decide), r3 7 (by decide), up2_row, pk_us]
  · rw [w8]; exact LA_c hL hn hm (fun c c1 c2 _ _ => uv c (by omega) (by omega) (by omega) (by omega) (by omega) (by omega) (by omega))
  · rw [w8]; exact OK_B hO (by omega)
  · unfold DR DE; rw [w0, w7 8 (by decide), w7 9 (by decide), w7 10 (by decide)]; exact hD
  · unfold TX; rw [w0, w7 13 (by decide), uv 1 (by decide) (by decide) (by decide) (by decide) (by decide) (by decide) (by omega), uv 16 (by decide) (by decide) (by decide) (by decide) (by decide) (by decide) (by omega)]; exact hT
  · rw [w0, w7 19 (by decide), w7 20 (by decide)]; exact hE7
  · rw [w0]; exact k2
  · rw [w7 33 (by decide)]; exact k3
  · rw [uv 2 (by decide) (by decide) (by decide) (by decide) (by decide) (by decide) (by omega), uv 18 (by decide) (by decide) (by decide) (by decide) (by decide) (by decide) (by omega)]; exact k4
  · unfold SVg at hg ⊢; rw [uc 3 (by decide) (by decide) (by decide) (by decide) (by decide)]; exact hg
  · unfold MK; rw [uv 13 (by decide) (by decide) (by decide) (by decide) (by decide) (by decide) (by omega), uv 14 (by decide) (by decide) (by decide) (by decide) (by decide) (by decide) (by omega), uv 15 (by decide) (by decide) (by decide) (by decide) (by decide) (by decide) (by omega)]; exact hM
  · rw [wc 19 (by decide), r3 19 (by decide), up2_off _ _ _ (by decide)]
  · rw [wc 20 (by decide), r3 20 (by decide), up2_off _ _ _ (by decide)]
theorem ca_save (h : IV v g B) (hB : B + 99 ≤ 900000) (a : Int32) : w_X3_save g a v (exV g (B + 99) (w_X4_save a) [(eIA, 1)]) (fun g' v' => okV g' (B + 99) (w_X4_save a) v') := by
  obtain ⟨⟨n, m, S, hL, hO, hD⟩, hR⟩ := id h
  obtain ⟨-, -, -, ⟨s0, s1, sg⟩, hM, hB0⟩ := hR
  have hn := hO.1.n40
  have hm := hO.1.m8
  refine uN_within (fun h1 h2 => ?_) (fun h0 => ⟨1, mm1, fun y e9 => uM_btw (lo := 0) (hi := 1) rfl rfl (fun p q => absurd h0 (fun z => z.elim p q)) (fun _ => zt0 ?_)⟩)
  · obtain ⟨k, hk, rfl⟩ := nI_of h1
    have hk1 : k ≤ 1 := by
      rcases Nat.lt_or_ge 1 k with q | q
      · exact absurd (nI_lt q hk) h2
      · exact q
    refine ⟨vp_in_nI (by omega) (by decide), ?_⟩
    rw [show ix (nI k) = k from nI_clamp hk]
    refine br_c (fun c => ⟨?_, fun v2 f2 f3 => ?_⟩) (fun c => ?_)
    · rcases (show k = 0 ∨ k = 1 by omega) with rfl | rfl <;> rcases sg with ⟨p1, p2, p3⟩ | ⟨⟨p1, p2⟩ | ⟨p1, p2⟩, p3⟩ | ⟨⟨p1, p2⟩ | ⟨p1, p2⟩, p3⟩ <;> first | exact .inl p3 | exact .inr p3 | (rw [p1] at c; exact absurd c (by decide)) | (rw [p2] at c; exact absurd c (by decide))
    · have gg : g = 129 ∧ v 3 (1 - k) = 0 ∨ g = 183 ∧ v 3 (1 - k) = nI 2 := by
        rcases (show k = 0 ∨ k = 1 by omega) with rfl | rfl <;> rcases sg with ⟨p1, p2, p3⟩ | ⟨⟨p1, p2⟩ | ⟨p1, p2⟩, p3⟩ | ⟨⟨p1, p2⟩ | ⟨p1, p2⟩, p3⟩ <;> first | exact .inl ⟨p3, p2⟩ | exact .inl ⟨p3, p1⟩ | exact .inr ⟨p3, p2⟩ | exact .inr ⟨p3, p1⟩ | (rw [p1] at c; exact absurd c (by decide)) | (rw [p2] at c; exact absurd c (by decide))
      have l2 : LA v2 21 (v 8) n m := LA_c hL hn hm (fun c c1 c2 _ _ => f2 c (by omega) (by omega))
      refine uC_copy (b := g) l2 hn hm (by omega) (fun z lz fz => ?_)
      have z3 : z 3 = upd (v 3) k (nI ((g - 21) / 54)) := (fz 3 (by omega)).trans f3
      have zc : ∀ c, c ≠ 3 → c < g → z c = v c := fun c a b => (fz c (by omega)).trans (f2 c a b)
      have gq : (g - 21) / 54 = 2 ∧ g = 129 ∨ (g - 21) / 54 = 3 ∧ g = 183 := by omega
      have lz' : LA z (21 + 54 * ((g - 21) / 54)) (v 8) n m := by
        rw [show 21 + 54 * ((g - 21) / 54) = g by omega]; exact lz
      have uq : ∀ n' m', LA v 21 (v 8) n' m' → n' ≤ 40 → m' ≤ 8 → LA z (21 + 54 * ((g - 21) / 54)) (v 8) n' m' := fun n' m' hL' hn' hm' => by
        have e1 : n' = n := (nI_eq (by omega) (by omega)).mp (hL'.n8.symm.trans hL.n8)
        have e2 : m' = m := (nI_eq (by omega) (by omega)).mp (hL'.m7.symm.trans hL.m7)
        rw [e1, e2]; exact lz'
      refine sv_fin (q := (g - 21) / 54) h hB hk1 (by omega) (fun c a b => zc c a (by omega)) z3 uq (fun q' hq' e c c1 c2 => ?_) ?_
      · rcases gg with ⟨_, g2⟩ | ⟨g1, g2⟩
        · rw [g2] at e
          rcases hq' with rfl | rfl <;> exact absurd e (by decide)
        · rw [g2] at e
          rcases hq' with rfl | rfl
          · exact zc c (by omega) (by omega)
          · exact absurd e (by decide)
      · unfold SVg
        rw [z3]
        rcases gg with ⟨g1, g2⟩ | ⟨g1, g2⟩
        · right; left
          rw [g1]
          refine ⟨?_, rfl⟩
          rcases (show k = 0 ∨ k = 1 by omega) with rfl | rfl
          · left; exact ⟨pk_us, (pk_un (by decide)).trans g2⟩
          · right; exact ⟨(pk_un (by decide)).trans g2, pk_us⟩
        · right; right
          rw [g1]
          refine ⟨?_, rfl⟩
          rcases (show k = 0 ∨ k = 1 by omega) with rfl | rfl
          · right; exact ⟨pk_us, (pk_un (by decide)).trans g2⟩
          · left; exact ⟨(pk_un (by decide)).trans g2, pk_us⟩
    · have sk : SV1 v B k := by
        rcases (show k = 0 ∨ k = 1 by omega) with rfl | rfl
        · exact s0
        · exact s1
      rcases sk with q | ⟨h12, q, hq, e, -⟩
      · exact absurd q.1 c
      rw [show ix (v 3 k) = q by rw [e]; exact nI_clamp (by omega)]
      have hg : 21 + 54 * q + 54 ≤ g := by
        rcases (show k = 0 ∨ k = 1 by omega) with rfl | rfl <;> rcases hq with rfl | rfl <;> rcases sg with ⟨p1, p2, p3⟩ | ⟨⟨p1, p2⟩ | ⟨p1, p2⟩, p3⟩ | ⟨⟨p1, p2⟩ | ⟨p1, p2⟩, p3⟩ <;> first | omega | (rw [p1] at e; exact absurd e (by decide)) | (rw [p2] at e; exact absurd e (by decide))
      refine ⟨21 + 54 * q, rfl, by omega, hg, uC_copy (b := 21 + 54 * q) hL hn hm (by omega) (fun z lz fz => ?_)⟩
      have uq : ∀ n' m', LA v 21 (v 8) n' m' → n' ≤ 40 → m' ≤ 8 → LA z (21 + 54 * q) (v 8) n' m' := fun n' m' hL' hn' hm' => by
        have e1 : n' = n := (nI_eq (by omega) (by omega)).mp (hL'.n8.symm.trans hL.n8)
        have e2 : m' = m := (nI_eq (by omega) (by omega)).mp (hL'.m7.symm.trans hL.m7)
        rw [e1, e2]; exact lz
      have z3 : z 3 = v 3 := fz 3 (by omega)
      refine sv_fin (q := q) h hB hk1 hq (fun c a b => fz c (by omega)) ?_ uq (fun q' hq' e' c c1 c2 => fz c ?_) ?_
      · rw [z3]
        funext j
        by_cases ej : j = k
        · subst ej; rw [pk_us, e]
        · rw [pk_un ej]
      · have ne : q' ≠ q := by
          intro eq
          subst eq
          rcases (show k = 0 ∨ k = 1 by omega) with rfl | rfl <;> rcases hq with rfl | rfl <;> rcases sg with ⟨p1, p2, p3⟩ | ⟨⟨p1, p2⟩ | ⟨p1, p2⟩, p3⟩ | ⟨⟨p1, p2⟩ | ⟨p1, p2⟩, p3⟩ <;> first | (rw [p1] at e; exact absurd e (by decide)) | (rw [p2] at e; exact absurd e (by decide)) | (rw [p1] at e'; exact absurd e' (by decide)) | (rw [p2] at e'; exact absurd e' (by decide))
        omega
      · unfold SVg at sg ⊢; rw [z3]; exact sg
  · unfold w_X4_save_16
    refine nm_e (ntc (fun _ => ?_) (fun z => absurd z (by rw [up2_row, pk_us]; decide)))
    have f := finX (k := 1) (w := up2 y 7 11 0) h hB e9 (Md_r _) (by rw [up2_off _ _ _ (by decide)]; exact e9 8 (by decide) (by decide))
    rw [up2_2] at f
    exact f
end SV
