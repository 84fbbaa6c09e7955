/-! A LEDGER THAT WAS JUST MADE AMONG THE NUMBERED CELLS -/
def vL (r j : Nat) : Int32 := if r = 0 then (if j = 5 then 32 else 0) else if r = 1 then st0 j else 0
theorem range54 {α : Type} (F : Nat → α) : (List.range 54).map F = F 0 :: F 1 :: F 2 :: F 3 :: F 4 :: F 5 :: ((List.range 8).map (fun i => F (6 + i)) ++ (List.range 40).map (fun i => F (14 + i))) := by
  have e : List.range 54 = [0, 1, 2, 3, 4, 5] ++ ((List.range 8).map (fun i => 6 + i) ++ (List.range 40).map (fun i => 14 + i)) := by decide +kernel
  rw [e, List.map_append, List.map_append, List.map_map, List.map_map]
  rfl
theorem LL_cv {G G' : zG} {ad : Nat → Nat} {v : V3} {b : Nat} (hL : isL G' b) (hA : gcA G' = gcA G) (had : ∀ r, r < 54 → gad G' (b + r) = ad r) (hv : ∀ r, r < 54 → v (b + r) = vL r) : Cv (LLx G ad) ((List.range 54).map (fun r => (gad G' (b + r), ent G' v (b + r)))) := by
  have v0 : v b = vL 0 := hv 0 (by decide)
  have z : ∀ r, 2 ≤ r → r < 54 → v (b + r) = fun _ => 0 := fun r h1 h2 => by
    rw [hv r h2]
    funext j
    unfold vL
    rw [if_neg (by omega), if_neg (by omega)]
  rw [range54]
  unfold LLx
  refine Cv.cons (had 0 (by decide)).symm (Eqv.of ?_) (Cv.cons (had 1 (by decide)).symm (Eqv.of ?_) (Cv.cons (had 2 (by decide)).symm ?_ (Cv.cons (had 3 (by decide)).symm ?_ (Cv.cons (had 4 (by decide)).symm (Eqv.of ?_) (Cv.cons (had 5 (by decide)).symm (Eqv.of ?_) (Cv.app ?_ ?_))))))
  · show _ = ent G' v b
    rw [ent_L hL, v0, had 1 (by decide), had 2 (by decide), had 3 (by decide), had 4 (by decide), had 5 (by decide)]
    rfl
  · rw [ent_L1 hL, hv 1 (by decide), hA]
    rfl
  · rw [ent_L2 hL, hA]
    exact Eqv.q (fun j hj => congrArg some (by rw [Nat.add_assoc]; exact (had (6 + j) (by omega)).symm))
  · rw [ent_L3 hL, hA]
    exact Eqv.q (fun j hj => congrArg some (by rw [Nat.add_assoc]; exact (had (14 + j) (by omega)).symm))
  · rw [ent_L4 hL, hA, z 4 (by decide) (by decide)]
  · rw [ent_L5 hL, hA, z 5 (by decide) (by decide)]
  · refine Cv.map _ (fun i hi => (had (6 + i) (by have := List.mem_range.mp hi; omega)).symm) (fun i hi => Eqv.of ?_)
    have h8 := List.mem_range.mp hi
    have hz := z (6 + i) (by omega) (by omega)
    rw [← Nat.add_assoc] at hz ⊢
    rw [ent_O hL h8, hz, hA]
  · refine Cv.map _ (fun i hi => (had (14 + i) (by have := List.mem_range.mp hi; omega)).symm) (fun i hi => Eqv.of ?_)
    have h8 := List.mem_range.mp hi
    have hz := z (14 + i) (by omega) (by omega)
    rw [← Nat.add_assoc] at hz ⊢
    rw [ent_B hL h8, hz, hA]
/-- cells below N but for the saved slots say the same when the numbering goes on -/
theorem ent_eqv {G G2 : zG} {v v2 : V3} {N c : Nat} (hN : N = 116 ∨ N = 170) (h1 : N ≤ gn G) (h2 : N ≤ gn G2) (hA : gcA G2 = gcA G) (hk3 : gk G2 = gk G) (had : ∀ k, k < N → gad G2 k = gad G k) (hc : c < N) (h3 : c ≠ 3) (hv : v2 c = v c) : Eqv (ent G v c) (ent G2 v2 c) := by
  by_cases h21 : c < 8
  · have h : ∀ k, k < 116 → gad G2 k = gad G k := fun k hk => had k (by omega)
    unfold ent
    rw [if_pos h21, if_pos h21]
    refine Eqv.of ?_
    match c, h21, h3, hv with
    | 0, _, _, hv => simp [entS, h, hv]
    | 3, _, h3, _ => exact absurd rfl h3
    | 4, _, _, hv => simp [entS, h]
    | 6, _, _, hv => simp [entS, h, hv]
    | 7, _, _, hv => simp [entS, h, hv, hk3]
    | 1, _, _, hv | 2, _, _, hv | 5, _, _, hv => simp only [entS, hA, hv]
    | k + 8, hk, _, _ => omega
  · obtain ⟨b, r, hb, hr, rfl⟩ : ∃ b r, (b = 8 ∨ b = 62 ∨ b = 116 ∨ b = 170) ∧ r < 54 ∧ c = b + r := ⟨c - (c - 8) % 54, (c - 8) % 54, by omega, by omega, by omega⟩
    have hbN : b + 54 ≤ N := by omega
    have hL : isL G b := ⟨hb, by omega⟩
    have hL2 : isL G2 b := ⟨hb, by omega⟩
    rcases (show r = 0 ∨ r = 1 ∨ r = 2 ∨ r = 3 ∨ r = 4 ∨ r = 5 ∨ (6 ≤ r ∧ r < 14) ∨ 14 ≤ r by omega) with rfl | rfl | rfl | rfl | rfl | rfl | h | h
    · show Eqv (ent G v b) (ent G2 v2 b)
      have hv0 : v2 b = v b := hv
      rw [ent_L hL, ent_L hL2, hv0, had (b + 1) (by omega), had (b + 2) (by omega), had (b + 3) (by omega), had (b + 4) (by omega), had (b + 5) (by omega)]
      exact Eqv.of rfl
    · rw [ent_L1 hL, ent_L1 hL2, hv, hA]
      exact Eqv.of rfl
    · rw [ent_L2 hL, ent_L2 hL2, hA]
      exact Eqv.q (fun j hj => congrArg some (had _ (by omega)).symm)
    · rw [ent_L3 hL, ent_L3 hL2, hA]
      exact Eqv.q (fun j hj => congrArg some (had _ (by omega)).symm)
    · rw [ent_L4 hL, ent_L4 hL2, hv, hA]
      exact Eqv.of rfl
    · rw [ent_L5 hL, ent_L5 hL2, hv, hA]
      exact Eqv.of rfl
    · obtain ⟨i, rfl⟩ : ∃ i, r = 6 + i := ⟨r - 6, by omega⟩
      rw [← Nat.add_assoc] at hv ⊢
      rw [ent_O hL (by omega), ent_O hL2 (by omega), hv, hA]
      exact Eqv.of rfl
    · obtain ⟨i, rfl⟩ : ∃ i, r = 14 + i := ⟨r - 14, by omega⟩
      rw [← Nat.add_assoc] at hv ⊢
      rw [ent_B hL (by omega), ent_B hL2 (by omega), hv, hA]
      exact Eqv.of rfl
/-- the numbering goes on by a ledger -/
def gS (G : zG) (ad : Nat → Nat) : zG := (gD G, fun c => if c < gn G then gad G c else ad (c - gn G), gcA G, gn G + 54, gb G, gk G)
def vS (v : V3) (k N : Nat) : V3 := fun c => if c < N then (if c = 3 then upd (v 3) k (nI ((N - 8) / 54)) else v c) else vL (c - N)
theorem gS_lo {G : zG} {ad : Nat → Nat} {c : Nat} (h : c < gn G) : gad (gS G ad) c = gad G c := if_pos h
theorem gS_hi {G : zG} {ad : Nat → Nat} (r : Nat) : gad (gS G ad) (gn G + r) = ad r := by
  show (if gn G + r < gn G then _ else ad (gn G + r - gn G)) = _
  rw [if_neg (by omega), Nat.add_sub_cancel_left]
theorem sv_world {G : zG} {s : State} {v : V3} {k : Nat} {ad : Nat → Nat} {H : Heap} {locs : List Loc} (hN : gn G = 116 ∨ gn G = 170) (hk : k < 2) (hs : ∀ j, j < 2 → v 3 j = 0 ∨ 8 + 54 * ix (v 3 j) < gn G)
    (Z : Zr G s ((WS G v).set 3 (gad G 3, .inl (gcA G 6, 2, .inr (.inr (.inr (.inr (va_up (fun j => if v 3 j = 0 then none else some (gad G (8 + 54 * (v 3 j).toNatClampNeg))) k (some (ad 0)))))))) ++ LLx G ad) H locs) : Zs (gS G ad) s (vS v k (gn G)) H locs := by
  have key : Cv ((WS G v).set 3 (gad G 3, .inl (gcA G 6, 2, .inr (.inr (.inr (.inr (va_up (fun j => if v 3 j = 0 then none else some (gad G (8 + 54 * (v 3 j).toNatClampNeg))) k (some (ad 0)))))))) ++ LLx G ad) (WS (gS G ad) (vS v k (gn G))) := by
    have e1 : WS (gS G ad) (vS v k (gn G)) = (List.range (gn G)).map (fun c => (gad (gS G ad) c, ent (gS G ad) (vS v k (gn G)) c)) ++ (List.range 54).map (fun r => (gad (gS G ad) (gn G + r), ent (gS G ad) (vS v k (gn G)) (gn G + r))) := by
      show (List.range (gn G + 54)).map _ = _
      rw [List.range_add, List.map_append, List.map_map]
      rfl
    rw [e1]
    refine Cv.app ?_ (LL_cv ⟨by omega, Nat.le_refl _⟩ rfl (fun r _ => gS_hi r) (fun r hr => ?_))
    · have e2 : (WS G v).set 3 (gad G 3, .inl (gcA G 6, 2, .inr (.inr (.inr (.inr (va_up (fun j => if v 3 j = 0 then none else some (gad G (8 + 54 * (v 3 j).toNatClampNeg))) k (some (ad 0)))))))) = (List.range (gn G)).map (fun c => (gad G c, if c = 3 then (.inl (gcA G 6, 2, .inr (.inr (.inr (.inr (va_up (fun j => if v 3 j = 0 then none else some (gad G (8 + 54 * (v 3 j).toNatClampNeg))) k (some (ad 0))))))) : va_E) else ent G v c)) := by
        apply List.ext_getElem?
        intro i
        by_cases hi : i < gn G
        · rw [List.getElem?_map, List.getElem?_range hi]
          by_cases h3 : i = 3
          · subst h3
            rw [List.getElem?_set_self (by simp [WS]; exact hi)]
            rfl
          · rw [List.getElem?_set_ne (Ne.symm h3), WS_at hi]
            show some (gad G i, ent G v i) = some (gad G i, if i = 3 then _ else ent G v i)
            rw [if_neg h3]
        · rw [List.getElem?_eq_none (by simp [WS]; omega), List.getElem?_eq_none (by simp; omega)]
      rw [e2]
      refine Cv.map _ (fun c hc => (gS_lo (List.mem_range.mp hc)).symm) (fun c hc => ?_)
      have hc' := List.mem_range.mp hc
      by_cases h3 : c = 3
      · subst h3
        rw [if_pos rfl]
        refine Eqv.q (fun j hj => ?_)
        have e3 : vS v k (gn G) 3 = upd (v 3) k (nI ((gn G - 8) / 54)) := by
          unfold vS
          rw [if_pos hc', if_pos rfl]
        show (if j = k then some (ad 0) else if v 3 j = 0 then none else some (gad G (8 + 54 * (v 3 j).toNatClampNeg))) = if vS v k (gn G) 3 j = 0 then none else some (gad (gS G ad) (8 + 54 * (vS v k (gn G) 3 j).toNatClampNeg))
        rw [e3]
        by_cases hjk : j = k
        · subst hjk
          have hq : (gn G - 8) / 54 = 2 ∨ (gn G - 8) / 54 = 3 := by omega
          have hx : (nI ((gn G - 8) / 54)).toNatClampNeg = (gn G - 8) / 54 := nI_clamp (by omega)
          have h0 : ¬ nI ((gn G - 8) / 54) = 0 := by
            intro h
            rw [h] at hx
            have : (0 : Int32).toNatClampNeg = 0 := rfl
            omega
          rw [if_pos rfl, pk_us, if_neg h0, hx, show 8 + 54 * ((gn G - 8) / 54) = gn G + 0 by omega, gS_hi]
        · rw [if_neg hjk, pk_un hjk]
          rcases hs j hj with h | h
          · rw [if_pos h, if_pos h]
          · by_cases h0 : v 3 j = 0
            · rw [if_pos h0, if_pos h0]
            · rw [if_neg h0, if_neg h0]
              exact congrArg some (gS_lo h).symm
      · rw [if_neg h3]
        refine ent_eqv hN (Nat.le_refl _) (Nat.le_add_right _ _) rfl rfl (fun k hk => gS_lo hk) hc' h3 ?_
        unfold vS
        rw [if_pos hc', if_neg h3]
    · unfold vS
      rw [if_neg (by omega), Nat.add_sub_cancel_left]
  exact Z.cv key
