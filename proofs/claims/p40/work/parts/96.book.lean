/-! CALLS 12: book -/
def appS (σ : Nat → Int32) (n : Nat) (r : Nat → Int32) : Nat → Int32 := upd (fun k => if 74 + 10 * n ≤ k ∧ k < 84 + 10 * n then r (k - (74 + 10 * n)) else σ k) 6 (nI (n + 1))
def rw7 (x0 x1 x2 x3 x4 x5 x6 : Int32) : Nat → Int32
  | 0 => x0
  | 1 => x1
  | 2 => x2
  | 3 => x3
  | 4 => x4
  | 5 => x5
  | 6 => x6
  | 7 => 0
  | 8 => -1
  | _ => -1
section AB
variable {v : V3} {b n m S : Nat} {B : Int} {σ r : Nat → Int32}
theorem appS_s {k : Nat} (hk : k < 74) (h6 : k ≠ 6) : appS σ n r k = σ k := by
  unfold appS
  rw [pk_un h6, if_neg (by omega)]
theorem appS_6 : appS σ n r 6 = nI (n + 1) := pk_us
theorem appS_o {o f : Nat} (ho : o < 8) (hf : f < 8) : og (appS σ n r) o f = og σ o f := by
  unfold appS og
  rw [pk_un (by omega), if_neg (by omega)]
theorem appS_b {j f : Nat} (hf : f < 10) : bf (appS σ n r) j f = if j = n then r f else bf σ j f := by
  unfold appS bf
  rw [pk_un (by omega)]
  by_cases e : j = n
  · subst e
    rw [if_pos (by omega), if_pos rfl, show 74 + 10 * j + f - (74 + 10 * j) = f by omega]
  · rw [if_neg (by omega), if_neg e]
theorem appS_bo {j f : Nat} (hj : j < n) (hf : f < 10) : bf (appS σ n r) j f = bf σ j f := by rw [appS_b hf, if_neg (by omega)]
theorem appS_bn {f : Nat} (hf : f < 10) : bf (appS σ n r) n f = r f := by rw [appS_b hf, if_pos rfl]
/-- a new row -/
def Rn (r : Nat → Int32) (m S : Nat) : Prop := (∃ o, o < m ∧ r 0 = nI o) ∧ (0 ≤ (r 1).toInt ∧ 1 ≤ (r 2).toInt ∧ (r 1).toInt + (r 2).toInt ≤ S) ∧ (1 ≤ (r 3).toInt ∧ (r 3).toInt ≤ 99 ∧ 0 ≤ (r 4).toInt ∧ (r 4).toInt ≤ 9999 ∧ 0 ≤ (r 5).toInt ∧ (r 5).toInt ≤ 99) ∧ r 7 = 0
theorem appS_wf (h : Wf σ n m S B) (hn : n < 40) (hr : Rn r m S) : Wf (appS σ n r) (n + 1) m S B := by
  obtain ⟨⟨hC, h4, h7, hg⟩, hSp, hSt, hRg, hOw, hTm, hNC⟩ := h
  obtain ⟨r0, r1, r3, r7⟩ := hr
  have ln : lvB (appS σ n r) n = false := by
    unfold lvB
    rw [appS_bn (by omega), r7]
    decide
  have cs : ∀ j, j < n + 1 → j < n ∨ j = n := fun j hj => by omega
  refine ⟨⟨⟨(appS_s (by omega) (by omega)).trans hC.1, hC.2.1, appS_6, by omega⟩, (appS_s (by omega) (by omega)).trans h4, ?_, ?_⟩, ⟨fun j hj => ?_, hSp.2⟩, fun j hj => ?_, fun j hj => ?_, fun j hj => ?_, ⟨fun j hj hlj => ?_, hTm.2⟩, fun j k hj hkn hne l1 l2 => ?_⟩
  · rw [appS_s (by omega) (by omega)]; exact h7
  · unfold Sg; rw [appS_s (by omega) (by omega), appS_s (by omega) (by omega), appS_s (by omega) (by omega), appS_s (by omega) (by omega)]; exact hg
  · rcases cs j hj with e | rfl
    · rw [appS_bo e (by omega), appS_bo e (by omega)]; exact hSp.1 j e
    · rw [appS_bn (by omega), appS_bn (by omega)]; exact r1
  · rcases cs j hj with e | rfl
    · rw [appS_bo e (by omega)]; exact hSt j e
    · exact ⟨0, by omega, by rw [appS_bn (by omega), r7]; rfl⟩
  · rcases cs j hj with e | rfl
    · unfold Rg; rw [appS_bo e (by omega), appS_bo e (by omega), appS_bo e (by omega)]; exact hRg j e
    · unfold Rg; rw [appS_bn (by omega), appS_bn (by omega), appS_bn (by omega)]; exact r3
  · rcases cs j hj with e | rfl
    · rw [appS_bo e (by omega)]; exact hOw j e
    · rw [appS_bn (by omega)]; exact r0
  · rcases cs j hj with e | rfl
    · rw [appS_bo e (by omega), appS_bo e (by omega)]; exact hTm.1 j e ((lv_of (appS_bo e (by omega))).symm.trans hlj)
    · rw [ln] at hlj; exact absurd hlj (by decide)
  · rcases cs j hj with e | rfl
    · rcases cs k hkn with e' | rfl
      · rw [appS_bo e (by omega), appS_bo e (by omega), appS_bo e (by omega), appS_bo e (by omega), appS_bo e' (by omega), appS_bo e' (by omega), appS_bo e' (by omega), appS_bo e' (by omega)]
        exact hNC j k e e' hne ((lv_of (appS_bo e (by omega))).symm.trans l1) ((lv_of (appS_bo e' (by omega))).symm.trans l2)
      · rw [ln] at l2; exact absurd l2 (by decide)
    · rw [ln] at l1; exact absurd l1 (by decide)
theorem appS_hit {x1 x2 : Int32} {D t : Int} (h : hitI σ n x1 x2 D t) : hitI (appS σ n r) (n + 1) x1 x2 D t := by
  obtain ⟨j, hj, a, s, c, d⟩ := h
  refine ⟨j, by omega, (lv_of (appS_bo hj (by omega))).trans a, ?_, ?_, ?_⟩
  · unfold spB; rw [appS_bo hj (by omega), appS_bo hj (by omega)]; exact s
  · rw [appS_bo hj (by omega)]; exact c
  · rw [appS_bo hj (by omega)]; exact d
/-- the new booking is booked if it finds a time -/
def bkS (σ : Nat → Int32) (n : Nat) (r : Nat → Int32) : Nat → Int32 := if bstS (appS σ n r) (n + 1) n = -1 then appS σ n r else settleS (appS σ n r) n (bstS (appS σ n r) (n + 1) n)
theorem bkS_ok (h : OK σ n m S B) (hB : 10300 ≤ B) (hn : n < 40) (hr : Rn r m S) : OK (bkS σ n r) (n + 1) m S B := by
  have W1 := appS_wf h.1 hn hr
  have r7 := hr.2.2.2
  have s7 : bf (appS σ n r) n 7 = 0 := by rw [appS_bn (by omega)]; exact r7
  have old : ∀ j, j < n → bf (appS σ n r) j 7 = 0 → NFi (appS σ n r) (n + 1) j := fun j hj h0 t t1 t2 t3 => by
    rw [appS_bo hj (by omega)] at h0
    rw [appS_bo hj (by omega), appS_bo hj (by omega)] at t2 t3
    rw [appS_s (by omega) (by omega)] at t1
    rw [appS_bo hj (by omega), appS_bo hj (by omega), appS_bo hj (by omega)]
    exact appS_hit (h.2.1 j hj h0 t t1 t2 t3)
  unfold bkS
  by_cases c : bstS (appS σ n r) (n + 1) n = -1
  · rw [if_pos c]
    refine ⟨W1, fun j hj h0 => ?_, by rw [appS_s (by omega) (by omega)]; exact h.2.2⟩
    by_cases e : j = n
    · subst e
      exact (bst_no W1.n40 (by omega) (W1.rg (by omega)) (lv_0 s7) W1.t0.1).mp c
    · exact old j (by omega) h0
  · rw [if_neg c]
    have l0 := lv_0 s7
    refine ⟨bst_wf W1 hB (by omega) s7 c, fun j hj h0 => ?_, by rw [(stl_ch (σ := appS σ n r) (i := n) (t := bstS (appS σ n r) (n + 1) n) (n := n + 1)).1 7 (by omega), appS_s (by omega) (by omega)]; exact h.2.2⟩
    by_cases e : j = n
    · subst e
      rw [stl_7] at h0
      exact absurd h0 (by decide)
    · rw [stl_n (n := n + 1) hj e (by omega)] at h0
      exact NFi_ch (stl_ch (n := n + 1)) l0 hj (old j (by omega) h0)
theorem LA_app {v' : V3} (hL : LA v b σ n m) (hn : n < 40) (hm : m ≤ 8) (hc : ∀ c, c ≠ b → c ≠ b + 14 + n → v' c = v c) (hb0 : ∀ j, j ≠ 8 → v' b j = v b j) (h8 : v' b 8 = nI (n + 1)) (hr : ∀ f, f < 10 → v' (b + 14 + n) f = r f) : LA v' b (appS σ n r) (n + 1) m := by
  obtain ⟨⟨a1, a2, a3, a4, a5, a6, a7⟩, ho, hb⟩ := hL
  refine ⟨⟨fun j hj => ?_, ?_, ?_, ?_, h8, ?_, ?_⟩, fun p hp f hf => ?_, fun j hj f hf => ?_⟩
  · rw [hc _ (by omega) (by omega), appS_s (by omega) (by omega)]; exact a1 j hj
  · rw [hb0 _ (by decide), appS_s (by omega) (by omega)]; exact a2
  · rw [hb0 _ (by decide), appS_s (by omega) (by omega)]; exact a3
  · rw [hb0 _ (by decide)]; exact a4
  · rw [hb0 _ (by decide), appS_s (by omega) (by omega)]; exact a6
  · rw [hb0 _ (by decide), appS_s (by omega) (by omega)]; exact a7
  · rw [hc _ (by omega) (by omega), appS_o (by omega) hf]; exact ho p hp f hf
  · by_cases e : j = n
    · subst e; rw [appS_bn hf]; exact hr f hf
    · rw [hc _ (by omega) (by omega), appS_bo (by omega) hf]; exact hb j (by omega) f hf
theorem uC_enterB {x0 x1 x2 x3 x4 x5 x6 : Int32} (hL : LA v b σ n m) (hO : OK σ n m S B) (hB : 10300 ≤ B) (hn : n < 40) (hr : Rn (rw7 x0 x1 x2 x3 x4 x5 x6) m S) {Q : Int32 → V3 → Prop} (hQ : ∀ v', LA v' b (bkS σ n (rw7 x0 x1 x2 x3 x4 x5 x6)) (n + 1) m → Fr b v v' → Q (nI n) v') : w_X1_enterBooking b x0 x1 x2 x3 x4 x5 x6 v Q := by
  have hm := hO.1.m8
  unfold w_X1_enterBooking
  rw [hL.n8]
  have en : ix (nI n) = n := nI_clamp (by omega)
  refine ⟨vp_in_nI hn (by decide), ?_⟩
  rw [en]
  refine nm_e (nm_e (nm_e (nm_e (nm_e (nm_e (nm_e ?_))))))
  refine ⟨vp_in_nI hn (by decide), ?_⟩
  rw [en]
  refine nm_e (nm_e (nm_e (nm_e ?_)))
  generalize hv : up2 (up2 (up2 (up2 (up2 (up2 (up2 (up2 (up2 (up2 v (b + 14 + n) 0 x0) (b + 14 + n) 1 x1) (b + 14 + n) 2 x2) (b + 14 + n) 3 x3) (b + 14 + n) 4 x4) (b + 14 + n) 5 x5) (b + 14 + n) 6 x6) (b + 14 + n) 7 0) (b + 14 + n) 8 (-1)) (b + 14 + n) 9 (-1) = u
  have uo : ∀ c, c ≠ b + 14 + n → u c = v c := fun c hc => by
    rw [← hv, up2_off _ _ _ hc, up2_off _ _ _ hc, up2_off _ _ _ hc, up2_off _ _ _ hc, up2_off _ _ _ hc, up2_off _ _ _ hc, up2_off _ _ _ hc, up2_off _ _ _ hc, up2_off _ _ _ hc, up2_off _ _ _ hc]
  have ur : ∀ f, f < 10 → u (b + 14 + n) f = rw7 x0 x1 x2 x3 x4 x5 x6 f := fun f hf => by
    rw [← hv, up2_row, up2_row, up2_row, up2_row, up2_row, up2_row, up2_row, up2_row, up2_row, up2_row]
    match f, hf with
    | 0, _ => rfl
    | 1, _ => rfl
    | 2, _ => rfl
    | 3, _ => rfl
    | 4, _ => rfl
    | 5, _ => rfl
    | 6, _ => rfl
    | 7, _ => rfl
    | 8, _ => rfl
    | 9, _ => rfl
  have u8 : u b 8 = nI n := by rw [uo b (by omega)]; exact hL.n8
  rw [u8, nI_1]
  have hL1 : LA (up2 u b 8 (nI (n + 1))) b (appS σ n (rw7 x0 x1 x2 x3 x4 x5 x6)) (n + 1) m := LA_app hL hn hm (fun c c0 c1 => by rw [up2_off _ _ _ c0, uo c c1]) (fun j hj => by rw [up2_row, pk_un hj, uo b (by omega)]) (by rw [up2_row, pk_us]) (fun f hf => by rw [up2_off _ _ _ (by omega)]; exact ur f hf)
  have F1 : Fr b v (up2 u b 8 (nI (n + 1))) := fun c hc => by rw [up2_off _ _ _ (by omega), uo c (by omega)]
  have W1 := appS_wf hO.1 hn hr
  have s7 : bf (appS σ n (rw7 x0 x1 x2 x3 x4 x5 x6)) n 7 = 0 := by rw [appS_bn (by omega)]; rfl
  have t0 := W1.t0
  unfold bkS at hQ
  refine uC_best hL1 (by omega) W1.tm (by omega) (by omega) (W1.rg (by omega)) (lv_0 s7) ?_
  refine uC_bookAt hL1 (by omega) hm (by omega) (fun c => ?_) (fun v' c hL2 f2 => ?_)
  · rw [if_pos c] at hQ
    exact hQ _ hL1 F1
  · rw [if_neg c] at hQ
    exact hQ _ hL2 (Fr_t F1 (fun c hc => f2 c (by omega)))
end AB
