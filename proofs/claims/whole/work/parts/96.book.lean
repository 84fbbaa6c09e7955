/-! CALLS 12: book -/
def appS (σ : Nat → Int32) (n : Nat) (r : Nat → Int32) : Nat → Int32 := upd (fun k => if 74 + 10 * n ≤ k ∧ k < 84 + 10 * n then r (k - (74 + 10 * n)) else σ k) 6 (nI (n + 1))
def rw7 (x0 x1 x2 x3 x4 x5 x6 : Int32) : Nat → Int32
  | 0 => x0
  | 1 => x1
  | 2 => x2
  | 3 => x3
  | 4 => x4
  | 5 => x5
  | 6 => x6
  | 7 => 0
  | 8 => -1
  | _ => -1
section AB
variable {v : V3} {b n m S : Nat} {B : Int} {σ r : Nat → Int32}
theorem appS_s {k : Nat} (hk : k < 74) (h6 : k ≠ 6) : appS σ n r k = σ k := by
  unfold appS
  rw [pk_un h6, if_neg (by omega)]
theorem appS_6 : appS σ n r 6 = nI (n + 1) := pk_us
theorem appS_o {o f : Nat} (ho : o < 8) (hf : f < 8) : og (appS σ n r) o f = og σ o f := by
  unfold appS og
  rw [pk_un (by omega), if_neg (by omega)]
theorem appS_b {j f : Nat} (hf : f < 10) : bf (appS σ n r) j f = if j = n then r f else bf σ j f := by
  unfold appS bf
  rw [pk_un (by omega)]
  by_cases e : j = n
  · subst e
    rw [if_pos (by omega), if_pos rfl, show 74 + 10 * j + f - (74 + 10 * j) = f by omega]
  · rw [if_neg (by omega), if_neg e]
theorem appS_bo {j f : Nat} (hj : j < n) (hf : f < 10) : bf (appS σ n r) j f = bf σ j f := by rw [appS_b hf, if_neg (by omega)]
theorem appS_bn {f : Nat} (hf : f < 10) : bf (appS σ n r) n f = r f := by rw [appS_b hf, if_pos rfl]
/-- a new row -/
def Rn (r : Nat → Int32) (m S : Nat) : Prop := (∃ o, o < m ∧ r 0 = nI o) ∧ (0 ≤ (r 1).toInt ∧ 1 ≤ (r 2).toInt ∧ (r 1).toInt + (r 2).toInt ≤ S) ∧ (1 ≤ (r 3).toInt ∧ (r 3).toInt ≤ 99 ∧ 0 ≤ (r 4).toInt ∧ (r 4).toInt ≤ 9999 ∧ 0 ≤ (r 5).toInt ∧ (r 5).toInt ≤ 99) ∧ r 7 = 0
theorem appS_wf (h : Wf σ n m S B) (hn : n < 40) (hr : Rn r m S) : Wf (appS σ n r) (n + 1) m S B := by
  obtain ⟨⟨hC, h4, h7, hg⟩, hSp, hSt, hRg, hOw, hTm, hNC⟩ := h
  obtain ⟨r0, r1, r3, r7⟩ := hr
  have ln : lvB (appS σ n r) n = false := by
    unfold lvB
    rw [appS_bn (by omega), r7]
    decide
  have cs : ∀ j, j < n + 1 → j < n ∨ j = n := fun j hj => by omega
  refine ⟨⟨⟨(appS_s (by omega) (by omega)).trans hC.1, hC.2.1, appS_6, by omega⟩, (appS_s (by omega) (by omega)).trans h4, ?_, ?_⟩, ⟨fun j hj => ?_, hSp.2⟩, fun j hj => ?_, fun j hj => ?_, fun j hj => ?_, ⟨fun j hj hlj => ?_, hTm.2⟩, fun j k hj hkn hne l1 l2 => ?_⟩
  · rw [appS_s (by omega) (by omega)]; exact h7
  · unfold Sg; rw [appS_s (by omega) (by omega), appS_s (by omega) (by omega), appS_s (by omega) (by omega), appS_s (by omega) (by omega)]; exact hg
  · rcases cs j hj with e | rfl
    · rw [appS_bo e (by omega), appS_bo e (by omega)]; exact hSp.1 j e
    · rw [appS_bn (by omega), appS_bn (by omega)]; exact r1
  · rcases cs j hj with e | rfl
    · rw [appS_bo e (by omega)]; exact hSt j e
    · exact ⟨0, by omega, by rw [appS_bn (by omega), r7]; rfl⟩
  · rcases cs j hj with e | rfl
    · unfold Rg; rw [appS_bo e (by omega), appS_bo e (by omega), appS_bo e (by omega)]; exact hRg j e
    · unfold Rg; rw [appS_bn (by omega), appS_bn (by omega), appS_bn (by omega)]; exact r3
  · rcases cs j hj with e | rfl
    · rw [appS_bo e (by omega)]; exact hOw j e
    · rw [appS_bn (by omega)]; exact r0
  · rcases cs j hj with e | rfl
    · rw [appS_bo e (by omega), appS_bo e (by omega)]; exact hTm.1 j e ((lv_of (appS_bo e (by omega))).symm.trans hlj)
    · rw [ln] at hlj; exact absurd hlj (by decide)
  · rcases cs j hj with e | rfl
    · rcases cs k hkn with e' | rfl
      · rw [appS_bo e (by omega), appS_bo e (by omega), appS_bo e (by omega), appS_bo e (by omega), appS_bo e' (by omega), appS_bo e' (by omega), appS_bo e' (by omega), appS_bo e' (by omega)]
        exact hNC j k e e' hne ((lv_of (appS_bo e (by omega))).symm.trans l1) ((lv_of (appS_bo e' (by omega))).symm.trans l2)
      · rw [ln] at l2; exact absurd l2 (by decide)
    · rw [ln] at l1; exact absurd l1 (by decide)
theorem appS_hit {x1 x2 : Int32} {D t : Int} (h : hitI σ n x1 x2 D t) : hitI (appS σ n r) (n + 1) x1 x2 D t := by
  obtain ⟨j, hj, a, s, c, d⟩ := h
  refine ⟨j, by omega, (lv_of (appS_bo hj (by omega))).trans a, ?_, ?_, ?_⟩
  · unfold spB; rw [appS_bo hj (by omega), appS_bo hj (by omega)]; exact s
  · rw [appS_bo hj (by omega)]; exact c
  · rw [appS_bo hj (by omega)]; exact d
/-- the new booking is booked if it finds a time -/
def bkS (σ : Nat → Int32) (n : Nat) (r : Nat → Int32) : Nat → Int32 := if bstS (appS σ n r) (n + 1) n = -1 then appS σ n r else settleS (appS σ n r) n (bstS (appS σ n r) (n + 1) n)
theorem bkS_ok (h : OK σ n m S B) (hB : 10300 ≤ B) (hn : n < 40) (hr : Rn r m S) : OK (bkS σ n r) (n + 1) m S B := by
  have W1 := appS_wf h.1 hn hr
  have r7 := hr.2.2.2
  have s7 : bf (appS σ n r) n 7 = 0 := by rw [appS_bn (by omega)]; exact r7
  have old : ∀ j, j < n → bf (appS σ n r) j 7 = 0 → NFi (appS σ n r) (n + 1) j := fun j hj h0 t t1 t2 t3 => by
    rw [appS_bo hj (by omega)] at h0
    rw [appS_bo hj (by omega), appS_bo hj (by omega)] at t2 t3
    rw [appS_s (by omega) (by omega)] at t1
    rw [appS_bo hj (by omega), appS_bo hj (by omega), appS_bo hj (by omega)]
    exact appS_hit (h.2.1 j hj h0 t t1 t2 t3)
  unfold bkS
  by_cases c : bstS (appS σ n r) (n + 1) n = -1
  · rw [if_pos c]
    refine ⟨W1, fun j hj h0 => ?_, by rw [appS_s (by omega) (by omega)]; exact h.2.2⟩
    by_cases e : j = n
    · subst e
      exact (bst_no W1.n40 (by omega) (W1.rg (by omega)) (lv_0 s7) W1.t0.1).mp c
    · exact old j (by omega) h0
  · rw [if_neg c]
    have l0 := lv_0 s7
    refine ⟨bst_wf W1 hB (by omega) s7 c, fun j hj h0 => ?_, by rw [(stl_ch (σ := appS σ n r) (i := n) (t := bstS (appS σ n r) (n + 1) n) (n := n + 1)).1 7 (by omega), appS_s (by omega) (by omega)]; exact h.2.2⟩
    by_cases e : j = n
    · subst e
      rw [stl_7] at h0
      exact absurd h0 (by decide)
    · rw [stl_n (n := n + 1) hj e (by omega)] at h0
      exact NFi_ch (stl_ch (n := n + 1)) l0 hj (old j (by omega) h0)
theorem LA_app {v' : V3} (hL : LA v b σ n m) (hn : n < 40) (hm : m ≤ 8) (hc : ∀ c, c ≠ b → c ≠ b + 14 + n → v' c = v c) (hb0 : ∀ j, j ≠ 8 → v' b j = v b j) (h8 : v' b 8 = nI (n + 1)) (hr : ∀ f, f < 10 → v' (b + 14 + n) f = r f) : LA v' b (appS σ n r) (n + 1) m := by
  obtain ⟨⟨a1, a2, a3, a4, a5, a6, a7⟩, ho, hb⟩ := hL
  refine ⟨⟨fun j hj => ?_, ?_, ?_, ?_, h8, ?_, ?_⟩, fun p hp f hf => ?_, fun j hj f hf => ?_⟩
  · rw [hc _ (by omega) (by omega), appS_s (by omega) (by omega)]; exact a1 j hj
  · rw [hb0 _ (by decide), appS_s (by omega) (by omega)]; exact a2
  · rw [hb0 _ (by decide), appS_s (by omega) (by omega)]; exact a3
  · rw [hb0 _ (by decide)]; exact a4
  · rw [hb0 _ (by decide), appS_s (by omega) (by omega)]; exact a6
  · rw [hb0 _ (by decide), appS_s (by omega) (by omega)]; exact a7
  · rw [hc _ (by omega) (by omega), appS_o (by omega) hf]; exact ho p hp f hf
  · by_cases e : j = n
    · subst e; rw [appS_bn hf]; exact hr f hf
    · rw [hc _ (by omega) (by omega), appS_bo (by omega) hf]; exact hb j (by omega) f hf
theorem uC_enterB {x0 x1 x2 x3 x4 x5 x6 : Int32} (hL : LA v b σ n m) (hO : OK σ n m S B) (hB : 10300 ≤ B) (hn : n < 40) (hr : Rn (rw7 x0 x1 x2 x3 x4 x5 x6) m S) {Q : Int32 → V3 → Prop} (hQ : ∀ v', LA v' b (bkS σ n (rw7 x0 x1 x2 x3 x4 x5 x6)) (n + 1) m → Fr b v v' → Q (nI n) v') : w_X1_enterBooking b x0 x1 x2 x3 x4 x5 x6 v Q := by
  have hm := hO.1.m8
  unfold w_X1_enterBooking
  rw [hL.n8]
  have en : ix (nI n) = n := nI_clamp (by omega)
  refine ⟨vp_in_nI hn (by decide), ?_⟩
  rw [en]
  refine nm_e (nm_e (nm_e (nm_e (nm_e (nm_e (nm_e ?_))))))
  refine ⟨vp_in_nI hn (by decide), ?_⟩
  rw [en]
  refine nm_e (nm_e (nm_e (nm_e ?_)))
  generalize hv : up2 (up2 (up2 (up2 (up2 (up2 (up2 (up2 (up2 (up2 v (b + 14 + n) 0 x0) (b + 14 + n) 1 x1) (b + 14 + n) 2 x2) (b + 14 + n) 3 x3) (b + 14 + n) 4 x4) (b + 14 + n) 5 x5) (b + 14 + n) 6 x6) (b + 14 + n) 7 0) (b + 14 + n) 8 (-1)) (b + 14 + n) 9 (-1) = u
  have uo : ∀ c, c ≠ b + 14 + n → u c = v c := fun c hc => by
    rw [← hv, up2_off _ _ _ hc, up2_off _ _ _ hc, up2_off _ _ _ hc, up2_off _ _ _ hc, up2_off _ _ _ hc, up2_off _ _ _ hc, up2_off _ _ _ hc, up2_off _ _ _ hc, up2_off _ _ _ hc, up2_off _ _ _ hc]
  have ur : ∀ f, f < 10 → u (b + 14 + n) f = rw7 x0 x1 x2 x3 x4 x5 x6 f := fun f hf => by
    rw [← hv, up2_row, up2_row, up2_row, up2_row, up2_row, up2_row, up2_row, up2_row, up2_row, up2_row]
    match f, hf with
    | 0, _ => rfl
    | 1, _ => rfl
    | 2, _ => rfl
    | 3, _ => rfl
    | 4, _ => rfl
    | 5, _ => rfl
    | 6, _ => rfl
    | 7, _ => rfl
    | 8, _ => rfl
    | 9, _ => rfl
  have u8 : u b 8 = nI n := by rw [uo b (by omega)]; exact hL.n8
  rw [u8, nI_1]
  have hL1 : LA (up2 u b 8 (nI (n + 1))) b (appS σ n (rw7 x0 x1 x2 x3 x4 x5 x6)) (n + 1) m := LA_app hL hn hm (fun c c0 c1 => by rw [up2_off _ _ _ c0, uo c c1]) (fun j hj => by rw [up2_row, pk_un hj, uo b (by omega)]) (by rw [up2_row, pk_us]) (fun f hf => by rw [up2_off _ _ _ (by omega)]; exact ur f hf)
  have F1 : Fr b v (up2 u b 8 (nI (n + 1))) := fun c hc => by rw [up2_off _ _ _ (by omega), uo c (by omega)]
  have W1 := appS_wf hO.1 hn hr
  have s7 : bf (appS σ n (rw7 x0 x1 x2 x3 x4 x5 x6)) n 7 = 0 := by rw [appS_bn (by omega)]; rfl
  have t0 := W1.t0
  unfold bkS at hQ
  refine uC_best hL1 (by omega) W1.tm (by omega) (by omega) (W1.rg (by omega)) (lv_0 s7) ?_
  refine uC_bookAt hL1 (by omega) hm (by omega) (fun c => ?_) (fun v' c hL2 f2 => ?_)
  · rw [if_pos c] at hQ
    exact hQ _ hL1 F1
  · rw [if_neg c] at hQ
    exact hQ _ hL2 (Fr_t F1 (fun c hc => f2 c (by omega)))
theorem uM_enterB {x0 x4 x5 x6 : Int32} (hO : OK (v 8) n m S B) (hn : n < 40) (hr : Rn (rw7 x0 (v 7 8) (v 7 9) (v 7 10) x4 x5 x6) m S) {Q : Int32 → V3 → Prop} (hQ : ∀ v', v' 8 = bkS (v 8) n (rw7 x0 (v 7 8) (v 7 9) (v 7 10) x4 x5 x6) → (∀ c, c ≠ 8 → v' c = v c) → Q (nI n) v') : w_X4_appendBooking x0 x4 x5 x6 v Q := by
  unfold w_X4_appendBooking
  rw [hO.1.cn.2.2.1]
  have p0 : ∀ {w : V3} {x : Int32} {P : V3 → Prop}, w_X4_put (nI n) 0 x w P = P (up2 w 8 (74 + 10 * n + 0) x) := uM_put (f := 0) (by omega) (by omega)
  have p1 : ∀ {w : V3} {x : Int32} {P : V3 → Prop}, w_X4_put (nI n) 1 x w P = P (up2 w 8 (74 + 10 * n + 1) x) := uM_put (f := 1) (by omega) (by omega)
  have p2 : ∀ {w : V3} {x : Int32} {P : V3 → Prop}, w_X4_put (nI n) 2 x w P = P (up2 w 8 (74 + 10 * n + 2) x) := uM_put (f := 2) (by omega) (by omega)
  have p3 : ∀ {w : V3} {x : Int32} {P : V3 → Prop}, w_X4_put (nI n) 3 x w P = P (up2 w 8 (74 + 10 * n + 3) x) := uM_put (f := 3) (by omega) (by omega)
  have p4 : ∀ {w : V3} {x : Int32} {P : V3 → Prop}, w_X4_put (nI n) 4 x w P = P (up2 w 8 (74 + 10 * n + 4) x) := uM_put (f := 4) (by omega) (by omega)
  have p5 : ∀ {w : V3} {x : Int32} {P : V3 → Prop}, w_X4_put (nI n) 5 x w P = P (up2 w 8 (74 + 10 * n + 5) x) := uM_put (f := 5) (by omega) (by omega)
  have p6 : ∀ {w : V3} {x : Int32} {P : V3 → Prop}, w_X4_put (nI n) 6 x w P = P (up2 w 8 (74 + 10 * n + 6) x) := uM_put (f := 6) (by omega) (by omega)
  rw [p0, p1, p2, p3, p4, p5, p6]
  have z7 : ∀ (w : V3) (k : Nat) (x : Int32), up2 w 8 k x 7 = w 7 := fun w k x => up2_off w k x (by decide)
  simp only [z7]
  generalize hu : up2 (up2 (up2 (up2 (up2 (up2 (up2 v 8 (74 + 10 * n + 0) x0) 8 (74 + 10 * n + 1) (v 7 8)) 8 (74 + 10 * n + 2) (v 7 9)) 8 (74 + 10 * n + 3) (v 7 10)) 8 (74 + 10 * n + 4) x4) 8 (74 + 10 * n + 5) x5) 8 (74 + 10 * n + 6) x6 = u
  have uo : ∀ c, c ≠ 8 → u c = v c := fun c hc => by
    rw [← hu, up2_off _ _ _ hc, up2_off _ _ _ hc, up2_off _ _ _ hc, up2_off _ _ _ hc, up2_off _ _ _ hc, up2_off _ _ _ hc, up2_off _ _ _ hc]
  refine uM_await (by omega) (fun u2 e2 o2 => nm_e ?_)
  have e8 : u2 8 6 = nI n := by
    rw [e2, ← hu]
    simp only [up2_8]
    unfold awaitS putB
    rw [pk_un (by omega), pk_un (by omega), pk_un (by omega), pk_un (by omega), pk_un (by omega), pk_un (by omega), pk_un (by omega), pk_un (by omega), pk_un (by omega), pk_un (by omega)]
    exact hO.1.cn.2.2.1
  rw [e8, nI_1]
  have s8 : (up2 u2 8 6 (nI (n + 1))) 8 = appS (v 8) n (rw7 x0 (v 7 8) (v 7 9) (v 7 10) x4 x5 x6) := by
    rw [up2_8, e2, ← hu]
    simp only [up2_8]
    unfold awaitS putB appS
    congr 1
    funext k
    by_cases c : 74 + 10 * n ≤ k ∧ k < 84 + 10 * n
    · rw [if_pos c]
      obtain ⟨f, rfl⟩ : ∃ f, k = 74 + 10 * n + f := ⟨k - (74 + 10 * n), by omega⟩
      rw [show 74 + 10 * n + f - (74 + 10 * n) = f by omega]
      have hf : f < 10 := by omega
      match f, hf with
      | 0, _ => simp [upd, rw7]
      | 1, _ => simp [upd, rw7]
      | 2, _ => simp [upd, rw7]
      | 3, _ => simp [upd, rw7]
      | 4, _ => simp [upd, rw7]
      | 5, _ => simp [upd, rw7]
      | 6, _ => simp [upd, rw7]
      | 7, _ => simp [upd, rw7]
      | 8, _ => simp [upd, rw7]
      | 9, _ => simp [upd, rw7]
    · rw [if_neg c, pk_un (by omega), pk_un (by omega), pk_un (by omega), pk_un (by omega), pk_un (by omega), pk_un (by omega), pk_un (by omega), pk_un (by omega), pk_un (by omega), pk_un (by omega)]
  have oc : ∀ c, c ≠ 8 → (up2 u2 8 6 (nI (n + 1))) c = v c := fun c hc => by rw [up2_off _ _ _ hc, o2 c hc, uo c hc]
  have W1 := appS_wf hO.1 hn hr
  unfold bkS at hQ
  refine uM_place (n := n + 1) (m := m) (S := S) (B := B) (by rw [s8]; exact W1) (by omega) (fun c => ?_) (fun c v' q1 q2 => ?_)
  · rw [s8] at c
    rw [if_pos c] at hQ
    exact hQ _ s8 oc
  · rw [s8] at c q1
    rw [if_neg c] at hQ
    exact hQ _ q1 (fun c hc => (q2 c hc).trans (oc c hc))
end AB
section AQ
variable {v : V3} {g : Nat} {B : Int}
theorem ca_book (h : IV v g B) (hB : B + 99 ≤ 900000) (a1 a2 a3 a4 : Int32) : w_X3_book a1 a2 a3 a4 v (exI g (B + 99) (w_X4_book a1 a2 a3 a4) [(eIO, 1), (eIA, 2), (eIS, 3)]) (okI g (B + 99) (w_X4_book a1 a2 a3 a4)) := by
  obtain ⟨⟨n, m, S, hL, hO, hD⟩, hR⟩ := id h
  have hn := hO.1.n40
  have hm := hO.1.m8
  have hC := hO.1.cn
  have hB0 := hR.2.2.2.2.2
  have ow1 : ∀ {w : V3} {Q : Int32 → V3 → Prop} {o : Nat}, o < m → w 8 = v 8 → Q 1 w → w_X4_isOwner (nI o) w Q := fun ho h8 hq => uM_isOwner (n := n) (m := m) (by rw [h8]; exact hC) (fun _ _ _ => hq) (fun p => absurd p (fun z => z.elim (nI_pos (by omega)) (nI_ge ho (by omega))))
  refine uN_owner hL (fun o ho e1 => ?_) hm (fun h0 => ⟨1, mm1, fun v1 e9 => mst (Fc_r v) e9 (fun w h8 M hj => ?_)⟩)
  · subst e1
    refine uN_within (fun h1 h2 => ?_) (fun h0 => ⟨2, mm2, fun v1 e9 => mst (Fc_r v) e9 (fun w h8 M hj => ow1 ho h8 (nt1 (uM_btw (lo := 0) (hi := 9999) rfl rfl (fun p1 p2 => absurd h0 (fun z => z.elim p1 p2)) (fun _ => zt0 (nm_e (finX h hB e9 M h8))))))⟩)
    refine uN_within (fun h3 h4 => ?_) (fun h0 => ⟨2, mm2, fun v1 e9 => mst (Fc_r v) e9 (fun w h8 M hj => ow1 ho h8 (nt1 (uM_btw (lo := 0) (hi := 9999) rfl rfl (fun _ _ => zt1 (uM_btw (lo := 0) (hi := 99) rfl rfl (fun p1 p2 => absurd h0 (fun z => z.elim p1 p2)) (fun _ => zt0 (nm_e (finX h hB e9 M h8))))) (fun p => absurd p (fun z => z.elim h1 h2)))))⟩)
    refine uN_within (fun h5 h6 => ?_) (fun h0 => ⟨2, mm2, fun v1 e9 => mst (Fc_r v) e9 (fun w h8 M hj => ow1 ho h8 (nt1 (uM_btw (lo := 0) (hi := 9999) rfl rfl (fun _ _ => zt1 (uM_btw (lo := 0) (hi := 99) rfl rfl (fun _ _ => zt1 (uM_btw (lo := 1) (hi := 9) rfl rfl (fun p1 p2 => absurd h0 (fun z => z.elim p1 p2)) (fun _ => zt0 (nm_e (finX h hB e9 M h8))))) (fun p => absurd p (fun z => z.elim h3 h4)))) (fun p => absurd p (fun z => z.elim h1 h2)))))⟩)
    -- the reference up to the time
    have beg : ∀ (v1 : V3) (Q : Int32 → V3 → Prop), v1 8 = v 8 → (((v 8 7) ≤ (a2 + a3) → (((v 8 6) = 40 → w_X4_book_115 Q (up2 v1 7 11 0)) ∧ (¬ (v 8 6) = 40 → w_X4_openBookings (nI o) (up2 v1 7 11 0) (fun r21 v20 => (((v20 8 2) ≤ r21 → w_X4_book_115 Q v20) ∧ (¬ (v20 8 2) ≤ r21 → w_X4_broken (nI o) v20 (fun r24 v23 => ((r24 < (v23 8 3) → w_X4_appendBooking (nI o) a2 a3 a4 v23 (fun r27 v26 => Q r27 v26)) ∧ (¬ r24 < (v23 8 3) → w_X4_book_115 Q v23))))))))) ∧ (¬ (v 8 7) ≤ (a2 + a3) → w_X4_book_69 Q (up2 v1 7 11 0))) → w_X4_book (nI o) a2 a3 a4 v1 Q := by
      intro v1 Q e8 k
      refine nm_e ?_
      have h8 : (up2 v1 7 11 0) 8 = v 8 := by rw [up2_off _ _ _ (by decide), e8]
      refine ow1 ho h8 (nt1 (uM_btw (lo := 0) (hi := 9999) rfl rfl (fun _ _ => zt1 (uM_btw (lo := 0) (hi := 99) rfl rfl (fun _ _ => zt1 (uM_btw (lo := 1) (hi := 9) rfl rfl (fun _ _ => zt1 ?_) (fun p => absurd p (fun z => z.elim h5 h6)))) (fun p => absurd p (fun z => z.elim h3 h4)))) (fun p => absurd p (fun z => z.elim h1 h2))))
      rw [h8]
      exact k
    have M0 : ∀ v1 : V3, Md (up2 v1 7 11 0) (up2 v1 7 11 0) := fun v1 => Md_r _
    have h80 : ∀ {v1 : V3}, Eq9 v v1 → (up2 v1 7 11 0) 8 = v 8 := fun e9 => by rw [up2_off _ _ _ (by decide), e9 8 (by decide) (by decide)]
    have three : ∀ v1, Eq9 v v1 → w_X4_book_115 (fun _ v2 => v2 7 11 = 3 ∧ IVo v1 v2 g (B + 99)) (up2 v1 7 11 0) := fun v1 e9 => nm_e (finX h hB e9 (M0 v1) (h80 e9))
    rw [hL.tm]
    refine br_c (fun c => ?_) (fun c => ⟨2, mm2, fun v1 e9 => beg v1 _ (e9 8 (by decide) (by decide)) (br_f c (nm_e (finX h hB e9 (M0 v1) (h80 e9))))⟩)
    rw [hL.n8]
    have l40 : nI n < 40 ↔ n < 40 := nI_ltI (b := 40) (by omega) (by omega)
    have e40 : v 8 6 = 40 ↔ n = 40 := by rw [hC.2.2.1]; exact nI_eq (b := 40) (by omega) (by omega)
    refine br_c (fun d => ?_) (fun d => ⟨3, mm3, fun v1 e9 => beg v1 _ (e9 8 (by decide) (by decide)) (br_t c (br_t (e40.mpr (by have hge : ¬ n < 40 := fun z => d (l40.mpr z); omega)) (three v1 e9)))⟩)
    have hn4 := l40.mp d
    have n40 : ¬ v 8 6 = 40 := fun z => by have := e40.mp z; omega
    -- the reference up to LIMIT and STRIKES
    have beg2 : ∀ (v1 : V3) (Q : Int32 → V3 → Prop), v1 8 = v 8 → (((v 8 2) ≤ opnS (v 8) n (nI o) → w_X4_book_115 Q (up2 v1 7 11 0)) ∧ (¬ (v 8 2) ≤ opnS (v 8) n (nI o) → ((brk (v 8) o < (v 8 3) → w_X4_appendBooking (nI o) a2 a3 a4 (up2 v1 7 11 0) (fun r27 v26 => Q r27 v26)) ∧ (¬ brk (v 8) o < (v 8 3) → w_X4_book_115 Q (up2 v1 7 11 0))))) → w_X4_book (nI o) a2 a3 a4 v1 Q := by
      intro v1 Q e8 k
      have h8 : (up2 v1 7 11 0) 8 = v 8 := by rw [up2_off _ _ _ (by decide), e8]
      refine beg v1 Q e8 (br_t c (br_f n40 ?_))
      refine uM_open (n := n) (m := m) (by rw [h8]; exact hC) (by rw [h8]; exact hO.1.st) ?_
      rw [h8]
      refine br_c k.1 (fun q => ?_)
      refine uM_broken (by omega) ?_
      rw [h8]
      exact k.2 q
    have th : ∀ v1, Eq9 v v1 → ((v 8 2) ≤ opnS (v 8) n (nI o) ∨ ¬ brk (v 8) o < (v 8 3)) → w_X4_book (nI o) a2 a3 a4 v1 (fun _ v2 => v2 7 11 = 3 ∧ IVo v1 v2 g (B + 99)) := fun v1 e9 hc => beg2 v1 _ (e9 8 (by decide) (by decide)) (br_c (fun _ => three v1 e9) (fun q => br_c (fun q2 => absurd hc (fun z => z.elim q (fun y => y q2))) (fun _ => three v1 e9)))
    refine uC_lim hL hn ?_
    by_cases cl : opnS (v 8) n (nI o) < v 8 2
    · rw [if_pos cl]
      have cl' : ¬ v 8 2 ≤ opnS (v 8) n (nI o) := Int32.not_le.mpr cl
      refine nt0 (uC_barred hL hm ho ?_)
      by_cases cb : brk (v 8) o < v 8 3
      · rw [if_pos cb]
        obtain ⟨⟨f1, f2, f3⟩, ⟨d1, d2, d3⟩, d4, d5⟩ := id hD
        have hr : Rn (rw7 (nI o) (v 0 9) (v 0 10) (v 0 11) a2 a3 a4) m S := by
          rw [ti_lt, zero_I] at h1 h3
          rw [ti_lt, show (9999 : Int32).toInt = 9999 from rfl] at h2
          rw [ti_lt, show (99 : Int32).toInt = 99 from rfl] at h4
          exact ⟨⟨o, ho, rfl⟩, ⟨d1, d2, d3⟩, ⟨d4, d5, by show 0 ≤ a2.toInt; omega, by show a2.toInt ≤ 9999; omega, by show 0 ≤ a3.toInt; omega, by show a3.toInt ≤ 99; omega⟩, rfl⟩
        refine zt0 (uC_enterB hL hO (by omega) hn4 hr (fun v' hL' hF' => ?_))
        have F := Fc_L hF'
        intro v1 e9
        have j7 : ∀ j, j ≠ 11 → (up2 v1 7 11 0) 7 j = v 7 j := fun j hj => by rw [up2_row, pk_un hj, e9 7 (by decide) (by decide), F 7 (by omega)]
        have h8 : (up2 v1 7 11 0) 8 = v 8 := by rw [up2_off _ _ _ (by decide), e9 8 (by decide) (by decide), F 8 (by omega)]
        refine beg2 v1 _ (by rw [e9 8 (by decide) (by decide), F 8 (by omega)]) (br_f cl' (br_t cb ?_))
        have ea : rw7 (nI o) ((up2 v1 7 11 0) 7 8) ((up2 v1 7 11 0) 7 9) ((up2 v1 7 11 0) 7 10) a2 a3 a4 = rw7 (nI o) (v 0 9) (v 0 10) (v 0 11) a2 a3 a4 := by
          rw [j7 8 (by decide), j7 9 (by decide), j7 10 (by decide), f1, f2, f3]
        refine uM_enterB (n := n) (m := m) (S := S) (B := B) (by rw [h8]; exact hO) hn4 (by rw [ea]; exact hr) (fun w2 q1 q2 => ?_)
        rw [ea, h8] at q1
        have f := fin2 hR hB hD F hL' e9 (Md_8 (M0 v1) q2) q1 (OK_B (bkS_ok hO (by omega) hn4 hr) (by omega))
        exact ⟨f.1, rfl, f.2⟩
      · rw [if_neg cb]
        exact zt1 ⟨3, mm3, fun v1 e9 => th v1 e9 (.inr cb)⟩
    · rw [if_neg cl]
      exact nt1 ⟨3, mm3, fun v1 e9 => th v1 e9 (.inl (Int32.not_lt.mp cl))⟩
  · refine uM_isOwner (n := n) (m := m) (by rw [h8]; exact hC) (fun k hk e => ?_) (fun _ => nt0 (nm_e (finX h hB e9 M h8)))
    subst e
    exact absurd h0 (fun z => z.elim (nI_pos (by omega)) (nI_ge hk (by omega)))
end AQ
