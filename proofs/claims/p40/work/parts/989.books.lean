/-! THE LAW: books -/
section BKP
variable {σ r : Nat → Int32} {n m S : Nat} {B : Int}
theorem appS_hit' (hr : r 7 = 0) {x1 x2 : Int32} {D t : Int} (h : hitI (appS σ n r) (n + 1) x1 x2 D t) : hitI σ n x1 x2 D t := by
  obtain ⟨j, hj, a, s, c, d⟩ := h
  have e : j ≠ n := fun e => by
    subst e
    rw [lv_0 (show bf (appS σ j r) j 7 = 0 from by rw [appS_bn (by omega)]; exact hr)] at a
    exact absurd a (by decide)
  have hj' : j < n := by omega
  refine ⟨j, hj', (lv_of (appS_bo hj' (by omega))).symm.trans a, ?_, ?_, ?_⟩
  · unfold spB at s ⊢; rw [appS_bo hj' (by omega), appS_bo hj' (by omega)] at s; exact s
  · rw [appS_bo hj' (by omega)] at c; exact c
  · rw [appS_bo hj' (by omega)] at d; exact d
theorem bkS_k {k : Nat} (hk : k < 74) (h6 : k ≠ 6) : bkS σ n r k = σ k := by
  unfold bkS
  by_cases c : bstS (appS σ n r) (n + 1) n = -1
  · rw [if_pos c]; exact appS_s hk h6
  · rw [if_neg c]
    unfold settleS
    rw [sc_put hk, sc_put hk, sc_put hk]
    exact appS_s hk h6
theorem bkS_old {j f : Nat} (hj : j < n) (hf : f < 10) : bf (bkS σ n r) j f = bf σ j f := by
  unfold bkS
  by_cases c : bstS (appS σ n r) (n + 1) n = -1
  · rw [if_pos c]; exact appS_bo hj hf
  · rw [if_neg c, stl_n (n := n + 1) (by omega) (by omega) hf]; exact appS_bo hj hf
theorem bkS_new {f : Nat} (hf : f < 7) : bf (bkS σ n r) n f = r f := by
  unfold bkS
  by_cases c : bstS (appS σ n r) (n + 1) n = -1
  · rw [if_pos c]; exact appS_bn (by omega)
  · rw [if_neg c, (stl_ch (σ := appS σ n r) (i := n) (t := bstS (appS σ n r) (n + 1) n) (n := n + 1)).2 n (by omega) f (by omega) (.inr hf)]; exact appS_bn (by omega)
/-- the new booking waits, or it is booked at its best time -/
theorem bkS_cases : (bstS (appS σ n r) (n + 1) n = -1 ∧ bf (bkS σ n r) n 7 = r 7 ∧ bf (bkS σ n r) n 8 = r 8 ∧ bf (bkS σ n r) n 9 = r 9) ∨ (¬ bstS (appS σ n r) (n + 1) n = -1 ∧ bf (bkS σ n r) n 7 = 1 ∧ bf (bkS σ n r) n 8 = bstS (appS σ n r) (n + 1) n ∧ bf (bkS σ n r) n 9 = bstS (appS σ n r) (n + 1) n + r 3) := by
  unfold bkS
  by_cases c : bstS (appS σ n r) (n + 1) n = -1
  · rw [if_pos c]; exact .inl ⟨c, appS_bn (by omega), appS_bn (by omega), appS_bn (by omega)⟩
  · rw [if_neg c]; exact .inr ⟨c, stl_7, stl_8, by rw [stl_9, appS_bn (by omega)]⟩
theorem bkS_GI {C : Int} (h : GI σ n m C) (hm : m ≤ 8) (h6 : 1 ≤ (r 6).toInt ∧ (r 6).toInt ≤ 9) (h8 : r 8 = -1) (h9 : r 9 = -1) : GI (bkS σ n r) (n + 1) m C := by
  obtain ⟨g1, g2, g3, g4, g5⟩ := h
  refine ⟨g1, ?_, fun i hi => ?_, fun i hi h0 => ?_, fun o ho => ?_⟩
  · rw [bkS_k (by omega) (by omega), bkS_k (by omega) (by omega), bkS_k (by omega) (by omega)]; exact g2
  · by_cases e : i = n
    · subst e; rw [bkS_new (by omega)]; exact h6
    · rw [bkS_old (by omega) (by omega)]; exact g3 i (by omega)
  · by_cases e : i = n
    · subst e
      rcases bkS_cases (σ := σ) (r := r) (n := i) with ⟨_, _, b, c⟩ | ⟨_, a, _, _⟩
      · rw [b, c]; exact ⟨h8, h9⟩
      · rw [a] at h0; exact absurd h0 (by decide)
    · rw [bkS_old (by omega) (by omega)] at h0
      rw [bkS_old (by omega) (by omega), bkS_old (by omega) (by omega)]
      exact g4 i (by omega) h0
  · show (0 ≤ (bkS σ n r (10 + 8 * o + 2)).toInt ∧ (bkS σ n r (10 + 8 * o + 2)).toInt ≤ C) ∧ (0 ≤ (bkS σ n r (10 + 8 * o + 3)).toInt ∧ (bkS σ n r (10 + 8 * o + 3)).toInt ≤ C)
    rw [bkS_k (by omega) (by omega), bkS_k (by omega) (by omega)]
    exact g5 o ho
end BKP
section LBK
variable {v : V3} {N r n m : Nat} {σ : Nat → Int32}
/-- the tail of a booking -/
theorem bk_164 {x : Int} (hV : VJ v N r x σ n m) (hx100 : x ≤ 100 * r + 100) (hr : r ≤ 400) {k a b d w f u : Nat} (hk : k < m) (hab : 1 ≤ b ∧ a + b ≤ 32) (hd : 1 ≤ d ∧ d ≤ 9) (hw : (σ 7).toInt ≤ w ∧ w ≤ 9000) (hf : f ≤ 11) (hu : 1 ≤ u ∧ u ≤ 9) (e9 : v 0 9 = nI a) (e10 : v 0 10 = nI b) (e11 : v 0 11 = nI d) {s0 : Int32} (hs : (s0 = 1 ∧ n < 40 ∧ opnS σ n (nI k) < σ 2 ∧ brk σ k < σ 3) ∨ (s0 = 0 ∧ ¬ (n < 40 ∧ opnS σ n (nI k) < σ 2 ∧ brk σ k < σ 3))) {Q : Int32 → V3 → Prop} (h : ∀ (v' : V3) (σ' : Nat → Int32) (n' : Nat), VI v' N (r + 1) σ' n' m → Q 1 v') : w_L_books_164 Q (nI n) (nI k) (nI d) (nI w) (nI f) (nI u) s0 v := by
  obtain ⟨hL, hO, hG, hT, h71, hx, h73, hSv⟩ := id hV
  have hn := hO.1.n40
  have hm := hO.1.m8
  have t0 := hO.1.t0.1
  have iw : (nI w).toInt = (w : Int) := ti_nI (by omega)
  have iF : (nI f).toInt = (f : Int) := ti_nI (by omega)
  have iu : (nI u).toInt = (u : Int) := ti_nI (by omega)
  have idd : (nI d).toInt = (d : Int) := ti_nI (by omega)
  have ia : (nI a).toInt = (a : Int) := ti_nI (by omega)
  have ib : (nI b).toInt = (b : Int) := ti_nI (by omega)
  unfold w_L_books_164
  refine us_nextFree hL hO.1 (by rw [iw]; omega) (by rw [e11, idd]; omega) (fun fr hfr => ?_)
  rw [e9, e10, e11, idd, iw] at hfr
  have hR : Rn (rw7 (nI k) (v 0 9) (v 0 10) (v 0 11) (nI w) (nI f) (nI u)) m 32 := by
    rw [e9, e10, e11]
    refine ⟨⟨k, hk, rfl⟩, ?_, ?_, rfl⟩
    · show 0 ≤ (nI a).toInt ∧ 1 ≤ (nI b).toInt ∧ (nI a).toInt + (nI b).toInt ≤ ((32 : Nat) : Int)
      omega
    · show 1 ≤ (nI d).toInt ∧ (nI d).toInt ≤ 99 ∧ 0 ≤ (nI w).toInt ∧ (nI w).toInt ≤ 9999 ∧ 0 ≤ (nI f).toInt ∧ (nI f).toInt ≤ 99
      omega
  rcases hs with ⟨rfl, c1, c2, c3⟩ | ⟨rfl, cn⟩
  · refine us_book hL hO (by omega) hk (by omega) (by omega) (by omega) (by omega) hR (fun z => absurd ⟨c1, c2, c3⟩ z) (fun _ _ _ v' hL' hF' => ?_)
    have hO' := bkS_ok hO (by omega) c1 hR
    have hn' := hO'.1.n40
    have W1 := appS_wf hO.1 c1 hR
    have s7 : bf (appS σ n (rw7 (nI k) (v 0 9) (v 0 10) (v 0 11) (nI w) (nI f) (nI u))) n 7 = 0 := by rw [appS_bn (by omega)]; rfl
    have bt := bst_BT W1.n40 (show n < n + 1 by omega) (W1.rg (by omega)) (lv_0 s7) W1.t0.1
    have cs := bkS_cases (σ := σ) (n := n) (r := rw7 (nI k) (v 0 9) (v 0 10) (v 0 11) (nI w) (nI f) (nI u))
    have G' := bkS_GI (r := rw7 (nI k) (v 0 9) (v 0 10) (v 0 11) (nI w) (nI f) (nI u)) hG hm (show 1 ≤ (nI u).toInt ∧ (nI u).toInt ≤ 9 by omega) rfl rfl
    have k7 : bkS σ n (rw7 (nI k) (v 0 9) (v 0 10) (v 0 11) (nI w) (nI f) (nI u)) 7 = σ 7 := bkS_k (by omega) (by omega)
    have n4 : bf (bkS σ n (rw7 (nI k) (v 0 9) (v 0 10) (v 0 11) (nI w) (nI f) (nI u))) n 4 = nI w := bkS_new (by omega)
    have n5 : bf (bkS σ n (rw7 (nI k) (v 0 9) (v 0 10) (v 0 11) (nI w) (nI f) (nI u))) n 5 = nI f := bkS_new (by omega)
    have n6 : bf (bkS σ n (rw7 (nI k) (v 0 9) (v 0 10) (v 0 11) (nI w) (nI f) (nI u))) n 6 = nI u := bkS_new (by omega)
    have hV' : VI v' N (r + 1) (bkS σ n (rw7 (nI k) (v 0 9) (v 0 10) (v 0 11) (nI w) (nI f) (nI u))) (n + 1) m := by
      have q7 : v' 7 = v 7 := hF' 7 (by omega)
      refine ⟨hL', OK_B hO' (by omega), GI_m G' (by omega), by rw [k7]; omega, by rw [q7]; exact h71, ?_, ?_, SV_e hSv (hF' 3 (by omega))⟩
      · exact Nx_m (Nx_e hx (by rw [q7])) (by omega)
      · rw [q7, h73]
        exact (sO_c (fun o ho => bkS_k (by omega) (by omega))).symm
    have fin := h v' _ _ hV'
    -- the state of the new booking as the class tells it
    unfold BT at bt
    rw [appS_s (by omega) (by omega), appS_bn (by omega), appS_bn (by omega), appS_bn (by omega), appS_bn (by omega), appS_bn (by omega)] at bt
    rw [show rw7 (nI k) (v 0 9) (v 0 10) (v 0 11) (nI w) (nI f) (nI u) 1 = nI a from e9, show rw7 (nI k) (v 0 9) (v 0 10) (v 0 11) (nI w) (nI f) (nI u) 2 = nI b from e10, show rw7 (nI k) (v 0 9) (v 0 10) (v 0 11) (nI w) (nI f) (nI u) 3 = nI d from e11, show rw7 (nI k) (v 0 9) (v 0 10) (v 0 11) (nI w) (nI f) (nI u) 4 = nI w from rfl, show rw7 (nI k) (v 0 9) (v 0 10) (v 0 11) (nI w) (nI f) (nI u) 5 = nI f from rfl, iw, iF, idd] at bt
    rw [show rw7 (nI k) (v 0 9) (v 0 10) (v 0 11) (nI w) (nI f) (nI u) 7 = 0 from rfl, show rw7 (nI k) (v 0 9) (v 0 10) (v 0 11) (nI w) (nI f) (nI u) 8 = -1 from rfl, show rw7 (nI k) (v 0 9) (v 0 10) (v 0 11) (nI w) (nI f) (nI u) 9 = -1 from rfl, show rw7 (nI k) (v 0 9) (v 0 10) (v 0 11) (nI w) (nI f) (nI u) 3 = nI d from e11] at cs
    have ht : ∀ t : Int, hitI (appS σ n (rw7 (nI k) (v 0 9) (v 0 10) (v 0 11) (nI w) (nI f) (nI u))) (n + 1) (nI a) (nI b) d t ↔ hitI σ n (nI a) (nI b) d t := fun t => ⟨appS_hit' rfl, appS_hit⟩
    simp only [ht] at bt
    generalize bkS σ n (rw7 (nI k) (v 0 9) (v 0 10) (v 0 11) (nI w) (nI f) (nI u)) = ρ at *
    generalize bstS (appS σ n (rw7 (nI k) (v 0 9) (v 0 10) (v 0 11) (nI w) (nI f) (nI u))) (n + 1) n = z at *
    have sum : (nI w + nI f).toInt = (w : Int) + f := by rw [ti_add (by omega) (by omega), iw, iF]
    refine ⟨fun _ => ⟨fun q => absurd rfl q, fun _ => ?_⟩, fun q => absurd q (by decide)⟩
    have h1n : n < n + 1 := by omega
    refine us_booking_7 hL' hn' h1n ⟨fun q => ?_, fun _ => ?_⟩
    · exfalso
      rcases cs with ⟨_, s, _⟩ | ⟨_, s, _⟩
      · rw [s] at q; exact absurd q (by decide)
      · rw [s] at q; exact absurd q (by decide)
    refine us_booking_5 hL' hn' h1n (br_t n5 (us_booking_8 hL' hn' h1n ?_))
    rcases cs with ⟨cz, s7', s8, s9⟩ | ⟨cz, s7', s8, s9⟩
    · -- it waits
      rw [s8]
      refine ⟨fun q => absurd q (by decide), fun _ => us_booking_7 hL' hn' h1n (ntc (fun q => absurd s7' q) (fun _ => ?_))⟩
      have none : ∀ t : Int, (σ 7).toInt ≤ t → (w : Int) - f ≤ t → t ≤ (w : Int) + f → hitI σ n (nI a) (nI b) d t := by
        rcases bt with ⟨_, b2⟩ | ⟨⟨b1, b2, b3, b4⟩, b5⟩
        · exact b2
        · rw [cz] at b1
          have : (-1 : Int32).toInt = -1 := rfl
          omega
      refine br_c (fun _ => ⟨.inr rfl, fin⟩) (fun q => br_c (fun q2 => ?_) (fun _ => ⟨.inr rfl, fin⟩))
      exfalso
      rcases hfr with ⟨f1, _⟩ | ⟨f1, f2, f3, _⟩
      · rw [f1] at q; exact q (by decide)
      · have y := ti_le.mp q2
        rw [sum] at y
        exact f3 (none fr.toInt (by omega) (by omega) y)
    · rcases bt with ⟨b1, _⟩ | ⟨⟨b1, b2, b3, b4⟩, b5⟩
      · exact absurd b1 cz
      rw [s8]
      have zw : (z - nI w).toInt = z.toInt - w := by rw [ti_sub (by omega) (by omega), iw]
      have za : (zabs (z - nI w)).toInt = ((z.toInt - w).natAbs : Int) := by rw [ti_abs (by omega), zw]
      refine br_t (ti_le.mpr (by rw [zero_I]; omega)) (br_f (fun q => by rw [ti_lt, iF, za] at q; omega) (us_count_7 hL' (br_f (fun q => by rw [k7, ti_lt] at q; omega) (us_booking_9 hL' hn' h1n (ntc (fun q => absurd s9 q) (fun _ => us_booking_10 hL' hn' h1n ?_))))))
      have jy : joyN ρ n = nI u * zmax 0 (20 - zabs (z - nI w)) := by
        unfold joyN joyS
        rw [if_pos s7', n6, s8, n4]
      refine br_t jy ?_
      have behind : ∀ {P : Prop}, (z.toInt < w → P) → ((nI w ≤ z → w_L_books_431 Q 0 v') ∧ (¬ nI w ≤ z → P)) → True := fun _ _ => trivial
      have less : z.toInt < (w : Int) → w_L_books_391 Q (nI w) z v' := fun q => ⟨fun q2 => absurd (ti_le.mp q2) (by rw [iw]; omega), fun _ => ⟨.inr rfl, fin⟩⟩
      refine br_c (fun q => less ?_) (fun q => br_c (fun q2 => ?_) (fun q2 => less ?_))
      · rcases hfr with ⟨f1, f2⟩ | ⟨f1, f2, f3, f4⟩
        · exact Int.not_le.mp (fun y => b4 (f2 z.toInt y (by omega)))
        · rw [ti_lt, zero_I] at q; omega
      · rcases hfr with ⟨f1, f2⟩ | ⟨f1, f2, f3, f4⟩
        · rw [f1] at q; exact absurd (by decide) q
        have y := ti_le.mp q2
        rw [sum] at y
        have best := b5 fr.toInt (by omega) (by omega) y f3
        refine br_f (fun y2 => ?_) (br_f (fun y2 => ?_) ⟨.inr rfl, fin⟩)
        · have := ti_lt.mp y2
          omega
        · have := ti_lt.mp y2
          rw [ti_sub (by omega) (by omega), ti_sub (by omega) (by omega), iw] at this
          omega
      · rcases hfr with ⟨f1, f2⟩ | ⟨f1, f2, f3, f4⟩
        · rw [f1] at q; exact absurd (by decide) q
        have y : ¬ fr.toInt ≤ (w : Int) + f := fun y => q2 (ti_le.mpr (by rw [sum]; exact y))
        exact Int.not_le.mp (fun y2 => b4 (f4 z.toInt y2 (by omega)))
  · refine us_book hL hO (by omega) hk (by omega) (by omega) (by omega) (by omega) hR (fun _ => ?_) (fun c1 c2 c3 => absurd ⟨c1, c2, c3⟩ cn)
    refine ⟨fun q => absurd rfl q, fun _ => ⟨fun q => absurd rfl q, fun _ => ⟨.inr rfl, h v σ n ?_⟩⟩⟩
    exact VI_0 hV hr hL rfl rfl (Nx_m hx (by omega)) rfl
theorem us_books (hV : VI v N r σ n m) (hr : r ≤ 400) {Q : Int32 → V3 → Prop} (h : ∀ (v' : V3) (σ' : Nat → Int32) (n' : Nat), VI v' N (r + 1) σ' n' m → Q 1 v') : w_L_books v Q := by
  have hm2 := hV.2.2.1.1
  have hm := hV.2.1.1.m8
  have hT := hV.2.2.2.1
  have t0 := hV.2.1.1.t0.1
  have s2 := hV.2.2.1.2.1.2.1
  have s3 := hV.2.2.1.2.1.2.2
  refine us_count_6 hV.1 (us_count_5 hV.1 (us_drawJ hV (by omega) (by omega) (fun k hk v1 V1 => us_drawJ (K := 32) V1 (by omega) (by omega) (fun a ha v2 V2 => us_drawJ (K := 3) V2 (by omega) (by omega) (fun y hy v3 V3' => ?_)))))
  have go : ∀ b : Nat, 1 ≤ b → a + b ≤ 32 → w_L_books_56 Q (nI n) (nI k) (nI a) 1 (nI b) v3 := by
    intro b hb hab
    refine us_drawJ V3' (by omega) (by omega) (fun b' hb' v4 V4 => us_drawJ (K := 9) V4 (by omega) (by omega) (fun d hd v5 V5 => us_count_7 V5.1 (us_drawJ (K := 20) V5 (by omega) (by omega) (fun w hw v6 V6 => us_drawJ (K := 12) V6 (by omega) (by omega) (fun f hf v7 V7 => us_drawJ (K := 9) V7 (by omega) (by omega) (fun u hu v8 V8 => ?_))))))
    rw [show (1 + nI b' : Int32) = nI (1 + b') from nI_add 1 b', show (1 + nI d : Int32) = nI (1 + d) from nI_add 1 d, show (1 + nI u : Int32) = nI (1 + u) from nI_add 1 u]
    obtain ⟨t, ht, et⟩ := nI_of (x := σ 7) (fun c => by rw [ti_lt, zero_I] at c; omega)
    have it : (σ 7).toInt = (t : Int) := by rw [et, ti_nI (by omega)]
    rw [et, nI_add t w]
    refine us_draft V8.1 V8.2.1.1.s4 (a := a) (b := 1 + b') (d := 1 + d) (by omega) (by omega) (by omega) (fun v9 c9 d9 d10 d11 => br_t rfl ?_)
    have V9 : VJ v9 N r (100 * r + 1 + 1 + 1 + 1 + 1 + 1 + 1 + 1) σ n m := VJ_k V8 (LA_c V8.1 V8.2.1.1.n40 V8.2.1.1.m8 (fun c q _ _ _ => c9 c (by omega))) (c9 7 (by decide)) (c9 3 (by decide))
    have hn := V9.2.1.1.n40
    have tail : ∀ s0, ((s0 = 1 ∧ n < 40 ∧ opnS σ n (nI k) < σ 2 ∧ brk σ k < σ 3) ∨ (s0 = 0 ∧ ¬ (n < 40 ∧ opnS σ n (nI k) < σ 2 ∧ brk σ k < σ 3))) → w_L_books_164 Q (nI n) (nI k) (nI (1 + d)) (nI (t + w)) (nI f) (nI (1 + u)) s0 v9 := fun s0 hs => bk_164 V9 (by omega) hr hk (by omega) (by omega) (by omega) (by omega) (by omega) d9 d10 d11 hs h
    refine br_c (fun c => tail 0 (.inr ⟨rfl, fun z => nI_ge z.1 (by omega) |> fun q => q c⟩)) (fun c => us_owner_8 V9.1 hn hm hk (br_c (fun c2 => tail 0 (.inr ⟨rfl, fun z => ?_⟩)) (fun c2 => us_owner_9 V9.1 hm hk (ntc (fun c3 => tail 0 (.inr ⟨rfl, fun z => c3 (if_pos z.2.2)⟩)) (fun c3 => tail 1 (.inl ⟨rfl, ?_, ?_, ?_⟩))))))
    · have z2 := z.2.1
      rw [s2] at z2
      exact absurd (ti_le.mp c2) (by have := ti_lt.mp z2; omega)
    · exact Classical.byContradiction (fun q => c (nI_le (a := 40) (by omega) (by omega)))
    · rw [s2]
      exact ti_lt.mpr (Int.not_le.mp (fun q => c2 (ti_le.mpr q)))
    · exact Classical.byContradiction (fun q => by rw [if_neg q] at c3; exact absurd c3 (by decide))
  have e32 : (32 - nI a : Int32) = nI (32 - a) := by
    rw [ti_eq, ti_sub (by rw [ti_nI (by omega), show (32 : Int32).toInt = 32 from rfl]; omega) (by rw [ti_nI (by omega), show (32 : Int32).toInt = 32 from rfl]; omega), ti_nI (by omega), ti_nI (by omega), show (32 : Int32).toInt = 32 from rfl]
    omega
  have e6 : zmin 6 (32 - nI a) = nI (min 6 (32 - a)) := by
    rw [e32, ti_eq, zmin_I, ti_nI (by omega), ti_nI (by omega), show (6 : Int32).toInt = 6 from rfl]
    omega
  rw [e6, e32]
  exact ntc (fun _ => go (min 6 (32 - a)) (by omega) (by omega)) (fun _ => go (32 - a) (by omega) (by omega))
end LBK
