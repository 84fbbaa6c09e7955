/-! CALLS 5: gain, best, nextFree, mayWrite, usage -/
def gv (σ : Nat → Int32) (n i j : Nat) : Int32 := if i = j ∨ ¬ bf σ j 7 = 1 then 0 else if bf σ i 7 = 1 then candS σ n i j else if bf σ i 7 = 0 then candB σ n i j else 0
theorem uM_gv {v : V3} {n m S : Nat} {B : Int} (hW : Wf (v 8) n m S B) {i j : Nat} (hi : i < n) (hj : j < n) {Q : Int32 → V3 → Prop} (hQ : Q (gv (v 8) n i j) v) : w_X4_gainOf (nI i) (nI j) v Q := by
  unfold gv candS candB at hQ
  refine uM_gainOf hW hi hj (fun c => ?_) (fun c1 c2 c3 => ?_) (fun c1 c2 c3 => ?_)
  · by_cases d : i = j ∨ ¬ bf (v 8) j 7 = 1
    · rw [if_pos d] at hQ; exact hQ
    · rw [if_neg d] at hQ
      rcases c with c | c | c
      · exact absurd (.inl c) d
      · exact absurd (.inr c) d
      · rw [if_neg c.1, if_neg c.2] at hQ; exact hQ
  · rw [if_neg (fun d => d.elim c1 (fun z => z c2)), if_pos c3] at hQ
    exact ⟨fun k => by rw [if_pos k] at hQ; exact hQ, fun k => by rw [if_neg k] at hQ; exact hQ⟩
  · rw [if_neg (fun d => d.elim c1 (fun z => z c2)), if_neg (fun z => absurd (c3.symm.trans z) (by decide)), if_pos c3] at hQ
    exact ⟨fun k => by rw [if_pos k] at hQ; exact hQ, fun k => by rw [if_neg k] at hQ; exact hQ⟩
section CE
variable {v : V3} {g : Nat} {B : Int}
theorem ca_gain (h : IV v g B) (hB : B + 99 ≤ 900000) (a1 a2 : Int32) : w_X3_gain a1 a2 v (exI g (B + 99) (w_X4_gain a1 a2) [(eIO, 1)]) (okI g (B + 99) (w_X4_gain a1 a2)) := by
  obtain ⟨⟨n, m, S, hL, hO, hD⟩, hR⟩ := id h
  have hn := hO.1.n40
  have hm := hO.1.m8
  have hC := hO.1.cn
  have is1 : ∀ {w : V3} {Q : Int32 → V3 → Prop} {i : Nat}, i < n → w 8 = v 8 → Q 1 w → w_X4_isBooking (nI i) w Q := fun hi h8 hq => uM_isBooking (n := n) (m := m) (by rw [h8]; exact hC) (fun _ _ _ => hq) (fun p => absurd p (fun z => z.elim (nI_pos (by omega)) (nI_ge hi (by omega))))
  have is0 : ∀ {w : V3} {Q : Int32 → V3 → Prop} {a : Int32}, (a < 0 ∨ nI n ≤ a) → w 8 = v 8 → Q 0 w → w_X4_isBooking a w Q := fun h0 h8 hq => uM_isBooking (n := n) (m := m) (by rw [h8]; exact hC) (fun k hk e => by
    subst e
    exact absurd h0 (fun z => z.elim (nI_pos (by omega)) (nI_ge hk (by omega)))) (fun _ => hq)
  refine uN_booking hL (fun i hi e1 => ?_) hn (fun h0 => ⟨1, mm1, fun v1 e9 => mst (Fc_r v) e9 (fun w h8 M hj => is0 h0 h8 (zt0 (nm_e (finX h hB e9 M h8))))⟩)
  subst e1
  refine uN_booking hL (fun j hj e2 => ?_) hn (fun h0 => ⟨1, mm1, fun v1 e9 => mst (Fc_r v) e9 (fun w h8 M hj => is1 hi h8 (zt1 (is0 h0 h8 (zt0 (nm_e (finX h hB e9 M h8))))))⟩)
  subst e2
  have rf : okI g (B + 99) (w_X4_gain (nI i) (nI j)) (gv (v 8) n i j) v := fun v1 e9 => mst (Fc_r v) e9 (fun w h8 M hjj => is1 hi h8 (zt1 (is1 hj h8 (zt1 (by
    refine uM_gv (n := n) (m := m) (S := S) (B := B) (by rw [h8]; exact hO.1) hi hj ?_
    have f := fin0 h hB (Fc_r v) same e9 M h8
    exact ⟨f.1, by rw [h8], f.2⟩)))))
  unfold gv candS candB at rf
  refine br_c (fun c => ?_) (fun c => ?_)
  · rw [if_pos (.inl ((nI_eq (by omega) (by omega)).mp c))] at rf; exact rf
  · have ne : ¬ i = j := fun z => c (by rw [z])
    refine uC_isIn hL hn hj ?_
    by_cases b1 : bf (v 8) j 7 = 1
    · rw [if_pos b1]
      rw [if_neg (fun d => d.elim ne (fun z => z b1))] at rf
      refine nt1 (uC_isIn hL hn hi ?_)
      by_cases c1 : bf (v 8) i 7 = 1
      · rw [if_pos c1]
        rw [if_pos c1] at rf
        refine zt1 (uC_swapGain hL hn hi hj (fun k => ?_) (fun k => ?_))
        · rw [if_pos k] at rf; exact rf
        · rw [if_neg k] at rf; exact rf
      · rw [if_neg c1]
        rw [if_neg c1] at rf
        refine zt0 (uC_isIn hL hn hi ?_)
        by_cases c0 : bf (v 8) i 7 = 0
        · rw [if_pos c0]
          rw [if_pos c0] at rf
          refine zt1 (uC_buyGain hL hn hm hO.1.ow hi hj (fun k => ?_) (fun k => ?_))
          · rw [if_pos k] at rf; exact rf
          · rw [if_neg k] at rf; exact rf
        · rw [if_neg c0]
          rw [if_neg c0] at rf
          exact zt0 rf
    · rw [if_neg b1]
      rw [if_pos (.inr b1)] at rf
      exact nt0 rf
theorem ca_best (h : IV v g B) (hB : B + 99 ≤ 900000) (a : Int32) : w_X3_best a v (exI g (B + 99) (w_X4_best a) [(eIA, 1)]) (okI g (B + 99) (w_X4_best a)) := by
  obtain ⟨⟨n, m, S, hL, hO, hD⟩, hR⟩ := id h
  have hn := hO.1.n40
  have hm := hO.1.m8
  have hC := hO.1.cn
  refine uN_within (fun h1 h2 => ?_) (fun h0 => ⟨1, mm1, fun v1 e9 => mst (Fc_r v) e9 (fun w h8 M hj => ?_)⟩)
  · obtain ⟨k, hk, rfl⟩ := le_of_nlt (N := 4) (by omega) h1 h2
    refine uC_findBest hL hn hm hO.1.ow (fun v' c' f' => ?_)
    have F : Fc v v' := Fc_5 f'
    have b := BI_bestB (v 8) n
    have rf : ∀ x : Int32, ((bestB (v 8) n).1 = 0 → x = -1) → (¬ (bestB (v 8) n).1 = 0 → x = v' 5 k) → okI g (B + 99) (w_X4_best (nI k)) x v' := by
      intro x x0 x1 v1 e9
      refine mst F e9 (fun w h8 M hj => uM_btw (lo := 0) (hi := nI 4) rfl rfl (fun _ _ => nt1 ?_) (fun p => absurd p (fun z => z.elim h1 h2)))
      refine uM_layBest (n := n) (m := m) (S := S) (B := B) (by rw [h8]; exact hO.1) (fun w2 q1 q2 q3 => ?_)
      rw [h8] at q1
      have M2 : Md (up2 v1 7 11 0) w2 := Md_g M (fun c c7 _ _ _ => q2 c c7) (fun j z => q3 j (by unfold kf at z; omega))
      have h82 : w2 8 = v 8 := (q2 8 (by decide)).trans h8
      have f := fin0 h hB F (fun n m hL hn hm => LA_5 hL hn hm f') e9 M2 h82
      refine ⟨fun z => ?_, fun z => ⟨f.1, (x0 (q1.1.symm.trans z)).symm, f.2⟩⟩
      rw [q1.1] at z
      obtain ⟨m1, m2, m3⟩ := q1.2 z
      obtain ⟨c1, c2, c3, c4⟩ := c'.2 z
      have hx := x1 z
      obtain ⟨⟨i1, i2, i3, i4⟩, i5⟩ := b.2 z
      have kk : (bestB (v 8) n).2.1 = 0 ∨ (bestB (v 8) n).2.1 = 1 := i5.elim (fun y => .inl y.1) (fun y => .inr y.1)
      refine ⟨fun e => ⟨f.1, ?_, f.2⟩, fun e => ⟨fun y => ⟨f.1, ?_, f.2⟩, fun y => ⟨f.1, ?_, f.2⟩⟩, fun e => ⟨f.1, ?_, f.2⟩, fun e => ⟨f.1, ?_, f.2⟩, fun e => ⟨fun y => ⟨f.1, ?_, f.2⟩, fun y => ?_⟩⟩
      · have : k = 0 := (nI_eq (b := 0) (by omega) (by omega)).mp e
        subst this
        rw [hx, q1.1, c'.1]
      · have : k = 1 := (nI_eq (b := 1) (by omega) (by omega)).mp e
        subst this
        rw [hx, c1, ← m1, y]
      · have : k = 1 := (nI_eq (b := 1) (by omega) (by omega)).mp e
        subst this
        rcases kk with q | q
        · rw [m1, q] at y; exact absurd rfl y
        · rw [hx, c1, q]; rfl
      · have : k = 2 := (nI_eq (b := 2) (by omega) (by omega)).mp e
        subst this
        rw [hx, c2, m2]
      · have : k = 3 := (nI_eq (b := 3) (by omega) (by omega)).mp e
        subst this
        rw [hx, c3, m3]
      · have k4 : k = 4 := by
          obtain ⟨a0, a1, a2, a3⟩ := e
          have y0 : k ≠ 0 := fun q => a0 (by rw [q]; rfl)
          have y1 : k ≠ 1 := fun q => a1 (by rw [q]; rfl)
          have y2 : k ≠ 2 := fun q => a2 (by rw [q]; rfl)
          have y3 : k ≠ 3 := fun q => a3 (by rw [q]; rfl)
          omega
        subst k4
        rcases kk with q | q
        · rw [hx, c4, q]; rfl
        · rw [m1, q] at y; exact absurd y (by decide)
      · have k4 : k = 4 := by
          obtain ⟨a0, a1, a2, a3⟩ := e
          have y0 : k ≠ 0 := fun q => a0 (by rw [q]; rfl)
          have y1 : k ≠ 1 := fun q => a1 (by rw [q]; rfl)
          have y2 : k ≠ 2 := fun q => a2 (by rw [q]; rfl)
          have y3 : k ≠ 3 := fun q => a3 (by rw [q]; rfl)
          omega
        subst k4
        rw [m2, m3]
        refine uM_price (by omega) (by omega) (by rw [h82]; exact i4) ⟨f.1, ?_, f.2⟩
        rcases kk with q | q
        · rw [m1, q] at y; exact absurd rfl y
        · rw [hx, c4, if_pos q, h82]
    by_cases z : (bestB (v 8) n).1 = 0
    · rw [if_pos z]; exact zt0 (rf (-1) (fun _ => rfl) (fun q => absurd z q))
    · rw [if_neg z]
      refine zt1 ⟨vp_in_nI (by omega) (by decide), ?_⟩
      rw [show ix (nI k) = k from nI_clamp (by omega)]
      exact rf _ (fun q => absurd q z) (fun _ => rfl)
  · exact uM_btw (lo := 0) (hi := 4) rfl rfl (fun p1 p2 => absurd h0 (fun z => z.elim p1 p2)) (fun _ => nt0 (nm_e (finX h hB e9 M h8)))
theorem Ea_un {σ : Nat → Int32} {n : Nat} {x1 x2 : Int32} {D a z : Int} {r r' : Int32} (ha : 0 ≤ a) (h : EaS σ n x1 x2 D a z r) (h' : EaS σ n x1 x2 D a z r') : r = r' := by
  rcases h with ⟨e, p⟩ | ⟨p1, p2, p3, p4⟩ <;> rcases h' with ⟨e', q⟩ | ⟨q1, q2, q3, q4⟩
  · rw [e, e']
  · exact absurd (p _ q1 q2) q3
  · exact absurd (q _ p1 p2) p3
  · refine ti_eq.mpr (Int.le_antisymm ?_ ?_)
    · exact Classical.byContradiction (fun c => q3 (p4 _ q1 (by omega)))
    · exact Classical.byContradiction (fun c => p3 (q4 _ p1 (by omega)))
theorem ca_nextFree (h : IV v g B) (hB : B + 99 ≤ 900000) (a : Int32) : w_X3_nextFree a v (exI g (B + 99) (w_X4_nextFree a) [(eIA, 1)]) (okI g (B + 99) (w_X4_nextFree a)) := by
  obtain ⟨⟨n, m, S, hL, hO, hD⟩, hR⟩ := id h
  have hn := hO.1.n40
  have hC := hO.1.cn
  have t0 := hO.1.t0
  obtain ⟨⟨f1, f2, f3⟩, ⟨d1, d2, d3⟩, d4, d5⟩ := hD
  unfold w_X3_nextFree
  rw [hL.tm]
  refine uN_within (fun h1 h2 => ?_) (fun h0 => ⟨1, mm1, fun v1 e9 => mst (Fc_r v) e9 (fun w h8 M hj => ?_)⟩)
  · rw [ti_lt] at h1
    rw [ti_lt, show (20000 : Int32).toInt = 20000 from rfl] at h2
    obtain ⟨k, hk, rfl⟩ := nI_of (x := a) (by rw [ti_lt, zero_I]; omega)
    have ek : (nI k).toInt = k := ti_nI hk
    rw [ek] at h1 h2
    have e3 : nI k + 300 = nI (k + 300) := nI_add k 300
    rw [e3]
    have et : (nI (k + 300)).toInt = (k : Int) + 300 := by rw [ti_nI (by omega)]; omega
    refine uC_early hL hn hO.1.tm (by omega) (by rw [ek]; omega) (by omega) (fun r hr => ?_)
    rw [ek, et, show max (k : Int) (v 8 7).toInt = k by omega] at hr
    intro v1 e9
    refine mst (Fc_r v) e9 (fun w h8 M hj => uM_btw (lo := v 8 7) (hi := 20000) (by rw [h8]) rfl (fun _ _ => nt1 ?_) (fun p => ?_))
    · have f := fin0 h hB (Fc_r v) same e9 M h8
      have fin : ∀ b : Int32, EaS (v 8) n (v 0 9) (v 0 10) (v 0 11).toInt k (k + 300) b → w 7 11 = 0 ∧ b = r ∧ IVo v1 w g (B + 99) := fun b hb => ⟨f.1, Ea_un (by omega) hb hr, f.2⟩
      refine loop_0 (W := fun r i w => w_X4_nextFree_32 (fun b v2 => v2 7 11 = 0 ∧ b = _ ∧ IVo v1 v2 g (B + 99)) r (nI k) (nI (k + i)) w) (I := fun i w' => w' = w ∧ ∀ t : Int, k ≤ t → t < k + i → hitI (v 8) n (v 0 9) (v 0 10) (v 0 11).toInt t) 301 w ⟨rfl, fun t a b => by omega⟩ ?_ ?_
      · intro r' w' hw
        obtain ⟨rfl, hw⟩ := hw
        rw [w_X4_nextFree_32, e3]
        exact br_t (nI_lt (by omega) (by omega)) (fin (-1) (.inl ⟨rfl, fun t a b => hw t a (by omega)⟩))
      · intro r' i w' hi hw ih
        obtain ⟨rfl, hw⟩ := hw
        rw [w_X4_nextFree_32, e3, hj 8 (by decide), hj 9 (by decide), hj 10 (by decide), f1, f2, f3]
        refine br_f (nI_nlt (by omega) (by omega)) ?_
        refine uM_taken (n := n) (m := m) (B := B) (by rw [h8]; exact hC) (by rw [h8]; exact hO.1.tm) ?_
        rw [h8]
        have ei : (nI (k + i)).toInt = (k : Int) + i := by rw [ti_nI (by omega)]; omega
        rcases cl_hit (σ := v 8) (x1 := v 0 9) (x2 := v 0 10) (t := nI (k + i)) (x3 := v 0 11) hn (by omega) (by omega) with ⟨c1, c2⟩ | ⟨j, c1, c2, c3, c4⟩
        · rw [if_pos c1]
          rw [ei] at c2
          exact nt0 (fin _ (.inr ⟨by rw [ei]; omega, by rw [ei]; omega, by rw [ei]; exact c2, fun t a b => hw t a (by rw [ei] at b; exact b)⟩))
        · rw [if_neg c3]
          rw [show k + (i + 1) = k + i + 1 by omega, nI_succ (k + i)] at ih
          refine nt1 (ih w' ⟨rfl, fun t a b => ?_⟩)
          by_cases z : t < k + i
          · exact hw t a z
          · have : t = (nI (k + i)).toInt := by rw [ei]; omega
            subst this
            exact ⟨j, c1, c4.1, c4.2.1, by omega, by omega⟩
    · rw [ti_lt, ti_lt, ek, show (20000 : Int32).toInt = 20000 from rfl] at p
      omega
  · exact uM_btw (lo := v 8 7) (hi := 20000) (by rw [h8]) rfl (fun p1 p2 => absurd h0 (fun z => z.elim p1 p2)) (fun _ => nt0 (nm_e (finX h hB e9 M h8)))
end CE
