/-! CALLS 8: acts -/
theorem fstI_congr {p q : Nat → Bool} : ∀ k i, (∀ j, i ≤ j → j < i + k → p j = q j) → fstI p k i = fstI q k i
  | 0, _, _ => rfl
  | k + 1, i, h => by
    show (if p i = true then nI i else fstI p k (i + 1)) = (if q i = true then nI i else fstI q k (i + 1))
    rw [h i (Nat.le_refl i) (by omega), fstI_congr k (i + 1) (fun j a b => h j (by omega) (by omega))]
theorem clS_ii {σ : Nat → Int32} {n i : Nat} {x1 x2 x3 x4 : Int32} (hn : n ≤ 40) : clS σ n x1 x2 x3 x4 (nI i) (nI i) = clS σ n x1 x2 x3 x4 (nI i) (-1) := by
  refine fstI_congr n 0 (fun j _ hj => ?_)
  have hj1 : ¬ nI j = -1 := nI_neg1 (by omega)
  unfold clB
  rw [decide_eq_false hj1]
  by_cases c : nI j = nI i
  · rw [decide_eq_true c]; simp
  · rw [decide_eq_false c]
theorem cand_ok {σ : Nat → Int32} {n i j : Nat} (h : ¬ candS σ n i j = 0) : swpOk σ n i j := by
  unfold candS at h
  by_cases c : swpOk σ n i j
  · exact c
  · rw [if_neg c] at h; exact absurd rfl h
theorem candB_ok {σ : Nat → Int32} {n i j : Nat} (h : ¬ candB σ n i j = 0) : buyOk σ n i j := by
  unfold candB at h
  by_cases c : buyOk σ n i j
  · exact c
  · rw [if_neg c] at h; exact absurd rfl h
section AC
variable {v : V3} {g n m S : Nat} {B : Int}
theorem uM_put7 {w : V3} {i : Nat} {x : Int32} {P : V3 → Prop} (hi : i < 40) : w_X4_put (nI i) 7 x w P = P (up2 w 8 (74 + 10 * i + 7) x) := uM_put (f := 7) hi (by omega)
theorem uM_put9 {w : V3} {i : Nat} {x : Int32} {P : V3 → Prop} (hi : i < 40) : w_X4_put (nI i) 9 x w P = P (up2 w 8 (74 + 10 * i + 9) x) := uM_put (f := 9) hi (by omega)
/-- behind an act the class places -/
theorem act_C {v1 : V3} {σ1 : Nat → Int32} (hL1 : LA v1 21 σ1 n m) (hW1 : Wf σ1 n m S B) (hB : 10300 ≤ B) {Q : V3 → Prop} (hQ : ∀ v', LA v' 21 (pl σ1 n) n m → Fr 21 v1 v' → Q v') : w_X1_placeWaiting 21 v1 Q :=
  uC_placeW hL1 hW1 hB (fun v' a _ _ d => hQ v' (by rw [plc_1] at a; exact a) d)
/-- behind an act the reference places -/
theorem act_M {v0 w1 : V3} {σ1 : Nat → Int32} (e : w1 8 = σ1) (hW1 : Wf σ1 n m S B) (hB : 10300 ≤ B) (hM : Md v0 w1) {Q : Int32 → V3 → Prop} (hQ : ∀ w', w' 8 = pl σ1 n → Md v0 w' → Q 0 w') : w_X4_done w1 Q :=
  uM_placeAll (n := n) (m := m) (S := S) (B := B) (by rw [e]; exact hW1) hB (fun w' a _ c d => hQ w' (by rw [plc_1, e] at a; exact a) (Md_g hM (fun c0 c7 c8 _ c17 => c c0 c7 c8 c17) (fun j k => d j (by unfold kf at k; omega) (by unfold kf at k; omega))))
theorem act_fin {v1 v2 w : V3} {σ1 : Nat → Int32} (hR : RS v g B) (hB : B + 99 ≤ 900000) (hD : DR v S) (F : Fc v v1) (hL : LA v1 21 (pl σ1 n) n m) (e9 : Eq9 v1 v2) (hM : Md (up2 v2 7 11 0) w) (h8 : w 8 = pl σ1 n) (hW1 : Wf σ1 n m S (B + 99)) (h7 : σ1 7 = v 8 7) (ht : (v 8 7).toInt ≤ 20000) : w 7 11 = 0 ∧ IVo v2 w g (B + 99) := by
  have hB0 := hR.2.2.2.2.2
  have p := pl_ok hW1 (by omega)
  exact fin2 hR hB hD F hL e9 hM h8 ⟨p.1, p.2.1, by rw [p.2.2, h7]; exact ht⟩
theorem is_bk {w : V3} {Q : Int32 → V3 → Prop} {i : Nat} (hC : Cn (v 8) n m) (hi : i < n) (h8 : w 8 = v 8) (hq : Q 1 w) : w_X4_isBooking (nI i) w Q := uM_isBooking (n := n) (m := m) (by rw [h8]; exact hC) (fun _ _ _ => hq) (fun p => absurd p (fun z => z.elim (nI_pos (by have := hC.2.2.2; omega)) (nI_ge hi (by have := hC.2.2.2; omega))))
theorem no_bk {w : V3} {Q : Int32 → V3 → Prop} {a : Int32} (hC : Cn (v 8) n m) (h0 : a < 0 ∨ nI n ≤ a) (h8 : w 8 = v 8) (hq : Q 0 w) : w_X4_isBooking a w Q := uM_isBooking (n := n) (m := m) (by rw [h8]; exact hC) (fun k hk e => by
  subst e
  have := hC.2.2.2
  exact absurd h0 (fun z => z.elim (nI_pos (by omega)) (nI_ge hk (by omega)))) (fun _ => hq)
theorem ca_arrive (h : IV v g B) (hB : B + 99 ≤ 900000) (a : Int32) : w_X3_arrive a v (exI g (B + 99) (w_X4_arrive a) [(eIO, 1)]) (okI g (B + 99) (w_X4_arrive a)) := by
  obtain ⟨⟨n, m, S, hL, hO, hD⟩, hR⟩ := id h
  have hn := hO.1.n40
  have hm := hO.1.m8
  have hC := hO.1.cn
  have hB0 := hR.2.2.2.2.2
  refine uN_booking hL (fun i hi e1 => ?_) hn (fun h0 => ⟨1, mm1, fun v1 e9 => mst (Fc_r v) e9 (fun w h8 M hj => no_bk hC h0 h8 (nt0 (nm_e (finX h hB e9 M h8))))⟩)
  subst e1
  have hi4 : i < 40 := by omega
  refine ⟨nx_in hi hn, ?_⟩
  rw [nx_ix hi hn, hL.bk hi 7 (by omega), hL.bk hi 8 (by omega), hL.tm]
  have rf : ∀ (x : Int32), (¬ bf (v 8) i 7 = 1 → x = 1) → (bf (v 8) i 7 = 1 → ¬ bf (v 8) i 8 ≤ v 8 7 → x = 2) → ¬ (bf (v 8) i 7 = 1 ∧ bf (v 8) i 8 ≤ v 8 7) → okI g (B + 99) (w_X4_arrive (nI i)) x v := by
    intro x x1 x2 hne v1 e9
    refine mst (Fc_r v) e9 (fun w h8 M hj => is_bk hC hi h8 (nt1 ?_))
    have f := fin0 h hB (Fc_r v) same e9 M h8
    rw [uM_of7 hi4, h8]
    refine br_c (fun c => ?_) (fun c => ⟨f.1, (x1 c).symm, f.2⟩)
    rw [uM_of8 hi4, h8]
    exact br_c (fun d => absurd ⟨c, d⟩ hne) (fun d => ⟨f.1, (x2 c d).symm, f.2⟩)
  refine br_c (fun c => br_c (fun d => nm_e ?_) (fun d => rf 2 (fun q => absurd c q) (fun _ _ => rfl) (fun q => d q.2))) (fun c => rf 1 (fun _ => rfl) (fun q => absurd q c) (fun q => c q.1))
  have hL1 := LA_b hL hn hm hi (f := 7) (x := 2) (by omega)
  have ok := hold_ok hO.1 hO.2.1 hi c
  obtain ⟨⟨e0, o0⟩, hL2⟩ := LA_add hL1 hm ok.1.ow hi (f := 6) (x := v 8 7 - bf (v 8) i 8) (by omega)
  have e8 : (up2 v (21 + 14 + i) 7 2) (21 + 14 + i) 8 = bf (v 8) i 8 := by rw [hL1.bk hi 8 (by omega), bf_put (by omega) (by omega), if_neg (by omega)]
  have e7 : (up2 v (21 + 14 + i) 7 2) 21 6 = v 8 7 := by rw [up2_off _ _ _ (by omega)]; exact hL.tm
  rw [e0, e8, e7, show ix (nI (ownI (putB (v 8) i 7 2) i)) = ownI (putB (v 8) i 7 2) i from nI_clamp (by omega)]
  refine ⟨vp_in_nI (by omega) (by decide), nm_e ?_⟩
  have F : Fc v (up2 (up2 v (21 + 14 + i) 7 2) (21 + 6 + ownI (putB (v 8) i 7 2) i) 6 ((up2 v (21 + 14 + i) 7 2) (21 + 6 + ownI (putB (v 8) i 7 2) i) 6 + (v 8 7 - bf (v 8) i 8))) := Fc_L (Fr_u (Fr_u (Fr_r 21 v) (by omega) (by omega)) (by omega) (by omega))
  intro v1 e9
  refine mst F e9 (fun w h8 M hj => is_bk hC hi h8 (nt1 ?_))
  rw [uM_of7 hi4, h8]
  refine br_t c ?_
  rw [uM_of8 hi4, h8]
  refine br_t d ?_
  rw [uM_put7 hi4, uM_of0 hi4, uM_of8 hi4]
  have s8 : (up2 w 8 (74 + 10 * i + 7) 2) 8 = putB (v 8) i 7 2 := by rw [up2_8, h8]; rfl
  have o := own_of ok.1.ow hm hi
  rw [s8, o.2, show (6 : Int32) = nI 6 from rfl, uM_grow (by omega) (by omega), s8]
  have x1 : bf (putB (v 8) i 7 2) i 8 = bf (v 8) i 8 := by rw [bf_put (by omega) (by omega), if_neg (by omega)]
  have x2 : putB (v 8) i 7 2 7 = v 8 7 := sc_put (by omega)
  rw [x1, x2]
  have f := fin2 hR hB hD F hL2 e9 (Md_8 (w' := up2 (up2 w 8 (74 + 10 * i + 7) 2) 8 (10 + 8 * ownI (putB (v 8) i 7 2) i + 6) (og (putB (v 8) i 7 2) (ownI (putB (v 8) i 7 2) i) 6 + (v 8 7 - bf (v 8) i 8))) M (fun c hc => by rw [up2_off _ _ _ hc, up2_off _ _ _ hc])) (by rw [up2_8, s8]; rfl) (OK_B (n := n) (m := m) (S := S) (B := B) ⟨wf_A ok.1 hi (by omega), nf_A ok.1 ok.2 hi (by omega), by
    show (putO _ _ _ _ 7).toInt ≤ 20000
    rw [sc_putO (by omega), x2]; exact hO.2.2⟩ (by omega))
  exact ⟨f.1, rfl, f.2⟩
theorem ca_leave (h : IV v g B) (hB : B + 99 ≤ 900000) (a : Int32) : w_X3_leave a v (exI g (B + 99) (w_X4_leave a) [(eIO, 1)]) (okI g (B + 99) (w_X4_leave a)) := by
  obtain ⟨⟨n, m, S, hL, hO, hD⟩, hR⟩ := id h
  have hn := hO.1.n40
  have hm := hO.1.m8
  have hC := hO.1.cn
  have hB0 := hR.2.2.2.2.2
  refine uN_booking hL (fun i hi e1 => ?_) hn (fun h0 => ⟨1, mm1, fun v1 e9 => mst (Fc_r v) e9 (fun w h8 M hj => no_bk hC h0 h8 (nt0 (nm_e (finX h hB e9 M h8))))⟩)
  subst e1
  have hi4 : i < 40 := by omega
  refine ⟨nx_in hi hn, ?_⟩
  rw [nx_ix hi hn, hL.bk hi 7 (by omega)]
  refine br_c (fun c => nm_e (nm_e ?_)) (fun c v1 e9 => mst (Fc_r v) e9 (fun w h8 M hj => is_bk hC hi h8 (nt1 ?_)))
  · have hL1 := LA_b hL hn hm hi (f := 7) (x := 3) (by omega)
    have e7 : (up2 v (21 + 14 + i) 7 3) 21 6 = v 8 7 := by rw [up2_off _ _ _ (by omega)]; exact hL.tm
    rw [e7]
    have hL2 := LA_b hL1 hn hm hi (f := 9) (x := v 8 7) (by omega)
    have W1 := gone_ok hO.1 hi (s := 3) (by omega)
    have l1 : lvB (putB (v 8) i 7 3) i = false := by
      unfold lvB; rw [bf_put (by omega) (by omega), if_pos ⟨rfl, rfl⟩]; decide
    have W2 := free_ok (x := v 8 7) W1 hi (.inr rfl) l1
    obtain ⟨⟨e0, o0⟩, hL3⟩ := LA_add hL2 hm W2.ow hi (f := 1) (x := 1) (by omega)
    have o := own_of W2.ow hm hi
    have W3 := wf_A (f := 1) (x := 1) W2 hi (by omega)
    generalize eσ : putB (putB (v 8) i 7 3) i 9 (v 8 7) = σ2 at *
    have eσ' : putB (putB (v 8) i 7 (nI 3)) i 9 (v 8 7) = σ2 := eσ
    rw [e0, show ix (nI (ownI σ2 i)) = ownI σ2 i from nI_clamp (by omega)]
    refine ⟨vp_in_nI (by omega) (by decide), nm_e ?_⟩
    rw [eσ'] at W3 o W2
    refine act_C hL3 W3 (by omega) (fun v' hL' hF' => ?_)
    have F : Fc v v' := Fc_L (Fr_t (Fr_u (Fr_u (Fr_u (Fr_r 21 v) (by omega) (by omega)) (by omega) (by omega)) (by omega) (by omega)) hF')
    intro v1 e9
    refine mst F e9 (fun w h8 M hj => is_bk hC hi h8 (nt1 ?_))
    rw [uM_of7 hi4, h8]
    refine br_t c ?_
    rw [uM_put7 hi4, uM_put9 hi4]
    have x2 : (up2 w 8 (74 + 10 * i + 7) 3) 8 7 = v 8 7 := by rw [up2_8, pk_un (by omega), h8]
    rw [x2]
    have s8 : (up2 (up2 w 8 (74 + 10 * i + 7) 3) 8 (74 + 10 * i + 9) (v 8 7)) 8 = σ2 := by rw [up2_8, up2_8, h8]; exact eσ
    refine uM_add (f := 1) (x := 1) (by rw [s8]; exact W2.ow) hm hn hi (by omega) (fun w2 q1 q2 => ?_)
    rw [s8] at q1
    have M2 := Md_8 (Md_8 (w' := up2 (up2 w 8 (74 + 10 * i + 7) 3) 8 (74 + 10 * i + 9) (v 8 7)) M (fun c hc => by rw [up2_off _ _ _ hc, up2_off _ _ _ hc])) q2
    refine act_M q1 W3 (by omega) M2 (fun w3 r1 r2 => ?_)
    have f := act_fin hR hB hD F hL' e9 r2 r1 (Wf_B W3 (by omega)) (by
      show putO _ _ _ _ 7 = _
      rw [sc_putO (by omega), ← eσ, sc_put (by omega), sc_put (by omega)]) hO.2.2
    exact ⟨f.1, rfl, f.2⟩
  · have f := fin0 h hB (Fc_r v) same e9 M h8
    rw [uM_of7 hi4, h8]
    exact br_f c ⟨f.1, rfl, f.2⟩
end AC
