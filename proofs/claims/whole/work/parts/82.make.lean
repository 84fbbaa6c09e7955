/-! PURE LEVEL 13: making bargains -/
def barS (σ : Nat → Int32) (i j : Nat) : Nat → Int32 := addO (addO σ i 7 1) j 7 1
def swpF (σ : Nat → Int32) (i j : Nat) : Nat → Int32 := upd (barS (swpS σ i j) i j) 8 (barS (swpS σ i j) i j 8 + 1)
def buyC (σ : Nat → Int32) (i j : Nat) (p : Int32) : Nat → Int32 := barS (addO (addO (settleS (awaitS σ j) i (bf σ j 8)) i 0 (-p)) j 0 p) i j
def buyF (σ : Nat → Int32) (i j : Nat) : Nat → Int32 := upd (buyC σ i j (prcS σ i j)) 9 (buyC σ i j (prcS σ i j) 9 + 1)
theorem putB_c {σ : Nat → Int32} {i j f g : Nat} {x y : Int32} (hf : f < 10) (hg : g < 10) (h : i ≠ j ∨ f ≠ g) : putB (putB σ i f x) j g y = putB (putB σ j g y) i f x := by
  funext k
  show (if k = 74 + 10 * j + g then y else if k = 74 + 10 * i + f then x else σ k) = (if k = 74 + 10 * i + f then x else if k = 74 + 10 * j + g then y else σ k)
  by_cases h1 : k = 74 + 10 * j + g
  · rw [if_pos h1, if_neg (by omega), if_pos h1]
  · rw [if_neg h1, if_neg h1]
section OWN
variable {σ : Nat → Int32} {n m i j : Nat}
theorem own_e {σ' : Nat → Int32} (h : bf σ' i 0 = bf σ i 0) : ownI σ' i = ownI σ i := by
  unfold ownI
  rw [h]
theorem Ow_e {σ' : Nat → Int32} (hO : Ow σ n m) (h : ∀ i, i < n → bf σ' i 0 = bf σ i 0) : Ow σ' n m := fun i hi => by
  rw [h i hi]; exact hO i hi
theorem Ow_A (hO : Ow σ n m) (hm : m ≤ 8) {f : Nat} {x : Int32} (hi : i < n) (hf : f < 8) : Ow (addO σ i f x) n m :=
  Ow_e hO (fun k _ => addO_b hO hm hi hf)
theorem bar_wf {S : Nat} {B : Int} (h : Wf σ n m S B) (hi : i < n) (hj : j < n) : Wf (barS σ i j) n m S B :=
  wf_A (wf_A h hi (by omega)) hj (by omega)
theorem swpF_wf {S : Nat} {B : Int} (h : Wf σ n m S B) (hi : i < n) (hj : j < n) (hij : ¬ i = j) (hbi : bf σ i 7 = 1) (hbj : bf σ j 7 = 1) (ok : swpOk σ n i j) : Wf (swpF σ i j) n m S B :=
  wf_8 (bar_wf (swp_ok h hi hj hij hbi hbj ok) hi hj) (.inl rfl)
theorem buyF_wf {S : Nat} {B : Int} (h : Wf σ n m S B) (hB : 10300 ≤ B) (hi : i < n) (hj : j < n) (hij : ¬ i = j) (hbi : bf σ i 7 = 0) (hbj : bf σ j 7 = 1) (ok : buyOk σ n i j) : Wf (buyF σ i j) n m S B :=
  wf_8 (bar_wf (wf_A (wf_A (buy_ok h hB hi hj hij hbi hbj ok) hi (by omega)) hj (by omega)) hi hj) (.inr rfl)
end OWN
section MC
variable {v : V3} {b n m : Nat} {σ : Nat → Int32}
theorem LA_add (hL : LA v b σ n m) (hm : m ≤ 8) (hO : Ow σ n m) {i f : Nat} {x : Int32} (hi : i < n) (hf : f < 8) : (v (b + 14 + i) 0 = nI (ownI σ i) ∧ ownI σ i < m) ∧ LA (up2 v (b + 6 + ownI σ i) f (v (b + 6 + ownI σ i) f + x)) b (addO σ i f x) n m := by
  have o := own_of hO hm hi
  refine ⟨⟨(hL.bk hi 0 (by omega)).trans o.2, o.1⟩, ?_⟩
  rw [hL.ow o.1 f hf]
  exact LA_o hL hm o.1 hf
theorem uC_count (hL : LA v 21 σ n m) (hn : n ≤ 40) (hm : m ≤ 8) (hO : Ow σ n m) {i j : Nat} (hi : i < n) (hj : j < n) {Q : V3 → Prop} (hQ : ∀ v', LA v' 21 (barS σ i j) n m → Fr 21 v v' → Q v') : w_X0_countBargain (nI i) (nI j) v Q := by
  obtain ⟨⟨e1, o1⟩, hL1⟩ := LA_add hL hm hO hi (f := 7) (x := 1) (by omega)
  refine ⟨nx_in hi hn, ?_⟩
  rw [nx_ix hi hn, nx_ix hj hn, e1, show ix (nI (ownI σ i)) = ownI σ i from nI_clamp (by omega)]
  refine ⟨vp_in_nI (by omega) (by decide), nm_e ⟨nx_in hj hn, ?_⟩⟩
  obtain ⟨⟨e2, o2⟩, hL2⟩ := LA_add hL1 hm (Ow_A hO hm hi (by omega)) hj (f := 7) (x := 1) (by omega)
  rw [e2, show ix (nI (ownI (addO σ i 7 1) j)) = ownI (addO σ i 7 1) j from nI_clamp (by omega)]
  exact ⟨vp_in_nI (by omega) (by decide), nm_e (hQ _ hL2 (Fr_u (Fr_u (Fr_r 21 v) (by omega) (by omega)) (by omega) (by omega)))⟩
theorem uC_makeSwap (hL : LA v 21 σ n m) (hn : n ≤ 40) (hm : m ≤ 8) (hO : Ow σ n m) {i j : Nat} (hi : i < n) (hj : j < n) (hij : ¬ i = j) {Q : V3 → Prop} (hQ : ∀ v', LA v' 21 (swpF σ i j) n m → Fr 21 v v' → Q v') : w_X0_makeSwap (nI i) (nI j) v Q := by
  refine ⟨nx_in hi hn, nx_in hj hn, ?_⟩
  rw [nx_ix hi hn, nx_ix hj hn, hL.bk hi 8 (by omega), hL.bk hi 9 (by omega), hL.bk hj 8 (by omega)]
  refine nm_e ?_
  rw [up2_off _ _ _ (show 21 + 14 + j ≠ 21 + 14 + i by omega), hL.bk hj 9 (by omega)]
  refine nm_e (nm_e (nm_e ?_))
  have hS : LA (up2 (up2 (up2 (up2 v (21 + 14 + i) 8 (bf σ j 8)) (21 + 14 + i) 9 (bf σ j 9)) (21 + 14 + j) 8 (bf σ i 8)) (21 + 14 + j) 9 (bf σ i 9)) 21 (swpS σ i j) n m :=
    LA_b (LA_b (LA_b (LA_b hL hn hm hi (by omega)) hn hm hi (by omega)) hn hm hj (by omega)) hn hm hj (by omega)
  have hO2 : Ow (swpS σ i j) n m := Ow_e hO (fun k hk => by
    unfold swpS
    rw [bf_put (by omega) (by omega), if_neg (by omega), bf_put (by omega) (by omega), if_neg (by omega), bf_put (by omega) (by omega), if_neg (by omega), bf_put (by omega) (by omega), if_neg (by omega)])
  refine uC_count hS hn hm hO2 hi hj (fun v9 h9 f9 => nm_e ?_)
  rw [h9.1.2.2.2.2.2.1]
  exact hQ _ (LA_8 h9 hn hm) (Fr_u (Fr_t (Fr_u (Fr_u (Fr_u (Fr_u (Fr_r 21 v) (by omega) (by omega)) (by omega) (by omega)) (by omega) (by omega)) (by omega) (by omega)) f9) (by omega) (by omega))
theorem Ow_ch {σ' : Nat → Int32} {i : Nat} (hO : Ow σ n m) (hc : Ch σ σ' n i) : Ow σ' n m := Ow_e hO (fun k hk => hc.2 k hk 0 (by omega) (.inr (by omega)))
theorem uC_makeBuy (hL : LA v 21 σ n m) (hn : n ≤ 40) (hm : m ≤ 8) (hO : Ow σ n m) {i j : Nat} (hi : i < n) (hj : j < n) (hij : ¬ i = j) (hb : ¬ bf σ j 8 = -1) {Q : V3 → Prop} (hQ : ∀ v', LA v' 21 (buyF σ i j) n m → Fr 21 v v' → Q v') : w_X0_makeBuyout (nI i) (nI j) v Q := by
  refine uC_price hL hn hi hj ⟨nx_in hj hn, ?_⟩
  rw [nx_ix hj hn, nx_ix hi hn, hL.bk hj 8 (by omega)]
  refine uC_letWait hL hn hm hj (fun v5 hL5 f5 => ?_)
  refine uC_bookAt hL5 hn hm hi (fun q => absurd q hb) (fun v6 _ hL6 f6 => ?_)
  have O6 : Ow (settleS (awaitS σ j) i (bf σ j 8)) n m := Ow_ch (Ow_ch hO (aw_ch (i := j))) (stl_ch (i := i))
  obtain ⟨⟨e1, o1⟩, hL7⟩ := LA_add hL6 hm O6 hi (f := 0) (x := -(prcS σ i j)) (by omega)
  have sub : ∀ x y : Int32, x - y = x + -y := fun x y => Int32.sub_eq_add_neg x y
  rw [e1, show ix (nI (ownI (settleS (awaitS σ j) i (bf σ j 8)) i)) = ownI (settleS (awaitS σ j) i (bf σ j 8)) i from nI_clamp (by omega), sub]
  refine ⟨nx_in hi hn, vp_in_nI (by omega) (by decide), nm_e ⟨nx_in hj hn, ?_⟩⟩
  have O7 := Ow_A (f := 0) (x := -(prcS σ i j)) O6 hm hi (by omega)
  obtain ⟨⟨e2, o2⟩, hL8⟩ := LA_add hL7 hm O7 hj (f := 0) (x := prcS σ i j) (by omega)
  rw [e2, show ix (nI (ownI (addO (settleS (awaitS σ j) i (bf σ j 8)) i 0 (-(prcS σ i j))) j)) = ownI (addO (settleS (awaitS σ j) i (bf σ j 8)) i 0 (-(prcS σ i j))) j from nI_clamp (by omega)]
  refine ⟨vp_in_nI (by omega) (by decide), nm_e ?_⟩
  refine uC_count hL8 hn hm (Ow_A O7 hm hj (by omega)) hi hj (fun v9 h9 f9 => nm_e ?_)
  rw [h9.1.2.2.2.2.2.2]
  have F6 : Fr 21 v v6 := fun c hc => (f6 c (by omega)).trans (f5 c (by omega))
  exact hQ _ (LA_9 h9 hn hm) (Fr_u (Fr_t (Fr_u (Fr_u F6 (by omega) (by omega)) (by omega) (by omega)) f9) (by omega) (by omega))
end MC
section MM
variable {v : V3} {n m : Nat}
theorem uM_add {i f : Nat} {x : Int32} (hO : Ow (v 8) n m) (hm : m ≤ 8) (hn : n ≤ 40) (hi : i < n) (hf : f < 8) {P : V3 → Prop} (hP : ∀ v', v' 8 = addO (v 8) i f x → (∀ c, c ≠ 8 → v' c = v c) → P v') : w_X4_of (nI i) 0 v (fun r v9 => w_X4_grow r (nI f) x v9 P) := by
  have o := own_of hO hm hi
  rw [uM_of0 (show i < 40 by omega), o.2, uM_grow (by omega) hf]
  exact hP _ up2_8 (fun c hc => up2_off _ _ _ hc)
theorem uM_count {i j : Nat} (hO : Ow (v 8) n m) (hm : m ≤ 8) (hn : n ≤ 40) (hi : i < n) (hj : j < n) {P : V3 → Prop} (hP : ∀ v', v' 8 = barS (v 8) i j → (∀ c, c ≠ 8 → v' c = v c) → P v') : w_X4_countBargain (nI i) (nI j) v P := by
  refine uM_add (f := 7) hO hm hn hi (by omega) (fun v2 e2 f2 => ?_)
  refine uM_add (f := 7) (by rw [e2]; exact Ow_A hO hm hi (by omega)) hm hn hj (by omega) (fun v3 e3 f3 => ?_)
  rw [e2] at e3
  exact hP v3 e3 (fun c hc => (f3 c hc).trans (f2 c hc))
theorem uM_exch {i j f : Nat} (hi : i < 40) (hj : j < 40) (hf : f < 10) {P : V3 → Prop} (hP : ∀ v', v' 8 = putB (putB (v 8) i f (bf (v 8) j f)) j f (bf (v 8) i f) → (∀ c, c ≠ 8 → v' c = v c) → P v') : w_X4_exchange (nI i) (nI j) (nI f) v P := by
  unfold w_X4_exchange
  rw [uM_of hi hf, uM_of hj hf, uM_put hi hf, uM_put hj hf]
  refine hP _ ?_ (fun c hc => by rw [up2_off _ _ _ hc, up2_off _ _ _ hc])
  rw [up2_8, up2_8]
  rfl
theorem uM_makeSwap {i j : Nat} (hO : Ow (v 8) n m) (hm : m ≤ 8) (hn : n ≤ 40) (hi : i < n) (hj : j < n) (hij : ¬ i = j) {P : V3 → Prop} (hP : ∀ v', v' 8 = swpF (v 8) i j → (∀ c, c ≠ 8 → v' c = v c) → P v') : w_X4_makeSwap (nI i) (nI j) v P := by
  refine uM_exch (f := 8) (by omega) (by omega) (by omega) (fun v1 e1 f1 => ?_)
  refine uM_exch (f := 9) (by omega) (by omega) (by omega) (fun v2 e2 f2 => ?_)
  have g1 : bf (v1 8) j 9 = bf (v 8) j 9 := by
    rw [e1, bf_put (by omega) (by omega), if_neg (by omega), bf_put (by omega) (by omega), if_neg (by omega)]
  have g2 : bf (v1 8) i 9 = bf (v 8) i 9 := by
    rw [e1, bf_put (by omega) (by omega), if_neg (by omega), bf_put (by omega) (by omega), if_neg (by omega)]
  have e3 : v2 8 = swpS (v 8) i j := by
    rw [e2, g1, g2, e1]
    unfold swpS
    rw [putB_c (i := j) (j := i) (f := 8) (g := 9) (by omega) (by omega) (.inr (by omega))]
  have O2 : Ow (v2 8) n m := Ow_e hO (fun k hk => by
    rw [e3]
    unfold swpS
    rw [bf_put (by omega) (by omega), if_neg (by omega), bf_put (by omega) (by omega), if_neg (by omega), bf_put (by omega) (by omega), if_neg (by omega), bf_put (by omega) (by omega), if_neg (by omega)])
  refine uM_count O2 hm hn hi hj (fun v3 e4 f3 => nm_e (hP _ ?_ (fun c hc => ?_)))
  · rw [up2_8, e4, e3]; rfl
  · rw [up2_off _ _ _ hc, f3 c hc, f2 c hc, f1 c hc]
theorem uM_makeBuy {i j : Nat} (hO : Ow (v 8) n m) (hm : m ≤ 8) (hn : n ≤ 40) (hi : i < n) (hj : j < n) (hij : ¬ i = j) (hb : bf (v 8) j 7 = 1) {P : V3 → Prop} (hP : ∀ v', v' 8 = buyF (v 8) i j → (∀ c, c ≠ 8 → v' c = v c) → P v') : w_X4_makeBuyout (nI i) (nI j) v P := by
  refine uM_price (by omega) (by omega) hb ?_
  rw [uM_of8 (show j < 40 by omega)]
  refine uM_await (by omega) (fun v5 e5 f5 => ?_)
  refine uM_settle (by omega) (fun v6 e6 f6 => ?_)
  rw [e5] at e6
  have O6 : Ow (v6 8) n m := by rw [e6]; exact Ow_ch (Ow_ch hO (aw_ch (i := j))) (stl_ch (i := i))
  refine uM_add (f := 0) O6 hm hn hi (by omega) (fun v7 e7 f7 => ?_)
  have O7 : Ow (v7 8) n m := by rw [e7]; exact Ow_A O6 hm hi (by omega)
  refine uM_add (f := 0) O7 hm hn hj (by omega) (fun v8 e8 f8 => ?_)
  have O8 : Ow (v8 8) n m := by rw [e8]; exact Ow_A O7 hm hj (by omega)
  refine uM_count O8 hm hn hi hj (fun v9 e9 f9 => nm_e (hP _ ?_ (fun c hc => ?_)))
  · rw [up2_8, e9, e8, e7, e6]; rfl
  · rw [up2_off _ _ _ hc, f9 c hc, f8 c hc, f7 c hc, f6 c hc, f5 c hc]
end MM
