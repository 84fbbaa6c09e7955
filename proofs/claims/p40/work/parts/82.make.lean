/-! PURE LEVEL 13: making bargains -/
def barS (σ : Nat → Int32) (i j : Nat) : Nat → Int32 := addO (addO σ i 7 1) j 7 1
def swpF (σ : Nat → Int32) (i j : Nat) : Nat → Int32 := upd (barS (swpS σ i j) i j) 8 (barS (swpS σ i j) i j 8 + 1)
def buyC (σ : Nat → Int32) (i j : Nat) (p : Int32) : Nat → Int32 := barS (addO (addO (settleS (awaitS σ j) i (bf σ j 8)) i 0 (-p)) j 0 p) i j
def buyF (σ : Nat → Int32) (i j : Nat) : Nat → Int32 := upd (buyC σ i j (prcS σ i j)) 9 (buyC σ i j (prcS σ i j) 9 + 1)
theorem putB_c {σ : Nat → Int32} {i j f g : Nat} {x y : Int32} (hf : f < 10) (hg : g < 10) (h : i ≠ j ∨ f ≠ g) : putB (putB σ i f x) j g y = putB (putB σ j g y) i f x := by
  funext k
  show (if k = 74 + 10 * j + g then y else if k = 74 + 10 * i + f then x else σ k) = (if k = 74 + 10 * i + f then x else if k = 74 + 10 * j + g then y else σ k)
  by_cases h1 : k = 74 + 10 * j + g
  · rw [if_pos h1, if_neg (by omega), if_pos h1]
  · rw [if_neg h1, if_neg h1]
section OWN
variable {σ : Nat → Int32} {n m i j : Nat}
theorem own_e {σ' : Nat → Int32} (h : bf σ' i 0 = bf σ i 0) : ownI σ' i = ownI σ i := by
  unfold ownI
  rw [h]
theorem Ow_e {σ' : Nat → Int32} (hO : Ow σ n m) (h : ∀ i, i < n → bf σ' i 0 = bf σ i 0) : Ow σ' n m := fun i hi => by
  rw [h i hi]; exact hO i hi
theorem Ow_A (hO : Ow σ n m) (hm : m ≤ 8) {f : Nat} {x : Int32} (hi : i < n) (hf : f < 8) : Ow (addO σ i f x) n m :=
  Ow_e hO (fun k _ => addO_b hO hm hi hf)
theorem bar_wf {S : Nat} {B : Int} (h : Wf σ n m S B) (hi : i < n) (hj : j < n) : Wf (barS σ i j) n m S B :=
  wf_A (wf_A h hi (by omega)) hj (by omega)
theorem swpF_wf {S : Nat} {B : Int} (h : Wf σ n m S B) (hi : i < n) (hj : j < n) (hij : ¬ i = j) (hbi : bf σ i 7 = 1) (hbj : bf σ j 7 = 1) (ok : swpOk σ n i j) : Wf (swpF σ i j) n m S B :=
  wf_8 (bar_wf (swp_ok h hi hj hij hbi hbj ok) hi hj) (.inl rfl)
theorem buyF_wf {S : Nat} {B : Int} (h : Wf σ n m S B) (hB : 10300 ≤ B) (hi : i < n) (hj : j < n) (hij : ¬ i = j) (hbi : bf σ i 7 = 0) (hbj : bf σ j 7 = 1) (ok : buyOk σ n i j) : Wf (buyF σ i j) n m S B :=
  wf_8 (bar_wf (wf_A (wf_A (buy_ok h hB hi hj hij hbi hbj ok) hi (by omega)) hj (by omega)) hi hj) (.inr rfl)
end OWN
section MC
variable {v : V3} {b n m : Nat} {σ : Nat → Int32}
theorem LA_add (hL : LA v b σ n m) (hm : m ≤ 8) (hO : Ow σ n m) {i f : Nat} {x : Int32} (hi : i < n) (hf : f < 8) : (v (b + 14 + i) 0 = nI (ownI σ i) ∧ ownI σ i < m) ∧ LA (up2 v (b + 6 + ownI σ i) f (v (b + 6 + ownI σ i) f + x)) b (addO σ i f x) n m := by
  have o := own_of hO hm hi
  refine ⟨⟨(hL.bk hi 0 (by omega)).trans o.2, o.1⟩, ?_⟩
  rw [hL.ow o.1 f hf]
  exact LA_o hL hm o.1 hf
theorem uC_count (hL : LA v 8 σ n m) (hn : n ≤ 40) (hm : m ≤ 8) (hO : Ow σ n m) {i j : Nat} (hi : i < n) (hj : j < n) {Q : V3 → Prop} (hQ : ∀ v', LA v' 8 (barS σ i j) n m → Fr 8 v v' → Q v') : w_X0_countBargain (nI i) (nI j) v Q := by
  obtain ⟨⟨e1, o1⟩, hL1⟩ := LA_add hL hm hO hi (f := 7) (x := 1) (by omega)
  refine ⟨nx_in hi hn, ?_⟩
  rw [nx_ix hi hn, nx_ix hj hn, e1, show ix (nI (ownI σ i)) = ownI σ i from nI_clamp (by omega)]
  refine ⟨vp_in_nI (by omega) (by decide), nm_e ⟨nx_in hj hn, ?_⟩⟩
  obtain ⟨⟨e2, o2⟩, hL2⟩ := LA_add hL1 hm (Ow_A hO hm hi (by omega)) hj (f := 7) (x := 1) (by omega)
  rw [e2, show ix (nI (ownI (addO σ i 7 1) j)) = ownI (addO σ i 7 1) j from nI_clamp (by omega)]
  exact ⟨vp_in_nI (by omega) (by decide), nm_e (hQ _ hL2 (Fr_u (Fr_u (Fr_r 8 v) (by omega) (by omega)) (by omega) (by omega)))⟩
theorem uC_makeSwap (hL : LA v 8 σ n m) (hn : n ≤ 40) (hm : m ≤ 8) (hO : Ow σ n m) {i j : Nat} (hi : i < n) (hj : j < n) (hij : ¬ i = j) {Q : V3 → Prop} (hQ : ∀ v', LA v' 8 (swpF σ i j) n m → Fr 8 v v' → Q v') : w_X0_makeSwap (nI i) (nI j) v Q := by
  refine ⟨nx_in hi hn, nx_in hj hn, ?_⟩
  rw [nx_ix hi hn, nx_ix hj hn, hL.bk hi 8 (by omega), hL.bk hi 9 (by omega), hL.bk hj 8 (by omega)]
  refine nm_e ?_
  rw [up2_off _ _ _ (show 8 + 14 + j ≠ 8 + 14 + i by omega), hL.bk hj 9 (by omega)]
  refine nm_e (nm_e (nm_e ?_))
  have hS : LA (up2 (up2 (up2 (up2 v (8 + 14 + i) 8 (bf σ j 8)) (8 + 14 + i) 9 (bf σ j 9)) (8 + 14 + j) 8 (bf σ i 8)) (8 + 14 + j) 9 (bf σ i 9)) 8 (swpS σ i j) n m :=
    LA_b (LA_b (LA_b (LA_b hL hn hm hi (by omega)) hn hm hi (by omega)) hn hm hj (by omega)) hn hm hj (by omega)
  have hO2 : Ow (swpS σ i j) n m := Ow_e hO (fun k hk => by
    unfold swpS
    rw [bf_put (by omega) (by omega), if_neg (by omega), bf_put (by omega) (by omega), if_neg (by omega), bf_put (by omega) (by omega), if_neg (by omega), bf_put (by omega) (by omega), if_neg (by omega)])
  refine uC_count hS hn hm hO2 hi hj (fun v9 h9 f9 => nm_e ?_)
  rw [h9.1.2.2.2.2.2.1]
  exact hQ _ (LA_8 h9 hn hm) (Fr_u (Fr_t (Fr_u (Fr_u (Fr_u (Fr_u (Fr_r 8 v) (by omega) (by omega)) (by omega) (by omega)) (by omega) (by omega)) (by omega) (by omega)) f9) (by omega) (by omega))
theorem Ow_ch {σ' : Nat → Int32} {i : Nat} (hO : Ow σ n m) (hc : Ch σ σ' n i) : Ow σ' n m := Ow_e hO (fun k hk => hc.2 k hk 0 (by omega) (.inr (by omega)))
theorem uC_makeBuy (hL : LA v 8 σ n m) (hn : n ≤ 40) (hm : m ≤ 8) (hO : Ow σ n m) {i j : Nat} (hi : i < n) (hj : j < n) (hij : ¬ i = j) (hb : ¬ bf σ j 8 = -1) {Q : V3 → Prop} (hQ : ∀ v', LA v' 8 (buyF σ i j) n m → Fr 8 v v' → Q v') : w_X0_makeBuyout (nI i) (nI j) v Q := by
  refine uC_price hL hn hi hj ⟨nx_in hj hn, ?_⟩
  rw [nx_ix hj hn, nx_ix hi hn, hL.bk hj 8 (by omega)]
  refine uC_letWait hL hn hm hj (fun v5 hL5 f5 => ?_)
  refine uC_bookAt hL5 hn hm hi (fun q => absurd q hb) (fun v6 _ hL6 f6 => ?_)
  have O6 : Ow (settleS (awaitS σ j) i (bf σ j 8)) n m := Ow_ch (Ow_ch hO (aw_ch (i := j))) (stl_ch (i := i))
  obtain ⟨⟨e1, o1⟩, hL7⟩ := LA_add hL6 hm O6 hi (f := 0) (x := -(prcS σ i j)) (by omega)
  have sub : ∀ x y : Int32, x - y = x + -y := fun x y => Int32.sub_eq_add_neg x y
  rw [e1, show ix (nI (ownI (settleS (awaitS σ j) i (bf σ j 8)) i)) = ownI (settleS (awaitS σ j) i (bf σ j 8)) i from nI_clamp (by omega), sub]
  refine ⟨nx_in hi hn, vp_in_nI (by omega) (by decide), nm_e ⟨nx_in hj hn, ?_⟩⟩
  have O7 := Ow_A (f := 0) (x := -(prcS σ i j)) O6 hm hi (by omega)
  obtain ⟨⟨e2, o2⟩, hL8⟩ := LA_add hL7 hm O7 hj (f := 0) (x := prcS σ i j) (by omega)
  rw [e2, show ix (nI (ownI (addO (settleS (awaitS σ j) i (bf σ j 8)) i 0 (-(prcS σ i j))) j)) = ownI (addO (settleS (awaitS σ j) i (bf σ j 8)) i 0 (-(prcS σ i j))) j from nI_clamp (by omega)]
  refine ⟨vp_in_nI (by omega) (by decide), nm_e ?_⟩
  refine uC_count hL8 hn hm (Ow_A O7 hm hj (by omega)) hi hj (fun v9 h9 f9 => nm_e ?_)
  rw [h9.1.2.2.2.2.2.2]
  have F6 : Fr 8 v v6 := fun c hc => (f6 c (by omega)).trans (f5 c (by omega))
  exact hQ _ (LA_9 h9 hn hm) (Fr_u (Fr_t (Fr_u (Fr_u F6 (by omega) (by omega)) (by omega) (by omega)) f9) (by omega) (by omega))
end MC
