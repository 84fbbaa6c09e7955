/-! MANY TICKS; THE ACTS AS CHANGES; WHAT STANDS BETWEEN TWO STEPS OF THE LAW -/
theorem ar_c {a b c d e : Int32} (h1 : a + b = c + d) (h2 : c = e + b) : a = e + d := by
  rw [h2, Int32.add_assoc, Int32.add_comm b d, ← Int32.add_assoc] at h1
  exact (Int32.add_left_inj b).mp h1
section IV2
variable {σ σ' : Nat → Int32} {n m S : Nat} {B : Int}
theorem tkN_all {K : Nat} (h : Wf σ n m S B) (hN : NF σ n) (hB : 10300 ≤ B) (ht : (σ 7).toInt + K ≤ 20200) :
    Ev σ (tkN n K (σ, fun _ => 0)).1 n m (40 * K) ∧ (1 ≤ K → PT (tkN n K (σ, fun _ => 0)).1 n) ∧ sO (tkN n K (σ, fun _ => 0)).1 m 2 = sO σ m 2 + (tkN n K (σ, fun _ => 0)).2 0 ∧ sO (tkN n K (σ, fun _ => 0)).1 m 1 = sO σ m 1 + (tkN n K (σ, fun _ => 0)).2 3 ∧ cntS (tkN n K (σ, fun _ => 0)).1 n 0 + (tkN n K (σ, fun _ => 0)).2 1 + (tkN n K (σ, fun _ => 0)).2 2 = cntS σ n 0 := by
  have key := foldN_inv (s := fun a _ => tickS n a) (n := K) (P := fun i (a : (Nat → Int32) × (Nat → Int32)) => (Wf a.1 n m S B ∧ NF a.1 n ∧ (a.1 7).toInt = (σ 7).toInt + i) ∧ Ev σ a.1 n m (40 * i) ∧ (1 ≤ i → PT a.1 n) ∧ sO a.1 m 2 = sO σ m 2 + a.2 0 ∧ sO a.1 m 1 = sO σ m 1 + a.2 3 ∧ cntS a.1 n 0 + a.2 1 + a.2 2 = cntS σ n 0) (a0 := (σ, fun _ => 0)) ⟨⟨h, hN, (Int.add_zero _).symm⟩, Ev_r σ n m 0, fun q => absurd q (by omega), (Int32.add_zero _).symm, (Int32.add_zero _).symm, (Int32.add_zero _).trans (Int32.add_zero _)⟩ ?_
  · exact key.2
  · intro i a hi ⟨⟨w1, w2, w3⟩, e1, e2, e3, e4, e5⟩
    have w4 := tick_wf w1 hB (by omega)
    obtain ⟨t1, t2, t3, t4, t5⟩ := tick_all w1 hB (by omega)
    refine ⟨⟨w4.1, w4.2.1, ?_⟩, Ev_t e1 t1, fun _ => t2, ar_c t3 e3, ar_c t4 e4, t5.trans e5⟩
    rw [w4.2.2, sec_I (by omega) (by have := w1.t0; omega), w3]
    omega
theorem stN_r (n : Nat) : ∀ (k : Nat) (σ : Nat → Int32), stN n σ (k + 1) = stN n (stp n σ) k := by
  intro k
  induction k with
  | zero => intro σ; rfl
  | succ k ih => intro σ; show stp n (stN n σ (k + 1)) = _; rw [ih σ]; rfl
theorem tkN_st (n : Nat) : ∀ (k : Nat) (σ τ : Nat → Int32), (tkN n k (σ, τ)).1 = stN n σ k := by
  intro k
  have gen : ∀ k i (a : (Nat → Int32) × (Nat → Int32)), (foldN (fun a _ => tickS n a) k i a).1 = stN n a.1 k := by
    intro k
    induction k with
    | zero => intro i a; rfl
    | succ k ih =>
      intro i a
      rw [stN_r, foldN, ih (i + 1) (tickS n a)]
      exact congrArg (fun z => stN n z k) (stp_t n a.1 a.2)
  intro σ τ
  exact gen k 0 (σ, τ)
/-- what stands between two steps: owners enough, settings, urgencies, who waits, broken promises -/
def GI (σ : Nat → Int32) (n m : Nat) (C : Int) : Prop := 2 ≤ m ∧ ((σ 0).toInt ≤ 8 ∧ σ 2 = 9 ∧ σ 3 = 9) ∧ (∀ i, i < n → 1 ≤ (bf σ i 6).toInt ∧ (bf σ i 6).toInt ≤ 9) ∧ WB σ n ∧ Bd σ m C
theorem GI_ev {d : Nat} {C : Int} (h : GI σ n m C) (e : Ev σ σ' n m d) (hC : C + d ≤ 1000000) : GI σ' n m (C + d) := by
  obtain ⟨h1, h2, h3, h4, h5⟩ := h
  obtain ⟨e1, e2, e3, e4, e5⟩ := e
  refine ⟨h1, ?_, fun i hi => by rw [e2 i hi 6 (by omega)]; exact h3 i hi, e3 h4, e4 C hC h5⟩
  rw [e1 0 (by omega), e1 2 (by omega), e1 3 (by omega)]
  exact h2
theorem Bd_m {C C' : Int} (h : Bd σ m C) (hC : C ≤ C') : Bd σ m C' := fun o ho => by have := h o ho; omega
theorem GI_m {C C' : Int} (h : GI σ n m C) (hC : C ≤ C') : GI σ n m C' := ⟨h.1, h.2.1, h.2.2.1, h.2.2.2.1, Bd_m h.2.2.2.2 hC⟩
/-- the acts as changes -/
theorem Ev_A {i f : Nat} {x : Int32} (hO : Ow σ n m) (hm : m ≤ 8) (hi : i < n) (hf : f < 8) (h : f ≠ 0 ∧ f ≠ 2 ∧ f ≠ 3) : Ev σ (addO σ i f x) n m 0 := Ev_o (own_of hO hm hi).1 hm hf h
theorem Ev_A1 {i : Nat} (hO : Ow σ n m) (hm : m ≤ 8) (hi : i < n) : Ev σ (addO σ i 3 1) n m 1 := Ev_o1 (own_of hO hm hi).1 hm (.inr rfl)
theorem Ow_b {i f : Nat} {x : Int32} (hO : Ow σ n m) (hf : 7 ≤ f ∧ f < 10) : Ow (putB σ i f x) n m := Ow_e hO (fun j _ => by rw [bf_put (by omega) (by omega), if_neg (by omega)])
theorem WB_b {i f : Nat} {x : Int32} (hf : 7 ≤ f ∧ f < 10) (h : bf (putB σ i f x) i 7 ≠ 0) (w : WB σ n) : WB (putB σ i f x) n := WB_ch (i := i) (Ch_b (by omega) (by omega)) (fun q => absurd q h) w
theorem arv_Ev {i : Nat} (h : Wf σ n m S B) (hi : i < n) : Ev σ (arvS σ i) n m 0 :=
  Ev_t (Ev_b h.m8 (by omega) (WB_b (by omega) (by rw [bf_put (by omega) (by omega), if_pos ⟨rfl, rfl⟩]; decide))) (Ev_A (Ow_b h.ow (by omega)) h.m8 hi (by omega) (by omega))
theorem lve_Ev {i : Nat} (h : Wf σ n m S B) (hi : i < n) : Ev σ (lveS σ i) n m 0 :=
  Ev_t (Ev_t (Ev_b h.m8 (by omega) (WB_b (by omega) (by rw [bf_put (by omega) (by omega), if_pos ⟨rfl, rfl⟩]; decide))) (Ev_b h.m8 (by omega) (WB_b (by omega) (by rw [bf_put (by omega) (by omega), if_neg (by omega), bf_put (by omega) (by omega), if_pos ⟨rfl, rfl⟩]; decide)))) (Ev_A (Ow_b (Ow_b h.ow (by omega)) (by omega)) h.m8 hi (by omega) (by omega))
theorem ext_Ev {i : Nat} {x : Int32} (h : Wf σ n m S B) (hl : lvB σ i = true) : Ev σ (extS σ i x) n m 0 :=
  Ev_b h.m8 (by omega) (WB_b (by omega) (by
    rw [bf_put (by omega) (by omega), if_neg (by omega)]
    intro q
    rw [lv_0 q] at hl
    exact absurd hl (by decide)))
theorem cnc_Ev {i : Nat} (h : Wf σ n m S B) (hi : i < n) : Ev σ (cncS σ i) n m 1 := by
  unfold cncS
  have k : ∀ τ : Nat → Int32, Ev τ (putB τ i 7 4) n m 0 := fun τ => Ev_b h.m8 (by omega) (WB_b (by omega) (by rw [bf_put (by omega) (by omega), if_pos ⟨rfl, rfl⟩]; decide))
  by_cases c : lateC σ i = true
  · rw [if_pos c]
    exact Ev_t (Ev_A1 h.ow h.m8 hi) (k _)
  · rw [if_neg c]
    exact Ev_m (k σ) (by omega)
theorem aw_Ev {i : Nat} (h : Wf σ n m S B) : Ev σ (awaitS σ i) n m 0 := by
  have c := aw_ch (σ := σ) (i := i) (n := n)
  refine Ev_0 (fun k hk => c.1 k (by omega)) (fun j hj f hf => c.2 j hj f (by omega) (.inr hf)) (WB_ch c (fun _ => ?_)) (fun o ho f hf => ?_)
  · unfold awaitS
    exact ⟨by rw [bf_put (by omega) (by omega), if_neg (by omega), bf_put (by omega) (by omega), if_pos ⟨rfl, rfl⟩], by rw [bf_put (by omega) (by omega), if_pos ⟨rfl, rfl⟩]⟩
  · unfold awaitS
    rw [og_put (by have := h.m8; omega) hf, og_put (by have := h.m8; omega) hf, og_put (by have := h.m8; omega) hf]
theorem stl_Ev {i : Nat} {t : Int32} (hm : m ≤ 8) : Ev σ (settleS σ i t) n m 0 := by
  have c := stl_ch (σ := σ) (i := i) (n := n) (t := t)
  refine Ev_0 (fun k hk => c.1 k (by omega)) (fun j hj f hf => c.2 j hj f (by omega) (.inr hf)) (WB_ch c (fun q => by rw [stl_7] at q; exact absurd q (by decide))) (fun o ho f hf => ?_)
  unfold settleS
  rw [og_put (by omega) hf, og_put (by omega) hf, og_put (by omega) hf]
theorem evc_Ev {i : Nat} (h : Wf σ n m S B) (hi : i < n) : Ev σ (evcS σ i) n m 0 := Ev_t (aw_Ev h) (Ev_A (await_ok h hi).ow h.m8 hi (by omega) (by omega))
theorem bar_Ev {i j : Nat} (hO : Ow σ n m) (hm : m ≤ 8) (hi : i < n) (hj : j < n) : Ev σ (barS σ i j) n m 0 := Ev_t (Ev_A hO hm hi (by omega) (by omega)) (Ev_A (Ow_A hO hm hi (by omega)) hm hj (by omega) (by omega))
theorem Ev_89 {k : Nat} {x : Int32} (hk : k = 8 ∨ k = 9) : Ev σ (upd σ k x) n m 0 :=
  Ev_0 (fun z hz => pk_un (by omega)) (fun i _ f _ => bf_sc (by omega)) (fun w j hj q => by rw [bf_sc (by omega)] at q; rw [bf_sc (by omega), bf_sc (by omega)]; exact w j hj q) (fun o _ f _ => og_sc (by omega))
theorem swpS_f {i j k f : Nat} (hf : f < 8) : bf (swpS σ i j) k f = bf σ k f := by
  unfold swpS
  rw [bf_put (by omega) (by omega), if_neg (by omega), bf_put (by omega) (by omega), if_neg (by omega), bf_put (by omega) (by omega), if_neg (by omega), bf_put (by omega) (by omega), if_neg (by omega)]
theorem swpS_n {i j k f : Nat} (hf : f < 10) (h1 : k ≠ i) (h2 : k ≠ j) : bf (swpS σ i j) k f = bf σ k f := by
  unfold swpS
  rw [bf_put (by omega) (by omega), if_neg (by omega), bf_put (by omega) (by omega), if_neg (by omega), bf_put (by omega) (by omega), if_neg (by omega), bf_put (by omega) (by omega), if_neg (by omega)]
theorem swpS_j {i j : Nat} : bf (swpS σ i j) j 8 = bf σ i 8 := by
  unfold swpS
  rw [bf_put (by omega) (by omega), if_neg (by omega), bf_put (by omega) (by omega), if_pos ⟨rfl, rfl⟩]
theorem swpS_i {i j : Nat} (h : i ≠ j) : bf (swpS σ i j) i 8 = bf σ j 8 := by
  unfold swpS
  rw [bf_put (by omega) (by omega), if_neg (by omega), bf_put (by omega) (by omega), if_neg (by omega), bf_put (by omega) (by omega), if_neg (by omega), bf_put (by omega) (by omega), if_pos ⟨rfl, rfl⟩]
theorem swpS_Ev {i j : Nat} (hm : m ≤ 8) (hi : ¬ bf σ i 7 = 0) (hj : ¬ bf σ j 7 = 0) : Ev σ (swpS σ i j) n m 0 := by
  refine Ev_0 (fun k hk => ?_) (fun k _ f hf => swpS_f (by omega)) (fun w k hk q => ?_) (fun o ho f hf => ?_)
  · unfold swpS
    rw [sc_put (by omega), sc_put (by omega), sc_put (by omega), sc_put (by omega)]
  · rw [swpS_f (by omega)] at q
    have a1 : k ≠ i := fun z => hi (by rw [← z]; exact q)
    have a2 : k ≠ j := fun z => hj (by rw [← z]; exact q)
    rw [swpS_n (by omega) a1 a2, swpS_n (by omega) a1 a2]
    exact w k hk q
  · unfold swpS
    rw [og_put (by omega) hf, og_put (by omega) hf, og_put (by omega) hf, og_put (by omega) hf]
theorem swpF_Ev {i j : Nat} (h : Wf σ n m S B) (hi : i < n) (hj : j < n) (h1 : bf σ i 7 = 1) (h2 : bf σ j 7 = 1) : Ev σ (swpF σ i j) n m 0 := by
  have e1 : Ev σ (swpS σ i j) n m 0 := swpS_Ev h.m8 (by rw [h1]; decide) (by rw [h2]; decide)
  exact Ev_t (Ev_t e1 (bar_Ev (Ow_e h.ow (fun k _ => swpS_f (by omega))) h.m8 hi hj)) (Ev_89 (.inl rfl))
/-- the price goes from one owner to the other -/
theorem pay_Ev {i j : Nat} {p : Int32} (hO : Ow σ n m) (hm : m ≤ 8) (hi : i < n) (hj : j < n) : Ev σ (addO (addO σ i 0 (-p)) j 0 p) n m 0 := by
  have o1 := own_of hO hm hi
  have hO2 := Ow_A hO hm hi (f := 0) (x := -p) (by omega)
  have o2 := own_of hO2 hm hj
  have s1 : sO (addO σ i 0 (-p)) m 0 = sO σ m 0 + (-p) := sO_put o1.1 (by omega)
  have s2 : sO (addO (addO σ i 0 (-p)) j 0 p) m 0 = sO (addO σ i 0 (-p)) m 0 + p := sO_put o2.1 (by omega)
  have b : ∀ k f, bf (addO (addO σ i 0 (-p)) j 0 p) k f = bf σ k f := fun k f => (addO_b hO2 hm hj (by omega)).trans (addO_b hO hm hi (by omega))
  have g : ∀ o f, o < m → f < 8 → f ≠ 0 → og (addO (addO σ i 0 (-p)) j 0 p) o f = og σ o f := fun o f ho hf h0 => by
    unfold addO
    rw [og_putO (by omega) hf, if_neg (fun z => h0 z.2), og_putO (by omega) hf, if_neg (fun z => h0 z.2)]
  refine ⟨fun k hk => ?_, fun k _ f _ => b k f, fun w k hk q => ?_, fun C _ bd o ho => ?_, ?_⟩
  · unfold addO
    rw [sc_putO (by omega), sc_putO (by omega)]
  · rw [b] at q ⊢
    rw [b]
    exact w k hk q
  · rw [g o 2 ho (by omega) (by omega), g o 3 ho (by omega) (by omega)]
    have := bd o ho
    omega
  · rw [s2, s1, Int32.add_assoc, Int32.add_left_neg, Int32.add_zero]
theorem buyF_Ev {i j : Nat} (h : Wf σ n m S B) (hi : i < n) (hj : j < n) : Ev σ (buyF σ i j) n m 0 := by
  have e1 : Ev σ (settleS (awaitS σ j) i (bf σ j 8)) n m 0 := Ev_t (aw_Ev h) (stl_Ev h.m8)
  have O1 : Ow (settleS (awaitS σ j) i (bf σ j 8)) n m := Ow_ch (Ow_ch h.ow aw_ch) stl_ch
  have e2 := Ev_t e1 (pay_Ev (p := prcS σ i j) O1 h.m8 hi hj)
  have O2 := Ow_A (Ow_A O1 h.m8 hi (f := 0) (x := -prcS σ i j) (by omega)) h.m8 hj (f := 0) (x := prcS σ i j) (by omega)
  exact Ev_t (Ev_t e2 (bar_Ev O2 h.m8 hi hj)) (Ev_89 (.inr rfl))
theorem barF_Ev (h : Wf σ n m S B) (hb : ¬ (bestB σ n).1 = 0) : Ev σ (barF σ n) n m 0 := by
  obtain ⟨⟨b1, b2, b3, b4⟩, b5⟩ := (BI_bestB σ n).2 hb
  unfold barF
  rcases b5 with ⟨k, s, ok⟩ | ⟨k, s, ok⟩
  · rw [if_pos k]; exact swpF_Ev h b1 b2 s b4
  · rw [if_neg (by rw [k]; decide)]; exact buyF_Ev h b1 b2
end IV2
/-- which saved states there are -/
def SV (v : V3) (N : Nat) : Prop := v 3 0 = 0 ∧ ((v 3 1 = 0 ∧ N = 116) ∨ (v 3 1 = nI 2 ∧ N = 170))
/-- between two steps of the law, r steps from its start -/
def VJ (v : V3) (N r : Nat) (x : Int) (σ : Nat → Int32) (n m : Nat) : Prop := LA v 8 σ n m ∧ OK σ n m 32 (10300 + 99 * r) ∧ GI σ n m (1000 * r) ∧ (σ 7).toInt ≤ 20 * r ∧ ¬ v 7 1 = 0 ∧ Nx v x ∧ v 7 3 = sO σ m 0 ∧ SV v N
def VI (v : V3) (N r : Nat) (σ : Nat → Int32) (n m : Nat) : Prop := VJ v N r (100 * r) σ n m
section VIS
variable {v v' : V3} {N r n n' m : Nat} {σ σ' : Nat → Int32}
theorem SV_e (h : SV v N) (e : v' 3 = v 3) : SV v' N := by unfold SV; rw [e]; exact h
theorem Nx_e {k : Int} (h : Nx v k) (e : v' 7 2 = v 7 2) : Nx v' k := by unfold Nx; rw [e]; exact h
theorem Nx_m {k k' : Int} (h : Nx v k) (hk : k ≤ k') : Nx v k' := ⟨h.1, by have := h.2; omega⟩
/-- a step behind which the state is another -/
theorem VI_s {x : Int} (h : VJ v N r x σ n m) (hr : r ≤ 400) {d : Nat} (hd : d ≤ 1000) (hL : LA v' 8 σ' n m) (hW : Wf σ' n m 32 (10300 + 99 * r + 99)) (hN : NF σ' n) (hT : (σ' 7).toInt ≤ 20 * r + 20) (hE : Ev σ σ' n m d) (h1 : v' 7 1 = v 7 1) (h3 : v' 7 3 = v 7 3) (hx : Nx v' (100 * r + 100)) (hs : v' 3 = v 3) : VI v' N (r + 1) σ' n m := by
  obtain ⟨a1, a2, a3, a4, a5, a6, a7, a8⟩ := h
  refine ⟨hL, ⟨?_, hN, by omega⟩, ?_, by omega, by rw [h1]; exact a5, ?_, ?_, SV_e a8 hs⟩
  · rw [show (10300 + 99 * ((r + 1 : Nat) : Int)) = 10300 + 99 * r + 99 by omega]; exact hW
  · exact GI_m (GI_ev a3 hE (by omega)) (by omega)
  · rw [show (100 * ((r + 1 : Nat) : Int)) = 100 * r + 100 by omega]; exact hx
  · rw [h3, a7]; exact hE.2.2.2.2.symm
/-- a step behind which the state is the same -/
theorem VI_0 {x : Int} (h : VJ v N r x σ n m) (hr : r ≤ 400) (hL : LA v' 8 σ n m) (h1 : v' 7 1 = v 7 1) (h3 : v' 7 3 = v 7 3) (hx : Nx v' (100 * r + 100)) (hs : v' 3 = v 3) : VI v' N (r + 1) σ n m :=
  VI_s h hr (d := 0) (by omega) hL (Wf_B h.2.1.1 (by omega)) h.2.1.2.1 (by have := h.2.2.2.1; omega) (Ev_r σ n m 0) h1 h3 hx hs
/-- a draw leaves all but its own count -/
theorem VJ_d {x : Int} (h : VJ v N r x σ n m) (hc : ∀ c, c ≠ 7 → v' c = v c) (hj : ∀ j, j ≠ 2 → v' 7 j = v 7 j) (hx : Nx v' (x + 1)) : VJ v' N r (x + 1) σ n m := by
  obtain ⟨a1, a2, a3, a4, a5, a6, a7, a8⟩ := h
  exact ⟨LA_c a1 a2.1.n40 a2.1.m8 (fun c q _ _ _ => hc c (by omega)), a2, a3, a4, by rw [hj 1 (by decide)]; exact a5, hx, by rw [hj 3 (by decide)]; exact a7, SV_e a8 (hc 3 (by decide))⟩
/-- a call that changes nothing of the state, nor of the law's numbers -/
theorem VJ_k {x : Int} (h : VJ v N r x σ n m) (hL : LA v' 8 σ n m) (h7 : v' 7 = v 7) (h3 : v' 3 = v 3) : VJ v' N r x σ n m := by
  obtain ⟨a1, a2, a3, a4, a5, a6, a7, a8⟩ := h
  exact ⟨hL, a2, a3, a4, by rw [h7]; exact a5, Nx_e a6 (by rw [h7]), by rw [h7]; exact a7, SV_e a8 h3⟩
theorem us_drawJ {x : Int} (h : VJ v N r x σ n m) (hx : x ≤ 100000) {K : Nat} (hK : 1 ≤ K ∧ K ≤ 1000000) {Q : Int32 → V3 → Prop} (hQ : ∀ y, y < K → ∀ v', VJ v' N r (x + 1) σ n m → Q (nI y) v') : w_L_draw (nI K) v Q :=
  us_draw hK h.2.2.2.2.1 h.2.2.2.2.2.1 (by omega) (fun y hy v' c j nx => hQ y hy v' (VJ_d h c j nx))
end VIS
