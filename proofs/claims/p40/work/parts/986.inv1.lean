/-! PLACING AND TICKS, booking by booking; what the counts of the ticks tell -/
theorem ar_t {cT t1 X P cE t2 cM : Int32} (h3 : cT + P = cE + t2) (h2 : cE + X = cM) : cT + (t1 + X) + P = cM + t1 + t2 := by
  rw [← h2, Int32.add_assoc, Int32.add_comm (t1 + X) P, ← Int32.add_assoc, h3, Int32.add_assoc, Int32.add_assoc, Int32.add_assoc]
  exact congrArg (fun z => cE + z) (by rw [Int32.add_comm t2, Int32.add_comm t1 X, Int32.add_assoc])
section PLJ
variable {σ : Nat → Int32} {n m S : Nat} {B : Int}
/-- placing: a booking stays as it is, or it waited and is booked, not before now -/
def PJ (σ : Nat → Int32) (n : Nat) (a : (Nat → Int32) × Int32) (c : Int32) : Prop :=
  (∀ j, j < n → (∀ f, f < 10 → bf a.1 j f = bf σ j f) ∨ (bf σ j 7 = 0 ∧ bf a.1 j 7 = 1 ∧ (σ 7).toInt ≤ (bf a.1 j 8).toInt)) ∧ cntS a.1 n 0 + a.2 = cntS σ n 0 + c
theorem plc_J (hB : 10300 ≤ B) (h : Wf σ n m S B) (c : Int32) : PJ σ n (plcS σ n c) c := by
  have key : PI σ n m S B (ordS σ n).2 (plcS σ n c).1 ∧ PJ σ n (plcS σ n c) c := by
    refine foldN_inv (P := fun k (a : (Nat → Int32) × Int32) => PI σ n m S B k a.1 ∧ PJ σ n a c) ⟨PI_0 h, fun j _ => .inl (fun _ _ => rfl), rfl⟩ ?_
    intro k a hk ⟨hP, hJ1, hJ2⟩
    refine ⟨PI_s hB hk hP, ?_⟩
    obtain ⟨hW, h1, h2, h3, h4, h5, h6⟩ := hP
    have hq := QI_ord σ n
    have hg := (hq.2.1 k hk).1
    have g0 := h1 k (Nat.le_refl k) hk
    unfold plcStep
    by_cases hb : bstS a.1 n ((ordS σ n).1 k) = -1
    · rw [if_pos hb]; exact ⟨hJ1, hJ2⟩
    · rw [if_neg hb]
      generalize (ordS σ n).1 k = i at hg g0 hb
      have hc : Ch a.1 (settleS a.1 i (bstS a.1 n i)) n i := stl_ch
      have ok := bst_ok hW hg g0 hb
      refine ⟨fun j hj => ?_, ?_⟩
      · by_cases e : j = i
        · subst e
          refine .inr ⟨h3 j hj g0, stl_7, ?_⟩
          show (σ 7).toInt ≤ (bf (settleS a.1 j (bstS a.1 n j)) j 8).toInt
          rw [stl_8, ← h4 7 (by omega)]
          exact ok.1.1
        · have q : ∀ f, f < 10 → bf (settleS a.1 i (bstS a.1 n i)) j f = bf a.1 j f := fun f hf => hc.2 j hj f hf (.inl e)
          rcases hJ1 j hj with z | ⟨z1, z2, z3⟩
          · exact .inl (fun f hf => (q f hf).trans (z f hf))
          · refine .inr ⟨z1, (q 7 (by omega)).trans z2, ?_⟩
            show (σ 7).toInt ≤ (bf (settleS a.1 i (bstS a.1 n i)) j 8).toInt
            rw [q 8 (by omega)]; exact z3
      · have e := cnt_p (σ := a.1) (σ' := settleS a.1 i (bstS a.1 n i)) (x := 0) hg (fun j hj hji => hc.2 j hj 7 (by omega) (.inl hji)) g0 (by rw [stl_7]; decide)
        show cntS (settleS a.1 i (bstS a.1 n i)) n 0 + (a.2 + 1) = _
        rw [← hJ2, ← e, Int32.add_assoc, Int32.add_comm 1 a.2]
  exact key.2
theorem plc_k (hB : 10300 ≤ B) (h : Wf σ n m S B) (c : Int32) {k : Nat} (hk : k < 74) : (plcS σ n c).1 k = σ k := (plc_PI hB h c).2.2.2.2.2.2 k hk
theorem plc_og (hB : 10300 ≤ B) (h : Wf σ n m S B) (c : Int32) {o f : Nat} (ho : o < 8) (hf : f < 8) : og (plcS σ n c).1 o f = og σ o f := plc_k hB h c (by omega)
theorem plc_7f (hB : 10300 ≤ B) (h : Wf σ n m S B) (c : Int32) {i f : Nat} (hi : i < n) (hf : f < 7) : bf (plcS σ n c).1 i f = bf σ i f := (plc_PI hB h c).2.2.2.2.2.1 i hi f hf
/-- who doesn't wait stays -/
theorem plc_st (hB : 10300 ≤ B) (h : Wf σ n m S B) (c : Int32) {i : Nat} (hi : i < n) (h0 : ¬ bf σ i 7 = 0) {f : Nat} (hf : f < 10) : bf (plcS σ n c).1 i f = bf σ i f := by
  rcases (plc_J hB h c).1 i hi with z | ⟨z1, _, _⟩
  · exact z f hf
  · exact absurd z1 h0
theorem plc_Ev (hB : 10300 ≤ B) (h : Wf σ n m S B) (c : Int32) : Ev σ (plcS σ n c).1 n m 0 :=
  Ev_0 (fun k hk => plc_k hB h c (by omega)) (fun i hi f hf => plc_7f hB h c hi hf) (fun w j hj h0 => by
    rcases (plc_J hB h c).1 j hj with z | ⟨_, z2, _⟩
    · rw [z 7 (by omega)] at h0
      rw [z 8 (by omega), z 9 (by omega)]
      exact w j hj h0
    · rw [z2] at h0; exact absurd h0 (by decide)) (fun o ho f hf => plc_og hB h c (by have := h.m8; omega) hf)
theorem pl_Ev (hB : 10300 ≤ B) (h : Wf σ n m S B) : Ev σ (pl σ n) n m 0 := plc_Ev hB h 0
/-- ends, as a change -/
theorem endF_Ev {cond : (Nat → Int32) → Nat → Bool} {s : Nat} {f : Nat} (hc : Lc cond) (h : Wf σ n m S B) (hf : f = 1 ∨ f = 2 ∨ f = 5) (hs : s = 3 ∨ s = 5 ∨ s = 6) (hw : ∀ σ j, cond σ j = true → True) : Ev σ (endF cond (nI s) f n σ 0).1 n m n := by
  obtain ⟨e1, e2, e3, e4, e5, e6, e7⟩ := endF_EI (s := nI s) hc h.ow h.m8 (f := f) (by omega)
  refine ⟨fun k hk => e1 k (by omega), fun i hi g hg => e3 i hi g (by omega) (by omega), fun w j hj h0 => ?_, e7 (by omega), sO_c (fun o ho => e6 0 (by omega) (by omega) o ho)⟩
  rw [e3 j hj 8 (by omega) (by omega), e3 j hj 9 (by omega) (by omega)]
  rw [e4 j hj] at h0
  by_cases z : j < n ∧ cond σ j = true
  · rw [if_pos z] at h0
    exact absurd h0 (nI_ne0 (by omega) (by omega))
  · rw [if_neg z] at h0
    exact w j hj h0
/-- nothing of a tick is left to do -/
def PT (σ : Nat → Int32) (n : Nat) : Prop := ∀ i, i < n → finC σ i = false ∧ bmpC σ i = false ∧ expC σ i = false
theorem sec_5 {σ : Nat → Int32} : ∀ k, k < 5 → upd σ 7 (σ 7 + 1) k = σ k := fun k hk => pk_un (by omega)
/-- one tick -/
theorem tick_all {a : (Nat → Int32) × (Nat → Int32)} (h : Wf a.1 n m S B) (hB : 10300 ≤ B) (ht : (a.1 7).toInt ≤ 20199) :
    Ev a.1 (tickS n a).1 n m 40 ∧ PT (tickS n a).1 n ∧ sO (tickS n a).1 m 2 + a.2 0 = sO a.1 m 2 + (tickS n a).2 0 ∧ sO (tickS n a).1 m 1 + a.2 3 = sO a.1 m 1 + (tickS n a).2 3 ∧ cntS (tickS n a).1 n 0 + (tickS n a).2 1 + (tickS n a).2 2 = cntS a.1 n 0 + a.2 1 + a.2 2 := by
  obtain ⟨σ, τ⟩ := a
  have t0 := h.t0
  have W0 : Wf (upd σ 7 (σ 7 + 1)) n m S B := time_wf h (by rw [sec_I ht t0.1]; show _ ∧ (σ 7).toInt + 1 ≤ 20200; have ht' : (σ 7).toInt ≤ 20199 := ht; omega)
  have W1 := (endF_inv (cond := finC) (s := 3) (f := 1) W0 (by omega) (by omega) 0).1
  have W2 := (endF_inv (cond := bmpC) (s := 5) (f := 2) W1 (by omega) (by omega) 0).1
  have W3 : Wf (tickE n σ) n m S B := (endF_inv (cond := expC) (s := 6) (f := 5) W2 (by omega) (by omega) 0).1
  have hm := h.m8
  have hn := h.n40
  obtain ⟨f1, f2, f3, f4, f5, f6, f7⟩ := endF_EI (s := nI 3) (f := 1) Lc_fin W0.ow hm (by omega)
  obtain ⟨b1, b2, b3, b4, b5, b6, b7⟩ := endF_EI (s := nI 5) (f := 2) Lc_bmp W1.ow hm (by omega)
  obtain ⟨x1, x2, x3, x4, x5, x6, x7⟩ := endF_EI (s := nI 6) (f := 5) Lc_exp W2.ow hm (by omega)
  have J := plc_J hB W3 (τ 2)
  have eT : (tickS n (σ, τ)).1 = (plcS (tickE n σ) n (τ 2)).1 := tick_1 n (σ, τ)
  have e3 : tickE n σ = (endF expC (nI 6) 5 n (endF bmpC (nI 5) 2 n (endF finC (nI 3) 1 n (upd σ 7 (σ 7 + 1)) 0).1 0).1 0).1 := rfl
  have ek : ∀ k, k < 8 → tickE n σ k = upd σ 7 (σ 7 + 1) k := fun k hk => by rw [e3, x1 k hk, b1 k hk, f1 k hk]
  have ogp : ∀ o, o < m → ∀ f, f < 8 → og (tickS n (σ, τ)).1 o f = og (tickE n σ) o f := fun o ho f hf => by rw [eT]; exact plc_og hB W3 _ (by omega) hf
  -- the states
  have s7 : ∀ j, j < n → bf (tickE n σ) j 7 = if finC (upd σ 7 (σ 7 + 1)) j = true then 3 else if bmpC (upd σ 7 (σ 7 + 1)) j = true then 5 else if expC (upd σ 7 (σ 7 + 1)) j = true then 6 else bf σ j 7 := fun j hj => by
    have q0 : ∀ f, bf (upd σ 7 (σ 7 + 1)) j f = bf σ j f := fun f => bf_sc (by omega)
    have q1 := f4 j hj
    have cb : bmpC (endF finC (nI 3) 1 n (upd σ 7 (σ 7 + 1)) 0).1 j = if finC (upd σ 7 (σ 7 + 1)) j = true then false else bmpC (upd σ 7 (σ 7 + 1)) j := by
      by_cases z : finC (upd σ 7 (σ 7 + 1)) j = true
      · rw [if_pos ⟨hj, z⟩] at q1
        rw [if_pos z]
        unfold bmpC
        rw [q1]
        exact decide_eq_false (fun y => absurd y.1 (by decide))
      · rw [if_neg (fun y => z y.2)] at q1
        rw [if_neg z]
        exact Lc_bmp _ _ j f1 (fun f hf => by
          by_cases e : f = 7
          · subst e; exact q1
          · exact f3 j hj f hf e)
    have q2 := b4 j hj
    rw [cb] at q2
    have cx : expC (endF bmpC (nI 5) 2 n (endF finC (nI 3) 1 n (upd σ 7 (σ 7 + 1)) 0).1 0).1 j = if finC (upd σ 7 (σ 7 + 1)) j = true then false else if bmpC (upd σ 7 (σ 7 + 1)) j = true then false else expC (upd σ 7 (σ 7 + 1)) j := by
      by_cases z : finC (upd σ 7 (σ 7 + 1)) j = true
      · rw [if_pos z] at q2 ⊢
        rw [if_neg (fun y => absurd y.2 (by decide)), if_pos ⟨hj, z⟩ |> fun e => q1.trans e] at q2
        unfold expC
        rw [q2]
        exact decide_eq_false (fun y => absurd y.1 (by decide))
      · rw [if_neg z] at q2 ⊢
        rw [if_neg (fun y => z y.2)] at q1
        by_cases y : bmpC (upd σ 7 (σ 7 + 1)) j = true
        · rw [if_pos ⟨hj, y⟩] at q2
          rw [if_pos y]
          unfold expC
          rw [q2]
          exact decide_eq_false (fun y => absurd y.1 (by decide))
        · rw [if_neg (fun w => y w.2), q1] at q2
          rw [if_neg y]
          exact Lc_exp _ _ j (fun k hk => (b1 k hk).trans (f1 k hk)) (fun f hf => by
            by_cases e : f = 7
            · subst e; exact q2
            · exact (b3 j hj f hf e).trans (f3 j hj f hf e))
    have q3 := x4 j hj
    rw [cx] at q3
    rw [e3, q3]
    by_cases z : finC (upd σ 7 (σ 7 + 1)) j = true
    · rw [if_pos z] at q2 ⊢
      rw [if_neg (fun y => absurd y.2 (by decide))] at q2
      rw [if_pos z, if_neg (fun y => absurd y.2 (by decide)), q2, q1, if_pos ⟨hj, z⟩]
      rfl
    · rw [if_neg z] at q2 ⊢
      rw [if_neg z]
      by_cases y : bmpC (upd σ 7 (σ 7 + 1)) j = true
      · rw [if_pos ⟨hj, y⟩] at q2
        rw [if_pos y, if_neg (fun y => absurd y.2 (by decide)), q2, if_pos y]
        rfl
      · rw [if_neg (fun w => y w.2)] at q2
        rw [if_neg y, if_neg y]
        by_cases w : expC (upd σ 7 (σ 7 + 1)) j = true
        · rw [if_pos ⟨hj, w⟩, if_pos w]; rfl
        · rw [if_neg (fun u => w u.2), if_neg w, q2, q1, if_neg (fun u => z u.2), q0]
  have sf : ∀ j, j < n → ∀ f, f < 10 → f ≠ 7 → bf (tickE n σ) j f = bf (upd σ 7 (σ 7 + 1)) j f := fun j hj f hf e => by rw [e3, x3 j hj f hf e, b3 j hj f hf e, f3 j hj f hf e]
  have pE : PT (tickE n σ) n := fun j hj => by
    have q := s7 j hj
    by_cases z : finC (upd σ 7 (σ 7 + 1)) j = true
    · rw [if_pos z] at q
      unfold finC bmpC expC
      rw [q]
      exact ⟨decide_eq_false (fun y => absurd y.1 (by decide)), decide_eq_false (fun y => absurd y.1 (by decide)), decide_eq_false (fun y => absurd y.1 (by decide))⟩
    · rw [if_neg z] at q
      by_cases y : bmpC (upd σ 7 (σ 7 + 1)) j = true
      · rw [if_pos y] at q
        unfold finC bmpC expC
        rw [q]
        exact ⟨decide_eq_false (fun y => absurd y.1 (by decide)), decide_eq_false (fun y => absurd y.1 (by decide)), decide_eq_false (fun y => absurd y.1 (by decide))⟩
      · rw [if_neg y] at q
        by_cases w : expC (upd σ 7 (σ 7 + 1)) j = true
        · rw [if_pos w] at q
          unfold finC bmpC expC
          rw [q]
          exact ⟨decide_eq_false (fun y => absurd y.1 (by decide)), decide_eq_false (fun y => absurd y.1 (by decide)), decide_eq_false (fun y => absurd y.1 (by decide))⟩
        · rw [if_neg w] at q
          have all : ∀ f, f < 10 → bf (tickE n σ) j f = bf (upd σ 7 (σ 7 + 1)) j f := fun f hf => by
            by_cases e : f = 7
            · subst e; rw [q]; exact (bf_sc (by omega)).symm
            · exact sf j hj f hf e
          rw [Lc_fin _ _ j ek all, Lc_bmp _ _ j ek all, Lc_exp _ _ j ek all]
          exact ⟨Bool.eq_false_iff.mpr z, Bool.eq_false_iff.mpr y, Bool.eq_false_iff.mpr w⟩
  have k0 : ∀ k, k < 74 → (tickS n (σ, τ)).1 k = tickE n σ k := fun k hk => by rw [eT]; exact plc_k hB W3 _ hk
  refine ⟨?_, fun j hj => ?_, ?_, ?_, ?_⟩
  · have E0 : Ev σ (upd σ 7 (σ 7 + 1)) n m 0 := Ev_0 sec_5 (fun i _ f _ => bf_sc (by omega)) (fun w j hj q => by rw [bf_sc (by omega)] at q; rw [bf_sc (by omega), bf_sc (by omega)]; exact w j hj q) (fun o _ f _ => by
      show upd σ 7 (σ 7 + 1) (10 + 8 * o + f) = _
      exact pk_un (by omega))
    have E1 : Ev (upd σ 7 (σ 7 + 1)) (endF finC (nI 3) 1 n (upd σ 7 (σ 7 + 1)) 0).1 n m 0 := by
      refine ⟨fun k hk => f1 k (by omega), fun i hi g hg => f3 i hi g (by omega) (by omega), (endF_Ev Lc_fin W0 (f := 1) (s := 3) (by omega) (by omega) (fun _ _ _ => trivial)).2.2.1, fun C hC b o ho => ?_, sO_c (fun o ho => f6 0 (by omega) (by omega) o ho)⟩
      rw [f6 2 (by omega) (by omega) o ho, f6 3 (by omega) (by omega) o ho]
      have := b o ho
      omega
    have E2 := endF_Ev Lc_bmp W1 (f := 2) (s := 5) (by omega) (by omega) (fun _ _ _ => trivial)
    have E3 : Ev (endF bmpC (nI 5) 2 n (endF finC (nI 3) 1 n (upd σ 7 (σ 7 + 1)) 0).1 0).1 (tickE n σ) n m 0 := by
      rw [e3]
      refine ⟨fun k hk => x1 k (by omega), fun i hi g hg => x3 i hi g (by omega) (by omega), (endF_Ev Lc_exp W2 (f := 5) (s := 6) (by omega) (by omega) (fun _ _ _ => trivial)).2.2.1, fun C hC b o ho => ?_, sO_c (fun o ho => x6 0 (by omega) (by omega) o ho)⟩
      rw [x6 2 (by omega) (by omega) o ho, x6 3 (by omega) (by omega) o ho]
      have := b o ho
      omega
    have E4 := plc_Ev hB W3 (τ 2)
    rw [eT]
    exact Ev_m (Ev_t (Ev_t (Ev_t (Ev_t E0 E1) E2) E3) E4) (by omega)
  · rw [eT]
    rcases J.1 j hj with z | ⟨z1, z2, z3⟩
    · have ks : ∀ k, k < 8 → (plcS (tickE n σ) n (τ 2)).1 k = tickE n σ k := fun k hk => plc_k hB W3 _ (by omega)
      rw [Lc_fin _ _ j ks z, Lc_bmp _ _ j ks z, Lc_exp _ _ j ks z]
      exact pE j hj
    · have z2' : bf (plcS (tickE n σ) n (τ 2)).1 j 7 = 1 := z2
      have z3' : (tickE n σ 7).toInt ≤ (bf (plcS (tickE n σ) n (τ 2)).1 j 8).toInt := z3
      have Wp := plc_wf hB W3 (τ 2)
      have g0 := Wp.sg.1
      have g7 : (plcS (tickE n σ) n (τ 2)).1 7 = tickE n σ 7 := plc_k hB W3 _ (by omega)
      have tj := Wp.tm.1 j hj (by unfold lvB; exact decide_eq_true (.inl z2'))
      have tB := Wp.tm.2
      unfold finC bmpC expC
      rw [z2']
      refine ⟨decide_eq_false (fun y => absurd y.1 (by decide)), decide_eq_false (fun y => y.2 (ti_le.mpr ?_)), decide_eq_false (fun y => absurd y.1 (by decide))⟩
      rw [g7, ti_add (by omega) (by omega)]
      omega
  · have e2 : sO (tickS n (σ, τ)).1 m 2 = sO σ m 2 + (endF bmpC (nI 5) 2 n (endF finC (nI 3) 1 n (upd σ 7 (σ 7 + 1)) 0).1 0).2 := by
      have r1 : sO (endF finC (nI 3) 1 n (upd σ 7 (σ 7 + 1)) 0).1 m 2 = sO σ m 2 := (sO_c (fun o ho => f6 2 (by omega) (by omega) o ho)).trans (sO_c (fun o ho => by show upd σ 7 (σ 7 + 1) (10 + 8 * o + 2) = _; exact pk_un (by omega)))
      rw [← r1, ← b5]
      exact sO_c (fun o ho => by rw [ogp o ho 2 (by omega), e3]; exact x6 2 (by omega) (by omega) o ho)
    show sO (tickS n (σ, τ)).1 m 2 + τ 0 = sO σ m 2 + (tickS n (σ, τ)).2 0
    rw [tick_0, endF_add, e2, Int32.add_assoc, Int32.add_comm (τ 0)]
    rfl
  · have e1 : sO (tickS n (σ, τ)).1 m 1 = sO σ m 1 + (endF finC (nI 3) 1 n (upd σ 7 (σ 7 + 1)) 0).2 := by
      have r1 : sO (upd σ 7 (σ 7 + 1)) m 1 = sO σ m 1 := sO_c (fun o ho => by show upd σ 7 (σ 7 + 1) (10 + 8 * o + 1) = _; exact pk_un (by omega))
      rw [← r1, ← f5]
      exact sO_c (fun o ho => by rw [ogp o ho 1 (by omega), e3, x6 1 (by omega) (by omega) o ho]; exact b6 1 (by omega) (by omega) o ho)
    show sO (tickS n (σ, τ)).1 m 1 + τ 3 = sO σ m 1 + (tickS n (σ, τ)).2 3
    rw [tick_3, endF_add, e1, Int32.add_assoc, Int32.add_comm (τ 3)]
    rfl
  · -- who waits
    have c1 : cntS (endF bmpC (nI 5) 2 n (endF finC (nI 3) 1 n (upd σ 7 (σ 7 + 1)) 0).1 0).1 n 0 = cntS σ n 0 := by
      refine sumI_c n 0 (fun j _ hj => ?_)
      have hj' : j < n := by omega
      show (if bf (endF bmpC (nI 5) 2 n (endF finC (nI 3) 1 n (upd σ 7 (σ 7 + 1)) 0).1 0).1 j 7 = 0 then (1 : Int32) else 0) = (if bf σ j 7 = 0 then 1 else 0)
      have q1 := f4 j hj'
      rw [bf_sc (by omega)] at q1
      have w1 : bf (endF finC (nI 3) 1 n (upd σ 7 (σ 7 + 1)) 0).1 j 7 = 0 ↔ bf σ j 7 = 0 := by
        rw [q1]
        by_cases z : j < n ∧ finC (upd σ 7 (σ 7 + 1)) j = true
        · rw [if_pos z]
          have := z.2
          unfold finC at this
          rw [bf_sc (by omega)] at this
          have u := (of_decide_eq_true this).1
          rw [u]
          exact ⟨fun y => absurd y (by decide), fun y => absurd y (by decide)⟩
        · rw [if_neg z]
      have w2 : bf (endF bmpC (nI 5) 2 n (endF finC (nI 3) 1 n (upd σ 7 (σ 7 + 1)) 0).1 0).1 j 7 = 0 ↔ bf (endF finC (nI 3) 1 n (upd σ 7 (σ 7 + 1)) 0).1 j 7 = 0 := by
        rw [b4 j hj']
        by_cases z : j < n ∧ bmpC (endF finC (nI 3) 1 n (upd σ 7 (σ 7 + 1)) 0).1 j = true
        · rw [if_pos z]
          have := z.2
          unfold bmpC at this
          have u := (of_decide_eq_true this).1
          rw [u]
          exact ⟨fun y => absurd y (by decide), fun y => absurd y (by decide)⟩
        · rw [if_neg z]
      by_cases z : bf σ j 7 = 0
      · rw [if_pos z, if_pos (w2.mpr (w1.mpr z))]
      · rw [if_neg z, if_neg (fun y => z (w1.mp (w2.mp y)))]
    have c2 : ∀ τ0 : Nat → Int32, Wf τ0 n m S B → cntS (endF expC (nI 6) 5 n τ0 0).1 n 0 + (endF expC (nI 6) 5 n τ0 0).2 = cntS τ0 n 0 := by
      intro τ0 hW0
      have k : ∀ i, (Ow (foldN (endStep expC (nI 6) 5) i 0 (τ0, 0)).1 n m) → True := fun _ _ => trivial
      have P : (Ow (endF expC (nI 6) 5 n τ0 0).1 n m) ∧ cntS (endF expC (nI 6) 5 n τ0 0).1 n 0 + (endF expC (nI 6) 5 n τ0 0).2 = cntS τ0 n 0 := by
        refine foldN_inv (P := fun i (a : (Nat → Int32) × Int32) => Ow a.1 n m ∧ cntS a.1 n 0 + a.2 = cntS τ0 n 0) ⟨hW0.ow, Int32.add_zero _⟩ ?_
        intro i a hi ⟨p1, p2⟩
        unfold endStep
        by_cases c : expC a.1 i = true
        · rw [if_pos c]
          have ch := end_ch (s := nI 6) (f := 5) p1 hm hi (by omega)
          refine ⟨Ow_ch p1 ch, ?_⟩
          have c0 : bf a.1 i 7 = 0 := by
            unfold expC at c
            exact (of_decide_eq_true c).1
          have e := cnt_p (σ := a.1) (σ' := endS a.1 i (nI 6) 5) (x := 0) hi (fun j hj hji => ch.2 j hj 7 (by omega) (.inl hji)) c0 (by rw [end_7 p1 hm hi (by omega)]; decide)
          show cntS (endS a.1 i (nI 6) 5) n 0 + (a.2 + 1) = _
          rw [← p2, ← e, Int32.add_assoc, Int32.add_comm 1 a.2]
        · rw [if_neg c]; exact ⟨p1, p2⟩
      exact P.2
    have c2' := c2 _ W2
    have c3 : cntS (tickS n (σ, τ)).1 n 0 + (plcS (tickE n σ) n (τ 2)).2 = cntS (tickE n σ) n 0 + τ 2 := by rw [eT]; exact J.2
    have t1 : (tickS n (σ, τ)).2 1 = τ 1 + (endF expC (nI 6) 5 n (endF bmpC (nI 5) 2 n (endF finC (nI 3) 1 n (upd σ 7 (σ 7 + 1)) 0).1 0).1 0).2 := by rw [tick_e, endF_add]; rfl
    have t2 : (tickS n (σ, τ)).2 2 = (plcS (tickE n σ) n (τ 2)).2 := tick_2 n σ τ
    show cntS (tickS n (σ, τ)).1 n 0 + (tickS n (σ, τ)).2 1 + (tickS n (σ, τ)).2 2 = cntS σ n 0 + τ 1 + τ 2
    rw [t1, t2, ← c1]
    exact ar_t c3 c2'
end PLJ
