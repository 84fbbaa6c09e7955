/-! THE TEXT OF A SETUP 4: bookings, items, all of it: the class -/
section YZ
variable (β : Nat → Nat) (T : Nat)
noncomputable def yI (S st : Nat) (σ : Nat → Int32) (n m : Nat) : PE (Nat × (Nat → Int32) × Nat × Nat) := @ite _ (wd β T st 1) (Classical.propDecidable _) (match yO β T st σ m with
  | .error e => .error e
  | .ok (s, σ') => .ok (s, σ', n, m + 1)) (@ite _ (wd β T st 2) (Classical.propDecidable _) (match yB β T st σ n m S with
  | .error e => .error e
  | .ok (s, σ') => .ok (s, σ', n + 1, m)) (@ite _ (wd β T st 3) (Classical.propDecidable _) (match yS β T st σ with
  | .error e => .error e
  | .ok (s, σ') => .ok (s, σ', n, m)) (.error (1, st))))
noncomputable def yL (S : Nat) : Nat → Nat → (Nat → Int32) → Nat → Nat → PE ((Nat → Int32) × Nat × Nat)
  | 0, _, σ, n, m => .ok (σ, n, m)
  | f + 1, st, σ, n, m => if kd β T st = 0 then .ok (σ, n, m) else match yI β T S st σ n m with
    | .error e => .error e
    | .ok (s', σ', n', m') => if kd β T s' = 3 then yL S f (nx β T s') σ' n' m' else .error (1, s')
def y0 (τ : Nat → Int32) (S : Nat) : Nat → Int32 := fun k => if k < 4 then f4 5 10 4 3 k else if k = 4 then nI S else if k < 474 then 0 else τ k
noncomputable def yA (τ : Nat → Int32) : PE ((Nat → Int32) × Nat × Nat × Nat) := @ite _ (wd β T (sk β T 0) 0) (Classical.propDecidable _) (match yN β T 1 64 (nx β T (sk β T 0)) with
  | .error e => .error e
  | .ok S => if kd β T (nx β T (nx β T (sk β T 0))) = 3 then (match yL β T S T (nx β T (nx β T (nx β T (sk β T 0)))) (y0 τ S) 0 0 with
    | .error e => .error e
    | .ok (σ, n, m) => .ok (σ, n, m, S)) else .error (1, nx β T (nx β T (sk β T 0)))) (.error (1, sk β T 0))
end YZ
section PD
variable {v : V3} {β : Nat → Nat} {T st n m S : Nat} {σ : Nat → Int32}
theorem yN_lt {k : Nat} (hm : m ≤ 1000) (h : yN β T 0 (nI m - 1) st = .ok k) : k < m := by
  have y := yN_ok h
  rcases Nat.lt_or_ge k m with q | q
  · exact q
  · have a := cnt_pred hm (y := nI k) |>.mpr (nI_le q (by omega))
    exact absurd a (Int32.not_lt.mpr y.2.2.2.1)
theorem yN_bd {k a b : Nat} (hb : b ≤ 2000000) (ha : a ≤ 1000) (h : yN β T (nI a) (nI b) st = .ok k) : a ≤ k ∧ k ≤ b := by
  have y := yN_ok h
  have p := (nI_leI (by omega) (by omega)).mp y.2.2.2.1
  refine ⟨?_, p⟩
  rcases Nat.lt_or_ge k a with q | q
  · exact absurd (nI_lt q (by omega)) y.2.2.1
  · exact q
theorem yP_ok {a d k s' : Nat} {lo hi : Int32} (h : yP β T a lo hi d st = .ok (k, s')) : (k = d ∧ s' = st) ∨ (yN β T lo hi (nx β T st) = .ok k ∧ s' = nx β T (nx β T st)) := by
  unfold yP at h
  by_cases w : wd β T st a
  · rw [if_pos w] at h
    cases e : yN β T lo hi (nx β T st) with
    | error x => rw [e] at h; cases h
    | ok x =>
      rw [e] at h
      have := Except.ok.inj h
      obtain ⟨rfl, rfl⟩ := Prod.mk.inj this
      exact .inr ⟨rfl, rfl⟩
  · rw [if_neg w] at h
    have := Except.ok.inj h
    obtain ⟨rfl, rfl⟩ := Prod.mk.inj this
    exact .inl ⟨rfl, rfl⟩
section BK
variable {Q : Int32 → V3 → Prop} {x1 x2 x3 x4 x5 x6 : Int32}
theorem e146 (q : Q 0 v) : w_X2_readBook_146 Q x1 x2 x3 x4 x5 x6 (-1) v := ntc (fun z => absurd rfl z) (fun _ => q)
theorem e124 (q : Q 0 v) : w_X2_readBook_124 Q x1 x2 x3 x4 x5 (-1) v := ntc (fun z => absurd rfl z) (fun _ => e146 q)
theorem e102 (q : Q 0 v) : w_X2_readBook_102 Q x1 x2 x3 x4 (-1) v := ntc (fun z => absurd rfl z) (fun _ => e124 q)
theorem e82 (q : Q 0 v) : w_X2_readBook_82 Q x1 x2 x3 (-1) v := ntc (fun z => absurd rfl z) (fun _ => e102 q)
theorem e65 (q : Q 0 v) : w_X2_readBook_65 Q x1 x2 (-1) v := ntc (fun z => absurd rfl z) (fun _ => e82 q)
theorem e50 (q : Q 0 v) : w_X2_readBook_50 Q x1 (-1) v := ntc (fun z => absurd rfl z) (fun _ => e65 q)
end BK
theorem nm1 {k : Nat} {A B : Prop} (hk : k ≤ 1000000) (a : A) : (¬ nI k = -1 → A) ∧ (nI k = -1 → B) := ⟨fun _ => a, fun z => absurd z (nI_neg1 (by omega))⟩
theorem uC_B3 {o a l s3 : Nat} (hb : BY v β T) (h : CT v β T (nx β T s3)) (hL : LA v 75 σ n m) (hO : OK σ n m S 10300) (hn : n < 40) (ho : o < m) (hl1 : 1 ≤ l) (hl : a + l ≤ S) {Q : Int32 → V3 → Prop} (hE : ∀ e, yB3 β T σ n o a l s3 = .error e → ∀ v', CE v v' e → Q 0 v') (hQ : ∀ s' σ', yB3 β T σ n o a l s3 = .ok (s', σ') → ∀ v', CT v' β T s' → LA v' 75 σ' (n + 1) m → FO v v' → Q 1 v') : w_X2_readBook_65 Q (nI o) (nI a) (nI l) v := by
  have hm := hO.1.m8
  have hS : S ≤ 64 := hO.1.2.1.2.2
  unfold w_X2_readBook_65
  refine nm1 (by omega) (uC_num hb h (fun e he v' q => e82 (hE e (by unfold yB3; rw [he]) v' q)) (fun d hd v1 t1 f1 => ?_))
  have bd := yN_bd (a := 1) (b := 99) (by omega) (by omega) hd
  unfold w_X2_readBook_82
  refine nm1 (by omega) (uC_num (BY_F hb f1) t1 (fun e he v' q => e102 (hE e (by unfold yB3; rw [hd]; simp only [he]) v' (CE_t (FO_6 f1) q))) (fun t ht v2 t2 f2 => ?_))
  have bt := yN_bd (a := 0) (b := 9999) (by omega) (by omega) ht
  have F2 := F6_t f1 f2
  unfold w_X2_readBook_102
  refine nm1 (by omega) (uC_opt (a := 4) (d := 0) (by omega) (BY_F hb F2) t2 (fun e he v' q => e124 (hE e (by unfold yB3; rw [hd]; simp only [ht, he]) v' (CE_t (FO_6 F2) q))) (fun x s5 hx v3 t3 f3 => ?_))
  have F3 := F6_t F2 f3
  have bx : x ≤ 99 := by
    rcases yP_ok hx with ⟨rfl, _⟩ | ⟨q, _⟩
    · omega
    · exact (yN_bd (a := 0) (b := 99) (by omega) (by omega) q).2
  unfold w_X2_readBook_124
  refine nm1 (by omega) (uC_opt (a := 5) (d := 1) (by omega) (BY_F hb F3) t3 (fun e he v' q => e146 (hE e (by unfold yB3; rw [hd]; simp only [ht, hx, he]) v' (CE_t (FO_6 F3) q))) (fun u s6 hu v4 t4 f4' => ?_))
  have F4 := F6_t F3 f4'
  have bu : u ≤ 9 := by
    rcases yP_ok hu with ⟨rfl, _⟩ | ⟨q, _⟩
    · omega
    · exact (yN_bd (a := 1) (b := 9) (by omega) (by omega) q).2
  unfold w_X2_readBook_146
  refine nm1 (by omega) (uC_enterB (S := S) (B := 10300) (LA_6 hL (by omega) hm F4) hO (by omega) hn ⟨⟨o, ho, rfl⟩, ⟨?_, ?_, ?_⟩, ⟨?_, ?_, ?_, ?_, ?_, ?_⟩, rfl⟩ (fun v5 l5 f5 => hQ s6 _ (by unfold yB3; rw [hd]; simp only [ht, hx, hu]; rfl) v5 (CT_c t4 (f5 6 (by omega))) l5 (FO_t (FO_6 F4) (FO_L f5))))
  · show 0 ≤ (nI a).toInt; rw [ti_nI (by omega)]; omega
  · show 1 ≤ (nI l).toInt; rw [ti_nI (by omega)]; omega
  · show (nI a).toInt + (nI l).toInt ≤ S; rw [ti_nI (by omega), ti_nI (by omega)]; omega
  · show 1 ≤ (nI d).toInt; rw [ti_nI (by omega)]; omega
  · show (nI d).toInt ≤ 99; rw [ti_nI (by omega)]; omega
  · show 0 ≤ (nI t).toInt; rw [ti_nI (by omega)]; omega
  · show (nI t).toInt ≤ 9999; rw [ti_nI (by omega)]; omega
  · show 0 ≤ (nI x).toInt; rw [ti_nI (by omega)]; omega
  · show (nI x).toInt ≤ 99; rw [ti_nI (by omega)]; omega
theorem uC_B2 {o s2 : Nat} (hb : BY v β T) (h : CT v β T s2) (hL : LA v 75 σ n m) (hO : OK σ n m S 10300) (hn : n < 40) (ho : o < m) {Q : Int32 → V3 → Prop} (hE : ∀ e, yB2 β T σ n S o s2 = .error e → ∀ v', CE v v' e → Q 0 v') (hQ : ∀ s' σ', yB2 β T σ n S o s2 = .ok (s', σ') → ∀ v', CT v' β T s' → LA v' 75 σ' (n + 1) m → FO v v' → Q 1 v') : w_X2_readNumber 0 (nI S - 1) v (fun r7 v6 => w_X2_readBook_50 Q (nI o) r7 v6) := by
  have hm := hO.1.m8
  have hS : S ≤ 64 := hO.1.2.1.2.2
  refine uC_num hb h (fun e he v' q => e50 (hE e (by unfold yB2; rw [he]) v' q)) (fun a ha v1 t1 f1 => ?_)
  have la := yN_lt (by omega) ha
  have L1 := LA_6 hL (by omega) hm f1
  unfold w_X2_readBook_50
  refine nm1 (by omega) ?_
  unfold w_X2_readLength
  refine uC_check t1 (fun e he v' q => ntc (fun z => absurd rfl z) (fun _ => e65 (hE e (by unfold yB2; rw [ha]; simp only [he]) v' (CE_t (FO_6 f1) q)))) (fun l hl => nm1 (yN_ok hl).2.2.2.2 ?_)
  have bl := yN_bd (a := 1) (b := 1000000) (by omega) (by omega) hl
  rw [L1.sz, hO.1.1.2.1, nI_sb (by omega)]
  have kl : nI l ≤ nI (S - a) ↔ l ≤ S - a := nI_leI (by omega) (by omega)
  refine br_c (fun c => ?_) (fun c => uC_fail t1.2.2.2.1 (fun v' q => e65 (hE (4, nx β T s2) ?_ v' (CE_t (FO_6 f1) q))))
  · have c := kl.mp c
    refine uC_next (BY_F hb f1) t1 (fun v2 t2 f2 => ?_)
    have F2 := F6_t f1 f2
    have key : yB2 β T σ n S o s2 = yB3 β T σ n o a l (nx β T s2) := by
      unfold yB2; rw [ha]; simp only [hl]; rw [if_pos c]
    exact uC_B3 (BY_F hb F2) t2 (LA_6 hL (by omega) hm F2) hO hn ho bl.1 (by omega) (fun e he v' q => hE e (key.trans he) v' (CE_t (FO_6 F2) q)) (fun s' σ' hs v' p1 p2 p3 => hQ s' σ' (key.trans hs) v' p1 p2 (FO_t (FO_6 F2) p3))
  · unfold yB2; rw [ha]; simp only [hl]; rw [if_neg (fun z => c (kl.mpr z))]
theorem uC_book (hb : BY v β T) (h : CT v β T st) (hL : LA v 75 σ n m) (hO : OK σ n m S 10300) {Q : Int32 → V3 → Prop} (hE : ∀ e, yB β T st σ n m S = .error e → ∀ v', CE v v' e → Q 0 v') (hQ : ∀ s' σ', yB β T st σ n m S = .ok (s', σ') → ∀ v', CT v' β T s' → LA v' 75 σ' (n + 1) m → FO v v' → Q 1 v') : w_X2_readBook v Q := by
  have hm := hO.1.m8
  have hn := hO.1.n40
  have hS : S ≤ 64 := hO.1.2.1.2.2
  unfold w_X2_readBook
  rw [hL.n8]
  have k40 : nI n < 40 ↔ n < 40 := nI_ltI (b := 40) (by omega) (by omega)
  refine br_c (fun c => ?_) (fun c => uC_fail h.2.2.2.1 (fun v' q => ⟨.inl rfl, hE (3, st) (if_neg (fun z => c (k40.mpr z))) v' q⟩))
  have c := k40.mp c
  refine uC_next hb h (fun v1 t1 f1 => ?_)
  have L1 := LA_6 hL hn hm f1
  unfold w_X2_readBookingOwner
  rw [L1.m7]
  refine uC_check t1 (fun e he v' q => ntc (fun z => absurd rfl z) (fun _ => ntc (fun z => absurd rfl z) (fun _ => e50 (hE e ?_ v' (CE_t (FO_6 f1) q))))) (fun o ho => nm1 (yN_ok ho).2.2.2.2 ?_)
  · unfold yB; rw [if_pos c, he]
  have lo := yN_lt (by omega) ho
  refine uC_lim L1 hn ?_
  by_cases d : opnS σ n (nI o) < σ 2
  · rw [if_pos d]
    refine zt0 (uC_next (BY_F hb f1) t1 (fun v2 t2 f2 => nm1 (by omega) ?_))
    have F2 := F6_t f1 f2
    have L2 := LA_6 hL hn hm F2
    have key : yB β T st σ n m S = yB2 β T σ n S o (nx β T (nx β T st)) := by
      unfold yB; rw [if_pos c, ho]; simp only []; rw [if_pos d]
    rw [L2.sz, hO.1.1.2.1]
    exact uC_B2 (BY_F hb F2) t2 L2 hO c lo (fun e he v' q => hE e (key.trans he) v' (CE_t (FO_6 F2) q)) (fun s' σ' hs v' p1 p2 p3 => hQ s' σ' (key.trans hs) v' p1 p2 (FO_t (FO_6 F2) p3))
  · rw [if_neg d]
    refine zt1 (uC_fail t1.2.2.2.1 (fun v' q => ntc (fun z => absurd rfl z) (fun _ => e50 (hE (3, nx β T st) ?_ v' (CE_t (FO_6 f1) q)))))
    unfold yB; rw [if_pos c, ho]; simp only []; rw [if_neg d]
end PD
/-! what the items keep -/
section IO
variable {β : Nat → Nat} {T st n m S : Nat} {σ : Nat → Int32} {B : Int}
theorem yO_ok {s' : Nat} {σ' : Nat → Int32} (h : yO β T st σ m = .ok (s', σ')) : m < 8 ∧ ∃ a, yN β T 0 999 (nx β T st) = .ok a ∧ s' = nx β T (nx β T st) ∧ σ' = addOS σ m (nI a) := by
  unfold yO at h
  by_cases c : m < 8
  · rw [if_pos c] at h
    cases e : yN β T 0 999 (nx β T st) with
    | error x => rw [e] at h; cases h
    | ok x =>
      rw [e] at h
      obtain ⟨rfl, rfl⟩ := Prod.mk.inj (Except.ok.inj h)
      exact ⟨c, x, rfl, rfl, rfl⟩
  · rw [if_neg c] at h; cases h
theorem yS_ok {s' : Nat} {σ' : Nat → Int32} (h : yS β T st σ = .ok (s', σ')) : ∃ k x, yN β T 0 3 (nx β T st) = .ok k ∧ yN β T (f4 0 0 1 1 k) (f4 50 99 9 9 k) (nx β T (nx β T st)) = .ok x ∧ s' = nx β T (nx β T (nx β T st)) ∧ σ' = upd σ k (nI x) := by
  unfold yS at h
  cases e : yN β T 0 3 (nx β T st) with
  | error x => rw [e] at h; cases h
  | ok k =>
    rw [e] at h
    simp only [] at h
    cases e2 : yN β T (f4 0 0 1 1 k) (f4 50 99 9 9 k) (nx β T (nx β T st)) with
    | error x => rw [e2] at h; cases h
    | ok x =>
      rw [e2] at h
      obtain ⟨rfl, rfl⟩ := Prod.mk.inj (Except.ok.inj h)
      exact ⟨k, x, rfl, e2, rfl, rfl⟩
theorem yP_st {a d k s' : Nat} {lo hi : Int32} (hs : st ≤ T) (h : yP β T a lo hi d st = .ok (k, s')) : st ≤ s' ∧ s' ≤ T := by
  have b1 := nx_b (β := β) hs
  have b2 := nx_b (β := β) b1.2.1
  rcases yP_ok h with ⟨_, rfl⟩ | ⟨_, rfl⟩
  · exact ⟨Nat.le_refl _, hs⟩
  · omega
theorem yB3_ok {o a l s3 s' : Nat} {σ' : Nat → Int32} (hs : s3 ≤ T) (ho : o < m) (hl1 : 1 ≤ l) (hl : a + l ≤ S) (hS : S ≤ 64) (h : yB3 β T σ n o a l s3 = .ok (s', σ')) : s3 ≤ s' ∧ s' ≤ T ∧ ∃ r, Rn r m S ∧ σ' = bkS σ n r := by
  unfold yB3 at h
  cases hd : yN β T 1 99 (nx β T s3) with
  | error x => rw [hd] at h; cases h
  | ok d =>
    rw [hd] at h; simp only [] at h
    cases ht : yN β T 0 9999 (nx β T (nx β T s3)) with
    | error x => rw [ht] at h; cases h
    | ok t =>
      rw [ht] at h; simp only [] at h
      cases hx : yP β T 4 0 99 0 (nx β T (nx β T (nx β T s3))) with
      | error x => rw [hx] at h; cases h
      | ok x =>
        obtain ⟨x, s5⟩ := x
        rw [hx] at h; simp only [] at h
        cases hu : yP β T 5 1 9 1 s5 with
        | error x => rw [hu] at h; cases h
        | ok u =>
          obtain ⟨u, s6⟩ := u
          rw [hu] at h
          obtain ⟨rfl, rfl⟩ := Prod.mk.inj (Except.ok.inj h)
          have b1 := nx_b (β := β) hs
          have b2 := nx_b (β := β) b1.2.1
          have b3 := nx_b (β := β) b2.2.1
          have b4 := yP_st b3.2.1 hx
          have b5 := yP_st b4.2 hu
          have bd := yN_bd (a := 1) (b := 99) (by omega) (by omega) hd
          have bt := yN_bd (a := 0) (b := 9999) (by omega) (by omega) ht
          have bx : x ≤ 99 := by
            rcases yP_ok hx with ⟨rfl, _⟩ | ⟨q, _⟩
            · omega
            · exact (yN_bd (a := 0) (b := 99) (by omega) (by omega) q).2
          refine ⟨by omega, b5.2, _, ⟨⟨o, ho, rfl⟩, ⟨?_, ?_, ?_⟩, ⟨?_, ?_, ?_, ?_, ?_, ?_⟩, rfl⟩, rfl⟩
          · show 0 ≤ (nI a).toInt; rw [ti_nI (by omega)]; omega
          · show 1 ≤ (nI l).toInt; rw [ti_nI (by omega)]; omega
          · show (nI a).toInt + (nI l).toInt ≤ S; rw [ti_nI (by omega), ti_nI (by omega)]; omega
          · show 1 ≤ (nI d).toInt; rw [ti_nI (by omega)]; omega
          · show (nI d).toInt ≤ 99; rw [ti_nI (by omega)]; omega
          · show 0 ≤ (nI t).toInt; rw [ti_nI (by omega)]; omega
          · show (nI t).toInt ≤ 9999; rw [ti_nI (by omega)]; omega
          · show 0 ≤ (nI x).toInt; rw [ti_nI (by omega)]; omega
          · show (nI x).toInt ≤ 99; rw [ti_nI (by omega)]; omega
theorem yB_ok {s' : Nat} {σ' : Nat → Int32} (hs : st ≤ T) (hm : m ≤ 8) (hS : S ≤ 64) (h : yB β T st σ n m S = .ok (s', σ')) : n < 40 ∧ nx β T st ≤ s' ∧ s' ≤ T ∧ ∃ r, Rn r m S ∧ σ' = bkS σ n r := by
  unfold yB at h
  by_cases c : n < 40
  · rw [if_pos c] at h
    cases ho : yN β T 0 (nI m - 1) (nx β T st) with
    | error x => rw [ho] at h; cases h
    | ok o =>
      rw [ho] at h; simp only [] at h
      by_cases d : opnS σ n (nI o) < σ 2
      · rw [if_pos d] at h
        unfold yB2 at h
        cases ha : yN β T 0 (nI S - 1) (nx β T (nx β T st)) with
        | error x => rw [ha] at h; cases h
        | ok a =>
          rw [ha] at h; simp only [] at h
          cases hl : yN β T 1 1000000 (nx β T (nx β T (nx β T st))) with
          | error x => rw [hl] at h; cases h
          | ok l =>
            rw [hl] at h; simp only [] at h
            by_cases q : l ≤ S - a
            · rw [if_pos q] at h
              have b1 := nx_b (β := β) hs
              have b2 := nx_b (β := β) b1.2.1
              have b3 := nx_b (β := β) b2.2.1
              have la := yN_lt (by omega) ha
              have bl := yN_bd (a := 1) (b := 1000000) (by omega) (by omega) hl
              have r := yB3_ok (m := m) b3.2.1 (yN_lt (by omega) ho) bl.1 (by omega) hS h
              exact ⟨c, by omega, r.2.1, r.2.2⟩
            · rw [if_neg q] at h; cases h
      · rw [if_neg d] at h; cases h
  · rw [if_neg c] at h; cases h
theorem bkS_hi {r : Nat → Int32} (hn : n < 40) {k : Nat} (hk : 474 ≤ k) : bkS σ n r k = σ k := by
  have a : appS σ n r k = σ k := by unfold appS; rw [pk_un (by omega), if_neg (by omega)]
  unfold bkS
  by_cases c : bstS (appS σ n r) (n + 1) n = -1
  · rw [if_pos c]; exact a
  · rw [if_neg c]; unfold settleS putB; rw [pk_un (by omega), pk_un (by omega), pk_un (by omega)]; exact a
theorem addOS_hi {x : Int32} (hm : m < 8) {k : Nat} (hk : 474 ≤ k) : addOS σ m x k = σ k := by
  unfold addOS zr
  rw [pk_un (by omega), pk_un (by omega), if_neg (by omega)]
theorem set_ok {k : Nat} {x : Int32} (hO : OK σ n m S B) (hk : k < 4) (p1 : ¬ x < f4 0 0 1 1 k) (p2 : ¬ f4 50 99 9 9 k < x) : OK (upd σ k x) n m S B := by
  have hn := hO.1.n40
  have eb : ∀ j f, bf (upd σ k x) j f = bf σ j f := fun j f => bf_sc (by omega)
  have W2 : Wf (upd σ k x) n m S B := Wf_re hO.1 id ⟨(pk_un (by omega)).trans hO.1.cn.1, hO.1.cn.2.1, (pk_un (by omega)).trans hO.1.cn.2.2.1, hO.1.cn.2.2.2⟩ (Nat.le_refl m) (pk_un (by omega)) (pk_un (by omega)) (Sg_u hO.1.sg (by omega) p1 p2) (fun j hj => hj) (fun j k _ _ e => e) (fun j _ f _ => eb j f)
  have e7 : upd σ k x 7 = σ 7 := pk_un (by omega)
  exact ⟨W2, NF_e hO.2.1 (by rw [e7]; exact Int.le_refl _) (fun j _ f _ => eb j f), by rw [e7]; exact hO.2.2⟩
theorem wd_st {a : Nat} (hs : st ≤ T) (w : wd β T st a) : st + 1 ≤ nx β T st := (nx_b (β := β) hs).2.2 (by rw [w.1]; decide)
theorem yI_ok {s' n' m' : Nat} {σ' : Nat → Int32} (hO : OK σ n m S B) (hB : 10300 ≤ B) (hs : st ≤ T) (h : yI β T S st σ n m = .ok (s', σ', n', m')) : OK σ' n' m' S B ∧ s' ≤ T ∧ st + 1 ≤ s' ∧ ∀ k, 474 ≤ k → σ' k = σ k := by
  have hn := hO.1.n40
  have hm := hO.1.m8
  have hS : S ≤ 64 := hO.1.2.1.2.2
  have b1 := nx_b (β := β) hs
  have b2 := nx_b (β := β) b1.2.1
  have b3 := nx_b (β := β) b2.2.1
  unfold yI at h
  by_cases w1 : wd β T st 1
  · rw [if_pos w1] at h
    cases e : yO β T st σ m with
    | error x => rw [e] at h; cases h
    | ok x =>
      obtain ⟨x1, x2⟩ := x
      rw [e] at h
      obtain ⟨rfl, q1⟩ := Prod.mk.inj (Except.ok.inj h)
      obtain ⟨rfl, q2⟩ := Prod.mk.inj q1
      obtain ⟨rfl, rfl⟩ := Prod.mk.inj q2
      obtain ⟨hm8, a, _, rfl, rfl⟩ := yO_ok e
      have := wd_st hs w1
      exact ⟨⟨addOS_wf hO.1 hm8, addOS_nf hO.2.1 hm8, by rw [addOS_s (by omega) (by omega)]; exact hO.2.2⟩, b2.2.1, by omega, fun k hk => addOS_hi hm8 hk⟩
  · rw [if_neg w1] at h
    by_cases w2 : wd β T st 2
    · rw [if_pos w2] at h
      cases e : yB β T st σ n m S with
      | error x => rw [e] at h; cases h
      | ok x =>
        obtain ⟨x1, x2⟩ := x
        rw [e] at h
        obtain ⟨rfl, q1⟩ := Prod.mk.inj (Except.ok.inj h)
        obtain ⟨rfl, q2⟩ := Prod.mk.inj q1
        obtain ⟨rfl, rfl⟩ := Prod.mk.inj q2
        obtain ⟨hn4, z1, z2, r, hr, rfl⟩ := yB_ok hs hm hS e
        have := wd_st hs w2
        exact ⟨bkS_ok hO hB hn4 hr, z2, by omega, fun k hk => bkS_hi hn4 hk⟩
    · rw [if_neg w2] at h
      by_cases w3 : wd β T st 3
      · rw [if_pos w3] at h
        cases e : yS β T st σ with
        | error x => rw [e] at h; cases h
        | ok x =>
          obtain ⟨x1, x2⟩ := x
          rw [e] at h
          obtain ⟨rfl, q1⟩ := Prod.mk.inj (Except.ok.inj h)
          obtain ⟨rfl, q2⟩ := Prod.mk.inj q1
          obtain ⟨rfl, rfl⟩ := Prod.mk.inj q2
          obtain ⟨k, x, h1, h2, rfl, rfl⟩ := yS_ok e
          have := wd_st hs w3
          have k3 := yN_bd (a := 0) (b := 3) (by omega) (by omega) h1
          have y2 := yN_ok h2
          exact ⟨set_ok hO (by omega) y2.2.2.1 (Int32.not_lt.mpr y2.2.2.2.1), b3.2.1, by omega, fun j hj => pk_un (by omega)⟩
      · rw [if_neg w3] at h; cases h
end IO
