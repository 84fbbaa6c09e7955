/-! THE TEXT OF A SETUP 7: the reference reads bookings and all of it -/
section RN
variable {w : V3} {β : Nat → Nat} {T st n m S : Nat} {σ : Nat → Int32} {Q : V3 → Prop}
theorem hi_lt {k : Nat} (hk : k ≤ 1000) : (nI k - 1).toInt < 1000000 := by
  have e1 : (1 : Int32).toInt = 1 := rfl
  rw [ti_sub (by rw [ti_nI (by omega), e1]; omega) (by rw [ti_nI (by omega), e1]; omega), ti_nI (by omega), e1]
  omega
theorem MT_j {v : V3} (h : MTk w β T st) (hj : ∀ j, 10 < j → v 7 j = w 7 j) : MTk v β T st := by
  unfold MTk
  rw [hj 13 (by decide), hj 14 (by decide), hj 15 (by decide), hj 16 (by decide), hj 17 (by decide), hj 18 (by decide), hj 21 (by decide), hj 34 (by decide)]
  exact h
theorem uM_opt {a d : Nat} {lo hi : Int32} (ha : a < 6) (hg : w 7 19 = 0) (hb : BY w β T) (h : MTk w β T st) (hlo : lo.toInt ≤ 1000000) (hhi : hi.toInt < 1000000) {K : Int32 → V3 → Prop} (hE : ∀ e, yP β T a lo hi d st = .error e → ∀ w', ME w w' e → ∀ x, K x w') (hO : ∀ k s', yP β T a lo hi d st = .ok (k, s') → ∀ w', MTk w' β T s' → F7 w w' → K (nI k) w') : w_X4_accept a w (fun r v => ((r = 0 → K (nI d) v) ∧ (¬ r = 0 → w_X4_parseNumber lo hi v (fun r' v' => K r' v')))) := by
  refine uM_acc ha hg hb h (fun z => zt0 (hO d st (if_neg z) w h (F7_r w))) (fun z w1 t1 f1 => zt1 (uM_num (g7 hg f1) (BY_7 hb f1) t1 hlo hhi (fun e he w' q x => hE e ?_ w' (ME_t (FG_7 f1) (e88 (f1.1 8 (by decide))) q) x) (fun k hk w2 t2 f2 => hO k _ ?_ w2 t2 (F7_t f1 f2))))
  · unfold yP; rw [if_pos z, he]
  · unfold yP; rw [if_pos z, hk]
theorem uM_B3 {o a l s3 : Nat} (hg : w 7 19 = 0) (hb : BY w β T) (h : MTk w β T s3) (h8 : w 8 = σ) (hO : OK σ n m S 10300) (hn : n < 40) (ho : o < m) (hl1 : 1 ≤ l) (hl : a + l ≤ S) (hE : ∀ e, yB3 β T σ n o a l s3 = .error e → ∀ w', ME w w' e → Q w') (hQ : ∀ s' σ', yB3 β T σ n o a l s3 = .ok (s', σ') → ∀ w', MTk w' β T s' → w' 8 = σ' → FG w w' → Q w') : w_X4_parseBook_130 Q (nI o) (nI a) (nI l) 1 w := by
  subst h8
  have hm := hO.1.m8
  have hS : S ≤ 64 := hO.1.2.1.2.2
  unfold w_X4_parseBook_130
  have err : ∀ {e : Int32 × Nat} {u w' : V3}, F7 w u → yB3 β T (w 8) n o a l s3 = .error e → ME u w' e → Q w' := fun f he q => hE _ he _ (ME_t (FG_7 f) (e88 (f.1 8 (by decide))) q)
  refine uM_req1 (uM_adv hg hb h (fun w1 t1 f1 => uM_num (g7 hg f1) (BY_7 hb f1) t1 (by decide) (by decide) (fun e he w' q x => uE_num (ME_b q) (fun _ => uE_acc (ME_b q) (zt0 (m177 (ME_b q) (err f1 (by unfold yB3; rw [he]) q))))) (fun d hd w2 t2 f2 => ?_)))
  have F2 := F7_t f1 f2
  have bd := yN_bd (a := 1) (b := 99) (by omega) (by omega) hd
  refine uM_num (g7 hg F2) (BY_7 hb F2) t2 (by decide) (by decide) (fun e he w' q x => uE_acc (ME_b q) (zt0 (m177 (ME_b q) (err F2 (by unfold yB3; rw [hd]; simp only [he]) q)))) (fun t ht w3 t3 f3 => ?_)
  have F3 := F7_t F2 f3
  have bt := yN_bd (a := 0) (b := 9999) (by omega) (by omega) ht
  refine uM_opt (K := fun x v => w_X4_parseBook_177 Q (nI o) (nI a) (nI l) (nI d) (nI t) x v) (a := 4) (d := 0) (lo := 0) (hi := 99) (by omega) (g7 hg F3) (BY_7 hb F3) t3 (by decide) (by decide) (fun e he w' q x => m177 (ME_b q) (err F3 (by unfold yB3; rw [hd]; simp only [ht, he]) q)) (fun x s5 hx w4 t4 f4' => ?_)
  have F4 := F7_t F3 f4'
  have bx : x ≤ 99 := by
    rcases yP_ok hx with ⟨rfl, _⟩ | ⟨q, _⟩
    · omega
    · exact (yN_bd (a := 0) (b := 99) (by omega) (by omega) q).2
  unfold w_X4_parseBook_177
  refine uM_opt (K := fun u v => w_X4_parseBook_199 Q (nI o) (nI a) (nI l) (nI d) (nI t) (nI x) u v) (a := 5) (d := 1) (lo := 1) (hi := 9) (by omega) (g7 hg F4) (BY_7 hb F4) t4 (by decide) (by decide) (fun e he w' q u => m199 (ME_b q) (err F4 (by unfold yB3; rw [hd]; simp only [ht, hx, he]) q)) (fun u s6 hu w5 t5 f5 => ?_)
  have F5 := F7_t F4 f5
  unfold w_X4_parseBook_199
  refine uM_fine (g7 hg F5) (zt1 (nm_e (nm_e (nm_e ?_))))
  have e8 : up2 (up2 (up2 w5 7 8 (nI a)) 7 9 (nI l)) 7 10 (nI d) 7 8 = nI a := by rw [up2_row, pk_un (by decide), up2_row, pk_un (by decide), up2_row, pk_us]
  have e9 : up2 (up2 (up2 w5 7 8 (nI a)) 7 9 (nI l)) 7 10 (nI d) 7 9 = nI l := by rw [up2_row, pk_un (by decide), up2_row, pk_us]
  have e10 : up2 (up2 (up2 w5 7 8 (nI a)) 7 9 (nI l)) 7 10 (nI d) 7 10 = nI d := by rw [up2_row, pk_us]
  have eo : ∀ c, c ≠ 7 → up2 (up2 (up2 w5 7 8 (nI a)) 7 9 (nI l)) 7 10 (nI d) c = w5 c := fun c hc => by rw [up2_off _ _ _ hc, up2_off _ _ _ hc, up2_off _ _ _ hc]
  have ej : ∀ j, j < 8 ∨ 10 < j → up2 (up2 (up2 w5 7 8 (nI a)) 7 9 (nI l)) 7 10 (nI d) 7 j = w5 7 j := fun j hj => by rw [up2_row, pk_un (by omega), up2_row, pk_un (by omega), up2_row, pk_un (by omega)]
  generalize up2 (up2 (up2 w5 7 8 (nI a)) 7 9 (nI l)) 7 10 (nI d) = u2 at *
  have u8 : u2 8 = w 8 := (eo 8 (by decide)).trans (F5.1 8 (by decide))
  refine uM_enterB (n := n) (m := m) (S := S) (B := 10300) (by rw [u8]; exact hO) hn ?_ (fun w6 q1 q2 => ?_)
  · rw [e8, e9, e10]
    refine ⟨⟨o, ho, rfl⟩, ⟨?_, ?_, ?_⟩, ⟨?_, ?_, ?_, ?_, ?_, ?_⟩, rfl⟩
    · show 0 ≤ (nI a).toInt; rw [ti_nI (by omega)]; omega
    · show 1 ≤ (nI l).toInt; rw [ti_nI (by omega)]; omega
    · show (nI a).toInt + (nI l).toInt ≤ S; rw [ti_nI (by omega), ti_nI (by omega)]; omega
    · show 1 ≤ (nI d).toInt; rw [ti_nI (by omega)]; omega
    · show (nI d).toInt ≤ 99; rw [ti_nI (by omega)]; omega
    · show 0 ≤ (nI t).toInt; rw [ti_nI (by omega)]; omega
    · show (nI t).toInt ≤ 9999; rw [ti_nI (by omega)]; omega
    · show 0 ≤ (nI x).toInt; rw [ti_nI (by omega)]; omega
    · show (nI x).toInt ≤ 99; rw [ti_nI (by omega)]; omega
  · rw [e8, e9, e10, u8] at q1
    have g5 : FG w5 w6 := ⟨⟨fun c a b => (q2 c b).trans (eo c a), fun j hj => by rw [q2 7 (by decide)]; exact ej j (by unfold km at hj; omega)⟩, by rw [q2 7 (by decide)]; exact ej 19 (by omega), by rw [q2 7 (by decide)]; exact ej 20 (by omega)⟩
    exact hQ s6 _ (by unfold yB3; rw [hd]; simp only [ht, hx, hu]) w6 (MT_j t5 (fun j hj => by rw [q2 7 (by decide)]; exact ej j (.inr hj))) q1 (FG_t (FG_7 F5) g5)
theorem uM_book (hg : w 7 19 = 0) (hb : BY w β T) (h : MTk w β T st) (h8 : w 8 = σ) (hO : OK σ n m S 10300) (hE : ∀ e, yB β T st σ n m S = .error e → ∀ w', ME w w' e → Q w') (hQ : ∀ s' σ', yB β T st σ n m S = .ok (s', σ') → ∀ w', MTk w' β T s' → w' 8 = σ' → FG w w' → Q w') : w_X4_parseBook w Q := by
  subst h8
  have hm := hO.1.m8
  have hn := hO.1.n40
  have hS : S ≤ 64 := hO.1.2.1.2.2
  have hC := hO.1.cn
  unfold w_X4_parseBook
  rw [hC.2.2.1]
  have k40 : 40 ≤ nI n ↔ 40 ≤ n := nI_leI (a := 40) (by omega) (by omega)
  refine br_c (fun c => uM_req0 hg h.2.2.1 (by decide) (fun w' q => ?_)) (fun c => ?_)
  · have r := hE (3, st) (if_neg (by have := k40.mp c; omega)) w' q
    have d := ME_b q
    exact uE_adv d (uE_look d (uE_fine d (zt0 (m71 d r))))
  · have c : n < 40 := by have : ¬ 40 ≤ n := fun z => c (k40.mpr z); omega
    have err : ∀ {e : Int32 × Nat} {u w' : V3}, F7 w u → yB β T st (w 8) n m S = .error e → ME u w' e → Q w' := fun f he q => hE _ he _ (ME_t (FG_7 f) (e88 (f.1 8 (by decide))) q)
    unfold w_X4_parseBook_18
    refine uM_req1 (uM_adv hg hb h (fun w1 t1 f1 => ?_))
    have g1 := g7 hg f1
    have s1 : w1 8 = w 8 := f1.1 8 (by decide)
    rw [s1, hC.1]
    refine uM_look g1 t1 (by decide) (hi_lt (by omega)) (fun e he w' q => uE_fine (ME_b q) (zt0 (m71 (ME_b q) (err f1 (by unfold yB; rw [if_pos c, he]) q)))) (fun o ho e => uM_fine g1 (zt1 ?_))
    have lo := yN_lt (by omega) ho
    rw [e]
    refine uM_open (n := n) (m := m) (by rw [s1]; exact hC) (by rw [s1]; exact hO.1.2.2.1) ?_
    rw [s1]
    have k71 : ¬ opnS (w 8) n (nI o) < (w 8) 2 → w_X4_parseBook_71 Q (nI o) 0 w1 := fun d => uM_req0 g1 t1.2.2.1 (by decide) (fun w' q => by
      have r := err f1 (by unfold yB; rw [if_pos c, ho]; simp only []; rw [if_neg d]) q
      have b := ME_b q
      exact uE_adv b (uE_num b (fun _ => uE_look b (uE_fine b (zt0 (m130 b r))))))
    refine br_c (fun d => k71 (Int32.not_lt.mpr d)) (fun d => ?_)
    have d : opnS (w 8) n (nI o) < (w 8) 2 := Int32.not_le.mp d
    have key : yB β T st (w 8) n m S = yB2 β T (w 8) n S o (nx β T (nx β T st)) := by
      unfold yB; rw [if_pos c, ho]; simp only []; rw [if_pos d]
    unfold w_X4_parseBook_66 w_X4_parseBook_71
    refine uM_req1 (uM_adv g1 (BY_7 hb f1) t1 (fun w2 t2 f2 => ?_))
    have F2 := F7_t f1 f2
    have s2 : w2 8 = w 8 := F2.1 8 (by decide)
    rw [s2, hO.1.1.2.1]
    refine uM_num (g7 hg F2) (BY_7 hb F2) t2 (by decide) (hi_lt (by omega)) (fun e he w' q x => uE_look (ME_b q) (uE_fine (ME_b q) (zt0 (m130 (ME_b q) (err F2 (by rw [key]; unfold yB2; rw [he]) q))))) (fun a ha w3 t3 f3 => ?_)
    have F3 := F7_t F2 f3
    have g3 := g7 hg F3
    have la := yN_lt (by omega) ha
    have s3 : w3 8 = w 8 := F3.1 8 (by decide)
    refine uM_lookL g3 t3 (fun e he w' q => uE_fine (ME_b q) (zt0 (m130 (ME_b q) (err F3 (by rw [key]; unfold yB2; rw [ha]; simp only [he]) q)))) (fun l b hl e1 e2 e3 => uM_fine g3 (zt1 ?_))
    have bl := yN_bd (a := 1) (b := 1000000) (by omega) (by omega) hl
    rw [e1, s3, hO.1.1.2.1, nI_add]
    have kS : nI S < nI (a + b) ↔ S < a + b := nI_ltI (by omega) (by omega)
    refine br_c (fun p => ?_) (fun p => ?_)
    · have p := kS.mp p
      have key2 : yB β T st (w 8) n m S = .error (4, nx β T (nx β T (nx β T st))) := by
        rw [key]; unfold yB2; rw [ha]; simp only [hl]; exact if_neg (by omega)
      exact uM_req0 g3 t3.2.2.1 (by decide) (fun w' q => by
        have r := err F3 key2 q
        have d := ME_b q
        exact uE_adv d (uE_num d (fun _ => uE_num d (fun _ => uE_acc d (zt0 (m177 d r))))))
    · have p : ¬ S < a + b := fun z => p (kS.mpr z)
      obtain rfl : b = l := by omega
      have key2 : yB β T st (w 8) n m S = yB3 β T (w 8) n o a b (nx β T (nx β T (nx β T st))) := by
        rw [key]; unfold yB2; rw [ha]; simp only [hl]; exact if_pos (by omega)
      exact uM_B3 g3 (BY_7 hb F3) t3 s3 hO c lo bl.1 (by omega) (fun e he w' q => err F3 (key2.trans he) q) (fun s' σ' hs w' p1 p2 p3 => hQ s' σ' (key2.trans hs) w' p1 p2 (FG_t (FG_7 F3) p3))
end RN
