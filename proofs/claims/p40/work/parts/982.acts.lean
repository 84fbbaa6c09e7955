/-! THE CLASS'S CALLS OVER A LEDGER IN ORDER: those that change it -/
theorem us_withinx {a lo hi : Int32} {v : V3} {X : String → V3 → Prop} {P : V3 → Prop} (h1 : lo.toInt ≤ a.toInt) (h2 : a.toInt ≤ hi.toInt) (h : P v) : w_X3_needWithinx a lo hi v X P :=
  ⟨fun q => absurd (ti_lt.mp q) (by omega), fun _ => ⟨fun _ => h, fun q => absurd (ti_le.mpr h2) q⟩⟩
section UA
variable {v : V3} {n m : Nat} {σ : Nat → Int32} {B : Int}
theorem us_needOx (hL : LA v 8 σ n m) (hm : m ≤ 8) {i : Nat} (hi : i < m) {X : String → V3 → Prop} {P : V3 → Prop} (h : P v) : w_X3_needOwnerx (nI i) v X P := by
  refine ⟨fun q => absurd q (nI_pos (by omega)), fun _ => ?_⟩
  rw [hL.m7]
  exact ⟨fun _ => h, fun q => absurd (ti_lt.mpr (by rw [ti_nI (by omega), ti_nI (by omega)]; omega)) q⟩
theorem us_needBx (hL : LA v 8 σ n m) (hn : n ≤ 40) {i : Nat} (hi : i < n) {X : String → V3 → Prop} {P : V3 → Prop} (h : P v) : w_X3_needBookingx (nI i) v X P := by
  refine ⟨fun q => absurd q (nI_pos (by omega)), fun _ => ?_⟩
  rw [hL.n8]
  exact ⟨fun _ => h, fun q => absurd (ti_lt.mpr (by rw [ti_nI (by omega), ti_nI (by omega)]; omega)) q⟩
theorem us_set (hL : LA v 8 σ n m) (hn : n ≤ 40) (hm : m ≤ 8) {k : Nat} (hk : k < 4) {a : Int32} (h1 : (f4 0 0 1 1 k).toInt ≤ a.toInt) (h2 : a.toInt ≤ (f4 50 99 9 9 k).toInt) {Q : Int32 → V3 → Prop} (h : ∀ v', LA v' 8 (upd σ k a) n m → Fr 8 v v' → Q (σ k) v') : w_L_set (nI k) a v Q := by
  rw [w_L_set]
  have e : ix (nI k) = k := nI_clamp (by omega)
  have hv : vp_in (nI k) 4 := vp_in_nI hk (by decide)
  refine us_within (by rw [ti_nI (by omega)]; exact Int.ofNat_nonneg k) (by rw [ti_nI (by omega), show (3 : Int32).toInt = 3 from rfl]; omega) ⟨hv, hv, ?_⟩
  rw [e]
  refine us_within h1 h2 ⟨hv, hv, nm_e ?_⟩
  rw [hL.st hk]
  exact h _ (LA_s hL hn hm hk) (Fr_u (Fr_r 8 v) (by omega) (by omega))
theorem us_addOwner (hL : LA v 8 σ n m) (hm : m < 8) {a : Int32} (h1 : 0 ≤ a.toInt) (h2 : a.toInt ≤ 999) {Q : Int32 → V3 → Prop} (h : ∀ v', LA v' 8 (addOS σ m a) n (m + 1) → Fr 8 v v' → Q (nI m) v') : w_L_addOwner a v Q := by
  rw [w_L_addOwner]
  refine us_within h1 h2 ?_
  rw [hL.m7]
  exact br_t (nI_lt (b := 8) hm (by decide)) (uC_enterO hL hm h)
theorem us_book (hL : LA v 8 σ n m) (hO : OK σ n m 32 B) (hB : 10300 ≤ B) {k : Nat} (hk : k < m) {a f u : Int32} (ha : 0 ≤ a.toInt ∧ a.toInt ≤ 9999) (hf : 0 ≤ f.toInt ∧ f.toInt ≤ 99) (hu : 1 ≤ u.toInt ∧ u.toInt ≤ 9) (haf : (σ 7).toInt ≤ a.toInt + f.toInt) (hr : Rn (rw7 (nI k) (v 0 9) (v 0 10) (v 0 11) a f u) m 32) {Q : Int32 → V3 → Prop} (h0 : ¬ (n < 40 ∧ opnS σ n (nI k) < σ 2 ∧ brk σ k < σ 3) → Q (-103) v) (h1 : n < 40 → opnS σ n (nI k) < σ 2 → brk σ k < σ 3 → ∀ v', LA v' 8 (bkS σ n (rw7 (nI k) (v 0 9) (v 0 10) (v 0 11) a f u)) (n + 1) m → Fr 8 v v' → Q (nI n) v') : w_L_book (nI k) a f u v Q := by
  rw [w_L_book]
  have hn := hO.1.n40
  have hm := hO.1.m8
  have xx : ∀ {P : Prop}, ¬ (n < 40 ∧ opnS σ n (nI k) < σ 2 ∧ brk σ k < σ 3) → XL [(eIO, (-101)), (eIA, (-102)), (eIS, (-103))] Q eIS v := fun z => ⟨-103, by simp, h0 z⟩
  refine us_needOx hL hm hk (us_withinx ha.1 ha.2 (us_withinx hf.1 hf.2 (us_withinx hu.1 hu.2 ?_)))
  rw [hL.tm, hL.n8]
  refine br_t (ti_le.mpr (by rw [ti_add (by omega) (by omega)]; exact haf)) (br_c (fun c => ?_) (fun c => xx (P := True) (fun z => c (nI_lt (b := 40) z.1 (by decide)))))
  have c' : n < 40 := Classical.byContradiction (fun z => nI_nlt (a := n) (b := 40) (by omega) (by omega) c)
  refine uC_lim hL hn ?_
  by_cases d : opnS σ n (nI k) < σ 2
  · rw [if_pos d]
    refine nt0 (uC_barred hL hm hk ?_)
    by_cases e : brk σ k < σ 3
    · rw [if_pos e]
      exact zt0 (uC_enterB hL hO hB c' hr (h1 c' d e))
    · rw [if_neg e]
      exact zt1 (xx (P := True) (fun z => e z.2.2))
  · rw [if_neg d]
    exact nt1 (xx (P := True) (fun z => d z.2.1))
/-- the states behind the acts, before those who wait are placed -/
def arvS (σ : Nat → Int32) (i : Nat) : Nat → Int32 := addO (putB σ i 7 2) i 6 (σ 7 - bf σ i 8)
def lveS (σ : Nat → Int32) (i : Nat) : Nat → Int32 := addO (putB (putB σ i 7 3) i 9 (σ 7)) i 1 1
def extS (σ : Nat → Int32) (i : Nat) (x : Int32) : Nat → Int32 := putB σ i 9 (bf σ i 9 + x)
def lateC (σ : Nat → Int32) (i : Nat) : Bool := decide (bf σ i 7 = 1 ∧ ¬ σ 7 + σ 1 ≤ bf σ i 8)
def cncS (σ : Nat → Int32) (i : Nat) : Nat → Int32 := putB (if lateC σ i = true then addO σ i 3 1 else σ) i 7 4
def evcS (σ : Nat → Int32) (i : Nat) : Nat → Int32 := addO (awaitS σ i) i 4 1
theorem us_arrive (hL : LA v 8 σ n m) (hO : OK σ n m 32 B) {i : Nat} (hi : i < n) {Q : Int32 → V3 → Prop} (h1 : ¬ bf σ i 7 = 1 → Q 1 v) (h2 : bf σ i 7 = 1 → ¬ bf σ i 8 ≤ σ 7 → Q 2 v) (h0 : bf σ i 7 = 1 → bf σ i 8 ≤ σ 7 → ∀ v', LA v' 8 (arvS σ i) n m → Fr 8 v v' → Q 0 v') : w_L_arrive (nI i) v Q := by
  rw [w_L_arrive]
  have hn := hO.1.n40
  have hm := hO.1.m8
  refine us_needB hL hn hi ⟨nx_in hi hn, ?_⟩
  rw [nx_ix hi hn, hL.bk hi 7 (by omega), hL.bk hi 8 (by omega), hL.tm]
  refine br_c (fun c => br_c (fun d => nm_e ?_) (fun d => h2 c d)) h1
  have hL1 := LA_b hL hn hm hi (f := 7) (x := 2) (by omega)
  have ok := hold_ok hO.1 hO.2.1 hi c
  obtain ⟨⟨e0, o0⟩, hL2⟩ := LA_add hL1 hm ok.1.ow hi (f := 6) (x := σ 7 - bf σ i 8) (by omega)
  have e8 : (up2 v (8 + 14 + i) 7 2) (8 + 14 + i) 8 = bf σ i 8 := by rw [hL1.bk hi 8 (by omega), bf_put (by omega) (by omega), if_neg (by omega)]
  have e7 : (up2 v (8 + 14 + i) 7 2) 8 6 = σ 7 := by rw [up2_off _ _ _ (by omega)]; exact hL.tm
  rw [e0, e8, e7, show ix (nI (ownI (putB σ i 7 2) i)) = ownI (putB σ i 7 2) i from nI_clamp (by omega)]
  exact ⟨vp_in_nI (by omega) (by decide), nm_e (h0 c d _ hL2 (Fr_u (Fr_u (Fr_r 8 v) (by omega) (by omega)) (by omega) (by omega)))⟩
theorem lve_wf {σ : Nat → Int32} {n m S i : Nat} {B : Int} (h : Wf σ n m S B) (hi : i < n) : Wf (lveS σ i) n m S B := by
  have W1 := gone_ok h hi (s := 3) (by omega)
  have W2 := free_ok (f := 9) (x := σ 7) W1 hi (by omega) (by
    unfold lvB
    rw [bf_put (by omega) (by omega), if_pos ⟨rfl, rfl⟩]
    decide)
  exact wf_A (f := 1) (x := 1) W2 hi (by omega)
theorem us_leavex (hL : LA v 8 σ n m) (hO : OK σ n m 32 B) (hB : 10300 ≤ B) {i : Nat} (hi : i < n) {Q : Int32 → V3 → Prop} (h1 : ¬ bf σ i 7 = 2 → Q 1 v) (h0 : bf σ i 7 = 2 → ∀ v', LA v' 8 (pl (lveS σ i) n) n m → Fr 8 v v' → Q 0 v') : w_L_leave (nI i) v Q := by
  rw [w_L_leave]
  have hn := hO.1.n40
  have hm := hO.1.m8
  refine us_needBx hL hn hi ⟨nx_in hi hn, ?_⟩
  rw [nx_ix hi hn, hL.bk hi 7 (by omega)]
  refine br_c (fun c => nm_e (nm_e ?_)) h1
  have hL1 := LA_b hL hn hm hi (f := 7) (x := 3) (by omega)
  have e7 : (up2 v (8 + 14 + i) 7 3) 8 6 = σ 7 := by rw [up2_off _ _ _ (by omega)]; exact hL.tm
  rw [e7]
  have hL2 := LA_b hL1 hn hm hi (f := 9) (x := σ 7) (by omega)
  have W1 := gone_ok hO.1 hi (s := 3) (by omega)
  have W2 := free_ok (f := 9) (x := σ 7) W1 hi (by omega) (by
    unfold lvB
    rw [bf_put (by omega) (by omega), if_pos ⟨rfl, rfl⟩]
    decide)
  obtain ⟨⟨e0, o0⟩, hL3⟩ := LA_add hL2 hm W2.ow hi (f := 1) (x := 1) (by omega)
  rw [e0, show ix (nI (ownI (putB (putB σ i 7 3) i 9 (σ 7)) i)) = ownI (putB (putB σ i 7 3) i 9 (σ 7)) i from nI_clamp (by omega)]
  refine ⟨vp_in_nI (by omega) (by decide), nm_e ?_⟩
  exact act_C hL3 (lve_wf hO.1 hi) hB (fun v' hL' hF' => h0 c v' hL' (Fr_t (Fr_u (Fr_u (Fr_u (Fr_r 8 v) (by omega) (by omega)) (by omega) (by omega)) (by omega) (by omega)) hF'))
theorem us_leave0 (hL : LA v 8 σ 0 m) {Q : Int32 → V3 → Prop} (h : Q (-101) v) : w_L_leave 0 v Q := by
  rw [w_L_leave]
  refine ⟨fun q => absurd q (by decide), fun _ => ?_⟩
  rw [hL.n8]
  exact ⟨fun q => absurd q (by decide), fun _ => ⟨-101, by simp, h⟩⟩
theorem us_extend (hL : LA v 8 σ n m) (hO : OK σ n m 32 B) (hB : 10300 ≤ B ∧ B ≤ 900000) {i : Nat} (hi : i < n) {x : Int32} (hx : 1 ≤ x.toInt ∧ x.toInt ≤ 99) {Q : Int32 → V3 → Prop} (h1 : lvB σ i = false → Q 1 v) (h3 : lvB σ i = true → Q 3 v) (h0 : lvB σ i = true → Wf (extS σ i x) n m 32 (B + 99) → ∀ v', LA v' 8 (pl (extS σ i x) n) n m → Fr 8 v v' → Q 0 v') : w_L_extend (nI i) x v Q := by
  rw [w_L_extend]
  have hn := hO.1.n40
  have hm := hO.1.m8
  have live : lvB σ i = true → w_X3_extend_40 Q (nI i) x i v := by
    intro hl
    unfold w_X3_extend_40
    rw [hL.bk hi 8 (by omega), hL.bk hi 9 (by omega)]
    refine uC_would hL hn hi ?_
    rw [clS_ii hn]
    by_cases c : clS σ n (bf σ i 1) (bf σ i 2) (bf σ i 8) (bf σ i 9 + x) (nI i) (-1) = -1
    · rw [if_pos c]
      refine zt0 (nm_e ?_)
      rw [hL.bk hi 9 (by omega)]
      have hL1 := LA_b hL hn hm hi (f := 9) (x := bf σ i 9 + x) (by omega)
      have W1 := ext_ok hO.1 (by omega) hi hl hx c
      exact act_C hL1 W1 (by omega) (fun v' hL' hF' => h0 hl W1 v' hL' (Fr_t (Fr_u (Fr_r 8 v) (by omega) (by omega)) hF'))
    · rw [if_neg c]
      exact zt1 (h3 hl)
  refine us_needB hL hn hi (us_within hx.1 hx.2 ⟨nx_in hi hn, ?_⟩)
  rw [nx_ix hi hn, hL.bk hi 7 (by omega)]
  refine br_c (fun c => live (by unfold lvB; exact decide_eq_true (.inl c))) (fun c => br_c (fun d => live (by unfold lvB; exact decide_eq_true (.inr d))) (fun d => h1 (by unfold lvB; exact decide_eq_false (fun z => z.elim c d))))
theorem cnc_wf {σ : Nat → Int32} {n m S i : Nat} {B : Int} (h : Wf σ n m S B) (hi : i < n) : Wf (cncS σ i) n m S B := by
  unfold cncS
  refine gone_ok (s := 4) ?_ hi (by omega)
  by_cases c : lateC σ i = true
  · rw [if_pos c]; exact wf_A h hi (by omega)
  · rw [if_neg c]; exact h
theorem us_cancel (hL : LA v 8 σ n m) (hO : OK σ n m 32 B) (hB : 10300 ≤ B) {i : Nat} (hi : i < n) {Q : Int32 → V3 → Prop} (h1 : ¬ bf σ i 7 = 0 → ¬ bf σ i 7 = 1 → Q 1 v) (h0 : (bf σ i 7 = 0 ∨ bf σ i 7 = 1) → ∀ v', LA v' 8 (pl (cncS σ i) n) n m → Fr 8 v v' → Q 0 v') : w_L_cancel (nI i) v Q := by
  rw [w_L_cancel]
  have hn := hO.1.n40
  have hm := hO.1.m8
  have go : ∀ (τ : Nat → Int32) (v1 : V3), LA v1 8 τ n m → Fr 8 v v1 → putB τ i 7 4 = cncS σ i → (∀ v', LA v' 8 (pl (cncS σ i) n) n m → Fr 8 v v' → Q 0 v') → w_X3_cancel_81 Q i v1 := by
    intro τ v1 hL1 hF e hq
    refine nm_e ?_
    have hL2 := LA_b hL1 hn hm hi (f := 7) (x := 4) (by omega)
    rw [e] at hL2
    exact act_C hL2 (cnc_wf hO.1 hi) hB (fun v' hL' hF' => hq v' hL' (Fr_t (Fr_u hF (by omega) (by omega)) hF'))
  have key : (bf σ i 7 = 0 ∨ bf σ i 7 = 1) → w_X3_cancel_32 Q i v := by
    intro hb
    unfold w_X3_cancel_32
    rw [hL.bk hi 7 (by omega), hL.bk hi 8 (by omega), hL.bk hi 0 (by omega), hL.tm, hL.st (by omega)]
    refine ntc (fun c => ?_) (fun c => br_c (fun d => ?_) (fun d => ?_))
    · have e : lateC σ i = false := by unfold lateC; exact decide_eq_false (fun z => c z.1)
      exact go σ v hL (Fr_r 8 v) (by unfold cncS; rw [if_neg (by rw [e]; decide)]) (h0 hb)
    · have e : lateC σ i = false := by unfold lateC; exact decide_eq_false (fun z => z.2 d)
      exact go σ v hL (Fr_r 8 v) (by unfold cncS; rw [if_neg (by rw [e]; decide)]) (h0 hb)
    · have e : lateC σ i = true := by unfold lateC; exact decide_eq_true ⟨c, d⟩
      obtain ⟨⟨e0, o0⟩, hL2⟩ := LA_add hL hm hO.1.ow hi (f := 3) (x := 1) (by omega)
      rw [← hL.bk hi 0 (by omega), e0, show ix (nI (ownI σ i)) = ownI σ i from nI_clamp (by omega)]
      exact ⟨vp_in_nI (by omega) (by decide), nm_e (go (addO σ i 3 1) _ hL2 (Fr_u (Fr_r 8 v) (by omega) (by omega)) (by unfold cncS; rw [if_pos e]) (h0 hb))⟩
  refine us_needB hL hn hi ⟨nx_in hi hn, ?_⟩
  rw [nx_ix hi hn, hL.bk hi 7 (by omega)]
  exact br_c (fun c => key (.inl c)) (fun c => br_c (fun d => key (.inr d)) (fun d => h1 c d))
theorem evc_wf {σ : Nat → Int32} {n m S i : Nat} {B : Int} (h : Wf σ n m S B) (hi : i < n) : Wf (evcS σ i) n m S B := wf_A (f := 4) (x := 1) (await_ok h hi) hi (by omega)
theorem us_evict (hL : LA v 8 σ n m) (hO : OK σ n m 32 B) (hB : 10300 ≤ B) {i : Nat} (hi : i < n) {Q : Int32 → V3 → Prop} (h1 : ¬ bf σ i 7 = 1 → Q 1 v) (h0 : bf σ i 7 = 1 → ∀ v', LA v' 8 (pl (evcS σ i) n) n m → Fr 8 v v' → Q 0 v') : w_L_evict (nI i) v Q := by
  rw [w_L_evict]
  have hn := hO.1.n40
  have hm := hO.1.m8
  refine us_needB hL hn hi ⟨nx_in hi hn, ?_⟩
  rw [nx_ix hi hn, hL.bk hi 7 (by omega)]
  refine br_c (fun c => ?_) h1
  refine uC_letWait hL hn hm hi (fun v5 hL5 f5 => ?_)
  have W1 := await_ok hO.1 hi
  obtain ⟨⟨e0, o0⟩, hL6⟩ := LA_add hL5 hm W1.ow hi (f := 4) (x := 1) (by omega)
  rw [e0, show ix (nI (ownI (awaitS σ i) i)) = ownI (awaitS σ i) i from nI_clamp (by omega)]
  refine ⟨vp_in_nI (by omega) (by decide), nm_e ?_⟩
  have F5 : Fr 8 v v5 := fun c hc => f5 c (by omega)
  exact act_C hL6 (evc_wf hO.1 hi) hB (fun v' hL' hF' => h0 c v' hL' (Fr_t (Fr_u F5 (by omega) (by omega)) hF'))
theorem us_swapx (hL : LA v 8 σ n m) (hO : OK σ n m 32 B) (hB : 10300 ≤ B) {i j : Nat} (hi : i < n) (hj : j < n) {Q : Int32 → V3 → Prop} (he : i = j → Q (-102) v) (h1 : ¬ i = j → ¬ (bf σ i 7 = 1 ∧ bf σ j 7 = 1) → Q 1 v) (h4 : ¬ i = j → bf σ i 7 = 1 → bf σ j 7 = 1 → candS σ n i j = 0 → Q 4 v) (h0 : ¬ i = j → bf σ i 7 = 1 → bf σ j 7 = 1 → swpOk σ n i j → ¬ candS σ n i j = 0 → ∀ v', LA v' 8 (pl (swpF σ i j) n) n m → Fr 8 v v' → Q 0 v') : w_L_swap (nI i) (nI j) v Q := by
  rw [w_L_swap]
  have hn := hO.1.n40
  have hm := hO.1.m8
  refine us_needBx hL hn hi (us_needBx hL hn hj (ntc (fun c => ?_) (fun c => ⟨-102, by simp, he ((nI_eq (by omega) (by omega)).mp c)⟩)))
  have ne : ¬ i = j := fun z => c (by rw [z])
  refine uC_isIn hL hn hi ?_
  by_cases d1 : bf σ i 7 = 1
  · rw [if_pos d1]
    refine zt1 (uC_isIn hL hn hj ?_)
    by_cases d2 : bf σ j 7 = 1
    · rw [if_pos d2]
      refine nt1 (uC_swapGain hL hn hi hj (fun k => ntc (fun nz => ?_) (fun z => h4 ne d1 d2 (by unfold candS; rw [if_pos k]; exact z))) (fun k => nt0 (h4 ne d1 d2 (by unfold candS; rw [if_neg k]))))
      refine uC_makeSwap hL hn hm hO.1.ow hi hj ne (fun v13 hL1 hF1 => ?_)
      exact act_C hL1 (swpF_wf hO.1 hi hj ne d1 d2 k) hB (fun v' hL' hF' => h0 ne d1 d2 k (by unfold candS; rw [if_pos k]; exact nz) v' hL' (Fr_t hF1 hF'))
    · rw [if_neg d2]
      exact nt0 (h1 ne (fun z => d2 z.2))
  · rw [if_neg d1]
    exact zt0 (h1 ne (fun z => d1 z.1))
theorem us_buy (hL : LA v 8 σ n m) (hO : OK σ n m 32 B) (hB : 10300 ≤ B) {i j : Nat} (hi : i < n) (hj : j < n) {Q : Int32 → V3 → Prop} (h1 : ¬ (bf σ i 7 = 0 ∧ bf σ j 7 = 1) → Q 1 v) (h4 : bf σ i 7 = 0 → bf σ j 7 = 1 → candB σ n i j = 0 → Q 4 v) (h0 : ¬ i = j → bf σ i 7 = 0 → bf σ j 7 = 1 → buyOk σ n i j → ¬ candB σ n i j = 0 → ∀ v', LA v' 8 (pl (buyF σ i j) n) n m → Fr 8 v v' → Q 0 v') : w_L_buy (nI i) (nI j) v Q := by
  rw [w_L_buy]
  have hn := hO.1.n40
  have hm := hO.1.m8
  refine us_needB hL hn hi (us_needB hL hn hj (uC_isIn hL hn hi ?_))
  by_cases d1 : bf σ i 7 = 0
  · rw [if_pos d1]
    refine zt1 (uC_isIn hL hn hj ?_)
    by_cases d2 : bf σ j 7 = 1
    · rw [if_pos d2]
      have ne : ¬ i = j := fun z => by
        rw [z] at d1
        exact absurd (d1.symm.trans d2) (by decide)
      refine nt1 (uC_buyGain hL hn hm hO.1.ow hi hj (fun k => ntc (fun nz => ?_) (fun z => h4 d1 d2 (by unfold candB; rw [if_pos k]; exact z))) (fun k => nt0 (h4 d1 d2 (by unfold candB; rw [if_neg k]))))
      refine uC_makeBuy hL hn hm hO.1.ow hi hj ne (bk_ne hO.1 hj d2) (fun v13 hL1 hF1 => ?_)
      exact act_C hL1 (buyF_wf hO.1 hB hi hj ne d1 d2 k) hB (fun v' hL' hF' => h0 ne d1 d2 k (by unfold candB; rw [if_pos k]; exact nz) v' hL' (Fr_t hF1 hF'))
    · rw [if_neg d2]
      exact nt0 (h1 (fun z => d2 z.2))
  · rw [if_neg d1]
    exact zt0 (h1 (fun z => d1 z.1))
/-- the best bargain made -/
def barF (σ : Nat → Int32) (n : Nat) : Nat → Int32 := if (bestB σ n).2.1 = 0 then swpF σ (bestB σ n).2.2.1 (bestB σ n).2.2.2 else buyF σ (bestB σ n).2.2.1 (bestB σ n).2.2.2
theorem barF_wf (h : Wf σ n m 32 B) (hB : 10300 ≤ B) (hb : ¬ (bestB σ n).1 = 0) : Wf (barF σ n) n m 32 B := by
  obtain ⟨⟨b1, b2, b3, b4⟩, b5⟩ := (BI_bestB σ n).2 hb
  unfold barF
  rcases b5 with ⟨k, s, ok⟩ | ⟨k, s, ok⟩
  · rw [if_pos k]; exact swpF_wf h b1 b2 b3 s b4 ok
  · rw [if_neg (by rw [k]; decide)]; exact buyF_wf h hB b1 b2 b3 s b4 ok
theorem us_bargain (hL : LA v 8 σ n m) (hO : OK σ n m 32 B) (hB : 10300 ≤ B) {Q : Int32 → V3 → Prop} (h5 : (bestB σ n).1 = 0 → ∀ v' : V3, (∀ c, c ≠ 5 → v' c = v c) → Q 5 v') (h0 : ¬ (bestB σ n).1 = 0 → ∀ v', LA v' 8 (pl (barF σ n) n) n m → (∀ c, c < 8 ∨ 62 ≤ c → c ≠ 5 → v' c = v c) → Q 0 v') : w_X3_bargain v Q := by
  have hn := hO.1.n40
  have hm := hO.1.m8
  refine uC_findBest hL hn hm hO.1.ow (fun v1 c1 f1 => ?_)
  by_cases c : (bestB σ n).1 = 0
  · rw [if_pos c]
    exact nt0 (h5 c v1 f1)
  · rw [if_neg c]
    obtain ⟨⟨b1, b2, b3, b4⟩, b5⟩ := (BI_bestB σ n).2 c
    have hL1 := LA_5 hL hn hm f1
    obtain ⟨e1, e2, e3, -⟩ := c1.2 c
    have W1 := barF_wf hO.1 hB c
    refine nt1 ?_
    unfold w_X0_makeFound
    rw [e1, e2, e3]
    rcases b5 with ⟨k, s, ok⟩ | ⟨k, s, ok⟩
    · have eb : barF σ n = swpF σ (bestB σ n).2.2.1 (bestB σ n).2.2.2 := by unfold barF; rw [if_pos k]
      rw [k]
      refine ntc (fun z => absurd rfl z) (fun _ => uC_makeSwap hL1 hn hm hO.1.ow b1 b2 b3 (fun v2 hL2 hF2 => ?_))
      rw [← eb] at hL2
      exact act_C hL2 W1 hB (fun v' hL' hF' => h0 c v' hL' (fun c0 hc h5 => by rw [hF' c0 hc, hF2 c0 hc, f1 c0 h5]))
    · have eb : barF σ n = buyF σ (bestB σ n).2.2.1 (bestB σ n).2.2.2 := by unfold barF; rw [if_neg (by rw [k]; decide)]
      rw [k]
      refine ntc (fun _ => uC_makeBuy hL1 hn hm hO.1.ow b1 b2 b3 (bk_ne hO.1 b2 b4) (fun v2 hL2 hF2 => ?_)) (fun z => absurd z (by decide))
      rw [← eb] at hL2
      exact act_C hL2 W1 hB (fun v' hL' hF' => h0 c v' hL' (fun c0 hc h5 => by rw [hF' c0 hc, hF2 c0 hc, f1 c0 h5]))
theorem us_pass (hL : LA v 8 σ n m) (hO : OK σ n m 32 B) (hB : 10300 ≤ B) {K : Nat} (hK : 1 ≤ K ∧ K ≤ 200) (ht : (σ 7).toInt + K ≤ 20000) {Q : Int32 → V3 → Prop} (h : ∀ v', LA v' 8 (tkN n K (σ, fun _ => 0)).1 n m → Fr 8 v v' → Q ((tkN n K (σ, fun _ => 0)).2 0) v') : w_L_pass (nI K) v Q := by
  rw [w_L_pass]
  have t0 := hO.1.t0
  refine us_within (by rw [ti_nI (by omega)]; exact Int.ofNat_le.mpr hK.1) (by rw [ti_nI (by omega), show (200 : Int32).toInt = 200 from rfl]; omega) ?_
  rw [hL.tm]
  have e : (20000 - nI K : Int32).toInt = 20000 - (K : Int) := by
    rw [ti_sub (by rw [ti_nI (by omega), show (20000 : Int32).toInt = 20000 from rfl]; omega) (by rw [ti_nI (by omega), show (20000 : Int32).toInt = 20000 from rfl]; omega), ti_nI (by omega)]; rfl
  exact br_t (ti_le.mpr (by rw [e]; omega)) (uC_ticks (x := 0) hL hO.1 hO.2.1 hB (by omega) (by omega) (by omega) h)
theorem us_passx {Q : Int32 → V3 → Prop} (h : Q (-102) v) : w_L_passx 201 v Q := by
  rw [w_L_passx]
  exact ⟨fun q => absurd q (by decide), fun _ => ⟨fun q => absurd q (by decide), fun _ => ⟨-102, by simp, h⟩⟩⟩
theorem us_ahead (hL : LA v 8 σ n m) (hO : OK σ n m 32 B) (hB : 10300 ≤ B) {K x : Nat} (hK : 1 ≤ K ∧ K ≤ 200) (hx : x < 4) {Q : Int32 → V3 → Prop} (h : ∀ v', Fr 62 v v' → Q ((tkN n K (σ, fun _ => 0)).2 x) v') : w_L_ahead (nI K) (nI x) v Q := by
  rw [w_L_ahead]
  have hn := hO.1.n40
  have hm := hO.1.m8
  have t1 := hO.2.2
  refine us_within (by rw [ti_nI (by omega)]; exact Int.ofNat_le.mpr hK.1) (by rw [ti_nI (by omega), show (200 : Int32).toInt = 200 from rfl]; omega) (us_within (by rw [ti_nI (by omega)]; exact Int.ofNat_nonneg x) (by rw [ti_nI (by omega), show (3 : Int32).toInt = 3 from rfl]; omega) ?_)
  refine uC_copy hL hn hm (by omega) (fun v1 hL1 hF1 => ?_)
  exact uC_ticks hL1 hO.1 hO.2.1 hB (by omega) (by omega) hx (fun v' _ hF' => h v' (Fr_t hF1 hF'))
theorem us_clean (hL : LA v 8 σ n m) (hn : n ≤ 40) (hm : m ≤ 8) {Q : Int32 → V3 → Prop} (h : ∀ v', LA v' 8 (upd (clnS σ n).1 6 (nI (clnS σ n).2)) (clnS σ n).2 m → Fr 8 v v' → Q (nI n - nI (clnS σ n).2) v') : w_X3_clean v Q := uC_drop hL hn hm h
end UA
