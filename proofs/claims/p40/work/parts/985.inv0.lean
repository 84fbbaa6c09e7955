/-! SUMS, COUNTS, AND WHAT EACH CHANGE LEAVES -/
theorem sumI_a (f : Nat → Int32) : ∀ k i a, sumI f k i a = a + sumI f k i 0 := by
  intro k
  induction k with
  | zero => intro i a; exact (Int32.add_zero a).symm
  | succ k ih =>
    intro i a
    rw [sumI, sumI, ih (i + 1) (a + f i), ih (i + 1) (0 + f i), Int32.zero_add, Int32.add_assoc]
theorem sumI_s (f : Nat → Int32) : ∀ k i, sumI f (k + 1) i 0 = sumI f k i 0 + f (i + k) := by
  intro k
  induction k with
  | zero => intro i; rw [sumI, sumI, sumI, Nat.add_zero]
  | succ k ih =>
    intro i
    rw [sumI, sumI_a, Int32.zero_add, ih (i + 1), ← Int32.add_assoc, sumI f (k + 1) i 0 |> fun _ => show sumI f (k + 1) i 0 = f i + sumI f k (i + 1) 0 from by rw [sumI, sumI_a, Int32.zero_add], show i + 1 + k = i + (k + 1) from by omega]
theorem sumI_c {f g : Nat → Int32} : ∀ k i, (∀ j, i ≤ j → j < i + k → g j = f j) → sumI g k i 0 = sumI f k i 0 := by
  intro k
  induction k with
  | zero => intro i _; rfl
  | succ k ih => intro i h; rw [sumI_s, sumI_s, ih i (fun j a b => h j a (by omega)), h (i + k) (by omega) (by omega)]
theorem sumI_p {f g : Nat → Int32} {p : Nat} {x : Int32} (hg : g p = f p + x) : ∀ k, (∀ j, j < k → j ≠ p → g j = f j) → p < k → sumI g k 0 0 = sumI f k 0 0 + x := by
  intro k
  induction k with
  | zero => intro _ h; omega
  | succ k ih =>
    intro ho h
    rw [sumI_s, sumI_s, Nat.zero_add]
    by_cases e : p = k
    · subst e
      rw [sumI_c p 0 (fun j _ b => ho j (by omega) (by omega)), hg, Int32.add_assoc]
    · rw [ih (fun j hj => ho j (by omega)) (by omega), ho k (by omega) (Ne.symm e), Int32.add_assoc, Int32.add_assoc, Int32.add_comm x]
/-- the sum of the owners' numbers -/
def sO (σ : Nat → Int32) (m f : Nat) : Int32 := sumI (fun o => og σ o f) m 0 0
theorem sO_c {σ σ' : Nat → Int32} {m f : Nat} (h : ∀ o, o < m → og σ' o f = og σ o f) : sO σ' m f = sO σ m f := sumI_c m 0 (fun j _ b => h j (by omega))
theorem sO_put {σ : Nat → Int32} {m o f : Nat} {x : Int32} (ho : o < m) (hf : f < 8) : sO (putO σ o f (og σ o f + x)) m f = sO σ m f + x := by
  refine sumI_p (p := o) ?_ m (fun j _ hj => ?_) ho
  · show og (putO σ o f _) o f = _
    rw [og_putO hf hf, if_pos ⟨rfl, rfl⟩]
  · show og (putO σ o f _) j f = _
    rw [og_putO hf hf, if_neg (fun z => hj z.1)]
theorem sO_put' {σ : Nat → Int32} {m o f g : Nat} {x : Int32} (hf : f < 8) (hg : g < 8) (hfg : g ≠ f) : sO (putO σ o f x) m g = sO σ m g :=
  sO_c (fun j _ => by rw [og_putO hf hg, if_neg (fun z => hfg z.2)])
/-- how many are in a state -/
theorem cnt_c {σ σ' : Nat → Int32} {n : Nat} {x : Int32} (h : ∀ i, i < n → bf σ' i 7 = bf σ i 7) : cntS σ' n x = cntS σ n x := sumI_c n 0 (fun j _ b => by show (if bf σ' j 7 = x then _ else _) = _; rw [h j (by omega)])
theorem cnt_p {σ σ' : Nat → Int32} {n i : Nat} {x : Int32} (hi : i < n) (ho : ∀ j, j < n → j ≠ i → bf σ' j 7 = bf σ j 7) (h0 : bf σ i 7 = x) (h1 : ¬ bf σ' i 7 = x) : cntS σ' n x + 1 = cntS σ n x := by
  have e1 : cntS σ n x = sumI (fun j => if j < n then (if bf σ j 7 = x then 1 else 0) else 0) n 0 0 := sumI_c n 0 (fun j _ b => by show (if bf σ j 7 = x then (1 : Int32) else 0) = _; rw [if_pos (show j < n by omega)])
  have e2 : cntS σ' n x = sumI (fun j => if j < n then (if bf σ' j 7 = x then 1 else 0) else 0) n 0 0 := sumI_c n 0 (fun j _ b => by show (if bf σ' j 7 = x then (1 : Int32) else 0) = _; rw [if_pos (show j < n by omega)])
  rw [e1, e2]
  refine (sumI_p (p := i) (x := 1) ?_ n (fun j _ hj => ?_) hi).symm
  · show (if i < n then (if bf σ i 7 = x then (1 : Int32) else 0) else 0) = (if i < n then (if bf σ' i 7 = x then (1 : Int32) else 0) else 0) + 1
    rw [if_pos hi, if_pos hi, if_pos h0, if_neg h1]
    decide
  · show (if j < n then (if bf σ j 7 = x then (1 : Int32) else 0) else 0) = (if j < n then (if bf σ' j 7 = x then (1 : Int32) else 0) else 0)
    by_cases c : j < n
    · rw [if_pos c, if_pos c, ho j c hj]
    · rw [if_neg c, if_neg c]
/-- who waits has no times -/
def WB (σ : Nat → Int32) (n : Nat) : Prop := ∀ i, i < n → bf σ i 7 = 0 → bf σ i 8 = -1 ∧ bf σ i 9 = -1
/-- broken promises are few -/
def Bd (σ : Nat → Int32) (m : Nat) (C : Int) : Prop := ∀ o, o < m → (0 ≤ (og σ o 2).toInt ∧ (og σ o 2).toInt ≤ C) ∧ (0 ≤ (og σ o 3).toInt ∧ (og σ o 3).toInt ≤ C)
/-- what a change leaves: settings, size, what a booking was made with; credits in sum; broken promises grow by d at most -/
def Ev (σ σ' : Nat → Int32) (n m d : Nat) : Prop := (∀ k, k < 5 → σ' k = σ k) ∧ (∀ i, i < n → ∀ f, f < 7 → bf σ' i f = bf σ i f) ∧ (WB σ n → WB σ' n) ∧ (∀ C : Int, C + d ≤ 1000000 → Bd σ m C → Bd σ' m (C + d)) ∧ sO σ' m 0 = sO σ m 0
section EV
variable {σ σ' σ'' : Nat → Int32} {n m S i : Nat} {B : Int}
theorem Ev_r (σ : Nat → Int32) (n m d : Nat) : Ev σ σ n m d := ⟨fun _ _ => rfl, fun _ _ _ _ => rfl, id, fun C _ h o ho => by have := h o ho; omega, rfl⟩
theorem Ev_t {d d' : Nat} (h : Ev σ σ' n m d) (h' : Ev σ' σ'' n m d') : Ev σ σ'' n m (d + d') :=
  ⟨fun k hk => (h'.1 k hk).trans (h.1 k hk), fun i hi f hf => (h'.2.1 i hi f hf).trans (h.2.1 i hi f hf), fun w => h'.2.2.1 (h.2.2.1 w), fun C hC b => by
    have := h'.2.2.2.1 (C + d) (by omega) (h.2.2.2.1 C (by omega) b)
    rw [show C + ((d + d' : Nat) : Int) = C + d + d' by omega]
    exact this, h'.2.2.2.2.trans h.2.2.2.2⟩
theorem Ev_m {d d' : Nat} (h : Ev σ σ' n m d) (hd : d ≤ d') : Ev σ σ' n m d' := by
  obtain ⟨e, rfl⟩ : ∃ e, d' = d + e := ⟨d' - d, by omega⟩
  exact Ev_t h (Ev_r σ' n m e)
/-- owners stay -/
theorem Ev_0 {d : Nat} (h5 : ∀ k, k < 5 → σ' k = σ k) (hb : ∀ i, i < n → ∀ f, f < 7 → bf σ' i f = bf σ i f) (hw : WB σ n → WB σ' n) (ho : ∀ o, o < m → ∀ f, f < 8 → og σ' o f = og σ o f) : Ev σ σ' n m d :=
  ⟨h5, hb, hw, fun C hC b o hom => by
    rw [ho o hom 2 (by omega), ho o hom 3 (by omega)]
    have := b o hom
    omega, sO_c (fun o hom => ho o hom 0 (by omega))⟩
theorem Ev_b {f : Nat} {x : Int32} (hm : m ≤ 8) (hf : 7 ≤ f ∧ f < 10) (hw : WB σ n → WB (putB σ i f x) n) : Ev σ (putB σ i f x) n m 0 :=
  Ev_0 (fun k hk => sc_put (by omega)) (fun j _ g hg => by rw [bf_put (by omega) (by omega), if_neg (by omega)]) hw (fun o ho g hg => og_put (by omega) hg)
/-- a number of an owner that is neither its credit nor a broken promise -/
theorem Ev_o {o f : Nat} {x : Int32} (ho : o < m) (hm : m ≤ 8) (hf : f < 8) (h : f ≠ 0 ∧ f ≠ 2 ∧ f ≠ 3) : Ev σ (putO σ o f x) n m 0 :=
  ⟨fun k hk => sc_putO (by omega), fun j _ g _ => bf_putO (by omega) hf, fun w j hj h0 => by
    rw [bf_putO (by omega) hf] at h0 ⊢
    rw [bf_putO (by omega) hf]
    exact w j hj h0, fun C hC b p hp => by
    rw [og_putO hf (by omega), og_putO hf (by omega), if_neg (by omega), if_neg (by omega)]
    have := b p hp
    omega, sO_put' hf (by omega) (by omega)⟩
/-- a broken promise more -/
theorem Ev_o1 {o f : Nat} (ho : o < m) (hm : m ≤ 8) (h : f = 2 ∨ f = 3) : Ev σ (putO σ o f (og σ o f + 1)) n m 1 :=
  ⟨fun k hk => sc_putO (by omega), fun j _ g _ => bf_putO (by omega) (by omega), fun w j hj h0 => by
    rw [bf_putO (by omega) (by omega)] at h0 ⊢
    rw [bf_putO (by omega) (by omega)]
    exact w j hj h0, fun C hC b p hp => by
    have b0 := b o ho
    have bp := b p hp
    have e1 : (og σ o f + 1).toInt = (og σ o f).toInt + 1 := by
      rcases h with h | h
      · subst h; rw [ti_add (by rw [one_I]; omega) (by rw [one_I]; omega), one_I]
      · subst h; rw [ti_add (by rw [one_I]; omega) (by rw [one_I]; omega), one_I]
    rw [og_putO (by omega) (by omega), og_putO (by omega) (by omega)]
    rcases h with h | h
    · subst h
      by_cases e : p = o
      · subst e
        rw [if_pos ⟨rfl, rfl⟩, if_neg (by omega), e1]
        omega
      · rw [if_neg (by omega), if_neg (by omega)]
        omega
    · subst h
      by_cases e : p = o
      · subst e
        rw [if_neg (by omega), if_pos ⟨rfl, rfl⟩, e1]
        omega
      · rw [if_neg (by omega), if_neg (by omega)]
        omega, sO_put' (by omega) (by omega) (by omega)⟩
/-- a change of one booking's state and times -/
theorem WB_ch (hc : Ch σ σ' n i) (hi : bf σ' i 7 = 0 → bf σ' i 8 = -1 ∧ bf σ' i 9 = -1) (w : WB σ n) : WB σ' n := fun j hj h0 => by
  by_cases e : j = i
  · subst e; exact hi h0
  · rw [hc.2 j hj 7 (by omega) (.inl e)] at h0
    rw [hc.2 j hj 8 (by omega) (.inl e), hc.2 j hj 9 (by omega) (.inl e)]
    exact w j hj h0
/-- ends: what the state is, booking by booking -/
def Lc (cond : (Nat → Int32) → Nat → Bool) : Prop := ∀ (σ σ' : Nat → Int32) (j : Nat), (∀ k, k < 8 → σ' k = σ k) → (∀ f, f < 10 → bf σ' j f = bf σ j f) → cond σ' j = cond σ j
theorem Lc_fin : Lc finC := fun σ σ' j hk hf => by unfold finC; rw [hf 7 (by omega), hf 9 (by omega), hk 7 (by omega)]
theorem Lc_bmp : Lc bmpC := fun σ σ' j hk hf => by unfold bmpC; rw [hf 7 (by omega), hf 8 (by omega), hk 7 (by omega), hk 0 (by omega)]
theorem Lc_exp : Lc expC := fun σ σ' j hk hf => by unfold expC; rw [hf 7 (by omega), hf 4 (by omega), hf 5 (by omega), hk 7 (by omega)]
/-- what holds behind i bookings -/
def EI (cond : (Nat → Int32) → Nat → Bool) (s : Int32) (f n m : Nat) (σ : Nat → Int32) (i : Nat) (a : (Nat → Int32) × Int32) : Prop :=
  (∀ k, k < 8 → a.1 k = σ k) ∧ Ow a.1 n m ∧ (∀ j, j < n → ∀ g, g < 10 → g ≠ 7 → bf a.1 j g = bf σ j g) ∧ (∀ j, j < n → bf a.1 j 7 = if j < i ∧ cond σ j = true then s else bf σ j 7) ∧ sO a.1 m f = sO σ m f + a.2 ∧ (∀ g, g < 8 → g ≠ f → ∀ o, o < m → og a.1 o g = og σ o g) ∧ ((f = 2 ∨ f = 5 ∨ f = 1) → (∀ C : Int, C + i ≤ 1000000 → Bd σ m C → Bd a.1 m (C + i)))
theorem endF_EI {cond : (Nat → Int32) → Nat → Bool} {s : Int32} {f : Nat} (hc : Lc cond) (hO : Ow σ n m) (hm : m ≤ 8) (hf : f < 8) : EI cond s f n m σ n (endF cond s f n σ 0) := by
  refine foldN_inv (P := fun i a => EI cond s f n m σ i a) ⟨fun _ _ => rfl, hO, fun _ _ _ _ _ => rfl, fun j hj => by rw [if_neg (by omega)], (Int32.add_zero _).symm, fun _ _ _ _ _ => rfl, fun _ C _ b o ho => by
    have := b o ho
    have key : (0 ≤ (og σ o 2).toInt ∧ (og σ o 2).toInt ≤ C + ((0 : Nat) : Int)) ∧ (0 ≤ (og σ o 3).toInt ∧ (og σ o 3).toInt ≤ C + ((0 : Nat) : Int)) := by omega
    exact key⟩ ?_
  intro i a hi ⟨h1, h2, h3, h4, h5, h6, h7⟩
  have ce : cond a.1 i = cond σ i := hc σ a.1 i h1 (fun g hg => by
    by_cases e : g = 7
    · subst e; rw [h4 i hi, if_neg (by omega)]
    · exact h3 i hi g hg e)
  unfold endStep
  by_cases c : cond a.1 i = true
  · rw [if_pos c]
    have ch := end_ch (s := s) h2 hm hi hf
    have ow := own_of h2 hm hi
    have og1 : ∀ g, g < 8 → ∀ o, o < m → og (endS a.1 i s f) o g = if o = ownI a.1 i ∧ g = f then og a.1 (ownI a.1 i) f + 1 else og a.1 o g := fun g hg o ho => by
      unfold endS
      rw [og_putO hf hg]
      by_cases z : o = ownI a.1 i ∧ g = f
      · rw [if_pos z, if_pos z]
      · rw [if_neg z, if_neg z, og_put (by omega) hg]
    refine ⟨fun k hk => (ch.1 k hk).trans (h1 k hk), Ow_ch h2 ch, fun j hj g hg g7 => ?_, fun j hj => ?_, ?_, fun g hg gf o ho => ?_, fun hff C hC b o ho => ?_⟩
    · by_cases e : j = i
      · subst e
        by_cases g7' : g < 7
        · exact (ch.2 j hj g hg (.inr g7')).trans (h3 j hj g hg g7)
        · show bf (endS a.1 j s f) j g = _
          unfold endS
          rw [bf_putO (by omega) hf, bf_put (by omega) hg, if_neg (by omega)]
          exact h3 j hj g hg g7
      · exact (ch.2 j hj g hg (.inl e)).trans (h3 j hj g hg g7)
    · by_cases e : j = i
      · subst e
        rw [if_pos ⟨by omega, by rw [← ce]; exact c⟩]
        exact end_7 h2 hm hj hf
      · refine (ch.2 j hj 7 (by omega) (.inl e)).trans ((h4 j hj).trans ?_)
        by_cases z : j < i ∧ cond σ j = true
        · rw [if_pos z, if_pos ⟨by omega, z.2⟩]
        · rw [if_neg z, if_neg (fun y => z ⟨by omega, y.2⟩)]
    · have e1 : sO (endS a.1 i s f) m f = sO a.1 m f + 1 := by
        refine sumI_p (p := ownI a.1 i) ?_ m (fun j hjm hj => ?_) ow.1
        · show og (endS a.1 i s f) (ownI a.1 i) f = _
          rw [og1 f hf _ ow.1, if_pos ⟨rfl, rfl⟩]
        · show og (endS a.1 i s f) j f = og a.1 j f
          rw [og1 f hf j hjm, if_neg (fun z => hj z.1)]
      rw [show (endS a.1 i s f, a.2 + 1).1 = endS a.1 i s f from rfl, e1, h5, Int32.add_assoc]
    · rw [show (endS a.1 i s f, a.2 + 1).1 = endS a.1 i s f from rfl, og1 g hg o ho, if_neg (fun z => gf z.2)]
      exact h6 g hg gf o ho
    · have b1 := h7 hff C (by omega) b
      have b2 := b1 o ho
      have b3 := b1 _ ow.1
      show _ ∧ _
      rw [show (endS a.1 i s f, a.2 + 1).1 = endS a.1 i s f from rfl, og1 2 (by omega) o ho, og1 3 (by omega) o ho]
      by_cases z : o = ownI a.1 i ∧ 2 = f
      · obtain ⟨z1, z2⟩ := z
        subst z2
        rw [if_pos ⟨z1, rfl⟩, if_neg (by omega), ti_add (by rw [one_I]; omega) (by rw [one_I]; omega), one_I]
        omega
      · rw [if_neg z, if_neg (by omega)]
        omega
  · rw [if_neg c]
    refine ⟨h1, h2, h3, fun j hj => ?_, h5, h6, fun hff C hC b o ho => by have := h7 hff C (by omega) b o ho; omega⟩
    rw [h4 j hj]
    by_cases e : j = i
    · subst e
      rw [if_neg (by omega), if_neg (fun z => c (by rw [ce]; exact z.2))]
    · by_cases z : j < i ∧ cond σ j = true
      · rw [if_pos z, if_pos ⟨by omega, z.2⟩]
      · rw [if_neg z, if_neg (fun y => z ⟨by omega, y.2⟩)]
end EV
