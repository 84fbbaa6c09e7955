/-! CALLS 11: addOwner, show -/
def zr (σ : Nat → Int32) (m i : Nat) : Nat → Int32 := fun k => if 10 + 8 * m ≤ k ∧ k < 10 + 8 * m + i then 0 else σ k
def addOS (σ : Nat → Int32) (m : Nat) (a : Int32) : Nat → Int32 := upd (upd (zr σ m 8) (10 + 8 * m + 0) a) 5 (nI (m + 1))
theorem zr_s (σ : Nat → Int32) (m i : Nat) : upd (zr σ m i) (10 + 8 * m + i) 0 = zr σ m (i + 1) := by
  funext k
  by_cases e : k = 10 + 8 * m + i
  · subst e
    rw [pk_us]
    unfold zr
    rw [if_pos (by omega)]
  · rw [pk_un e]
    unfold zr
    by_cases c : 10 + 8 * m ≤ k ∧ k < 10 + 8 * m + i
    · rw [if_pos c, if_pos (by omega)]
    · rw [if_neg c, if_neg (by omega)]
theorem zr_0 (σ : Nat → Int32) (m : Nat) : zr σ m 0 = σ := by
  funext k
  unfold zr
  rw [if_neg (by omega)]
section AO
variable {v : V3} {b n m S : Nat} {B : Int} {σ : Nat → Int32} {a : Int32}
theorem addOS_s {k : Nat} (hk : k < 10) (h5 : k ≠ 5) : addOS σ m a k = σ k := by
  unfold addOS zr
  rw [pk_un h5, pk_un (by omega), if_neg (by omega)]
theorem addOS_5 : addOS σ m a 5 = nI (m + 1) := pk_us
theorem addOS_b (hm : m < 8) {j f : Nat} : bf (addOS σ m a) j f = bf σ j f := by
  unfold addOS zr bf
  rw [pk_un (by omega), pk_un (by omega), if_neg (by omega)]
theorem addOS_o {o f : Nat} (hf : f < 8) : og (addOS σ m a) o f = if o = m then (if f = 0 then a else 0) else og σ o f := by
  unfold addOS zr og
  rw [pk_un (by omega)]
  by_cases e : o = m
  · subst e
    rw [if_pos rfl]
    by_cases z : f = 0
    · subst z; rw [pk_us, if_pos rfl]
    · rw [pk_un (by omega), if_pos (by omega), if_neg z]
  · rw [if_neg e, pk_un (by omega), if_neg (by omega)]
theorem addOS_wf (h : Wf σ n m S B) (hm : m < 8) : Wf (addOS σ m a) n (m + 1) S B :=
  Wf_re h id ⟨addOS_5, by omega, (addOS_s (by omega) (by omega)).trans h.cn.2.2.1, h.n40⟩ (by omega) (addOS_s (by omega) (by omega)) (addOS_s (by omega) (by omega)) (by
    unfold Sg
    rw [addOS_s (by omega) (by omega), addOS_s (by omega) (by omega), addOS_s (by omega) (by omega), addOS_s (by omega) (by omega)]
    exact h.sg) (fun j hj => hj) (fun _ _ _ _ e => e) (fun j _ f _ => addOS_b hm)
theorem addOS_nf (h : NF σ n) (hm : m < 8) : NF (addOS σ m a) n := NF_e h (by rw [addOS_s (by omega) (by omega)]; exact Int.le_refl _) (fun j _ f _ => addOS_b hm)
theorem uC_enterO (hL : LA v b σ n m) (hm : m < 8) {Q : Int32 → V3 → Prop} (hQ : ∀ v', LA v' b (addOS σ m a) n (m + 1) → Fr b v v' → Q (nI m) v') : w_X1_enterOwner b a v Q := by
  unfold w_X1_enterOwner
  rw [hL.m7]
  refine ⟨vp_in_nI hm (by decide), ?_⟩
  rw [show ix (nI m) = m from nI_clamp (by omega)]
  refine loop_0 (W := fun r i w => w_X1_enterOwner_12 b Q r a m (nI i) w) (I := fun i w => (∀ c, c ≠ b + 6 + m → w c = v c) ∧ ∀ k, k < i → w (b + 6 + m) k = 0) 8 v ⟨fun _ _ => rfl, fun k hk => absurd hk (Nat.not_lt_zero k)⟩ ?_ ?_
  · intro r w h
    rw [w_X1_enterOwner_12]
    refine br_t (by decide) (nm_e (nm_e ?_))
    have e7 : (up2 w (b + 6 + m) 0 a) b 7 = nI m := by rw [up2_off _ _ _ (by omega), h.1 b (by omega)]; exact hL.m7
    rw [e7, nI_1]
    have e8 : up2 (up2 w (b + 6 + m) 0 a) b 7 (nI (m + 1)) b 7 - 1 = nI m := by rw [up2_row, pk_us, nI_pred]
    rw [e8]
    have oc : ∀ c, c ≠ b → c ≠ b + 6 + m → up2 (up2 w (b + 6 + m) 0 a) b 7 (nI (m + 1)) c = v c := fun c c1 c2 => by rw [up2_off _ _ _ c1, up2_off _ _ _ c2, h.1 c c2]
    have ob : ∀ j, j ≠ 7 → up2 (up2 w (b + 6 + m) 0 a) b 7 (nI (m + 1)) b j = v b j := fun j hj => by rw [up2_row, pk_un hj, up2_off _ _ _ (by omega), h.1 b (by omega)]
    obtain ⟨⟨a1, a2, a3, a4, a5, a6, a7⟩, ho, hb⟩ := hL
    refine hQ _ ⟨⟨fun j hj => ?_, ?_, ?_, ?_, ?_, ?_, ?_⟩, fun p hp f hf => ?_, fun j hj f hf => ?_⟩ (fun c hc => oc c (by omega) (by omega))
    · rw [oc _ (by omega) (by omega), addOS_s (by omega) (by omega)]; exact a1 j hj
    · rw [ob _ (by decide), addOS_s (by omega) (by omega)]; exact a2
    · rw [ob _ (by decide), addOS_s (by omega) (by omega)]; exact a3
    · rw [up2_row, pk_us]
    · rw [ob _ (by decide)]; exact a5
    · rw [ob _ (by decide), addOS_s (by omega) (by omega)]; exact a6
    · rw [ob _ (by decide), addOS_s (by omega) (by omega)]; exact a7
    · rw [addOS_o hf]
      by_cases e : p = m
      · subst e
        rw [if_pos rfl, up2_off _ _ _ (by omega), up2_row]
        by_cases z : f = 0
        · subst z; rw [pk_us, if_pos rfl]
        · rw [pk_un z, if_neg z]; exact h.2 f hf
      · rw [if_neg e, oc _ (by omega) (by omega)]; exact ho p (by omega) f hf
    · rw [addOS_b hm, oc _ (by omega) (by omega)]; exact hb j hj f hf
  · intro r i w hi h ih
    rw [w_X1_enterOwner_12]
    refine br_f (nI_ge (b := 8) hi (by omega)) ⟨vp_in_nI hi (by decide), nm_e ?_⟩
    rw [show ix (nI i) = i from nI_clamp (by omega)]
    rw [nI_succ] at ih
    refine ih _ ⟨fun c hc => by rw [up2_off _ _ _ hc]; exact h.1 c hc, fun k hk => ?_⟩
    rw [up2_row]
    by_cases e : k = i
    · subst e; exact pk_us
    · rw [pk_un e]; exact h.2 k (by omega)
end AO
