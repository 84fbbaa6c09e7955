/-! THE LAW'S DRAWS, and what it asks of every booking -/
def Nx (v : V3) (k : Int) : Prop := 0 ≤ (v 7 2).toInt ∧ (v 7 2).toInt ≤ k
theorem and_pos (x : Int32) : 0 ≤ (x &&& 2147483647).toInt := by
  have e : (x &&& 2147483647).toInt = (x.toBitVec &&& 2147483647#32).toInt := rfl
  rw [e, BitVec.toInt_eq_msb_cond, BitVec.msb_and, show (2147483647#32).msb = false from by decide, Bool.and_false]
  exact Int.ofNat_nonneg _
theorem rem_I {x y : Int32} : (x - x / y * y).toInt = x.toInt.tmod y.toInt := by
  rw [irem_eq_mod, Int32.toInt_mod]
theorem at_all {Q : Int32 → V3 → Prop} {a s0 : Int32} {v : V3} (h : ∀ r, Q r v) : w_L_at_13 Q a s0 v := ⟨fun _ => h _, fun _ => ⟨fun _ => h _, fun _ => h _⟩⟩
theorem us_draw {v : V3} {N : Nat} (hN : 1 ≤ N ∧ N ≤ 1000000) (h71 : ¬ v 7 1 = 0) {k : Int} (hx : Nx v k) (hk : k ≤ 1000000) {Q : Int32 → V3 → Prop} (h : ∀ r, r < N → ∀ v' : V3, (∀ c, c ≠ 7 → v' c = v c) → (∀ j, j ≠ 2 → v' 7 j = v 7 j) → Nx v' (k + 1) → Q (nI r) v') : w_L_draw (nI N) v Q := by
  intro L xs hL
  have eM : (zmax 1 (nI L)).toInt = max 1 (L : Int) := by rw [zmax_I, ti_nI (by omega)]; rfl
  have nM : ¬ zmax 1 (nI L) = 0 := fun z => by
    rw [z] at eM
    have : (0 : Int32).toInt = 0 := rfl
    omega
  refine ⟨h71, h71, nM, ?_⟩
  have eI : (v 7 2 - v 7 2 / zmax 1 (nI L) * zmax 1 (nI L)).toInt = (v 7 2).toInt.tmod (max 1 (L : Int)) := by rw [rem_I, eM]
  have i0 := Int.tmod_nonneg (max 1 (L : Int)) hx.1
  have i1 := Int.tmod_lt_of_pos (v 7 2).toInt (b := max 1 (L : Int)) (by omega)
  rw [← eI] at i0 i1
  generalize v 7 2 - v 7 2 / zmax 1 (nI L) * zmax 1 (nI L) = a at i0 i1
  have fin : ∀ (r5 : Int32) (v6 : V3), v6 = up2 v 7 2 (v 7 2 + 1) → ¬ nI N = 0 ∧ Q ((((((r5 + ((v 7 2) * 668265263)) ^^^ (zushr (r5 + ((v 7 2) * 668265263)) 15)) * 739982445) ^^^ (zushr (((r5 + ((v 7 2) * 668265263)) ^^^ (zushr (r5 + ((v 7 2) * 668265263)) 15)) * 739982445) 13)) &&& 2147483647) - (((((r5 + ((v 7 2) * 668265263)) ^^^ (zushr (r5 + ((v 7 2) * 668265263)) 15)) * 739982445) ^^^ (zushr (((r5 + ((v 7 2) * 668265263)) ^^^ (zushr (r5 + ((v 7 2) * 668265263)) 15)) * 739982445) 13)) &&& 2147483647) / nI N * nI N) v6 := by
    intro r5 v6 e6
    subst e6
    refine ⟨nI_ne0 (by omega) (by omega), ?_⟩
    generalize (((r5 + ((v 7 2) * 668265263)) ^^^ (zushr (r5 + ((v 7 2) * 668265263)) 15)) * 739982445) ^^^ (zushr (((r5 + ((v 7 2) * 668265263)) ^^^ (zushr (r5 + ((v 7 2) * 668265263)) 15)) * 739982445) 13) = z
    have q0 := and_pos z
    generalize z &&& 2147483647 = w at q0
    have e : (w - w / nI N * nI N).toInt = w.toInt.tmod (N : Int) := by rw [rem_I, ti_nI (by omega)]
    have r0 := Int.tmod_nonneg (N : Int) q0
    have r1 := Int.tmod_lt_of_pos w.toInt (b := (N : Int)) (by omega)
    rw [← e] at r0 r1
    generalize w - w / nI N * nI N = y at r0 r1
    obtain ⟨j, hj, rfl⟩ := nI_of (x := y) (fun c => by rw [ti_lt, zero_I] at c; omega)
    rw [ti_nI hj] at r0 r1
    refine h j (by omega) _ (fun c hc => up2_off _ _ _ hc) (fun c hc => by rw [up2_row, pk_un hc]) ?_
    unfold Nx
    rw [up2_row, pk_us, ti_add (by rw [one_I]; have := hx; unfold Nx at this; omega) (by rw [one_I]; have := hx; unfold Nx at this; omega), one_I]
    have := hx
    unfold Nx at this
    omega
  intro L2 xs2 hL2
  by_cases c : nI L2 ≤ a
  · exact ⟨fun _ => at_all (fun r => fin r), fun z => absurd c z⟩
  · refine ⟨fun z => absurd z c, fun _ => ⟨vp_in_iff.mpr ⟨i0, ?_⟩, at_all (fun r => fin r)⟩⟩
    have : ¬ (nI L2).toInt ≤ a.toInt := fun z => c (ti_le.mpr z)
    rw [ti_nI (by omega)] at this
    omega
section LW
variable {v : V3} {n m : Nat} {σ : Nat → Int32} {B : Int}
theorem us_nobody (hL : LA v 8 σ n m) (hW : Wf σ n m 32 B) (hN : NF σ n) {Q : Int32 → V3 → Prop} (h : Q 1 v) : w_L_nobodyCould v Q := by
  have hn := hW.n40
  refine loop_0 (W := fun r i w => w_L_nobodyCould_2 Q r (nI i) w) (I := fun i w => w = v) n v rfl ?_ ?_
  · intro r w hw
    subst hw
    rw [w_L_nobodyCould_2]
    exact us_count_6 hL (br_t Int32.le_rfl h)
  · intro r i w hi hw ih
    subst hw
    rw [w_L_nobodyCould_2]
    have nx := ih w rfl
    rw [nI_succ] at nx
    refine us_count_6 hL (br_f (nx_le hi hn) (us_booking_7 hL hn hi (ntc (fun _ => nx) (fun _ => us_booking_11 hL hW hN hi (br_t rfl nx)))))
theorem us_apart (hL : LA v 8 σ n m) (hW : Wf σ n m 32 B) {Q : Int32 → V3 → Prop} (h : Q 1 v) : w_L_areApart v Q := by
  have hn := hW.n40
  have hS := hW.sp
  have hT := hW.tm
  refine loop_0 (W := fun r i w => w_L_areApart_2 Q r (nI i) w) (I := fun i w => w = v) n v rfl ?_ ?_
  · intro r w hw
    subst hw
    rw [w_L_areApart_2]
    exact us_count_6 hL (br_t Int32.le_rfl h)
  · intro r i w hi hw ih
    subst hw
    have nx := ih w rfl
    rw [nI_succ] at nx
    -- one live booking against those ahead of it
    have inner : lvB σ i = true → ∃ r2, w_L_areApart_86 Q (w_L_areApart_2 Q r) r2 (nI i) 0 w := by
      intro hl
      have key : ∀ z, z < i → ∀ K : Int32 → Int32 → V3 → Prop, lvB σ z = true → K (nI i) (nI z + 1) w → w_L_areApart_122 Q (w_L_areApart_2 Q r) K (nI i) (nI z) w := by
        intro z hz K hlz hK
        have hzn : z < n := by omega
        have s1 := hS.1 i hi
        have s2 := hS.1 z hzn
        have t1 := hT.1 i hi hl
        have t2 := hT.1 z hzn hlz
        have a1 : (bf σ i 1 + bf σ i 2).toInt = (bf σ i 1).toInt + (bf σ i 2).toInt := ti_add (by omega) (by omega)
        have a2 : (bf σ z 1 + bf σ z 2).toInt = (bf σ z 1).toInt + (bf σ z 2).toInt := ti_add (by omega) (by omega)
        have no : ∀ x3 : Int32, (x3 = 0 ∨ bf σ z 9 ≤ bf σ i 8 ∨ bf σ i 9 ≤ bf σ z 8) → w_L_areApart_189 Q (w_L_areApart_2 Q r) K (nI i) (nI z) x3 w := by
          intro x3 hx
          refine us_booking_8 hL hn hi (us_booking_9 hL hn hzn (br_c (fun _ => ⟨fun _ => hK, fun _ => ⟨fun _ => hK, fun q => absurd rfl q⟩⟩) (fun c1 => us_booking_8 hL hn hzn (us_booking_9 hL hn hi (br_c (fun _ => ⟨fun _ => hK, fun _ => ⟨fun _ => hK, fun q => absurd rfl q⟩⟩) (fun c2 => ?_))))))
          have x0 : x3 = 0 := hx.resolve_right (fun q => q.elim c1 c2)
          exact ⟨fun _ => hK, fun q => absurd x0 q⟩
        refine us_booking_1 hL hn hi (us_booking_1 hL hn hzn (us_booking_2 hL hn hzn (br_c (fun _ => no 0 (.inl rfl)) (fun c1 => us_booking_1 hL hn hzn (us_booking_1 hL hn hi (us_booking_2 hL hn hi (br_c (fun _ => no 0 (.inl rfl)) (fun c2 => no 1 (.inr ?_)))))))))
        have d1 : (bf σ i 1).toInt < (bf σ z 1).toInt + (bf σ z 2).toInt := by
          rw [← a2]; exact Int.not_le.mp (fun q => c1 (ti_le.mpr q))
        have d2 : (bf σ z 1).toInt < (bf σ i 1).toInt + (bf σ i 2).toInt := by
          rw [← a1]; exact Int.not_le.mp (fun q => c2 (ti_le.mpr q))
        refine Classical.byContradiction (fun q => ?_)
        refine hW.nc i z hi hzn (by omega) hl hlz d1 d2 ?_ ?_
        · exact Int.not_le.mp (fun y => q (.inl (ti_le.mpr y)))
        · exact Int.not_le.mp (fun y => q (.inr (ti_le.mpr y)))
      refine loop_0 (W := fun r2 z w' => w_L_areApart_86 Q (w_L_areApart_2 Q r) r2 (nI i) (nI z) w') (I := fun z w' => w' = w) i w rfl ?_ ?_
      · intro r2 w' hw'
        subst hw'
        rw [w_L_areApart_86]
        exact br_t Int32.le_rfl nx
      · intro r2 z w' hz hw' ih2
        subst hw'
        have nx2 := ih2 w' rfl
        rw [nI_succ] at nx2
        have hzn : z < n := by omega
        rw [w_L_areApart_86]
        refine br_f (nI_ge hz (by omega)) (us_booking_7 hL hn hzn (br_c (fun c => key z hz _ (by unfold lvB; exact decide_eq_true (.inl c)) nx2) (fun c => us_booking_7 hL hn hzn (br_c (fun d => key z hz _ (by unfold lvB; exact decide_eq_true (.inr d)) nx2) (fun _ => nx2)))))
    have live : lvB σ i = true → w_L_areApart_46 Q (w_L_areApart_2 Q r) (nI i) w := by
      intro hl
      have t1 := hT.1 i hi hl
      refine us_booking_8 hL hn hi (br_f (fun q => by rw [ti_lt, zero_I] at q; omega) (us_booking_9 hL hn hi (us_booking_8 hL hn hi (br_t (ti_le.mpr (by omega)) (inner hl)))))
    rw [w_L_areApart_2]
    exact us_count_6 hL (br_f (nx_le hi hn) (us_booking_7 hL hn hi (br_c (fun c => live (by unfold lvB; exact decide_eq_true (.inl c))) (fun _ => us_booking_7 hL hn hi (br_c (fun d => live (by unfold lvB; exact decide_eq_true (.inr d))) (fun _ => nx))))))
end LW
