theorem mk_hl (x : Int64) : mk64 (hi64 x) (lo64 x) = x := by
  have h : (hi64 x).toBitVec ++ (lo64 x).toBitVec = x.toBitVec := by
    apply BitVec.eq_of_getLsbD_eq
    intro i hi
    show ((x.toBitVec.extractLsb' 32 32) ++ (x.toBitVec.extractLsb' 0 32)).getLsbD i = _
    rw [BitVec.getLsbD_append]
    by_cases h : i < 32
    · simp [h, BitVec.getLsbD_extractLsb']
    · simp [h, BitVec.getLsbD_extractLsb']
      have e : 32 + (i - 32) = i := by omega
      rw [e, show decide (i - 32 < 32) = true from decide_eq_true (by omega)]
      rfl
  unfold mk64
  rw [h]
  rfl
theorem p_X4_21 {G : zG} {v : V3} {x : Int64} : ent G (up2 (up2 v 7 21 (hi64 x)) 7 34 (lo64 x)) 7 = .inr (4, [.ref (gad G 8), .ref (gad G 9), .ref (gad G 10), .ref (gad G 11), .ref (gad G 12), .ref (gad G 13), .ref (gad G 14), .ref (gad G 15), .int (v 7 8), .int (v 7 9), .int (v 7 10), .int (v 7 11), .ref (gad G 16), .int (v 7 13), .int (v 7 14), .int (v 7 15), .int (v 7 16), .int (v 7 17), .int (v 7 18), .int (v 7 19), .int (v 7 20), .long x, .ref (gad G 17), .int (v 7 23), .int (v 7 24), .int (v 7 25), .int (v 7 26), .int (v 7 27), .int (v 7 28), .int (v 7 29), .int (v 7 30), .int (v 7 31), .ref (gad G 18), .int (v 7 33)]) := by
  have e : mk64 ((up2 (up2 v 7 21 (hi64 x)) 7 34 (lo64 x)) 7 21) ((up2 (up2 v 7 21 (hi64 x)) 7 34 (lo64 x)) 7 34) = x := mk_hl x
  show entS G _ 7 = _
  unfold entS
  rw [e]
  rfl
