theorem in_X0 : ∀ w ∈ u_ws RX0 TX0 2, w ∈ tbg := by decide +kernel
theorem in_X1 : ∀ w ∈ u_ws RX1 TX1 11, w ∈ tbg := by decide +kernel
theorem in_X2 : ∀ w ∈ u_ws RX2 TX2 9, w ∈ tbg := by decide +kernel
theorem in_X3 : ∀ w ∈ u_ws RX3 TX3 14, w ∈ tbg := by decide +kernel
theorem in_L : ∀ w ∈ u_ws RL TL 5, w ∈ tbg := by decide +kernel
theorem in_0_4 : vp_in 0 4 := by unfold vp_in; decide
theorem in_0_5 : vp_in 0 5 := by unfold vp_in; decide
theorem in_0_8 : vp_in 0 8 := by unfold vp_in; decide
theorem in_0_10 : vp_in 0 10 := by unfold vp_in; decide
theorem in_1_4 : vp_in 1 4 := by unfold vp_in; decide
theorem in_1_5 : vp_in 1 5 := by unfold vp_in; decide
theorem in_1_8 : vp_in 1 8 := by unfold vp_in; decide
theorem in_1_10 : vp_in 1 10 := by unfold vp_in; decide
theorem in_2_4 : vp_in 2 4 := by unfold vp_in; decide
theorem in_2_5 : vp_in 2 5 := by unfold vp_in; decide
theorem in_2_8 : vp_in 2 8 := by unfold vp_in; decide
theorem in_2_10 : vp_in 2 10 := by unfold vp_in; decide
theorem in_3_4 : vp_in 3 4 := by unfold vp_in; decide
theorem in_3_5 : vp_in 3 5 := by unfold vp_in; decide
theorem in_3_8 : vp_in 3 8 := by unfold vp_in; decide
theorem in_3_10 : vp_in 3 10 := by unfold vp_in; decide
theorem in_4_8 : vp_in 4 8 := by unfold vp_in; decide
theorem in_4_10 : vp_in 4 10 := by unfold vp_in; decide
theorem in_5_8 : vp_in 5 8 := by unfold vp_in; decide
theorem in_5_10 : vp_in 5 10 := by unfold vp_in; decide
theorem in_6_8 : vp_in 6 8 := by unfold vp_in; decide
theorem in_6_10 : vp_in 6 10 := by unfold vp_in; decide
theorem in_7_8 : vp_in 7 8 := by unfold vp_in; decide
theorem in_7_10 : vp_in 7 10 := by unfold vp_in; decide
theorem in_8_10 : vp_in 8 10 := by unfold vp_in; decide
theorem in_9_10 : vp_in 9 10 := by unfold vp_in; decide
theorem nc_0 : ix 0 = 0 := by decide
theorem nc_1 : ix 1 = 1 := by decide
theorem nc_2 : ix 2 = 2 := by decide
theorem nc_3 : ix 3 = 3 := by decide
theorem nc_4 : ix 4 = 4 := by decide
theorem nc_5 : ix 5 = 5 := by decide
theorem nc_6 : ix 6 = 6 := by decide
theorem nc_7 : ix 7 = 7 := by decide
theorem nc_8 : ix 8 = 8 := by decide
theorem nc_9 : ix 9 = 9 := by decide
theorem p_X3_1 {G : zG} {v : V3} {x : Int32} : ent G (up2 v 0 1 x) 0 = .inr (3, [.ref (gad G 1), .int x, .int (v 0 2), .int (v 0 3), .ref (gad G 8), .ref (gad G 62), .ref (gad G 3), .ref (gad G 4), .ref (gad G 6), .int (v 0 9), .int (v 0 10), .int (v 0 11), .ref (gad G 2), .int (v 0 13)]) := rfl
theorem p_X3_2 {G : zG} {v : V3} {x : Int32} : ent G (up2 v 0 2 x) 0 = .inr (3, [.ref (gad G 1), .int (v 0 1), .int x, .int (v 0 3), .ref (gad G 8), .ref (gad G 62), .ref (gad G 3), .ref (gad G 4), .ref (gad G 6), .int (v 0 9), .int (v 0 10), .int (v 0 11), .ref (gad G 2), .int (v 0 13)]) := rfl
theorem p_X3_3 {G : zG} {v : V3} {x : Int32} : ent G (up2 v 0 3 x) 0 = .inr (3, [.ref (gad G 1), .int (v 0 1), .int (v 0 2), .int x, .ref (gad G 8), .ref (gad G 62), .ref (gad G 3), .ref (gad G 4), .ref (gad G 6), .int (v 0 9), .int (v 0 10), .int (v 0 11), .ref (gad G 2), .int (v 0 13)]) := rfl
theorem p_X3_9 {G : zG} {v : V3} {x : Int32} : ent G (up2 v 0 9 x) 0 = .inr (3, [.ref (gad G 1), .int (v 0 1), .int (v 0 2), .int (v 0 3), .ref (gad G 8), .ref (gad G 62), .ref (gad G 3), .ref (gad G 4), .ref (gad G 6), .int x, .int (v 0 10), .int (v 0 11), .ref (gad G 2), .int (v 0 13)]) := rfl
theorem p_X3_10 {G : zG} {v : V3} {x : Int32} : ent G (up2 v 0 10 x) 0 = .inr (3, [.ref (gad G 1), .int (v 0 1), .int (v 0 2), .int (v 0 3), .ref (gad G 8), .ref (gad G 62), .ref (gad G 3), .ref (gad G 4), .ref (gad G 6), .int (v 0 9), .int x, .int (v 0 11), .ref (gad G 2), .int (v 0 13)]) := rfl
theorem p_X3_11 {G : zG} {v : V3} {x : Int32} : ent G (up2 v 0 11 x) 0 = .inr (3, [.ref (gad G 1), .int (v 0 1), .int (v 0 2), .int (v 0 3), .ref (gad G 8), .ref (gad G 62), .ref (gad G 3), .ref (gad G 4), .ref (gad G 6), .int (v 0 9), .int (v 0 10), .int x, .ref (gad G 2), .int (v 0 13)]) := rfl
theorem p_X3_13 {G : zG} {v : V3} {x : Int32} : ent G (up2 v 0 13 x) 0 = .inr (3, [.ref (gad G 1), .int (v 0 1), .int (v 0 2), .int (v 0 3), .ref (gad G 8), .ref (gad G 62), .ref (gad G 3), .ref (gad G 4), .ref (gad G 6), .int (v 0 9), .int (v 0 10), .int (v 0 11), .ref (gad G 2), .int x]) := rfl
theorem p_X2_2 {G : zG} {v : V3} {x : Int32} : ent G (up2 v 6 2 x) 6 = .inr (2, [.ref (gad G 1), .ref (gad G 62), .int x, .int (v 6 3), .int (v 6 4), .int (v 6 5), .int (v 6 6), .int (v 6 7), .int (v 6 8)]) := rfl
theorem p_X2_3 {G : zG} {v : V3} {x : Int32} : ent G (up2 v 6 3 x) 6 = .inr (2, [.ref (gad G 1), .ref (gad G 62), .int (v 6 2), .int x, .int (v 6 4), .int (v 6 5), .int (v 6 6), .int (v 6 7), .int (v 6 8)]) := rfl
theorem p_X2_4 {G : zG} {v : V3} {x : Int32} : ent G (up2 v 6 4 x) 6 = .inr (2, [.ref (gad G 1), .ref (gad G 62), .int (v 6 2), .int (v 6 3), .int x, .int (v 6 5), .int (v 6 6), .int (v 6 7), .int (v 6 8)]) := rfl
theorem p_X2_5 {G : zG} {v : V3} {x : Int32} : ent G (up2 v 6 5 x) 6 = .inr (2, [.ref (gad G 1), .ref (gad G 62), .int (v 6 2), .int (v 6 3), .int (v 6 4), .int x, .int (v 6 6), .int (v 6 7), .int (v 6 8)]) := rfl
theorem p_X2_6 {G : zG} {v : V3} {x : Int32} : ent G (up2 v 6 6 x) 6 = .inr (2, [.ref (gad G 1), .ref (gad G 62), .int (v 6 2), .int (v 6 3), .int (v 6 4), .int (v 6 5), .int x, .int (v 6 7), .int (v 6 8)]) := rfl
theorem p_X2_7 {G : zG} {v : V3} {x : Int32} : ent G (up2 v 6 7 x) 6 = .inr (2, [.ref (gad G 1), .ref (gad G 62), .int (v 6 2), .int (v 6 3), .int (v 6 4), .int (v 6 5), .int (v 6 6), .int x, .int (v 6 8)]) := rfl
theorem p_X2_8 {G : zG} {v : V3} {x : Int32} : ent G (up2 v 6 8 x) 6 = .inr (2, [.ref (gad G 1), .ref (gad G 62), .int (v 6 2), .int (v 6 3), .int (v 6 4), .int (v 6 5), .int (v 6 6), .int (v 6 7), .int x]) := rfl
theorem p_L_2 {G : zG} {v : V3} {x : Int32} : ent G (up2 v 7 2 x) 7 = .inr (4, [.ref (gad G 0), (if v 7 1 = 0 then .null else .ref (gk G 3)), .int x, .int (v 7 3), .int (v 7 4)]) := rfl
theorem p_L_3 {G : zG} {v : V3} {x : Int32} : ent G (up2 v 7 3 x) 7 = .inr (4, [.ref (gad G 0), (if v 7 1 = 0 then .null else .ref (gk G 3)), .int (v 7 2), .int x, .int (v 7 4)]) := rfl
theorem p_L_4 {G : zG} {v : V3} {x : Int32} : ent G (up2 v 7 4 x) 7 = .inr (4, [.ref (gad G 0), (if v 7 1 = 0 then .null else .ref (gk G 3)), .int (v 7 2), .int (v 7 3), .int x]) := rfl
theorem p_X1_5 {G : zG} {v : V3} {b : Nat} {x : Int32} (h : isL G b) : ent G (up2 v b 5 x) b = .inr (1, [.ref (gad G (b + 1)), .ref (gad G (b + 2)), .ref (gad G (b + 3)), .ref (gad G (b + 4)), .ref (gad G (b + 5)), .int x, .int (v b 6), .int (v b 7), .int (v b 8), .int (v b 9), .int (v b 10)]) := by rw [ent_L h]; simp [up2_row, upd]
theorem p_X1_6 {G : zG} {v : V3} {b : Nat} {x : Int32} (h : isL G b) : ent G (up2 v b 6 x) b = .inr (1, [.ref (gad G (b + 1)), .ref (gad G (b + 2)), .ref (gad G (b + 3)), .ref (gad G (b + 4)), .ref (gad G (b + 5)), .int (v b 5), .int x, .int (v b 7), .int (v b 8), .int (v b 9), .int (v b 10)]) := by rw [ent_L h]; simp [up2_row, upd]
theorem p_X1_7 {G : zG} {v : V3} {b : Nat} {x : Int32} (h : isL G b) : ent G (up2 v b 7 x) b = .inr (1, [.ref (gad G (b + 1)), .ref (gad G (b + 2)), .ref (gad G (b + 3)), .ref (gad G (b + 4)), .ref (gad G (b + 5)), .int (v b 5), .int (v b 6), .int x, .int (v b 8), .int (v b 9), .int (v b 10)]) := by rw [ent_L h]; simp [up2_row, upd]
theorem p_X1_8 {G : zG} {v : V3} {b : Nat} {x : Int32} (h : isL G b) : ent G (up2 v b 8 x) b = .inr (1, [.ref (gad G (b + 1)), .ref (gad G (b + 2)), .ref (gad G (b + 3)), .ref (gad G (b + 4)), .ref (gad G (b + 5)), .int (v b 5), .int (v b 6), .int (v b 7), .int x, .int (v b 9), .int (v b 10)]) := by rw [ent_L h]; simp [up2_row, upd]
theorem p_X1_9 {G : zG} {v : V3} {b : Nat} {x : Int32} (h : isL G b) : ent G (up2 v b 9 x) b = .inr (1, [.ref (gad G (b + 1)), .ref (gad G (b + 2)), .ref (gad G (b + 3)), .ref (gad G (b + 4)), .ref (gad G (b + 5)), .int (v b 5), .int (v b 6), .int (v b 7), .int (v b 8), .int x, .int (v b 10)]) := by rw [ent_L h]; simp [up2_row, upd]
theorem p_X1_10 {G : zG} {v : V3} {b : Nat} {x : Int32} (h : isL G b) : ent G (up2 v b 10 x) b = .inr (1, [.ref (gad G (b + 1)), .ref (gad G (b + 2)), .ref (gad G (b + 3)), .ref (gad G (b + 4)), .ref (gad G (b + 5)), .int (v b 5), .int (v b 6), .int (v b 7), .int (v b 8), .int (v b 9), .int x]) := by rw [ent_L h]; simp [up2_row, upd]
theorem eL_1 {G : zG} {v : V3} (h : ¬ v 7 1 = 0) : ent G v 7 = .inr (4, [.ref (gad G 0), .ref (gk G 3), .int (v 7 2), .int (v 7 3), .int (v 7 4)]) := by
  show Sum.inr (4, [Value.ref (gad G 0), (if v 7 1 = 0 then .null else .ref (gk G 3)), .int (v 7 2), .int (v 7 3), .int (v 7 4)]) = _
  rw [if_neg h]
theorem gv_L_addOwner {own : String} {idx : Nat} (h : Cond.methodLink own idx yL_addOwner ∈ tbg) : GoodIn tbg (va_wsS own idx yL_addOwner (.codeWith yL_addOwner cL_addOwner 3 (some .int) [(0, 5, 6, 43), (0, 5, 10, 45)] :: tbg)) := z_goodSW h tm_1_220 tm_1_0 tm_1_221
theorem ds_L_addOwner : dsc yL_addOwner 2 := ⟨by decide +kernel, by decide +kernel, by decide +kernel⟩
theorem gv_L_ahead {own : String} {idx : Nat} (h : Cond.methodLink own idx yL_ahead ∈ tbg) : GoodIn tbg (va_wsS own idx yL_ahead (.codeWith yL_ahead cL_ahead 4 (some .int) [(0, 6, 7, 43)] :: tbg)) := z_goodSW h tm_3_169 tm_1_0 tm_3_170
theorem ds_L_ahead : dsc yL_ahead 3 := ⟨by decide +kernel, by decide +kernel, by decide +kernel⟩
theorem gv_L_arrive {own : String} {idx : Nat} (h : Cond.methodLink own idx yL_arrive ∈ tbg) : GoodIn tbg (va_wsS own idx yL_arrive (.codeWith yL_arrive cL_arrive 3 (some .int) [(0, 5, 6, 56)] :: tbg)) := z_goodSW h tm_3_37 tm_1_0 tm_3_38
theorem ds_L_arrive : dsc yL_arrive 2 := ⟨by decide +kernel, by decide +kernel, by decide +kernel⟩
theorem gv_L_at {own : String} {idx : Nat} (h : Cond.methodLink own idx yL_at ∈ tbg) : GoodIn tbg (va_wsS own idx yL_at (.code yL_at cL_at 3 (some .int) :: tbg)) := z_goodS h tm_1_212 tm_1_0 tm_1_213
theorem ds_L_at : dsc yL_at 2 := ⟨by decide +kernel, by decide +kernel, by decide +kernel⟩
theorem gv_L_best {own : String} {idx : Nat} (h : Cond.methodLink own idx yL_best ∈ tbg) : GoodIn tbg (va_wsS own idx yL_best (.codeWith yL_best cL_best 3 (some .int) [(0, 5, 6, 43)] :: tbg)) := z_goodSW h tm_3_96 tm_1_0 tm_3_97
theorem ds_L_best : dsc yL_best 2 := ⟨by decide +kernel, by decide +kernel, by decide +kernel⟩
theorem gv_L_book {own : String} {idx : Nat} (h : Cond.methodLink own idx yL_book ∈ tbg) : GoodIn tbg (va_wsS own idx yL_book (.codeWith yL_book cL_book 6 (some .int) [(0, 9, 10, 56), (0, 9, 15, 43), (0, 9, 20, 45)] :: tbg)) := z_goodSW h tm_2_203 tm_1_0 tm_2_204
theorem ds_L_book : dsc yL_book 5 := ⟨by decide +kernel, by decide +kernel, by decide +kernel⟩
theorem gv_L_booking {own : String} {idx : Nat} (h : Cond.methodLink own idx yL_booking ∈ tbg) : GoodIn tbg (va_wsS own idx yL_booking (.codeWith yL_booking cL_booking 4 (some .int) [(0, 6, 7, 56), (0, 6, 11, 43)] :: tbg)) := z_goodSW h tm_2_239 tm_1_0 tm_3_0
theorem ds_L_booking : dsc yL_booking 3 := ⟨by decide +kernel, by decide +kernel, by decide +kernel⟩
theorem gv_L_buy {own : String} {idx : Nat} (h : Cond.methodLink own idx yL_buy ∈ tbg) : GoodIn tbg (va_wsS own idx yL_buy (.codeWith yL_buy cL_buy 4 (some .int) [(0, 6, 7, 56)] :: tbg)) := z_goodSW h tm_3_138 tm_1_0 tm_3_139
theorem ds_L_buy : dsc yL_buy 3 := ⟨by decide +kernel, by decide +kernel, by decide +kernel⟩
theorem gv_L_cancel {own : String} {idx : Nat} (h : Cond.methodLink own idx yL_cancel ∈ tbg) : GoodIn tbg (va_wsS own idx yL_cancel (.codeWith yL_cancel cL_cancel 3 (some .int) [(0, 5, 6, 56)] :: tbg)) := z_goodSW h tm_3_48 tm_1_0 tm_3_49
theorem ds_L_cancel : dsc yL_cancel 2 := ⟨by decide +kernel, by decide +kernel, by decide +kernel⟩
theorem gv_L_count {own : String} {idx : Nat} (h : Cond.methodLink own idx yL_count ∈ tbg) : GoodIn tbg (va_wsS own idx yL_count (.codeWith yL_count cL_count 3 (some .int) [(0, 5, 6, 43)] :: tbg)) := z_goodSW h tm_2_94 tm_1_0 tm_2_95
theorem ds_L_count : dsc yL_count 2 := ⟨by decide +kernel, by decide +kernel, by decide +kernel⟩
theorem gv_L_draft {own : String} {idx : Nat} (h : Cond.methodLink own idx yL_draft ∈ tbg) : GoodIn tbg (va_wsS own idx yL_draft (.codeWith yL_draft cL_draft 5 (some .int) [(0, 8, 9, 56), (0, 8, 14, 43)] :: tbg)) := z_goodSW h tm_2_114 tm_1_0 tm_2_115
theorem ds_L_draft : dsc yL_draft 4 := ⟨by decide +kernel, by decide +kernel, by decide +kernel⟩
theorem gv_L_draw {own : String} {idx : Nat} (h : Cond.methodLink own idx yL_draw ∈ tbg) : GoodIn tbg (wsV own idx RL yL_draw (.code yL_draw cL_draw 3 (some .int) :: tbg)) := z_goodV h tm_1_206 (tb0 (by decide +kernel) (by decide +kernel)) tm_1_0 tm_1_207
theorem ds_L_draw : dsc yL_draw 1 := ⟨by decide +kernel, by decide +kernel, by decide +kernel⟩
theorem gv_L_evict {own : String} {idx : Nat} (h : Cond.methodLink own idx yL_evict ∈ tbg) : GoodIn tbg (va_wsS own idx yL_evict (.codeWith yL_evict cL_evict 3 (some .int) [(0, 5, 6, 56)] :: tbg)) := z_goodSW h tm_3_66 tm_1_0 tm_3_67
theorem ds_L_evict : dsc yL_evict 2 := ⟨by decide +kernel, by decide +kernel, by decide +kernel⟩
theorem gv_L_extend {own : String} {idx : Nat} (h : Cond.methodLink own idx yL_extend ∈ tbg) : GoodIn tbg (va_wsS own idx yL_extend (.codeWith yL_extend cL_extend 4 (some .int) [(0, 6, 7, 56), (0, 6, 11, 43)] :: tbg)) := z_goodSW h tm_3_55 tm_1_0 tm_3_56
theorem ds_L_extend : dsc yL_extend 3 := ⟨by decide +kernel, by decide +kernel, by decide +kernel⟩
theorem gv_L_gain {own : String} {idx : Nat} (h : Cond.methodLink own idx yL_gain ∈ tbg) : GoodIn tbg (va_wsS own idx yL_gain (.codeWith yL_gain cL_gain 4 (some .int) [(0, 6, 7, 56)] :: tbg)) := z_goodSW h tm_3_74 tm_1_0 tm_3_75
theorem ds_L_gain : dsc yL_gain 3 := ⟨by decide +kernel, by decide +kernel, by decide +kernel⟩
theorem gv_L_holder {own : String} {idx : Nat} (h : Cond.methodLink own idx yL_holder ∈ tbg) : GoodIn tbg (va_wsS own idx yL_holder (.codeWith yL_holder cL_holder 4 (some .int) [(0, 6, 7, 56), (0, 6, 11, 43)] :: tbg)) := z_goodSW h tm_4_12 tm_1_0 tm_4_13
theorem ds_L_holder : dsc yL_holder 3 := ⟨by decide +kernel, by decide +kernel, by decide +kernel⟩
theorem gv_L_leave {own : String} {idx : Nat} (h : Cond.methodLink own idx yL_leave ∈ tbg) : GoodIn tbg (va_wsS own idx yL_leave (.codeWith yL_leave cL_leave 3 (some .int) [(0, 5, 6, 56)] :: tbg)) := z_goodSW h tm_3_22 tm_1_0 tm_3_23
theorem ds_L_leave : dsc yL_leave 2 := ⟨by decide +kernel, by decide +kernel, by decide +kernel⟩
theorem gv_L_nobodyCould {own : String} {idx : Nat} (h : Cond.methodLink own idx yL_nobodyCould ∈ tbg) : GoodIn tbg (wsV own idx RL yL_nobodyCould (.code yL_nobodyCould cL_nobodyCould 2 (some .boolean) :: tbg)) := z_goodV h tm_3_45 (tb0 (by decide +kernel) (by decide +kernel)) tm_1_0 tm_3_46
theorem ds_L_nobodyCould : dsc yL_nobodyCould 0 := ⟨by decide +kernel, by decide +kernel, by decide +kernel⟩
theorem gv_L_owner {own : String} {idx : Nat} (h : Cond.methodLink own idx yL_owner ∈ tbg) : GoodIn tbg (va_wsS own idx yL_owner (.codeWith yL_owner cL_owner 4 (some .int) [(0, 6, 7, 56), (0, 6, 11, 43)] :: tbg)) := z_goodSW h tm_2_148 tm_1_0 tm_2_149
theorem ds_L_owner : dsc yL_owner 3 := ⟨by decide +kernel, by decide +kernel, by decide +kernel⟩
theorem gv_L_pass {own : String} {idx : Nat} (h : Cond.methodLink own idx yL_pass ∈ tbg) : GoodIn tbg (va_wsS own idx yL_pass (.codeWith yL_pass cL_pass 3 (some .int) [(0, 5, 6, 43), (0, 5, 10, 45)] :: tbg)) := z_goodSW h tm_3_204 tm_1_0 tm_3_205
theorem ds_L_pass : dsc yL_pass 2 := ⟨by decide +kernel, by decide +kernel, by decide +kernel⟩
theorem gv_L_set {own : String} {idx : Nat} (h : Cond.methodLink own idx yL_set ∈ tbg) : GoodIn tbg (va_wsS own idx yL_set (.codeWith yL_set cL_set 4 (some .int) [(0, 6, 7, 43)] :: tbg)) := z_goodSW h tm_2_79 tm_1_0 tm_2_80
theorem ds_L_set : dsc yL_set 3 := ⟨by decide +kernel, by decide +kernel, by decide +kernel⟩
theorem gv_L_show {own : String} {idx : Nat} (h : Cond.methodLink own idx yL_show ∈ tbg) : GoodIn tbg (va_wsS own idx yL_show (.codeWith yL_show cL_show 3 (some .int) [(0, 5, 6, 43)] :: tbg)) := z_goodSW h tm_4_1 tm_1_0 tm_4_2
theorem ds_L_show : dsc yL_show 2 := ⟨by decide +kernel, by decide +kernel, by decide +kernel⟩
theorem gv_L_swap {own : String} {idx : Nat} (h : Cond.methodLink own idx yL_swap ∈ tbg) : GoodIn tbg (va_wsS own idx yL_swap (.codeWith yL_swap cL_swap 4 (some .int) [(0, 6, 7, 56), (0, 6, 11, 43)] :: tbg)) := z_goodSW h tm_3_122 tm_1_0 tm_3_123
theorem ds_L_swap : dsc yL_swap 3 := ⟨by decide +kernel, by decide +kernel, by decide +kernel⟩
theorem gv_L_trust {own : String} {idx : Nat} (h : Cond.methodLink own idx yL_trust ∈ tbg) : GoodIn tbg (va_wsS own idx yL_trust (.codeWith yL_trust cL_trust 3 (some .double) [(0, 5, 6, 56)] :: tbg)) := z_goodSW h tm_3_216 tm_1_0 tm_3_217
theorem ds_L_trust : dsc yL_trust 2 := ⟨by decide +kernel, by decide +kernel, by decide +kernel⟩
theorem gv_L_waiter {own : String} {idx : Nat} (h : Cond.methodLink own idx yL_waiter ∈ tbg) : GoodIn tbg (va_wsS own idx yL_waiter (.codeWith yL_waiter cL_waiter 3 (some .int) [(0, 5, 6, 56)] :: tbg)) := z_goodSW h tm_3_225 tm_1_0 tm_3_226
theorem ds_L_waiter : dsc yL_waiter 2 := ⟨by decide +kernel, by decide +kernel, by decide +kernel⟩
theorem gv_X0_buyoutGain {own : String} {idx : Nat} (h : Cond.methodLink own idx yX0_buyoutGain ∈ tbg) : GoodIn tbg (wsV own idx RX0 yX0_buyoutGain (.code yX0_buyoutGain cX0_buyoutGain 8 (some .int) :: tbg)) := z_goodV h tm_3_87 tm_3_88 tm_1_4 tm_3_89
theorem ds_X0_buyoutGain : dsc yX0_buyoutGain 2 := ⟨by decide +kernel, by decide +kernel, by decide +kernel⟩
theorem gv_X0_countBargain {own : String} {idx : Nat} (h : Cond.methodLink own idx yX0_countBargain ∈ tbg) : GoodIn tbg (wsV own idx RX0 yX0_countBargain (.code yX0_countBargain cX0_countBargain 3 none :: tbg)) := z_goodV h tm_3_135 (tb0 (by decide +kernel) (by decide +kernel)) tm_1_4 tm_3_136
theorem ds_X0_countBargain : dsc yX0_countBargain 2 := ⟨by decide +kernel, by decide +kernel, by decide +kernel⟩
theorem gv_X0_findBest {own : String} {idx : Nat} (h : Cond.methodLink own idx yX0_findBest ∈ tbg) : GoodIn tbg (wsV own idx RX0 yX0_findBest (.code yX0_findBest cX0_findBest 1 (some .boolean) :: tbg)) := z_goodV h tm_3_103 tm_3_104 tm_1_4 tm_3_105
theorem ds_X0_findBest : dsc yX0_findBest 0 := ⟨by decide +kernel, by decide +kernel, by decide +kernel⟩
theorem gv_X0_findBestBuyout {own : String} {idx : Nat} (h : Cond.methodLink own idx yX0_findBestBuyout ∈ tbg) : GoodIn tbg (wsV own idx RX0 yX0_findBestBuyout (.code yX0_findBestBuyout cX0_findBestBuyout 3 none :: tbg)) := z_goodV h tm_3_118 (tb0 (by decide +kernel) (by decide +kernel)) tm_1_4 tm_3_119
theorem ds_X0_findBestBuyout : dsc yX0_findBestBuyout 0 := ⟨by decide +kernel, by decide +kernel, by decide +kernel⟩
theorem gv_X0_findBestSwap {own : String} {idx : Nat} (h : Cond.methodLink own idx yX0_findBestSwap ∈ tbg) : GoodIn tbg (wsV own idx RX0 yX0_findBestSwap (.code yX0_findBestSwap cX0_findBestSwap 3 none :: tbg)) := z_goodV h tm_3_108 (tb0 (by decide +kernel) (by decide +kernel)) tm_1_4 tm_3_109
theorem ds_X0_findBestSwap : dsc yX0_findBestSwap 0 := ⟨by decide +kernel, by decide +kernel, by decide +kernel⟩
theorem gv_X0_keepBetter {own : String} {idx : Nat} (h : Cond.methodLink own idx yX0_keepBetter ∈ tbg) : GoodIn tbg (wsV own idx RX0 yX0_keepBetter (.code yX0_keepBetter cX0_keepBetter 5 none :: tbg)) := z_goodV h tm_3_114 (tb0 (by decide +kernel) (by decide +kernel)) tm_1_4 tm_3_115
theorem ds_X0_keepBetter : dsc yX0_keepBetter 4 := ⟨by decide +kernel, by decide +kernel, by decide +kernel⟩
theorem gv_X0_makeBuyout {own : String} {idx : Nat} (h : Cond.methodLink own idx yX0_makeBuyout ∈ tbg) : GoodIn tbg (wsV own idx RX0 yX0_makeBuyout (.code yX0_makeBuyout cX0_makeBuyout 5 none :: tbg)) := z_goodV h tm_3_145 tm_3_146 tm_1_4 tm_3_147
theorem ds_X0_makeBuyout : dsc yX0_makeBuyout 2 := ⟨by decide +kernel, by decide +kernel, by decide +kernel⟩
theorem gv_X0_makeFound {own : String} {idx : Nat} (h : Cond.methodLink own idx yX0_makeFound ∈ tbg) : GoodIn tbg (wsV own idx RX0 yX0_makeFound (.code yX0_makeFound cX0_makeFound 1 none :: tbg)) := z_goodV h tm_3_155 tm_3_156 tm_1_4 tm_3_157
theorem ds_X0_makeFound : dsc yX0_makeFound 0 := ⟨by decide +kernel, by decide +kernel, by decide +kernel⟩
theorem gv_X0_makeSwap {own : String} {idx : Nat} (h : Cond.methodLink own idx yX0_makeSwap ∈ tbg) : GoodIn tbg (wsV own idx RX0 yX0_makeSwap (.code yX0_makeSwap cX0_makeSwap 7 none :: tbg)) := z_goodV h tm_3_130 tm_3_131 tm_1_4 tm_3_132
theorem ds_X0_makeSwap : dsc yX0_makeSwap 2 := ⟨by decide +kernel, by decide +kernel, by decide +kernel⟩
theorem gv_X0_priceOf {own : String} {idx : Nat} (h : Cond.methodLink own idx yX0_priceOf ∈ tbg) : GoodIn tbg (wsV own idx RX0 yX0_priceOf (.code yX0_priceOf cX0_priceOf 4 (some .int) :: tbg)) := z_goodV h tm_3_93 (tb0 (by decide +kernel) (by decide +kernel)) tm_1_4 tm_3_94
theorem ds_X0_priceOf : dsc yX0_priceOf 2 := ⟨by decide +kernel, by decide +kernel, by decide +kernel⟩
theorem gv_X0_swapGain {own : String} {idx : Nat} (h : Cond.methodLink own idx yX0_swapGain ∈ tbg) : GoodIn tbg (wsV own idx RX0 yX0_swapGain (.code yX0_swapGain cX0_swapGain 7 (some .int) :: tbg)) := z_goodV h tm_3_81 tm_3_82 tm_1_4 tm_3_83
theorem ds_X0_swapGain : dsc yX0_swapGain 2 := ⟨by decide +kernel, by decide +kernel, by decide +kernel⟩
theorem gv_X1_activeOf {own : String} {idx : Nat} (h : Cond.methodLink own idx yX1_activeOf ∈ tbg) : GoodIn tbg (wsV own idx RX1 yX1_activeOf (.code yX1_activeOf cX1_activeOf 4 (some .int) :: tbg)) := z_goodV h tm_2_160 tm_2_161 tm_1_2 tm_2_162
theorem ds_X1_activeOf : dsc yX1_activeOf 1 := ⟨by decide +kernel, by decide +kernel, by decide +kernel⟩
theorem gv_X1_bestTime {own : String} {idx : Nat} (h : Cond.methodLink own idx yX1_bestTime ∈ tbg) : GoodIn tbg (wsV own idx RX1 yX1_bestTime (.code yX1_bestTime cX1_bestTime 6 (some .int) :: tbg)) := z_goodV h tm_2_226 tm_2_227 tm_1_2 tm_2_228
theorem ds_X1_bestTime : dsc yX1_bestTime 1 := ⟨by decide +kernel, by decide +kernel, by decide +kernel⟩
theorem gv_X1_bookAt {own : String} {idx : Nat} (h : Cond.methodLink own idx yX1_bookAt ∈ tbg) : GoodIn tbg (wsV own idx RX1 yX1_bookAt (.code yX1_bookAt cX1_bookAt 4 (some .boolean) :: tbg)) := z_goodV h tm_2_235 tm_2_236 tm_1_2 tm_2_237
theorem ds_X1_bookAt : dsc yX1_bookAt 2 := ⟨by decide +kernel, by decide +kernel, by decide +kernel⟩
theorem gv_X1_brokenOf {own : String} {idx : Nat} (h : Cond.methodLink own idx yX1_brokenOf ∈ tbg) : GoodIn tbg (wsV own idx RX1 yX1_brokenOf (.code yX1_brokenOf cX1_brokenOf 2 (some .int) :: tbg)) := z_goodV h tm_2_172 tm_2_173 tm_1_2 tm_2_174
theorem ds_X1_brokenOf : dsc yX1_brokenOf 1 := ⟨by decide +kernel, by decide +kernel, by decide +kernel⟩
theorem gv_X1_bumpLate {own : String} {idx : Nat} (h : Cond.methodLink own idx yX1_bumpLate ∈ tbg) : GoodIn tbg (wsV own idx RX1 yX1_bumpLate (.code yX1_bumpLate cX1_bumpLate 4 (some .int) :: tbg)) := z_goodV h tm_3_196 (tb0 (by decide +kernel) (by decide +kernel)) tm_1_2 tm_3_197
theorem ds_X1_bumpLate : dsc yX1_bumpLate 0 := ⟨by decide +kernel, by decide +kernel, by decide +kernel⟩
theorem gv_X1_clashing {own : String} {idx : Nat} (h : Cond.methodLink own idx yX1_clashing ∈ tbg) : GoodIn tbg (wsV own idx RX1 yX1_clashing (.code yX1_clashing cX1_clashing 9 (some .int) :: tbg)) := z_goodV h tm_2_199 tm_2_200 tm_1_2 tm_2_201
theorem ds_X1_clashing : dsc yX1_clashing 6 := ⟨by decide +kernel, by decide +kernel, by decide +kernel⟩
theorem gv_X1_clearTally {own : String} {idx : Nat} (h : Cond.methodLink own idx yX1_clearTally ∈ tbg) : GoodIn tbg (wsV own idx RX1 yX1_clearTally (.code yX1_clearTally cX1_clearTally 2 none :: tbg)) := z_goodV h tm_3_183 tm_3_184 tm_1_2 tm_3_185
theorem ds_X1_clearTally : dsc yX1_clearTally 0 := ⟨by decide +kernel, by decide +kernel, by decide +kernel⟩
theorem gv_X1_copyFrom {own : String} {idx : Nat} (h : Cond.methodLink own idx yX1_copyFrom ∈ tbg) : GoodIn tbg (wsV own idx RX1 yX1_copyFrom (.code yX1_copyFrom cX1_copyFrom 3 none :: tbg)) := z_goodV h tm_3_176 tm_3_177 tm_1_2 tm_3_178
theorem ds_X1_copyFrom : dsc yX1_copyFrom 1 := ⟨by decide +kernel, by decide +kernel, by decide +kernel⟩
theorem gv_X1_countIn {own : String} {idx : Nat} (h : Cond.methodLink own idx yX1_countIn ∈ tbg) : GoodIn tbg (wsV own idx RX1 yX1_countIn (.code yX1_countIn cX1_countIn 4 (some .int) :: tbg)) := z_goodV h tm_2_101 tm_2_102 tm_1_2 tm_2_103
theorem ds_X1_countIn : dsc yX1_countIn 1 := ⟨by decide +kernel, by decide +kernel, by decide +kernel⟩
theorem gv_X1_dropEnded {own : String} {idx : Nat} (h : Cond.methodLink own idx yX1_dropEnded ∈ tbg) : GoodIn tbg (wsV own idx RX1 yX1_dropEnded (.code yX1_dropEnded cX1_dropEnded 3 (some .int) :: tbg)) := z_goodV h tm_4_57 tm_4_58 tm_1_2 tm_4_59
theorem ds_X1_dropEnded : dsc yX1_dropEnded 0 := ⟨by decide +kernel, by decide +kernel, by decide +kernel⟩
theorem gv_X1_earliestFit {own : String} {idx : Nat} (h : Cond.methodLink own idx yX1_earliestFit ∈ tbg) : GoodIn tbg (wsV own idx RX1 yX1_earliestFit (.code yX1_earliestFit cX1_earliestFit 9 (some .int) :: tbg)) := z_goodV h tm_2_195 tm_2_196 tm_1_2 tm_2_197
theorem ds_X1_earliestFit : dsc yX1_earliestFit 5 := ⟨by decide +kernel, by decide +kernel, by decide +kernel⟩
theorem gv_X1_enterBooking {own : String} {idx : Nat} (h : Cond.methodLink own idx yX1_enterBooking ∈ tbg) : GoodIn tbg (wsV own idx RX1 yX1_enterBooking (.code yX1_enterBooking cX1_enterBooking 10 (some .int) :: tbg)) := z_goodV h tm_2_218 tm_2_219 tm_1_2 tm_2_220
theorem ds_X1_enterBooking : dsc yX1_enterBooking 7 := ⟨by decide +kernel, by decide +kernel, by decide +kernel⟩
theorem gv_X1_enterOwner {own : String} {idx : Nat} (h : Cond.methodLink own idx yX1_enterOwner ∈ tbg) : GoodIn tbg (wsV own idx RX1 yX1_enterOwner (.code yX1_enterOwner cX1_enterOwner 4 (some .int) :: tbg)) := z_goodV h tm_2_75 tm_2_76 tm_1_2 tm_2_77
theorem ds_X1_enterOwner : dsc yX1_enterOwner 1 := ⟨by decide +kernel, by decide +kernel, by decide +kernel⟩
theorem gv_X1_expireWaiting {own : String} {idx : Nat} (h : Cond.methodLink own idx yX1_expireWaiting ∈ tbg) : GoodIn tbg (wsV own idx RX1 yX1_expireWaiting (.code yX1_expireWaiting cX1_expireWaiting 3 none :: tbg)) := z_goodV h tm_3_200 (tb0 (by decide +kernel) (by decide +kernel)) tm_1_2 tm_3_201
theorem ds_X1_expireWaiting : dsc yX1_expireWaiting 0 := ⟨by decide +kernel, by decide +kernel, by decide +kernel⟩
theorem gv_X1_finishHeld {own : String} {idx : Nat} (h : Cond.methodLink own idx yX1_finishHeld ∈ tbg) : GoodIn tbg (wsV own idx RX1 yX1_finishHeld (.code yX1_finishHeld cX1_finishHeld 4 (some .int) :: tbg)) := z_goodV h tm_3_192 (tb0 (by decide +kernel) (by decide +kernel)) tm_1_2 tm_3_193
theorem ds_X1_finishHeld : dsc yX1_finishHeld 0 := ⟨by decide +kernel, by decide +kernel, by decide +kernel⟩
theorem gv_X1_hasLimit {own : String} {idx : Nat} (h : Cond.methodLink own idx yX1_hasLimit ∈ tbg) : GoodIn tbg (wsV own idx RX1 yX1_hasLimit (.code yX1_hasLimit cX1_hasLimit 2 (some .boolean) :: tbg)) := z_goodV h tm_2_212 tm_2_213 tm_1_2 tm_2_214
theorem ds_X1_hasLimit : dsc yX1_hasLimit 1 := ⟨by decide +kernel, by decide +kernel, by decide +kernel⟩
theorem gv_X1_holderAt {own : String} {idx : Nat} (h : Cond.methodLink own idx yX1_holderAt ∈ tbg) : GoodIn tbg (wsV own idx RX1 yX1_holderAt (.code yX1_holderAt cX1_holderAt 3 (some .int) :: tbg)) := z_goodV h tm_4_8 tm_4_9 tm_1_2 tm_4_10
theorem ds_X1_holderAt : dsc yX1_holderAt 2 := ⟨by decide +kernel, by decide +kernel, by decide +kernel⟩
theorem gv_X1_isActive {own : String} {idx : Nat} (h : Cond.methodLink own idx yX1_isActive ∈ tbg) : GoodIn tbg (wsV own idx RX1 yX1_isActive (.code yX1_isActive cX1_isActive 3 (some .boolean) :: tbg)) := z_goodV h tm_2_164 tm_2_165 tm_1_2 tm_2_166
theorem ds_X1_isActive : dsc yX1_isActive 1 := ⟨by decide +kernel, by decide +kernel, by decide +kernel⟩
theorem gv_X1_isBarred {own : String} {idx : Nat} (h : Cond.methodLink own idx yX1_isBarred ∈ tbg) : GoodIn tbg (wsV own idx RX1 yX1_isBarred (.code yX1_isBarred cX1_isBarred 2 (some .boolean) :: tbg)) := z_goodV h tm_2_168 tm_2_169 tm_1_2 tm_2_170
theorem ds_X1_isBarred : dsc yX1_isBarred 1 := ⟨by decide +kernel, by decide +kernel, by decide +kernel⟩
theorem gv_X1_isIn {own : String} {idx : Nat} (h : Cond.methodLink own idx yX1_isIn ∈ tbg) : GoodIn tbg (wsV own idx RX1 yX1_isIn (.code yX1_isIn cX1_isIn 3 (some .boolean) :: tbg)) := z_goodV h tm_3_12 tm_3_13 tm_1_2 tm_3_14
theorem ds_X1_isIn : dsc yX1_isIn 2 := ⟨by decide +kernel, by decide +kernel, by decide +kernel⟩
theorem gv_X1_joyAt {own : String} {idx : Nat} (h : Cond.methodLink own idx yX1_joyAt ∈ tbg) : GoodIn tbg (wsV own idx RX1 yX1_joyAt (.code yX1_joyAt cX1_joyAt 5 (some .int) :: tbg)) := z_goodV h tm_2_184 tm_2_185 tm_1_2 tm_2_186
theorem ds_X1_joyAt : dsc yX1_joyAt 2 := ⟨by decide +kernel, by decide +kernel, by decide +kernel⟩
theorem gv_X1_joyOf {own : String} {idx : Nat} (h : Cond.methodLink own idx yX1_joyOf ∈ tbg) : GoodIn tbg (wsV own idx RX1 yX1_joyOf (.code yX1_joyOf cX1_joyOf 3 (some .int) :: tbg)) := z_goodV h tm_2_180 tm_2_181 tm_1_2 tm_2_182
theorem ds_X1_joyOf : dsc yX1_joyOf 1 := ⟨by decide +kernel, by decide +kernel, by decide +kernel⟩
theorem gv_X1_joyOfOwner {own : String} {idx : Nat} (h : Cond.methodLink own idx yX1_joyOfOwner ∈ tbg) : GoodIn tbg (wsV own idx RX1 yX1_joyOfOwner (.code yX1_joyOfOwner cX1_joyOfOwner 4 (some .int) :: tbg)) := z_goodV h tm_2_176 tm_2_177 tm_1_2 tm_2_178
theorem ds_X1_joyOfOwner : dsc yX1_joyOfOwner 1 := ⟨by decide +kernel, by decide +kernel, by decide +kernel⟩
theorem gv_X1_latestFit {own : String} {idx : Nat} (h : Cond.methodLink own idx yX1_latestFit ∈ tbg) : GoodIn tbg (wsV own idx RX1 yX1_latestFit (.code yX1_latestFit cX1_latestFit 10 (some .int) :: tbg)) := z_goodV h tm_2_231 tm_2_232 tm_1_2 tm_2_233
theorem ds_X1_latestFit : dsc yX1_latestFit 5 := ⟨by decide +kernel, by decide +kernel, by decide +kernel⟩
theorem gv_X1_letWait {own : String} {idx : Nat} (h : Cond.methodLink own idx yX1_letWait ∈ tbg) : GoodIn tbg (wsV own idx RX1 yX1_letWait (.code yX1_letWait cX1_letWait 3 none :: tbg)) := z_goodV h tm_2_222 tm_2_223 tm_1_2 tm_2_224
theorem ds_X1_letWait : dsc yX1_letWait 1 := ⟨by decide +kernel, by decide +kernel, by decide +kernel⟩
theorem gv_X1_placeWaiting {own : String} {idx : Nat} (h : Cond.methodLink own idx yX1_placeWaiting ∈ tbg) : GoodIn tbg (wsV own idx RX1 yX1_placeWaiting (.code yX1_placeWaiting cX1_placeWaiting 3 none :: tbg)) := z_goodV h tm_3_29 tm_3_30 tm_1_2 tm_3_31
theorem ds_X1_placeWaiting : dsc yX1_placeWaiting 0 := ⟨by decide +kernel, by decide +kernel, by decide +kernel⟩
theorem gv_X1_queueUp {own : String} {idx : Nat} (h : Cond.methodLink own idx yX1_queueUp ∈ tbg) : GoodIn tbg (wsV own idx RX1 yX1_queueUp (.code yX1_queueUp cX1_queueUp 5 (some .int) :: tbg)) := z_goodV h tm_3_34 (tb0 (by decide +kernel) (by decide +kernel)) tm_1_2 tm_3_35
theorem ds_X1_queueUp : dsc yX1_queueUp 0 := ⟨by decide +kernel, by decide +kernel, by decide +kernel⟩
theorem gv_X1_tick {own : String} {idx : Nat} (h : Cond.methodLink own idx yX1_tick ∈ tbg) : GoodIn tbg (wsV own idx RX1 yX1_tick (.code yX1_tick cX1_tick 2 none :: tbg)) := z_goodV h tm_3_187 tm_3_188 tm_1_2 tm_3_189
theorem ds_X1_tick : dsc yX1_tick 0 := ⟨by decide +kernel, by decide +kernel, by decide +kernel⟩
theorem gv_X1_usedWithin {own : String} {idx : Nat} (h : Cond.methodLink own idx yX1_usedWithin ∈ tbg) : GoodIn tbg (wsV own idx RX1 yX1_usedWithin (.code yX1_usedWithin cX1_usedWithin 6 (some .int) :: tbg)) := z_goodV h tm_2_105 tm_2_106 tm_1_2 tm_2_107
theorem ds_X1_usedWithin : dsc yX1_usedWithin 1 := ⟨by decide +kernel, by decide +kernel, by decide +kernel⟩
theorem gv_X1_waiterAt {own : String} {idx : Nat} (h : Cond.methodLink own idx yX1_waiterAt ∈ tbg) : GoodIn tbg (wsV own idx RX1 yX1_waiterAt (.code yX1_waiterAt cX1_waiterAt 3 (some .int) :: tbg)) := z_goodV h tm_3_233 tm_3_234 tm_1_2 tm_3_235
theorem ds_X1_waiterAt : dsc yX1_waiterAt 1 := ⟨by decide +kernel, by decide +kernel, by decide +kernel⟩
theorem gv_X1_wouldClash {own : String} {idx : Nat} (h : Cond.methodLink own idx yX1_wouldClash ∈ tbg) : GoodIn tbg (wsV own idx RX1 yX1_wouldClash (.code yX1_wouldClash cX1_wouldClash 6 (some .boolean) :: tbg)) := z_goodV h tm_3_62 tm_3_63 tm_1_2 tm_3_64
theorem ds_X1_wouldClash : dsc yX1_wouldClash 4 := ⟨by decide +kernel, by decide +kernel, by decide +kernel⟩
theorem gv_X3_addOwner {own : String} {idx : Nat} (h : Cond.methodLink own idx yX3_addOwner ∈ tbg) : GoodIn tbg (wsV own idx RX3 yX3_addOwner (.code yX3_addOwner cX3_addOwner 2 (some .int) :: tbg)) := z_goodV h tm_1_225 tm_1_226 tm_1_1 tm_1_227
theorem ds_X3_addOwner : dsc yX3_addOwner 1 := ⟨by decide +kernel, by decide +kernel, by decide +kernel⟩
theorem gv_X3_ahead {own : String} {idx : Nat} (h : Cond.methodLink own idx yX3_ahead ∈ tbg) : GoodIn tbg (wsV own idx RX3 yX3_ahead (.code yX3_ahead cX3_ahead 3 (some .int) :: tbg)) := z_goodV h tm_3_172 tm_3_173 tm_1_1 tm_3_174
theorem ds_X3_ahead : dsc yX3_ahead 2 := ⟨by decide +kernel, by decide +kernel, by decide +kernel⟩
theorem gv_X3_arrive {own : String} {idx : Nat} (h : Cond.methodLink own idx yX3_arrive ∈ tbg) : GoodIn tbg (wsV own idx RX3 yX3_arrive (.code yX3_arrive cX3_arrive 3 (some .int) :: tbg)) := z_goodV h tm_3_40 tm_3_41 tm_1_1 tm_3_42
theorem ds_X3_arrive : dsc yX3_arrive 1 := ⟨by decide +kernel, by decide +kernel, by decide +kernel⟩
theorem gv_X3_bargain {own : String} {idx : Nat} (h : Cond.methodLink own idx yX3_bargain ∈ tbg) : GoodIn tbg (wsV own idx RX3 yX3_bargain (.code yX3_bargain cX3_bargain 1 (some .int) :: tbg)) := z_goodV h tm_3_151 tm_3_152 tm_1_1 tm_3_153
theorem ds_X3_bargain : dsc yX3_bargain 0 := ⟨by decide +kernel, by decide +kernel, by decide +kernel⟩
theorem gv_X3_best {own : String} {idx : Nat} (h : Cond.methodLink own idx yX3_best ∈ tbg) : GoodIn tbg (wsV own idx RX3 yX3_best (.code yX3_best cX3_best 2 (some .int) :: tbg)) := z_goodV h tm_3_99 tm_3_100 tm_1_1 tm_3_101
theorem ds_X3_best : dsc yX3_best 1 := ⟨by decide +kernel, by decide +kernel, by decide +kernel⟩
theorem gv_X3_book {own : String} {idx : Nat} (h : Cond.methodLink own idx yX3_book ∈ tbg) : GoodIn tbg (wsV own idx RX3 yX3_book (.code yX3_book cX3_book 5 (some .int) :: tbg)) := z_goodV h tm_2_206 tm_2_207 tm_1_1 tm_2_208
theorem ds_X3_book : dsc yX3_book 4 := ⟨by decide +kernel, by decide +kernel, by decide +kernel⟩
theorem gv_X3_booking {own : String} {idx : Nat} (h : Cond.methodLink own idx yX3_booking ∈ tbg) : GoodIn tbg (wsV own idx RX3 yX3_booking (.code yX3_booking cX3_booking 3 (some .int) :: tbg)) := z_goodV h tm_3_2 tm_3_3 tm_1_1 tm_3_4
theorem ds_X3_booking : dsc yX3_booking 2 := ⟨by decide +kernel, by decide +kernel, by decide +kernel⟩
theorem gv_X3_buy {own : String} {idx : Nat} (h : Cond.methodLink own idx yX3_buy ∈ tbg) : GoodIn tbg (wsV own idx RX3 yX3_buy (.code yX3_buy cX3_buy 3 (some .int) :: tbg)) := z_goodV h tm_3_141 tm_3_142 tm_1_1 tm_3_143
theorem ds_X3_buy : dsc yX3_buy 2 := ⟨by decide +kernel, by decide +kernel, by decide +kernel⟩
theorem gv_X3_cancel {own : String} {idx : Nat} (h : Cond.methodLink own idx yX3_cancel ∈ tbg) : GoodIn tbg (wsV own idx RX3 yX3_cancel (.code yX3_cancel cX3_cancel 3 (some .int) :: tbg)) := z_goodV h tm_3_51 tm_3_52 tm_1_1 tm_3_53
theorem ds_X3_cancel : dsc yX3_cancel 1 := ⟨by decide +kernel, by decide +kernel, by decide +kernel⟩
theorem gv_X3_count {own : String} {idx : Nat} (h : Cond.methodLink own idx yX3_count ∈ tbg) : GoodIn tbg (wsV own idx RX3 yX3_count (.code yX3_count cX3_count 2 (some .int) :: tbg)) := z_goodV h tm_2_97 tm_2_98 tm_1_1 tm_2_99
theorem ds_X3_count : dsc yX3_count 1 := ⟨by decide +kernel, by decide +kernel, by decide +kernel⟩
theorem gv_X3_draft {own : String} {idx : Nat} (h : Cond.methodLink own idx yX3_draft ∈ tbg) : GoodIn tbg (wsV own idx RX3 yX3_draft (.code yX3_draft cX3_draft 4 none :: tbg)) := z_goodV h tm_2_118 tm_2_119 tm_1_1 tm_2_120
theorem ds_X3_draft : dsc yX3_draft 3 := ⟨by decide +kernel, by decide +kernel, by decide +kernel⟩
theorem gv_X3_evict {own : String} {idx : Nat} (h : Cond.methodLink own idx yX3_evict ∈ tbg) : GoodIn tbg (wsV own idx RX3 yX3_evict (.code yX3_evict cX3_evict 3 (some .int) :: tbg)) := z_goodV h tm_3_69 tm_3_70 tm_1_1 tm_3_71
theorem ds_X3_evict : dsc yX3_evict 1 := ⟨by decide +kernel, by decide +kernel, by decide +kernel⟩
theorem gv_X3_extend {own : String} {idx : Nat} (h : Cond.methodLink own idx yX3_extend ∈ tbg) : GoodIn tbg (wsV own idx RX3 yX3_extend (.code yX3_extend cX3_extend 4 (some .int) :: tbg)) := z_goodV h tm_3_58 tm_3_59 tm_1_1 tm_3_60
theorem ds_X3_extend : dsc yX3_extend 2 := ⟨by decide +kernel, by decide +kernel, by decide +kernel⟩
theorem gv_X3_gain {own : String} {idx : Nat} (h : Cond.methodLink own idx yX3_gain ∈ tbg) : GoodIn tbg (wsV own idx RX3 yX3_gain (.code yX3_gain cX3_gain 3 (some .int) :: tbg)) := z_goodV h tm_3_77 tm_3_78 tm_1_1 tm_3_79
theorem ds_X3_gain : dsc yX3_gain 2 := ⟨by decide +kernel, by decide +kernel, by decide +kernel⟩
theorem gv_X3_holder {own : String} {idx : Nat} (h : Cond.methodLink own idx yX3_holder ∈ tbg) : GoodIn tbg (wsV own idx RX3 yX3_holder (.code yX3_holder cX3_holder 3 (some .int) :: tbg)) := z_goodV h tm_4_15 tm_4_16 tm_1_1 tm_4_17
theorem ds_X3_holder : dsc yX3_holder 2 := ⟨by decide +kernel, by decide +kernel, by decide +kernel⟩
theorem gv_X3_leave {own : String} {idx : Nat} (h : Cond.methodLink own idx yX3_leave ∈ tbg) : GoodIn tbg (wsV own idx RX3 yX3_leave (.code yX3_leave cX3_leave 3 (some .int) :: tbg)) := z_goodV h tm_3_25 tm_3_26 tm_1_1 tm_3_27
theorem ds_X3_leave : dsc yX3_leave 1 := ⟨by decide +kernel, by decide +kernel, by decide +kernel⟩
theorem gv_X3_needBooking {own : String} {idx : Nat} (h : Cond.methodLink own idx yX3_needBooking ∈ tbg) : GoodIn tbg (wsV own idx RX3 yX3_needBooking (.code yX3_needBooking cX3_needBooking 2 none :: tbg)) := z_goodV h tm_3_7 (tb0 (by decide +kernel) (by decide +kernel)) tm_1_1 tm_3_8
theorem ds_X3_needBooking : dsc yX3_needBooking 1 := ⟨by decide +kernel, by decide +kernel, by decide +kernel⟩
theorem gv_X3_needByte {own : String} {idx : Nat} (h : Cond.methodLink own idx yX3_needByte ∈ tbg) : GoodIn tbg (wsV own idx RX3 yX3_needByte (.code yX3_needByte cX3_needByte 2 none :: tbg)) := z_goodV h tm_2_127 (tb0 (by decide +kernel) (by decide +kernel)) tm_1_1 tm_2_128
theorem ds_X3_needByte : dsc yX3_needByte 1 := ⟨by decide +kernel, by decide +kernel, by decide +kernel⟩
theorem gv_X3_needOwner {own : String} {idx : Nat} (h : Cond.methodLink own idx yX3_needOwner ∈ tbg) : GoodIn tbg (wsV own idx RX3 yX3_needOwner (.code yX3_needOwner cX3_needOwner 2 none :: tbg)) := z_goodV h tm_2_156 (tb0 (by decide +kernel) (by decide +kernel)) tm_1_1 tm_2_157
theorem ds_X3_needOwner : dsc yX3_needOwner 1 := ⟨by decide +kernel, by decide +kernel, by decide +kernel⟩
theorem gv_X3_needSpan {own : String} {idx : Nat} (h : Cond.methodLink own idx yX3_needSpan ∈ tbg) : GoodIn tbg (wsV own idx RX3 yX3_needSpan (.code yX3_needSpan cX3_needSpan 3 none :: tbg)) := z_goodV h tm_2_123 (tb0 (by decide +kernel) (by decide +kernel)) tm_1_1 tm_2_124
theorem ds_X3_needSpan : dsc yX3_needSpan 2 := ⟨by decide +kernel, by decide +kernel, by decide +kernel⟩
theorem gv_X3_needWithin {own : String} {idx : Nat} (h : Cond.methodLink own idx yX3_needWithin ∈ tbg) : GoodIn tbg (va_wsS own idx yX3_needWithin (.code yX3_needWithin cX3_needWithin 3 none :: tbg)) := z_goodS h tm_1_229 tm_1_1 tm_1_230
theorem ds_X3_needWithin : dsc yX3_needWithin 3 := ⟨by decide +kernel, by decide +kernel, by decide +kernel⟩
theorem gv_X3_nextFree {own : String} {idx : Nat} (h : Cond.methodLink own idx yX3_nextFree ∈ tbg) : GoodIn tbg (wsV own idx RX3 yX3_nextFree (.code yX3_nextFree cX3_nextFree 2 (some .int) :: tbg)) := z_goodV h tm_2_191 tm_2_192 tm_1_1 tm_2_193
theorem ds_X3_nextFree : dsc yX3_nextFree 1 := ⟨by decide +kernel, by decide +kernel, by decide +kernel⟩
theorem gv_X3_owner {own : String} {idx : Nat} (h : Cond.methodLink own idx yX3_owner ∈ tbg) : GoodIn tbg (wsV own idx RX3 yX3_owner (.code yX3_owner cX3_owner 3 (some .int) :: tbg)) := z_goodV h tm_2_151 tm_2_152 tm_1_1 tm_2_153
theorem ds_X3_owner : dsc yX3_owner 2 := ⟨by decide +kernel, by decide +kernel, by decide +kernel⟩
theorem gv_X3_pass {own : String} {idx : Nat} (h : Cond.methodLink own idx yX3_pass ∈ tbg) : GoodIn tbg (wsV own idx RX3 yX3_pass (.code yX3_pass cX3_pass 2 (some .int) :: tbg)) := z_goodV h tm_3_207 tm_3_208 tm_1_1 tm_3_209
theorem ds_X3_pass : dsc yX3_pass 1 := ⟨by decide +kernel, by decide +kernel, by decide +kernel⟩
theorem gv_X3_set {own : String} {idx : Nat} (h : Cond.methodLink own idx yX3_set ∈ tbg) : GoodIn tbg (wsV own idx RX3 yX3_set (.code yX3_set cX3_set 4 (some .int) :: tbg)) := z_goodV h tm_2_82 tm_2_83 tm_1_1 tm_2_84
theorem ds_X3_set : dsc yX3_set 2 := ⟨by decide +kernel, by decide +kernel, by decide +kernel⟩
theorem gv_X3_show {own : String} {idx : Nat} (h : Cond.methodLink own idx yX3_show ∈ tbg) : GoodIn tbg (wsV own idx RX3 yX3_show (.code yX3_show cX3_show 4 (some .int) :: tbg)) := z_goodV h tm_4_4 tm_4_5 tm_1_1 tm_4_6
theorem ds_X3_show : dsc yX3_show 1 := ⟨by decide +kernel, by decide +kernel, by decide +kernel⟩
theorem gv_X3_shown {own : String} {idx : Nat} (h : Cond.methodLink own idx yX3_shown ∈ tbg) : GoodIn tbg (wsV own idx RX3 yX3_shown (.code yX3_shown cX3_shown 2 (some .int) :: tbg)) := z_goodV h tm_4_19 tm_4_20 tm_1_1 tm_4_21
theorem ds_X3_shown : dsc yX3_shown 1 := ⟨by decide +kernel, by decide +kernel, by decide +kernel⟩
theorem gv_X3_swap {own : String} {idx : Nat} (h : Cond.methodLink own idx yX3_swap ∈ tbg) : GoodIn tbg (wsV own idx RX3 yX3_swap (.code yX3_swap cX3_swap 3 (some .int) :: tbg)) := z_goodV h tm_3_125 tm_3_126 tm_1_1 tm_3_127
theorem ds_X3_swap : dsc yX3_swap 2 := ⟨by decide +kernel, by decide +kernel, by decide +kernel⟩
theorem gv_X3_tallyOf {own : String} {idx : Nat} (h : Cond.methodLink own idx yX3_tallyOf ∈ tbg) : GoodIn tbg (va_wsS own idx yX3_tallyOf (.code yX3_tallyOf cX3_tallyOf 4 (some .int) :: tbg)) := z_goodS h tm_3_180 tm_1_1 tm_3_181
theorem ds_X3_tallyOf : dsc yX3_tallyOf 3 := ⟨by decide +kernel, by decide +kernel, by decide +kernel⟩
theorem gv_X3_trust {own : String} {idx : Nat} (h : Cond.methodLink own idx yX3_trust ∈ tbg) : GoodIn tbg (wsV own idx RX3 yX3_trust (.code yX3_trust cX3_trust 4 (some .double) :: tbg)) := z_goodV h tm_3_219 tm_3_220 tm_1_1 tm_3_221
theorem ds_X3_trust : dsc yX3_trust 1 := ⟨by decide +kernel, by decide +kernel, by decide +kernel⟩
theorem gv_X3_waiter {own : String} {idx : Nat} (h : Cond.methodLink own idx yX3_waiter ∈ tbg) : GoodIn tbg (wsV own idx RX3 yX3_waiter (.code yX3_waiter cX3_waiter 2 (some .int) :: tbg)) := z_goodV h tm_3_228 tm_3_229 tm_1_1 tm_3_230
theorem ds_X3_waiter : dsc yX3_waiter 1 := ⟨by decide +kernel, by decide +kernel, by decide +kernel⟩
theorem gv_X3_waitsFor {own : String} {idx : Nat} (h : Cond.methodLink own idx yX3_waitsFor ∈ tbg) : GoodIn tbg (wsV own idx RX3 yX3_waitsFor (.code yX3_waitsFor cX3_waitsFor 4 (some .int) :: tbg)) := z_goodV h tm_4_37 tm_4_38 tm_1_1 tm_4_39
theorem ds_X3_waitsFor : dsc yX3_waitsFor 2 := ⟨by decide +kernel, by decide +kernel, by decide +kernel⟩
