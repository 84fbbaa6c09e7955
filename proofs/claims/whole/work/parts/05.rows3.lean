theorem in_X0 : ∀ w ∈ u_ws RX0 TX0 2, w ∈ tbg := by decide +kernel
theorem in_X1 : ∀ w ∈ u_ws RX1 TX1 11, w ∈ tbg := by decide +kernel
theorem in_X2 : ∀ w ∈ u_ws RX2 TX2 9, w ∈ tbg := by decide +kernel
theorem in_X3 : ∀ w ∈ u_ws RX3 TX3 14, w ∈ tbg := by decide +kernel
theorem in_X4 : ∀ w ∈ u_ws RX4 TX4 34, w ∈ tbg := by decide +kernel
theorem in_0_4 : vp_in 0 4 := by unfold vp_in; decide
theorem in_0_5 : vp_in 0 5 := by unfold vp_in; decide
theorem in_0_8 : vp_in 0 8 := by unfold vp_in; decide
theorem in_0_10 : vp_in 0 10 := by unfold vp_in; decide
theorem in_0_474 : vp_in 0 474 := by unfold vp_in; decide
theorem in_1_4 : vp_in 1 4 := by unfold vp_in; decide
theorem in_1_5 : vp_in 1 5 := by unfold vp_in; decide
theorem in_1_8 : vp_in 1 8 := by unfold vp_in; decide
theorem in_1_10 : vp_in 1 10 := by unfold vp_in; decide
theorem in_1_474 : vp_in 1 474 := by unfold vp_in; decide
theorem in_2_4 : vp_in 2 4 := by unfold vp_in; decide
theorem in_2_5 : vp_in 2 5 := by unfold vp_in; decide
theorem in_2_8 : vp_in 2 8 := by unfold vp_in; decide
theorem in_2_10 : vp_in 2 10 := by unfold vp_in; decide
theorem in_2_474 : vp_in 2 474 := by unfold vp_in; decide
theorem in_3_4 : vp_in 3 4 := by unfold vp_in; decide
theorem in_3_5 : vp_in 3 5 := by unfold vp_in; decide
theorem in_3_8 : vp_in 3 8 := by unfold vp_in; decide
theorem in_3_10 : vp_in 3 10 := by unfold vp_in; decide
theorem in_3_474 : vp_in 3 474 := by unfold vp_in; decide
theorem in_4_8 : vp_in 4 8 := by unfold vp_in; decide
theorem in_4_10 : vp_in 4 10 := by unfold vp_in; decide
theorem in_4_474 : vp_in 4 474 := by unfold vp_in; decide
theorem in_5_8 : vp_in 5 8 := by unfold vp_in; decide
theorem in_5_10 : vp_in 5 10 := by unfold vp_in; decide
theorem in_5_474 : vp_in 5 474 := by unfold vp_in; decide
theorem in_6_8 : vp_in 6 8 := by unfold vp_in; decide
theorem in_6_10 : vp_in 6 10 := by unfold vp_in; decide
theorem in_6_474 : vp_in 6 474 := by unfold vp_in; decide
theorem in_7_8 : vp_in 7 8 := by unfold vp_in; decide
theorem in_7_10 : vp_in 7 10 := by unfold vp_in; decide
theorem in_7_474 : vp_in 7 474 := by unfold vp_in; decide
theorem in_8_10 : vp_in 8 10 := by unfold vp_in; decide
theorem in_8_474 : vp_in 8 474 := by unfold vp_in; decide
theorem in_9_10 : vp_in 9 10 := by unfold vp_in; decide
theorem in_9_474 : vp_in 9 474 := by unfold vp_in; decide
theorem nc_0 : ix 0 = 0 := by decide
theorem nc_1 : ix 1 = 1 := by decide
theorem nc_2 : ix 2 = 2 := by decide
theorem nc_3 : ix 3 = 3 := by decide
theorem nc_4 : ix 4 = 4 := by decide
theorem nc_5 : ix 5 = 5 := by decide
theorem nc_6 : ix 6 = 6 := by decide
theorem nc_7 : ix 7 = 7 := by decide
theorem nc_8 : ix 8 = 8 := by decide
theorem nc_9 : ix 9 = 9 := by decide
theorem p_X3_1 {G : zG} {v : V3} {x : Int32} : ent G (up2 v 0 1 x) 0 = .inr (3, [.ref (gad G 1), .int x, .int (v 0 2), .int (v 0 3), .ref (gad G 21), .ref (gad G 75), .ref (gad G 3), .ref (gad G 4), .ref (gad G 6), .int (v 0 9), .int (v 0 10), .int (v 0 11), .ref (gad G 2), .int (v 0 13)]) := rfl
theorem p_X3_2 {G : zG} {v : V3} {x : Int32} : ent G (up2 v 0 2 x) 0 = .inr (3, [.ref (gad G 1), .int (v 0 1), .int x, .int (v 0 3), .ref (gad G 21), .ref (gad G 75), .ref (gad G 3), .ref (gad G 4), .ref (gad G 6), .int (v 0 9), .int (v 0 10), .int (v 0 11), .ref (gad G 2), .int (v 0 13)]) := rfl
theorem p_X3_3 {G : zG} {v : V3} {x : Int32} : ent G (up2 v 0 3 x) 0 = .inr (3, [.ref (gad G 1), .int (v 0 1), .int (v 0 2), .int x, .ref (gad G 21), .ref (gad G 75), .ref (gad G 3), .ref (gad G 4), .ref (gad G 6), .int (v 0 9), .int (v 0 10), .int (v 0 11), .ref (gad G 2), .int (v 0 13)]) := rfl
theorem p_X3_9 {G : zG} {v : V3} {x : Int32} : ent G (up2 v 0 9 x) 0 = .inr (3, [.ref (gad G 1), .int (v 0 1), .int (v 0 2), .int (v 0 3), .ref (gad G 21), .ref (gad G 75), .ref (gad G 3), .ref (gad G 4), .ref (gad G 6), .int x, .int (v 0 10), .int (v 0 11), .ref (gad G 2), .int (v 0 13)]) := rfl
theorem p_X3_10 {G : zG} {v : V3} {x : Int32} : ent G (up2 v 0 10 x) 0 = .inr (3, [.ref (gad G 1), .int (v 0 1), .int (v 0 2), .int (v 0 3), .ref (gad G 21), .ref (gad G 75), .ref (gad G 3), .ref (gad G 4), .ref (gad G 6), .int (v 0 9), .int x, .int (v 0 11), .ref (gad G 2), .int (v 0 13)]) := rfl
theorem p_X3_11 {G : zG} {v : V3} {x : Int32} : ent G (up2 v 0 11 x) 0 = .inr (3, [.ref (gad G 1), .int (v 0 1), .int (v 0 2), .int (v 0 3), .ref (gad G 21), .ref (gad G 75), .ref (gad G 3), .ref (gad G 4), .ref (gad G 6), .int (v 0 9), .int (v 0 10), .int x, .ref (gad G 2), .int (v 0 13)]) := rfl
theorem p_X3_13 {G : zG} {v : V3} {x : Int32} : ent G (up2 v 0 13 x) 0 = .inr (3, [.ref (gad G 1), .int (v 0 1), .int (v 0 2), .int (v 0 3), .ref (gad G 21), .ref (gad G 75), .ref (gad G 3), .ref (gad G 4), .ref (gad G 6), .int (v 0 9), .int (v 0 10), .int (v 0 11), .ref (gad G 2), .int x]) := rfl
theorem p_X2_2 {G : zG} {v : V3} {x : Int32} : ent G (up2 v 6 2 x) 6 = .inr (2, [.ref (gad G 1), .ref (gad G 75), .int x, .int (v 6 3), .int (v 6 4), .int (v 6 5), .int (v 6 6), .int (v 6 7), .int (v 6 8)]) := rfl
theorem p_X2_3 {G : zG} {v : V3} {x : Int32} : ent G (up2 v 6 3 x) 6 = .inr (2, [.ref (gad G 1), .ref (gad G 75), .int (v 6 2), .int x, .int (v 6 4), .int (v 6 5), .int (v 6 6), .int (v 6 7), .int (v 6 8)]) := rfl
theorem p_X2_4 {G : zG} {v : V3} {x : Int32} : ent G (up2 v 6 4 x) 6 = .inr (2, [.ref (gad G 1), .ref (gad G 75), .int (v 6 2), .int (v 6 3), .int x, .int (v 6 5), .int (v 6 6), .int (v 6 7), .int (v 6 8)]) := rfl
theorem p_X2_5 {G : zG} {v : V3} {x : Int32} : ent G (up2 v 6 5 x) 6 = .inr (2, [.ref (gad G 1), .ref (gad G 75), .int (v 6 2), .int (v 6 3), .int (v 6 4), .int x, .int (v 6 6), .int (v 6 7), .int (v 6 8)]) := rfl
theorem p_X2_6 {G : zG} {v : V3} {x : Int32} : ent G (up2 v 6 6 x) 6 = .inr (2, [.ref (gad G 1), .ref (gad G 75), .int (v 6 2), .int (v 6 3), .int (v 6 4), .int (v 6 5), .int x, .int (v 6 7), .int (v 6 8)]) := rfl
theorem p_X2_7 {G : zG} {v : V3} {x : Int32} : ent G (up2 v 6 7 x) 6 = .inr (2, [.ref (gad G 1), .ref (gad G 75), .int (v 6 2), .int (v 6 3), .int (v 6 4), .int (v 6 5), .int (v 6 6), .int x, .int (v 6 8)]) := rfl
theorem p_X2_8 {G : zG} {v : V3} {x : Int32} : ent G (up2 v 6 8 x) 6 = .inr (2, [.ref (gad G 1), .ref (gad G 75), .int (v 6 2), .int (v 6 3), .int (v 6 4), .int (v 6 5), .int (v 6 6), .int (v 6 7), .int x]) := rfl
theorem p_X4_8 {G : zG} {v : V3} {x : Int32} : ent G (up2 v 7 8 x) 7 = .inr (4, [.ref (gad G 8), .ref (gad G 9), .ref (gad G 10), .ref (gad G 11), .ref (gad G 12), .ref (gad G 13), .ref (gad G 14), .ref (gad G 15), .int x, .int (v 7 9), .int (v 7 10), .int (v 7 11), .ref (gad G 16), .int (v 7 13), .int (v 7 14), .int (v 7 15), .int (v 7 16), .int (v 7 17), .int (v 7 18), .int (v 7 19), .int (v 7 20), .long (mk64 (v 7 21) (v 7 34)), .ref (gad G 17), .int (v 7 23), .int (v 7 24), .int (v 7 25), .int (v 7 26), .int (v 7 27), .int (v 7 28), .int (v 7 29), .int (v 7 30), .int (v 7 31), .ref (gad G 18), .int (v 7 33)]) := rfl
theorem p_X4_9 {G : zG} {v : V3} {x : Int32} : ent G (up2 v 7 9 x) 7 = .inr (4, [.ref (gad G 8), .ref (gad G 9), .ref (gad G 10), .ref (gad G 11), .ref (gad G 12), .ref (gad G 13), .ref (gad G 14), .ref (gad G 15), .int (v 7 8), .int x, .int (v 7 10), .int (v 7 11), .ref (gad G 16), .int (v 7 13), .int (v 7 14), .int (v 7 15), .int (v 7 16), .int (v 7 17), .int (v 7 18), .int (v 7 19), .int (v 7 20), .long (mk64 (v 7 21) (v 7 34)), .ref (gad G 17), .int (v 7 23), .int (v 7 24), .int (v 7 25), .int (v 7 26), .int (v 7 27), .int (v 7 28), .int (v 7 29), .int (v 7 30), .int (v 7 31), .ref (gad G 18), .int (v 7 33)]) := rfl
theorem p_X4_10 {G : zG} {v : V3} {x : Int32} : ent G (up2 v 7 10 x) 7 = .inr (4, [.ref (gad G 8), .ref (gad G 9), .ref (gad G 10), .ref (gad G 11), .ref (gad G 12), .ref (gad G 13), .ref (gad G 14), .ref (gad G 15), .int (v 7 8), .int (v 7 9), .int x, .int (v 7 11), .ref (gad G 16), .int (v 7 13), .int (v 7 14), .int (v 7 15), .int (v 7 16), .int (v 7 17), .int (v 7 18), .int (v 7 19), .int (v 7 20), .long (mk64 (v 7 21) (v 7 34)), .ref (gad G 17), .int (v 7 23), .int (v 7 24), .int (v 7 25), .int (v 7 26), .int (v 7 27), .int (v 7 28), .int (v 7 29), .int (v 7 30), .int (v 7 31), .ref (gad G 18), .int (v 7 33)]) := rfl
theorem p_X4_11 {G : zG} {v : V3} {x : Int32} : ent G (up2 v 7 11 x) 7 = .inr (4, [.ref (gad G 8), .ref (gad G 9), .ref (gad G 10), .ref (gad G 11), .ref (gad G 12), .ref (gad G 13), .ref (gad G 14), .ref (gad G 15), .int (v 7 8), .int (v 7 9), .int (v 7 10), .int x, .ref (gad G 16), .int (v 7 13), .int (v 7 14), .int (v 7 15), .int (v 7 16), .int (v 7 17), .int (v 7 18), .int (v 7 19), .int (v 7 20), .long (mk64 (v 7 21) (v 7 34)), .ref (gad G 17), .int (v 7 23), .int (v 7 24), .int (v 7 25), .int (v 7 26), .int (v 7 27), .int (v 7 28), .int (v 7 29), .int (v 7 30), .int (v 7 31), .ref (gad G 18), .int (v 7 33)]) := rfl
theorem p_X4_13 {G : zG} {v : V3} {x : Int32} : ent G (up2 v 7 13 x) 7 = .inr (4, [.ref (gad G 8), .ref (gad G 9), .ref (gad G 10), .ref (gad G 11), .ref (gad G 12), .ref (gad G 13), .ref (gad G 14), .ref (gad G 15), .int (v 7 8), .int (v 7 9), .int (v 7 10), .int (v 7 11), .ref (gad G 16), .int x, .int (v 7 14), .int (v 7 15), .int (v 7 16), .int (v 7 17), .int (v 7 18), .int (v 7 19), .int (v 7 20), .long (mk64 (v 7 21) (v 7 34)), .ref (gad G 17), .int (v 7 23), .int (v 7 24), .int (v 7 25), .int (v 7 26), .int (v 7 27), .int (v 7 28), .int (v 7 29), .int (v 7 30), .int (v 7 31), .ref (gad G 18), .int (v 7 33)]) := rfl
theorem p_X4_14 {G : zG} {v : V3} {x : Int32} : ent G (up2 v 7 14 x) 7 = .inr (4, [.ref (gad G 8), .ref (gad G 9), .ref (gad G 10), .ref (gad G 11), .ref (gad G 12), .ref (gad G 13), .ref (gad G 14), .ref (gad G 15), .int (v 7 8), .int (v 7 9), .int (v 7 10), .int (v 7 11), .ref (gad G 16), .int (v 7 13), .int x, .int (v 7 15), .int (v 7 16), .int (v 7 17), .int (v 7 18), .int (v 7 19), .int (v 7 20), .long (mk64 (v 7 21) (v 7 34)), .ref (gad G 17), .int (v 7 23), .int (v 7 24), .int (v 7 25), .int (v 7 26), .int (v 7 27), .int (v 7 28), .int (v 7 29), .int (v 7 30), .int (v 7 31), .ref (gad G 18), .int (v 7 33)]) := rfl
theorem p_X4_15 {G : zG} {v : V3} {x : Int32} : ent G (up2 v 7 15 x) 7 = .inr (4, [.ref (gad G 8), .ref (gad G 9), .ref (gad G 10), .ref (gad G 11), .ref (gad G 12), .ref (gad G 13), .ref (gad G 14), .ref (gad G 15), .int (v 7 8), .int (v 7 9), .int (v 7 10), .int (v 7 11), .ref (gad G 16), .int (v 7 13), .int (v 7 14), .int x, .int (v 7 16), .int (v 7 17), .int (v 7 18), .int (v 7 19), .int (v 7 20), .long (mk64 (v 7 21) (v 7 34)), .ref (gad G 17), .int (v 7 23), .int (v 7 24), .int (v 7 25), .int (v 7 26), .int (v 7 27), .int (v 7 28), .int (v 7 29), .int (v 7 30), .int (v 7 31), .ref (gad G 18), .int (v 7 33)]) := rfl
theorem p_X4_16 {G : zG} {v : V3} {x : Int32} : ent G (up2 v 7 16 x) 7 = .inr (4, [.ref (gad G 8), .ref (gad G 9), .ref (gad G 10), .ref (gad G 11), .ref (gad G 12), .ref (gad G 13), .ref (gad G 14), .ref (gad G 15), .int (v 7 8), .int (v 7 9), .int (v 7 10), .int (v 7 11), .ref (gad G 16), .int (v 7 13), .int (v 7 14), .int (v 7 15), .int x, .int (v 7 17), .int (v 7 18), .int (v 7 19), .int (v 7 20), .long (mk64 (v 7 21) (v 7 34)), .ref (gad G 17), .int (v 7 23), .int (v 7 24), .int (v 7 25), .int (v 7 26), .int (v 7 27), .int (v 7 28), .int (v 7 29), .int (v 7 30), .int (v 7 31), .ref (gad G 18), .int (v 7 33)]) := rfl
theorem p_X4_17 {G : zG} {v : V3} {x : Int32} : ent G (up2 v 7 17 x) 7 = .inr (4, [.ref (gad G 8), .ref (gad G 9), .ref (gad G 10), .ref (gad G 11), .ref (gad G 12), .ref (gad G 13), .ref (gad G 14), .ref (gad G 15), .int (v 7 8), .int (v 7 9), .int (v 7 10), .int (v 7 11), .ref (gad G 16), .int (v 7 13), .int (v 7 14), .int (v 7 15), .int (v 7 16), .int x, .int (v 7 18), .int (v 7 19), .int (v 7 20), .long (mk64 (v 7 21) (v 7 34)), .ref (gad G 17), .int (v 7 23), .int (v 7 24), .int (v 7 25), .int (v 7 26), .int (v 7 27), .int (v 7 28), .int (v 7 29), .int (v 7 30), .int (v 7 31), .ref (gad G 18), .int (v 7 33)]) := rfl
theorem p_X4_18 {G : zG} {v : V3} {x : Int32} : ent G (up2 v 7 18 x) 7 = .inr (4, [.ref (gad G 8), .ref (gad G 9), .ref (gad G 10), .ref (gad G 11), .ref (gad G 12), .ref (gad G 13), .ref (gad G 14), .ref (gad G 15), .int (v 7 8), .int (v 7 9), .int (v 7 10), .int (v 7 11), .ref (gad G 16), .int (v 7 13), .int (v 7 14), .int (v 7 15), .int (v 7 16), .int (v 7 17), .int x, .int (v 7 19), .int (v 7 20), .long (mk64 (v 7 21) (v 7 34)), .ref (gad G 17), .int (v 7 23), .int (v 7 24), .int (v 7 25), .int (v 7 26), .int (v 7 27), .int (v 7 28), .int (v 7 29), .int (v 7 30), .int (v 7 31), .ref (gad G 18), .int (v 7 33)]) := rfl
theorem p_X4_19 {G : zG} {v : V3} {x : Int32} : ent G (up2 v 7 19 x) 7 = .inr (4, [.ref (gad G 8), .ref (gad G 9), .ref (gad G 10), .ref (gad G 11), .ref (gad G 12), .ref (gad G 13), .ref (gad G 14), .ref (gad G 15), .int (v 7 8), .int (v 7 9), .int (v 7 10), .int (v 7 11), .ref (gad G 16), .int (v 7 13), .int (v 7 14), .int (v 7 15), .int (v 7 16), .int (v 7 17), .int (v 7 18), .int x, .int (v 7 20), .long (mk64 (v 7 21) (v 7 34)), .ref (gad G 17), .int (v 7 23), .int (v 7 24), .int (v 7 25), .int (v 7 26), .int (v 7 27), .int (v 7 28), .int (v 7 29), .int (v 7 30), .int (v 7 31), .ref (gad G 18), .int (v 7 33)]) := rfl
theorem p_X4_20 {G : zG} {v : V3} {x : Int32} : ent G (up2 v 7 20 x) 7 = .inr (4, [.ref (gad G 8), .ref (gad G 9), .ref (gad G 10), .ref (gad G 11), .ref (gad G 12), .ref (gad G 13), .ref (gad G 14), .ref (gad G 15), .int (v 7 8), .int (v 7 9), .int (v 7 10), .int (v 7 11), .ref (gad G 16), .int (v 7 13), .int (v 7 14), .int (v 7 15), .int (v 7 16), .int (v 7 17), .int (v 7 18), .int (v 7 19), .int x, .long (mk64 (v 7 21) (v 7 34)), .ref (gad G 17), .int (v 7 23), .int (v 7 24), .int (v 7 25), .int (v 7 26), .int (v 7 27), .int (v 7 28), .int (v 7 29), .int (v 7 30), .int (v 7 31), .ref (gad G 18), .int (v 7 33)]) := rfl
theorem p_X4_23 {G : zG} {v : V3} {x : Int32} : ent G (up2 v 7 23 x) 7 = .inr (4, [.ref (gad G 8), .ref (gad G 9), .ref (gad G 10), .ref (gad G 11), .ref (gad G 12), .ref (gad G 13), .ref (gad G 14), .ref (gad G 15), .int (v 7 8), .int (v 7 9), .int (v 7 10), .int (v 7 11), .ref (gad G 16), .int (v 7 13), .int (v 7 14), .int (v 7 15), .int (v 7 16), .int (v 7 17), .int (v 7 18), .int (v 7 19), .int (v 7 20), .long (mk64 (v 7 21) (v 7 34)), .ref (gad G 17), .int x, .int (v 7 24), .int (v 7 25), .int (v 7 26), .int (v 7 27), .int (v 7 28), .int (v 7 29), .int (v 7 30), .int (v 7 31), .ref (gad G 18), .int (v 7 33)]) := rfl
theorem p_X4_24 {G : zG} {v : V3} {x : Int32} : ent G (up2 v 7 24 x) 7 = .inr (4, [.ref (gad G 8), .ref (gad G 9), .ref (gad G 10), .ref (gad G 11), .ref (gad G 12), .ref (gad G 13), .ref (gad G 14), .ref (gad G 15), .int (v 7 8), .int (v 7 9), .int (v 7 10), .int (v 7 11), .ref (gad G 16), .int (v 7 13), .int (v 7 14), .int (v 7 15), .int (v 7 16), .int (v 7 17), .int (v 7 18), .int (v 7 19), .int (v 7 20), .long (mk64 (v 7 21) (v 7 34)), .ref (gad G 17), .int (v 7 23), .int x, .int (v 7 25), .int (v 7 26), .int (v 7 27), .int (v 7 28), .int (v 7 29), .int (v 7 30), .int (v 7 31), .ref (gad G 18), .int (v 7 33)]) := rfl
theorem p_X4_25 {G : zG} {v : V3} {x : Int32} : ent G (up2 v 7 25 x) 7 = .inr (4, [.ref (gad G 8), .ref (gad G 9), .ref (gad G 10), .ref (gad G 11), .ref (gad G 12), .ref (gad G 13), .ref (gad G 14), .ref (gad G 15), .int (v 7 8), .int (v 7 9), .int (v 7 10), .int (v 7 11), .ref (gad G 16), .int (v 7 13), .int (v 7 14), .int (v 7 15), .int (v 7 16), .int (v 7 17), .int (v 7 18), .int (v 7 19), .int (v 7 20), .long (mk64 (v 7 21) (v 7 34)), .ref (gad G 17), .int (v 7 23), .int (v 7 24), .int x, .int (v 7 26), .int (v 7 27), .int (v 7 28), .int (v 7 29), .int (v 7 30), .int (v 7 31), .ref (gad G 18), .int (v 7 33)]) := rfl
theorem p_X4_26 {G : zG} {v : V3} {x : Int32} : ent G (up2 v 7 26 x) 7 = .inr (4, [.ref (gad G 8), .ref (gad G 9), .ref (gad G 10), .ref (gad G 11), .ref (gad G 12), .ref (gad G 13), .ref (gad G 14), .ref (gad G 15), .int (v 7 8), .int (v 7 9), .int (v 7 10), .int (v 7 11), .ref (gad G 16), .int (v 7 13), .int (v 7 14), .int (v 7 15), .int (v 7 16), .int (v 7 17), .int (v 7 18), .int (v 7 19), .int (v 7 20), .long (mk64 (v 7 21) (v 7 34)), .ref (gad G 17), .int (v 7 23), .int (v 7 24), .int (v 7 25), .int x, .int (v 7 27), .int (v 7 28), .int (v 7 29), .int (v 7 30), .int (v 7 31), .ref (gad G 18), .int (v 7 33)]) := rfl
theorem p_X4_27 {G : zG} {v : V3} {x : Int32} : ent G (up2 v 7 27 x) 7 = .inr (4, [.ref (gad G 8), .ref (gad G 9), .ref (gad G 10), .ref (gad G 11), .ref (gad G 12), .ref (gad G 13), .ref (gad G 14), .ref (gad G 15), .int (v 7 8), .int (v 7 9), .int (v 7 10), .int (v 7 11), .ref (gad G 16), .int (v 7 13), .int (v 7 14), .int (v 7 15), .int (v 7 16), .int (v 7 17), .int (v 7 18), .int (v 7 19), .int (v 7 20), .long (mk64 (v 7 21) (v 7 34)), .ref (gad G 17), .int (v 7 23), .int (v 7 24), .int (v 7 25), .int (v 7 26), .int x, .int (v 7 28), .int (v 7 29), .int (v 7 30), .int (v 7 31), .ref (gad G 18), .int (v 7 33)]) := rfl
theorem p_X4_28 {G : zG} {v : V3} {x : Int32} : ent G (up2 v 7 28 x) 7 = .inr (4, [.ref (gad G 8), .ref (gad G 9), .ref (gad G 10), .ref (gad G 11), .ref (gad G 12), .ref (gad G 13), .ref (gad G 14), .ref (gad G 15), .int (v 7 8), .int (v 7 9), .int (v 7 10), .int (v 7 11), .ref (gad G 16), .int (v 7 13), .int (v 7 14), .int (v 7 15), .int (v 7 16), .int (v 7 17), .int (v 7 18), .int (v 7 19), .int (v 7 20), .long (mk64 (v 7 21) (v 7 34)), .ref (gad G 17), .int (v 7 23), .int (v 7 24), .int (v 7 25), .int (v 7 26), .int (v 7 27), .int x, .int (v 7 29), .int (v 7 30), .int (v 7 31), .ref (gad G 18), .int (v 7 33)]) := rfl
theorem p_X4_29 {G : zG} {v : V3} {x : Int32} : ent G (up2 v 7 29 x) 7 = .inr (4, [.ref (gad G 8), .ref (gad G 9), .ref (gad G 10), .ref (gad G 11), .ref (gad G 12), .ref (gad G 13), .ref (gad G 14), .ref (gad G 15), .int (v 7 8), .int (v 7 9), .int (v 7 10), .int (v 7 11), .ref (gad G 16), .int (v 7 13), .int (v 7 14), .int (v 7 15), .int (v 7 16), .int (v 7 17), .int (v 7 18), .int (v 7 19), .int (v 7 20), .long (mk64 (v 7 21) (v 7 34)), .ref (gad G 17), .int (v 7 23), .int (v 7 24), .int (v 7 25), .int (v 7 26), .int (v 7 27), .int (v 7 28), .int x, .int (v 7 30), .int (v 7 31), .ref (gad G 18), .int (v 7 33)]) := rfl
theorem p_X4_30 {G : zG} {v : V3} {x : Int32} : ent G (up2 v 7 30 x) 7 = .inr (4, [.ref (gad G 8), .ref (gad G 9), .ref (gad G 10), .ref (gad G 11), .ref (gad G 12), .ref (gad G 13), .ref (gad G 14), .ref (gad G 15), .int (v 7 8), .int (v 7 9), .int (v 7 10), .int (v 7 11), .ref (gad G 16), .int (v 7 13), .int (v 7 14), .int (v 7 15), .int (v 7 16), .int (v 7 17), .int (v 7 18), .int (v 7 19), .int (v 7 20), .long (mk64 (v 7 21) (v 7 34)), .ref (gad G 17), .int (v 7 23), .int (v 7 24), .int (v 7 25), .int (v 7 26), .int (v 7 27), .int (v 7 28), .int (v 7 29), .int x, .int (v 7 31), .ref (gad G 18), .int (v 7 33)]) := rfl
theorem p_X4_31 {G : zG} {v : V3} {x : Int32} : ent G (up2 v 7 31 x) 7 = .inr (4, [.ref (gad G 8), .ref (gad G 9), .ref (gad G 10), .ref (gad G 11), .ref (gad G 12), .ref (gad G 13), .ref (gad G 14), .ref (gad G 15), .int (v 7 8), .int (v 7 9), .int (v 7 10), .int (v 7 11), .ref (gad G 16), .int (v 7 13), .int (v 7 14), .int (v 7 15), .int (v 7 16), .int (v 7 17), .int (v 7 18), .int (v 7 19), .int (v 7 20), .long (mk64 (v 7 21) (v 7 34)), .ref (gad G 17), .int (v 7 23), .int (v 7 24), .int (v 7 25), .int (v 7 26), .int (v 7 27), .int (v 7 28), .int (v 7 29), .int (v 7 30), .int x, .ref (gad G 18), .int (v 7 33)]) := rfl
theorem p_X4_33 {G : zG} {v : V3} {x : Int32} : ent G (up2 v 7 33 x) 7 = .inr (4, [.ref (gad G 8), .ref (gad G 9), .ref (gad G 10), .ref (gad G 11), .ref (gad G 12), .ref (gad G 13), .ref (gad G 14), .ref (gad G 15), .int (v 7 8), .int (v 7 9), .int (v 7 10), .int (v 7 11), .ref (gad G 16), .int (v 7 13), .int (v 7 14), .int (v 7 15), .int (v 7 16), .int (v 7 17), .int (v 7 18), .int (v 7 19), .int (v 7 20), .long (mk64 (v 7 21) (v 7 34)), .ref (gad G 17), .int (v 7 23), .int (v 7 24), .int (v 7 25), .int (v 7 26), .int (v 7 27), .int (v 7 28), .int (v 7 29), .int (v 7 30), .int (v 7 31), .ref (gad G 18), .int x]) := rfl
theorem p_X1_5 {G : zG} {v : V3} {b : Nat} {x : Int32} (h : isL G b) : ent G (up2 v b 5 x) b = .inr (1, [.ref (gad G (b + 1)), .ref (gad G (b + 2)), .ref (gad G (b + 3)), .ref (gad G (b + 4)), .ref (gad G (b + 5)), .int x, .int (v b 6), .int (v b 7), .int (v b 8), .int (v b 9), .int (v b 10)]) := by rw [ent_L h]; simp [up2_row, upd]
theorem p_X1_6 {G : zG} {v : V3} {b : Nat} {x : Int32} (h : isL G b) : ent G (up2 v b 6 x) b = .inr (1, [.ref (gad G (b + 1)), .ref (gad G (b + 2)), .ref (gad G (b + 3)), .ref (gad G (b + 4)), .ref (gad G (b + 5)), .int (v b 5), .int x, .int (v b 7), .int (v b 8), .int (v b 9), .int (v b 10)]) := by rw [ent_L h]; simp [up2_row, upd]
theorem p_X1_7 {G : zG} {v : V3} {b : Nat} {x : Int32} (h : isL G b) : ent G (up2 v b 7 x) b = .inr (1, [.ref (gad G (b + 1)), .ref (gad G (b + 2)), .ref (gad G (b + 3)), .ref (gad G (b + 4)), .ref (gad G (b + 5)), .int (v b 5), .int (v b 6), .int x, .int (v b 8), .int (v b 9), .int (v b 10)]) := by rw [ent_L h]; simp [up2_row, upd]
theorem p_X1_8 {G : zG} {v : V3} {b : Nat} {x : Int32} (h : isL G b) : ent G (up2 v b 8 x) b = .inr (1, [.ref (gad G (b + 1)), .ref (gad G (b + 2)), .ref (gad G (b + 3)), .ref (gad G (b + 4)), .ref (gad G (b + 5)), .int (v b 5), .int (v b 6), .int (v b 7), .int x, .int (v b 9), .int (v b 10)]) := by rw [ent_L h]; simp [up2_row, upd]
theorem p_X1_9 {G : zG} {v : V3} {b : Nat} {x : Int32} (h : isL G b) : ent G (up2 v b 9 x) b = .inr (1, [.ref (gad G (b + 1)), .ref (gad G (b + 2)), .ref (gad G (b + 3)), .ref (gad G (b + 4)), .ref (gad G (b + 5)), .int (v b 5), .int (v b 6), .int (v b 7), .int (v b 8), .int x, .int (v b 10)]) := by rw [ent_L h]; simp [up2_row, upd]
theorem p_X1_10 {G : zG} {v : V3} {b : Nat} {x : Int32} (h : isL G b) : ent G (up2 v b 10 x) b = .inr (1, [.ref (gad G (b + 1)), .ref (gad G (b + 2)), .ref (gad G (b + 3)), .ref (gad G (b + 4)), .ref (gad G (b + 5)), .int (v b 5), .int (v b 6), .int (v b 7), .int (v b 8), .int (v b 9), .int x]) := by rw [ent_L h]; simp [up2_row, upd]
theorem gv_J0_charAt_5068e {own : String} {idx : Nat} (h : Cond.methodLink own idx yJ0_charAt_5068e ∈ tbg) : GoodIn tbg (wsV own idx RJ0 yJ0_charAt_5068e (.code yJ0_charAt_5068e cJ0_charAt_5068e 2 (some .char) :: tbg)) := z_goodV h tm_2_3 tm_2_4 tm_1_13 tm_2_5
theorem ds_J0_charAt_5068e : dsc yJ0_charAt_5068e 1 := ⟨by decide +kernel, by decide +kernel, by decide +kernel⟩
theorem gv_J0_checkIndex_df160 {own : String} {idx : Nat} (h : Cond.methodLink own idx yJ0_checkIndex_df160 ∈ tbg) : GoodIn tbg (va_wsS own idx yJ0_checkIndex_df160 (.code yJ0_checkIndex_df160 cJ0_checkIndex_df160 2 none :: tbg)) := z_goodS h tm_2_14 tm_1_13 tm_2_15
theorem ds_J0_checkIndex_df160 : dsc yJ0_checkIndex_df160 2 := ⟨by decide +kernel, by decide +kernel, by decide +kernel⟩
theorem gv_J0_coder_7d493 {own : String} {idx : Nat} (h : Cond.methodLink own idx yJ0_coder_7d493 ∈ tbg) : GoodIn tbg (wsV own idx RJ0 yJ0_coder_7d493 (.code yJ0_coder_7d493 cJ0_coder_7d493 1 (some .byte) :: tbg)) := z_goodV h tm_1_237 tm_1_238 tm_1_13 tm_1_239
theorem ds_J0_coder_7d493 : dsc yJ0_coder_7d493 0 := ⟨by decide +kernel, by decide +kernel, by decide +kernel⟩
theorem gv_J0_isLatin1_aae02 {own : String} {idx : Nat} (h : Cond.methodLink own idx yJ0_isLatin1_aae02 ∈ tbg) : GoodIn tbg (wsV own idx RJ0 yJ0_isLatin1_aae02 (.code yJ0_isLatin1_aae02 cJ0_isLatin1_aae02 1 (some .boolean) :: tbg)) := z_goodV h tm_2_7 tm_2_8 tm_1_13 tm_2_9
theorem ds_J0_isLatin1_aae02 : dsc yJ0_isLatin1_aae02 0 := ⟨by decide +kernel, by decide +kernel, by decide +kernel⟩
theorem gv_J0_length_8abf5 {own : String} {idx : Nat} (h : Cond.methodLink own idx yJ0_length_8abf5 ∈ tbg) : GoodIn tbg (wsV own idx RJ0 yJ0_length_8abf5 (.code yJ0_length_8abf5 cJ0_length_8abf5 1 (some .int) :: tbg)) := z_goodV h tm_1_233 tm_1_234 tm_1_13 tm_1_235
theorem ds_J0_length_8abf5 : dsc yJ0_length_8abf5 0 := ⟨by decide +kernel, by decide +kernel, by decide +kernel⟩
theorem gv_J1_charAt_3b067 {own : String} {idx : Nat} (h : Cond.methodLink own idx yJ1_charAt_3b067 ∈ tbg) : GoodIn tbg (va_wsS own idx yJ1_charAt_3b067 (.code yJ1_charAt_3b067 cJ1_charAt_3b067 2 (some .char) :: tbg)) := z_goodS h tm_2_11 tm_1_14 tm_2_12
theorem ds_J1_charAt_3b067 : dsc yJ1_charAt_3b067 2 := ⟨by decide +kernel, by decide +kernel, by decide +kernel⟩
theorem gv_J3_checkIndex_8e157 {own : String} {idx : Nat} (h : Cond.methodLink own idx yJ3_checkIndex_8e157 ∈ tbg) : GoodIn tbg (va_wsS own idx yJ3_checkIndex_8e157 (.code yJ3_checkIndex_8e157 cJ3_checkIndex_8e157 3 (some .int) :: tbg)) := z_goodS h tm_2_19 tm_1_15 tm_2_20
theorem ds_J3_checkIndex_8e157 : dsc yJ3_checkIndex_8e157 3 := ⟨by decide +kernel, by decide +kernel, by decide +kernel⟩
theorem gv_X0_buyoutGain {own : String} {idx : Nat} (h : Cond.methodLink own idx yX0_buyoutGain ∈ tbg) : GoodIn tbg (wsV own idx RX0 yX0_buyoutGain (.code yX0_buyoutGain cX0_buyoutGain 8 (some .int) :: tbg)) := z_goodV h tm_2_205 tm_2_206 tm_1_4 tm_2_207
theorem ds_X0_buyoutGain : dsc yX0_buyoutGain 2 := ⟨by decide +kernel, by decide +kernel, by decide +kernel⟩
theorem gv_X0_countBargain {own : String} {idx : Nat} (h : Cond.methodLink own idx yX0_countBargain ∈ tbg) : GoodIn tbg (wsV own idx RX0 yX0_countBargain (.code yX0_countBargain cX0_countBargain 3 none :: tbg)) := z_goodV h tm_2_219 (tb0 (by decide +kernel) (by decide +kernel)) tm_1_4 tm_2_220
theorem ds_X0_countBargain : dsc yX0_countBargain 2 := ⟨by decide +kernel, by decide +kernel, by decide +kernel⟩
theorem gv_X0_findBest {own : String} {idx : Nat} (h : Cond.methodLink own idx yX0_findBest ∈ tbg) : GoodIn tbg (wsV own idx RX0 yX0_findBest (.code yX0_findBest cX0_findBest 1 (some .boolean) :: tbg)) := z_goodV h tm_2_166 tm_2_167 tm_1_4 tm_2_168
theorem ds_X0_findBest : dsc yX0_findBest 0 := ⟨by decide +kernel, by decide +kernel, by decide +kernel⟩
theorem gv_X0_findBestBuyout {own : String} {idx : Nat} (h : Cond.methodLink own idx yX0_findBestBuyout ∈ tbg) : GoodIn tbg (wsV own idx RX0 yX0_findBestBuyout (.code yX0_findBestBuyout cX0_findBestBuyout 3 none :: tbg)) := z_goodV h tm_2_202 (tb0 (by decide +kernel) (by decide +kernel)) tm_1_4 tm_2_203
theorem ds_X0_findBestBuyout : dsc yX0_findBestBuyout 0 := ⟨by decide +kernel, by decide +kernel, by decide +kernel⟩
theorem gv_X0_findBestSwap {own : String} {idx : Nat} (h : Cond.methodLink own idx yX0_findBestSwap ∈ tbg) : GoodIn tbg (wsV own idx RX0 yX0_findBestSwap (.code yX0_findBestSwap cX0_findBestSwap 3 none :: tbg)) := z_goodV h tm_2_171 (tb0 (by decide +kernel) (by decide +kernel)) tm_1_4 tm_2_172
theorem ds_X0_findBestSwap : dsc yX0_findBestSwap 0 := ⟨by decide +kernel, by decide +kernel, by decide +kernel⟩
theorem gv_X0_keepBetter {own : String} {idx : Nat} (h : Cond.methodLink own idx yX0_keepBetter ∈ tbg) : GoodIn tbg (wsV own idx RX0 yX0_keepBetter (.code yX0_keepBetter cX0_keepBetter 5 none :: tbg)) := z_goodV h tm_2_194 (tb0 (by decide +kernel) (by decide +kernel)) tm_1_4 tm_2_195
theorem ds_X0_keepBetter : dsc yX0_keepBetter 4 := ⟨by decide +kernel, by decide +kernel, by decide +kernel⟩
theorem gv_X0_makeBuyout {own : String} {idx : Nat} (h : Cond.methodLink own idx yX0_makeBuyout ∈ tbg) : GoodIn tbg (wsV own idx RX0 yX0_makeBuyout (.code yX0_makeBuyout cX0_makeBuyout 5 none :: tbg)) := z_goodV h tm_2_222 tm_2_223 tm_1_4 tm_2_224
theorem ds_X0_makeBuyout : dsc yX0_makeBuyout 2 := ⟨by decide +kernel, by decide +kernel, by decide +kernel⟩
theorem gv_X0_makeFound {own : String} {idx : Nat} (h : Cond.methodLink own idx yX0_makeFound ∈ tbg) : GoodIn tbg (wsV own idx RX0 yX0_makeFound (.code yX0_makeFound cX0_makeFound 1 none :: tbg)) := z_goodV h tm_2_210 tm_2_211 tm_1_4 tm_2_212
theorem ds_X0_makeFound : dsc yX0_makeFound 0 := ⟨by decide +kernel, by decide +kernel, by decide +kernel⟩
theorem gv_X0_makeSwap {own : String} {idx : Nat} (h : Cond.methodLink own idx yX0_makeSwap ∈ tbg) : GoodIn tbg (wsV own idx RX0 yX0_makeSwap (.code yX0_makeSwap cX0_makeSwap 7 none :: tbg)) := z_goodV h tm_2_214 tm_2_215 tm_1_4 tm_2_216
theorem ds_X0_makeSwap : dsc yX0_makeSwap 2 := ⟨by decide +kernel, by decide +kernel, by decide +kernel⟩
theorem gv_X0_priceOf {own : String} {idx : Nat} (h : Cond.methodLink own idx yX0_priceOf ∈ tbg) : GoodIn tbg (wsV own idx RX0 yX0_priceOf (.code yX0_priceOf cX0_priceOf 4 (some .int) :: tbg)) := z_goodV h tm_2_198 (tb0 (by decide +kernel) (by decide +kernel)) tm_1_4 tm_2_199
theorem ds_X0_priceOf : dsc yX0_priceOf 2 := ⟨by decide +kernel, by decide +kernel, by decide +kernel⟩
theorem gv_X0_swapGain {own : String} {idx : Nat} (h : Cond.methodLink own idx yX0_swapGain ∈ tbg) : GoodIn tbg (wsV own idx RX0 yX0_swapGain (.code yX0_swapGain cX0_swapGain 7 (some .int) :: tbg)) := z_goodV h tm_2_178 tm_2_179 tm_1_4 tm_2_180
theorem ds_X0_swapGain : dsc yX0_swapGain 2 := ⟨by decide +kernel, by decide +kernel, by decide +kernel⟩
theorem gv_X1_activeOf {own : String} {idx : Nat} (h : Cond.methodLink own idx yX1_activeOf ∈ tbg) : GoodIn tbg (wsV own idx RX1 yX1_activeOf (.code yX1_activeOf cX1_activeOf 4 (some .int) :: tbg)) := z_goodV h tm_2_80 tm_2_81 tm_1_2 tm_2_82
theorem ds_X1_activeOf : dsc yX1_activeOf 1 := ⟨by decide +kernel, by decide +kernel, by decide +kernel⟩
theorem gv_X1_bestTime {own : String} {idx : Nat} (h : Cond.methodLink own idx yX1_bestTime ∈ tbg) : GoodIn tbg (wsV own idx RX1 yX1_bestTime (.code yX1_bestTime cX1_bestTime 6 (some .int) :: tbg)) := z_goodV h tm_2_106 tm_2_107 tm_1_2 tm_2_108
theorem ds_X1_bestTime : dsc yX1_bestTime 1 := ⟨by decide +kernel, by decide +kernel, by decide +kernel⟩
theorem gv_X1_bookAt {own : String} {idx : Nat} (h : Cond.methodLink own idx yX1_bookAt ∈ tbg) : GoodIn tbg (wsV own idx RX1 yX1_bookAt (.code yX1_bookAt cX1_bookAt 4 (some .boolean) :: tbg)) := z_goodV h tm_2_125 tm_2_126 tm_1_2 tm_2_127
theorem ds_X1_bookAt : dsc yX1_bookAt 2 := ⟨by decide +kernel, by decide +kernel, by decide +kernel⟩
theorem gv_X1_brokenOf {own : String} {idx : Nat} (h : Cond.methodLink own idx yX1_brokenOf ∈ tbg) : GoodIn tbg (wsV own idx RX1 yX1_brokenOf (.code yX1_brokenOf cX1_brokenOf 2 (some .int) :: tbg)) := z_goodV h tm_2_236 tm_2_237 tm_1_2 tm_2_238
theorem ds_X1_brokenOf : dsc yX1_brokenOf 1 := ⟨by decide +kernel, by decide +kernel, by decide +kernel⟩
theorem gv_X1_bumpLate {own : String} {idx : Nat} (h : Cond.methodLink own idx yX1_bumpLate ∈ tbg) : GoodIn tbg (wsV own idx RX1 yX1_bumpLate (.code yX1_bumpLate cX1_bumpLate 4 (some .int) :: tbg)) := z_goodV h tm_4_94 (tb0 (by decide +kernel) (by decide +kernel)) tm_1_2 tm_4_95
theorem ds_X1_bumpLate : dsc yX1_bumpLate 0 := ⟨by decide +kernel, by decide +kernel, by decide +kernel⟩
theorem gv_X1_clashing {own : String} {idx : Nat} (h : Cond.methodLink own idx yX1_clashing ∈ tbg) : GoodIn tbg (wsV own idx RX1 yX1_clashing (.code yX1_clashing cX1_clashing 9 (some .int) :: tbg)) := z_goodV h tm_2_117 tm_2_118 tm_1_2 tm_2_119
theorem ds_X1_clashing : dsc yX1_clashing 6 := ⟨by decide +kernel, by decide +kernel, by decide +kernel⟩
theorem gv_X1_clearTally {own : String} {idx : Nat} (h : Cond.methodLink own idx yX1_clearTally ∈ tbg) : GoodIn tbg (wsV own idx RX1 yX1_clearTally (.code yX1_clearTally cX1_clearTally 2 none :: tbg)) := z_goodV h tm_4_81 tm_4_82 tm_1_2 tm_4_83
theorem ds_X1_clearTally : dsc yX1_clearTally 0 := ⟨by decide +kernel, by decide +kernel, by decide +kernel⟩
theorem gv_X1_copyFrom {own : String} {idx : Nat} (h : Cond.methodLink own idx yX1_copyFrom ∈ tbg) : GoodIn tbg (wsV own idx RX1 yX1_copyFrom (.code yX1_copyFrom cX1_copyFrom 3 none :: tbg)) := z_goodV h tm_2_138 tm_2_139 tm_1_2 tm_2_140
theorem ds_X1_copyFrom : dsc yX1_copyFrom 1 := ⟨by decide +kernel, by decide +kernel, by decide +kernel⟩
theorem gv_X1_countIn {own : String} {idx : Nat} (h : Cond.methodLink own idx yX1_countIn ∈ tbg) : GoodIn tbg (wsV own idx RX1 yX1_countIn (.code yX1_countIn cX1_countIn 4 (some .int) :: tbg)) := z_goodV h tm_3_131 tm_3_132 tm_1_2 tm_3_133
theorem ds_X1_countIn : dsc yX1_countIn 1 := ⟨by decide +kernel, by decide +kernel, by decide +kernel⟩
theorem gv_X1_dropEnded {own : String} {idx : Nat} (h : Cond.methodLink own idx yX1_dropEnded ∈ tbg) : GoodIn tbg (wsV own idx RX1 yX1_dropEnded (.code yX1_dropEnded cX1_dropEnded 3 (some .int) :: tbg)) := z_goodV h tm_2_158 tm_2_159 tm_1_2 tm_2_160
theorem ds_X1_dropEnded : dsc yX1_dropEnded 0 := ⟨by decide +kernel, by decide +kernel, by decide +kernel⟩
theorem gv_X1_earliestFit {own : String} {idx : Nat} (h : Cond.methodLink own idx yX1_earliestFit ∈ tbg) : GoodIn tbg (wsV own idx RX1 yX1_earliestFit (.code yX1_earliestFit cX1_earliestFit 9 (some .int) :: tbg)) := z_goodV h tm_2_110 tm_2_111 tm_1_2 tm_2_112
theorem ds_X1_earliestFit : dsc yX1_earliestFit 5 := ⟨by decide +kernel, by decide +kernel, by decide +kernel⟩
theorem gv_X1_enterBooking {own : String} {idx : Nat} (h : Cond.methodLink own idx yX1_enterBooking ∈ tbg) : GoodIn tbg (wsV own idx RX1 yX1_enterBooking (.code yX1_enterBooking cX1_enterBooking 10 (some .int) :: tbg)) := z_goodV h tm_2_98 tm_2_99 tm_1_2 tm_2_100
theorem ds_X1_enterBooking : dsc yX1_enterBooking 7 := ⟨by decide +kernel, by decide +kernel, by decide +kernel⟩
theorem gv_X1_enterOwner {own : String} {idx : Nat} (h : Cond.methodLink own idx yX1_enterOwner ∈ tbg) : GoodIn tbg (wsV own idx RX1 yX1_enterOwner (.code yX1_enterOwner cX1_enterOwner 4 (some .int) :: tbg)) := z_goodV h tm_2_63 tm_2_64 tm_1_2 tm_2_65
theorem ds_X1_enterOwner : dsc yX1_enterOwner 1 := ⟨by decide +kernel, by decide +kernel, by decide +kernel⟩
theorem gv_X1_expireWaiting {own : String} {idx : Nat} (h : Cond.methodLink own idx yX1_expireWaiting ∈ tbg) : GoodIn tbg (wsV own idx RX1 yX1_expireWaiting (.code yX1_expireWaiting cX1_expireWaiting 3 none :: tbg)) := z_goodV h tm_4_98 (tb0 (by decide +kernel) (by decide +kernel)) tm_1_2 tm_4_99
theorem ds_X1_expireWaiting : dsc yX1_expireWaiting 0 := ⟨by decide +kernel, by decide +kernel, by decide +kernel⟩
theorem gv_X1_finishHeld {own : String} {idx : Nat} (h : Cond.methodLink own idx yX1_finishHeld ∈ tbg) : GoodIn tbg (wsV own idx RX1 yX1_finishHeld (.code yX1_finishHeld cX1_finishHeld 4 (some .int) :: tbg)) := z_goodV h tm_4_90 (tb0 (by decide +kernel) (by decide +kernel)) tm_1_2 tm_4_91
theorem ds_X1_finishHeld : dsc yX1_finishHeld 0 := ⟨by decide +kernel, by decide +kernel, by decide +kernel⟩
theorem gv_X1_hasLimit {own : String} {idx : Nat} (h : Cond.methodLink own idx yX1_hasLimit ∈ tbg) : GoodIn tbg (wsV own idx RX1 yX1_hasLimit (.code yX1_hasLimit cX1_hasLimit 2 (some .boolean) :: tbg)) := z_goodV h tm_2_76 tm_2_77 tm_1_2 tm_2_78
theorem ds_X1_hasLimit : dsc yX1_hasLimit 1 := ⟨by decide +kernel, by decide +kernel, by decide +kernel⟩
theorem gv_X1_holderAt {own : String} {idx : Nat} (h : Cond.methodLink own idx yX1_holderAt ∈ tbg) : GoodIn tbg (wsV own idx RX1 yX1_holderAt (.code yX1_holderAt cX1_holderAt 3 (some .int) :: tbg)) := z_goodV h tm_4_123 tm_4_124 tm_1_2 tm_4_125
theorem ds_X1_holderAt : dsc yX1_holderAt 2 := ⟨by decide +kernel, by decide +kernel, by decide +kernel⟩
theorem gv_X1_isActive {own : String} {idx : Nat} (h : Cond.methodLink own idx yX1_isActive ∈ tbg) : GoodIn tbg (wsV own idx RX1 yX1_isActive (.code yX1_isActive cX1_isActive 3 (some .boolean) :: tbg)) := z_goodV h tm_2_84 tm_2_85 tm_1_2 tm_2_86
theorem ds_X1_isActive : dsc yX1_isActive 1 := ⟨by decide +kernel, by decide +kernel, by decide +kernel⟩
theorem gv_X1_isBarred {own : String} {idx : Nat} (h : Cond.methodLink own idx yX1_isBarred ∈ tbg) : GoodIn tbg (wsV own idx RX1 yX1_isBarred (.code yX1_isBarred cX1_isBarred 2 (some .boolean) :: tbg)) := z_goodV h tm_3_169 tm_3_170 tm_1_2 tm_3_171
theorem ds_X1_isBarred : dsc yX1_isBarred 1 := ⟨by decide +kernel, by decide +kernel, by decide +kernel⟩
theorem gv_X1_isHeldNow {own : String} {idx : Nat} (h : Cond.methodLink own idx yX1_isHeldNow ∈ tbg) : GoodIn tbg (wsV own idx RX1 yX1_isHeldNow (.code yX1_isHeldNow cX1_isHeldNow 4 (some .boolean) :: tbg)) := z_goodV h tm_4_142 tm_4_143 tm_1_2 tm_4_144
theorem ds_X1_isHeldNow : dsc yX1_isHeldNow 2 := ⟨by decide +kernel, by decide +kernel, by decide +kernel⟩
theorem gv_X1_isIn {own : String} {idx : Nat} (h : Cond.methodLink own idx yX1_isIn ∈ tbg) : GoodIn tbg (wsV own idx RX1 yX1_isIn (.code yX1_isIn cX1_isIn 3 (some .boolean) :: tbg)) := z_goodV h tm_2_174 tm_2_175 tm_1_2 tm_2_176
theorem ds_X1_isIn : dsc yX1_isIn 2 := ⟨by decide +kernel, by decide +kernel, by decide +kernel⟩
theorem gv_X1_joyAt {own : String} {idx : Nat} (h : Cond.methodLink own idx yX1_joyAt ∈ tbg) : GoodIn tbg (wsV own idx RX1 yX1_joyAt (.code yX1_joyAt cX1_joyAt 5 (some .int) :: tbg)) := z_goodV h tm_2_182 tm_2_183 tm_1_2 tm_2_184
theorem ds_X1_joyAt : dsc yX1_joyAt 2 := ⟨by decide +kernel, by decide +kernel, by decide +kernel⟩
theorem gv_X1_joyOf {own : String} {idx : Nat} (h : Cond.methodLink own idx yX1_joyOf ∈ tbg) : GoodIn tbg (wsV own idx RX1 yX1_joyOf (.code yX1_joyOf cX1_joyOf 3 (some .int) :: tbg)) := z_goodV h tm_3_177 tm_3_178 tm_1_2 tm_3_179
theorem ds_X1_joyOf : dsc yX1_joyOf 1 := ⟨by decide +kernel, by decide +kernel, by decide +kernel⟩
theorem gv_X1_joyOfOwner {own : String} {idx : Nat} (h : Cond.methodLink own idx yX1_joyOfOwner ∈ tbg) : GoodIn tbg (wsV own idx RX1 yX1_joyOfOwner (.code yX1_joyOfOwner cX1_joyOfOwner 4 (some .int) :: tbg)) := z_goodV h tm_3_173 tm_3_174 tm_1_2 tm_3_175
theorem ds_X1_joyOfOwner : dsc yX1_joyOfOwner 1 := ⟨by decide +kernel, by decide +kernel, by decide +kernel⟩
theorem gv_X1_latestFit {own : String} {idx : Nat} (h : Cond.methodLink own idx yX1_latestFit ∈ tbg) : GoodIn tbg (wsV own idx RX1 yX1_latestFit (.code yX1_latestFit cX1_latestFit 10 (some .int) :: tbg)) := z_goodV h tm_2_121 tm_2_122 tm_1_2 tm_2_123
theorem ds_X1_latestFit : dsc yX1_latestFit 5 := ⟨by decide +kernel, by decide +kernel, by decide +kernel⟩
theorem gv_X1_letWait {own : String} {idx : Nat} (h : Cond.methodLink own idx yX1_letWait ∈ tbg) : GoodIn tbg (wsV own idx RX1 yX1_letWait (.code yX1_letWait cX1_letWait 3 none :: tbg)) := z_goodV h tm_2_102 tm_2_103 tm_1_2 tm_2_104
theorem ds_X1_letWait : dsc yX1_letWait 1 := ⟨by decide +kernel, by decide +kernel, by decide +kernel⟩
theorem gv_X1_placeWaiting {own : String} {idx : Nat} (h : Cond.methodLink own idx yX1_placeWaiting ∈ tbg) : GoodIn tbg (wsV own idx RX1 yX1_placeWaiting (.code yX1_placeWaiting cX1_placeWaiting 3 none :: tbg)) := z_goodV h tm_2_228 tm_2_229 tm_1_2 tm_2_230
theorem ds_X1_placeWaiting : dsc yX1_placeWaiting 0 := ⟨by decide +kernel, by decide +kernel, by decide +kernel⟩
theorem gv_X1_queueUp {own : String} {idx : Nat} (h : Cond.methodLink own idx yX1_queueUp ∈ tbg) : GoodIn tbg (wsV own idx RX1 yX1_queueUp (.code yX1_queueUp cX1_queueUp 5 (some .int) :: tbg)) := z_goodV h tm_2_233 (tb0 (by decide +kernel) (by decide +kernel)) tm_1_2 tm_2_234
theorem ds_X1_queueUp : dsc yX1_queueUp 0 := ⟨by decide +kernel, by decide +kernel, by decide +kernel⟩
theorem gv_X1_startWith {own : String} {idx : Nat} (h : Cond.methodLink own idx yX1_startWith ∈ tbg) : GoodIn tbg (wsV own idx RX1 yX1_startWith (.code yX1_startWith cX1_startWith 2 none :: tbg)) := z_goodV h tm_1_35 tm_1_36 tm_1_2 tm_1_37
theorem ds_X1_startWith : dsc yX1_startWith 1 := ⟨by decide +kernel, by decide +kernel, by decide +kernel⟩
theorem gv_X1_tick {own : String} {idx : Nat} (h : Cond.methodLink own idx yX1_tick ∈ tbg) : GoodIn tbg (wsV own idx RX1 yX1_tick (.code yX1_tick cX1_tick 2 none :: tbg)) := z_goodV h tm_4_85 tm_4_86 tm_1_2 tm_4_87
theorem ds_X1_tick : dsc yX1_tick 0 := ⟨by decide +kernel, by decide +kernel, by decide +kernel⟩
theorem gv_X1_usedWithin {own : String} {idx : Nat} (h : Cond.methodLink own idx yX1_usedWithin ∈ tbg) : GoodIn tbg (wsV own idx RX1 yX1_usedWithin (.code yX1_usedWithin cX1_usedWithin 6 (some .int) :: tbg)) := z_goodV h tm_3_135 tm_3_136 tm_1_2 tm_3_137
theorem ds_X1_usedWithin : dsc yX1_usedWithin 1 := ⟨by decide +kernel, by decide +kernel, by decide +kernel⟩
theorem gv_X1_waiterAt {own : String} {idx : Nat} (h : Cond.methodLink own idx yX1_waiterAt ∈ tbg) : GoodIn tbg (wsV own idx RX1 yX1_waiterAt (.code yX1_waiterAt cX1_waiterAt 3 (some .int) :: tbg)) := z_goodV h tm_4_10 tm_4_11 tm_1_2 tm_4_12
theorem ds_X1_waiterAt : dsc yX1_waiterAt 1 := ⟨by decide +kernel, by decide +kernel, by decide +kernel⟩
theorem gv_X1_wouldClash {own : String} {idx : Nat} (h : Cond.methodLink own idx yX1_wouldClash ∈ tbg) : GoodIn tbg (wsV own idx RX1 yX1_wouldClash (.code yX1_wouldClash cX1_wouldClash 6 (some .boolean) :: tbg)) := z_goodV h tm_2_189 tm_2_190 tm_1_2 tm_2_191
theorem ds_X1_wouldClash : dsc yX1_wouldClash 4 := ⟨by decide +kernel, by decide +kernel, by decide +kernel⟩
theorem gv_X2_advance {own : String} {idx : Nat} (h : Cond.methodLink own idx yX2_advance ∈ tbg) : GoodIn tbg (wsV own idx RX2 yX2_advance (.code yX2_advance cX2_advance 1 none :: tbg)) := z_goodV h tm_1_206 (tb0 (by decide +kernel) (by decide +kernel)) tm_1_5 tm_1_207
theorem ds_X2_advance : dsc yX2_advance 0 := ⟨by decide +kernel, by decide +kernel, by decide +kernel⟩
theorem gv_X2_checkNumber {own : String} {idx : Nat} (h : Cond.methodLink own idx yX2_checkNumber ∈ tbg) : GoodIn tbg (wsV own idx RX2 yX2_checkNumber (.code yX2_checkNumber cX2_checkNumber 3 (some .int) :: tbg)) := z_goodV h tm_2_50 (tb0 (by decide +kernel) (by decide +kernel)) tm_1_5 tm_2_51
theorem ds_X2_checkNumber : dsc yX2_checkNumber 2 := ⟨by decide +kernel, by decide +kernel, by decide +kernel⟩
theorem gv_X2_fail {own : String} {idx : Nat} (h : Cond.methodLink own idx yX2_fail ∈ tbg) : GoodIn tbg (wsV own idx RX2 yX2_fail (.code yX2_fail cX2_fail 2 (some .boolean) :: tbg)) := z_goodV h tm_2_42 (tb0 (by decide +kernel) (by decide +kernel)) tm_1_5 tm_2_43
theorem ds_X2_fail : dsc yX2_fail 1 := ⟨by decide +kernel, by decide +kernel, by decide +kernel⟩
theorem gv_X2_isDigit {own : String} {idx : Nat} (h : Cond.methodLink own idx yX2_isDigit ∈ tbg) : GoodIn tbg (va_wsS own idx yX2_isDigit (.code yX2_isDigit cX2_isDigit 1 (some .boolean) :: tbg)) := z_goodS h tm_1_216 tm_1_5 tm_1_217
theorem ds_X2_isDigit : dsc yX2_isDigit 1 := ⟨by decide +kernel, by decide +kernel, by decide +kernel⟩
theorem gv_X2_isLetter {own : String} {idx : Nat} (h : Cond.methodLink own idx yX2_isLetter ∈ tbg) : GoodIn tbg (va_wsS own idx yX2_isLetter (.code yX2_isLetter cX2_isLetter 1 (some .boolean) :: tbg)) := z_goodS h tm_1_209 tm_1_5 tm_1_210
theorem ds_X2_isLetter : dsc yX2_isLetter 1 := ⟨by decide +kernel, by decide +kernel, by decide +kernel⟩
theorem gv_X2_isWord {own : String} {idx : Nat} (h : Cond.methodLink own idx yX2_isWord ∈ tbg) : GoodIn tbg (wsV own idx RX2 yX2_isWord (.code yX2_isWord cX2_isWord 3 (some .boolean) :: tbg)) := z_goodV h tm_1_230 (tb0 (by decide +kernel) (by decide +kernel)) tm_1_5 tm_1_231
theorem ds_X2_isWord : dsc yX2_isWord 1 := ⟨by decide +kernel, by decide +kernel, by decide +kernel⟩
theorem gv_X2_passDigits {own : String} {idx : Nat} (h : Cond.methodLink own idx yX2_passDigits ∈ tbg) : GoodIn tbg (wsV own idx RX2 yX2_passDigits (.code yX2_passDigits cX2_passDigits 1 none :: tbg)) := z_goodV h tm_1_220 (tb0 (by decide +kernel) (by decide +kernel)) tm_1_5 tm_1_221
theorem ds_X2_passDigits : dsc yX2_passDigits 0 := ⟨by decide +kernel, by decide +kernel, by decide +kernel⟩
theorem gv_X2_passLetters {own : String} {idx : Nat} (h : Cond.methodLink own idx yX2_passLetters ∈ tbg) : GoodIn tbg (wsV own idx RX2 yX2_passLetters (.code yX2_passLetters cX2_passLetters 1 none :: tbg)) := z_goodV h tm_1_213 (tb0 (by decide +kernel) (by decide +kernel)) tm_1_5 tm_1_214
theorem ds_X2_passLetters : dsc yX2_passLetters 0 := ⟨by decide +kernel, by decide +kernel, by decide +kernel⟩
theorem gv_X2_readBook {own : String} {idx : Nat} (h : Cond.methodLink own idx yX2_readBook ∈ tbg) : GoodIn tbg (wsV own idx RX2 yX2_readBook (.code yX2_readBook cX2_readBook 8 (some .boolean) :: tbg)) := z_goodV h tm_2_69 (tb0 (by decide +kernel) (by decide +kernel)) tm_1_5 tm_2_70
theorem ds_X2_readBook : dsc yX2_readBook 0 := ⟨by decide +kernel, by decide +kernel, by decide +kernel⟩
theorem gv_X2_readBookingOwner {own : String} {idx : Nat} (h : Cond.methodLink own idx yX2_readBookingOwner ∈ tbg) : GoodIn tbg (wsV own idx RX2 yX2_readBookingOwner (.code yX2_readBookingOwner cX2_readBookingOwner 2 (some .int) :: tbg)) := z_goodV h tm_2_73 (tb0 (by decide +kernel) (by decide +kernel)) tm_1_5 tm_2_74
theorem ds_X2_readBookingOwner : dsc yX2_readBookingOwner 0 := ⟨by decide +kernel, by decide +kernel, by decide +kernel⟩
theorem gv_X2_readLength {own : String} {idx : Nat} (h : Cond.methodLink own idx yX2_readLength ∈ tbg) : GoodIn tbg (wsV own idx RX2 yX2_readLength (.code yX2_readLength cX2_readLength 3 (some .int) :: tbg)) := z_goodV h tm_2_89 (tb0 (by decide +kernel) (by decide +kernel)) tm_1_5 tm_2_90
theorem ds_X2_readLength : dsc yX2_readLength 1 := ⟨by decide +kernel, by decide +kernel, by decide +kernel⟩
theorem gv_X2_readNumber {own : String} {idx : Nat} (h : Cond.methodLink own idx yX2_readNumber ∈ tbg) : GoodIn tbg (wsV own idx RX2 yX2_readNumber (.code yX2_readNumber cX2_readNumber 4 (some .int) :: tbg)) := z_goodV h tm_2_46 (tb0 (by decide +kernel) (by decide +kernel)) tm_1_5 tm_2_47
theorem ds_X2_readNumber : dsc yX2_readNumber 2 := ⟨by decide +kernel, by decide +kernel, by decide +kernel⟩
theorem gv_X2_readOption {own : String} {idx : Nat} (h : Cond.methodLink own idx yX2_readOption ∈ tbg) : GoodIn tbg (wsV own idx RX2 yX2_readOption (.code yX2_readOption cX2_readOption 5 (some .int) :: tbg)) := z_goodV h tm_2_94 (tb0 (by decide +kernel) (by decide +kernel)) tm_1_5 tm_2_95
theorem ds_X2_readOption : dsc yX2_readOption 4 := ⟨by decide +kernel, by decide +kernel, by decide +kernel⟩
theorem gv_X2_readOwner {own : String} {idx : Nat} (h : Cond.methodLink own idx yX2_readOwner ∈ tbg) : GoodIn tbg (wsV own idx RX2 yX2_readOwner (.code yX2_readOwner cX2_readOwner 2 (some .boolean) :: tbg)) := z_goodV h tm_2_60 (tb0 (by decide +kernel) (by decide +kernel)) tm_1_5 tm_2_61
theorem ds_X2_readOwner : dsc yX2_readOwner 0 := ⟨by decide +kernel, by decide +kernel, by decide +kernel⟩
theorem gv_X2_readSemicolon {own : String} {idx : Nat} (h : Cond.methodLink own idx yX2_readSemicolon ∈ tbg) : GoodIn tbg (wsV own idx RX2 yX2_readSemicolon (.code yX2_readSemicolon cX2_readSemicolon 1 (some .boolean) :: tbg)) := z_goodV h tm_2_55 (tb0 (by decide +kernel) (by decide +kernel)) tm_1_5 tm_2_56
theorem ds_X2_readSemicolon : dsc yX2_readSemicolon 0 := ⟨by decide +kernel, by decide +kernel, by decide +kernel⟩
theorem gv_X2_readSetting {own : String} {idx : Nat} (h : Cond.methodLink own idx yX2_readSetting ∈ tbg) : GoodIn tbg (wsV own idx RX2 yX2_readSetting (.code yX2_readSetting cX2_readSetting 3 (some .boolean) :: tbg)) := z_goodV h tm_2_131 (tb0 (by decide +kernel) (by decide +kernel)) tm_1_5 tm_2_132
theorem ds_X2_readSetting : dsc yX2_readSetting 0 := ⟨by decide +kernel, by decide +kernel, by decide +kernel⟩
theorem gv_X2_readSetup {own : String} {idx : Nat} (h : Cond.methodLink own idx yX2_readSetup ∈ tbg) : GoodIn tbg (wsV own idx RX2 yX2_readSetup (.code yX2_readSetup cX2_readSetup 4 (some .boolean) :: tbg)) := z_goodV h tm_1_198 tm_1_199 tm_1_5 tm_1_200
theorem ds_X2_readSetup : dsc yX2_readSetup 1 := ⟨by decide +kernel, by decide +kernel, by decide +kernel⟩
theorem gv_X2_readSize {own : String} {idx : Nat} (h : Cond.methodLink own idx yX2_readSize ∈ tbg) : GoodIn tbg (wsV own idx RX2 yX2_readSize (.code yX2_readSize cX2_readSize 2 (some .boolean) :: tbg)) := z_goodV h tm_1_225 (tb0 (by decide +kernel) (by decide +kernel)) tm_1_5 tm_1_226
theorem ds_X2_readSize : dsc yX2_readSize 0 := ⟨by decide +kernel, by decide +kernel, by decide +kernel⟩
theorem gv_X3_needBooking {own : String} {idx : Nat} (h : Cond.methodLink own idx yX3_needBooking ∈ tbg) : GoodIn tbg (wsV own idx RX3 yX3_needBooking (.code yX3_needBooking cX3_needBooking 2 none :: tbg)) := z_goodV h tm_3_235 (tb0 (by decide +kernel) (by decide +kernel)) tm_1_1 tm_3_236
theorem ds_X3_needBooking : dsc yX3_needBooking 1 := ⟨by decide +kernel, by decide +kernel, by decide +kernel⟩
theorem gv_X3_needByte {own : String} {idx : Nat} (h : Cond.methodLink own idx yX3_needByte ∈ tbg) : GoodIn tbg (wsV own idx RX3 yX3_needByte (.code yX3_needByte cX3_needByte 2 none :: tbg)) := z_goodV h tm_3_209 (tb0 (by decide +kernel) (by decide +kernel)) tm_1_1 tm_3_210
theorem ds_X3_needByte : dsc yX3_needByte 1 := ⟨by decide +kernel, by decide +kernel, by decide +kernel⟩
theorem gv_X3_needOwner {own : String} {idx : Nat} (h : Cond.methodLink own idx yX3_needOwner ∈ tbg) : GoodIn tbg (wsV own idx RX3 yX3_needOwner (.code yX3_needOwner cX3_needOwner 2 none :: tbg)) := z_goodV h tm_3_149 (tb0 (by decide +kernel) (by decide +kernel)) tm_1_1 tm_3_150
theorem ds_X3_needOwner : dsc yX3_needOwner 1 := ⟨by decide +kernel, by decide +kernel, by decide +kernel⟩
theorem gv_X3_needSpan {own : String} {idx : Nat} (h : Cond.methodLink own idx yX3_needSpan ∈ tbg) : GoodIn tbg (wsV own idx RX3 yX3_needSpan (.code yX3_needSpan cX3_needSpan 3 none :: tbg)) := z_goodV h tm_3_205 (tb0 (by decide +kernel) (by decide +kernel)) tm_1_1 tm_3_206
theorem ds_X3_needSpan : dsc yX3_needSpan 2 := ⟨by decide +kernel, by decide +kernel, by decide +kernel⟩
theorem gv_X3_needWithin {own : String} {idx : Nat} (h : Cond.methodLink own idx yX3_needWithin ∈ tbg) : GoodIn tbg (va_wsS own idx yX3_needWithin (.code yX3_needWithin cX3_needWithin 3 none :: tbg)) := z_goodS h tm_3_87 tm_1_1 tm_3_88
theorem ds_X3_needWithin : dsc yX3_needWithin 3 := ⟨by decide +kernel, by decide +kernel, by decide +kernel⟩
theorem gv_X3_resetDraft {own : String} {idx : Nat} (h : Cond.methodLink own idx yX3_resetDraft ∈ tbg) : GoodIn tbg (wsV own idx RX3 yX3_resetDraft (.code yX3_resetDraft cX3_resetDraft 1 none :: tbg)) := z_goodV h tm_2_143 (tb0 (by decide +kernel) (by decide +kernel)) tm_1_1 tm_2_144
theorem ds_X3_resetDraft : dsc yX3_resetDraft 0 := ⟨by decide +kernel, by decide +kernel, by decide +kernel⟩
theorem gv_X3_tallyOf {own : String} {idx : Nat} (h : Cond.methodLink own idx yX3_tallyOf ∈ tbg) : GoodIn tbg (va_wsS own idx yX3_tallyOf (.code yX3_tallyOf cX3_tallyOf 4 (some .int) :: tbg)) := z_goodS h tm_4_78 tm_1_1 tm_4_79
theorem ds_X3_tallyOf : dsc yX3_tallyOf 3 := ⟨by decide +kernel, by decide +kernel, by decide +kernel⟩
theorem gv_X4_accept {own : String} {idx : Nat} (h : Cond.methodLink own idx yX4_accept ∈ tbg) : GoodIn tbg (wsV own idx RX4 yX4_accept (.code yX4_accept cX4_accept 3 (some .boolean) :: tbg)) := z_goodV h tm_5_171 (tb0 (by decide +kernel) (by decide +kernel)) tm_1_6 tm_5_172
theorem ds_X4_accept : dsc yX4_accept 1 := ⟨by decide +kernel, by decide +kernel, by decide +kernel⟩
theorem gv_X4_advance {own : String} {idx : Nat} (h : Cond.methodLink own idx yX4_advance ∈ tbg) : GoodIn tbg (wsV own idx RX4 yX4_advance (.code yX4_advance cX4_advance 1 none :: tbg)) := z_goodV h tm_5_127 (tb0 (by decide +kernel) (by decide +kernel)) tm_1_6 tm_5_128
theorem ds_X4_advance : dsc yX4_advance 0 := ⟨by decide +kernel, by decide +kernel, by decide +kernel⟩
theorem gv_X4_appendBooking {own : String} {idx : Nat} (h : Cond.methodLink own idx yX4_appendBooking ∈ tbg) : GoodIn tbg (wsV own idx RX4 yX4_appendBooking (.code yX4_appendBooking cX4_appendBooking 7 (some .int) :: tbg)) := z_goodV h tm_5_176 (tb0 (by decide +kernel) (by decide +kernel)) tm_1_6 tm_5_177
theorem ds_X4_appendBooking : dsc yX4_appendBooking 4 := ⟨by decide +kernel, by decide +kernel, by decide +kernel⟩
theorem gv_X4_appendOwner {own : String} {idx : Nat} (h : Cond.methodLink own idx yX4_appendOwner ∈ tbg) : GoodIn tbg (wsV own idx RX4 yX4_appendOwner (.code yX4_appendOwner cX4_appendOwner 4 (some .int) :: tbg)) := z_goodV h tm_5_152 (tb0 (by decide +kernel) (by decide +kernel)) tm_1_6 tm_5_153
theorem ds_X4_appendOwner : dsc yX4_appendOwner 1 := ⟨by decide +kernel, by decide +kernel, by decide +kernel⟩
theorem gv_X4_await {own : String} {idx : Nat} (h : Cond.methodLink own idx yX4_await ∈ tbg) : GoodIn tbg (wsV own idx RX4 yX4_await (.code yX4_await cX4_await 2 none :: tbg)) := z_goodV h tm_5_184 (tb0 (by decide +kernel) (by decide +kernel)) tm_1_6 tm_5_185
theorem ds_X4_await : dsc yX4_await 1 := ⟨by decide +kernel, by decide +kernel, by decide +kernel⟩
theorem gv_X4_bestTime {own : String} {idx : Nat} (h : Cond.methodLink own idx yX4_bestTime ∈ tbg) : GoodIn tbg (wsV own idx RX4 yX4_bestTime (.code yX4_bestTime cX4_bestTime 4 (some .int) :: tbg)) := z_goodV h tm_5_192 (tb0 (by decide +kernel) (by decide +kernel)) tm_1_6 tm_5_193
theorem ds_X4_bestTime : dsc yX4_bestTime 1 := ⟨by decide +kernel, by decide +kernel, by decide +kernel⟩
theorem gv_X4_broken {own : String} {idx : Nat} (h : Cond.methodLink own idx yX4_broken ∈ tbg) : GoodIn tbg (wsV own idx RX4 yX4_broken (.code yX4_broken cX4_broken 2 (some .int) :: tbg)) := z_goodV h tm_6_24 (tb0 (by decide +kernel) (by decide +kernel)) tm_1_6 tm_6_25
theorem ds_X4_broken : dsc yX4_broken 1 := ⟨by decide +kernel, by decide +kernel, by decide +kernel⟩
theorem gv_X4_bumpLate {own : String} {idx : Nat} (h : Cond.methodLink own idx yX4_bumpLate ∈ tbg) : GoodIn tbg (wsV own idx RX4 yX4_bumpLate (.code yX4_bumpLate cX4_bumpLate 2 none :: tbg)) := z_goodV h tm_6_194 (tb0 (by decide +kernel) (by decide +kernel)) tm_1_6 tm_6_195
theorem ds_X4_bumpLate : dsc yX4_bumpLate 0 := ⟨by decide +kernel, by decide +kernel, by decide +kernel⟩
theorem gv_X4_buyGain {own : String} {idx : Nat} (h : Cond.methodLink own idx yX4_buyGain ∈ tbg) : GoodIn tbg (wsV own idx RX4 yX4_buyGain (.code yX4_buyGain cX4_buyGain 7 (some .int) :: tbg)) := z_goodV h tm_6_149 (tb0 (by decide +kernel) (by decide +kernel)) tm_1_6 tm_6_150
theorem ds_X4_buyGain : dsc yX4_buyGain 2 := ⟨by decide +kernel, by decide +kernel, by decide +kernel⟩
theorem gv_X4_byteAt {own : String} {idx : Nat} (h : Cond.methodLink own idx yX4_byteAt ∈ tbg) : GoodIn tbg (wsV own idx RX4 yX4_byteAt (.code yX4_byteAt cX4_byteAt 2 (some .int) :: tbg)) := z_goodV h tm_5_99 (tb0 (by decide +kernel) (by decide +kernel)) tm_1_6 tm_5_100
theorem ds_X4_byteAt : dsc yX4_byteAt 1 := ⟨by decide +kernel, by decide +kernel, by decide +kernel⟩
theorem gv_X4_bytesAt {own : String} {idx : Nat} (h : Cond.methodLink own idx yX4_bytesAt ∈ tbg) : GoodIn tbg (wsV own idx RX4 yX4_bytesAt (.code yX4_bytesAt cX4_bytesAt 4 (some .int) :: tbg)) := z_goodV h tm_6_3 (tb0 (by decide +kernel) (by decide +kernel)) tm_1_6 tm_6_4
theorem ds_X4_bytesAt : dsc yX4_bytesAt 1 := ⟨by decide +kernel, by decide +kernel, by decide +kernel⟩
theorem gv_X4_clear {own : String} {idx : Nat} (h : Cond.methodLink own idx yX4_clear ∈ tbg) : GoodIn tbg (wsV own idx RX4 yX4_clear (.code yX4_clear cX4_clear 3 none :: tbg)) := z_goodV h tm_4_197 (tb0 (by decide +kernel) (by decide +kernel)) tm_1_6 tm_4_198
theorem ds_X4_clear : dsc yX4_clear 1 := ⟨by decide +kernel, by decide +kernel, by decide +kernel⟩
theorem gv_X4_clearDraft {own : String} {idx : Nat} (h : Cond.methodLink own idx yX4_clearDraft ∈ tbg) : GoodIn tbg (wsV own idx RX4 yX4_clearDraft (.code yX4_clearDraft cX4_clearDraft 1 none :: tbg)) := z_goodV h tm_4_201 (tb0 (by decide +kernel) (by decide +kernel)) tm_1_6 tm_4_202
theorem ds_X4_clearDraft : dsc yX4_clearDraft 0 := ⟨by decide +kernel, by decide +kernel, by decide +kernel⟩
theorem gv_X4_comesAhead {own : String} {idx : Nat} (h : Cond.methodLink own idx yX4_comesAhead ∈ tbg) : GoodIn tbg (wsV own idx RX4 yX4_comesAhead (.code yX4_comesAhead cX4_comesAhead 3 (some .boolean) :: tbg)) := z_goodV h tm_6_89 (tb0 (by decide +kernel) (by decide +kernel)) tm_1_6 tm_6_90
theorem ds_X4_comesAhead : dsc yX4_comesAhead 2 := ⟨by decide +kernel, by decide +kernel, by decide +kernel⟩
theorem gv_X4_compare {own : String} {idx : Nat} (h : Cond.methodLink own idx yX4_compare ∈ tbg) : GoodIn tbg (wsV own idx RX4 yX4_compare (.code yX4_compare cX4_compare 5 none :: tbg)) := z_goodV h tm_6_169 (tb0 (by decide +kernel) (by decide +kernel)) tm_1_6 tm_6_170
theorem ds_X4_compare : dsc yX4_compare 3 := ⟨by decide +kernel, by decide +kernel, by decide +kernel⟩
theorem gv_X4_copy {own : String} {idx : Nat} (h : Cond.methodLink own idx yX4_copy ∈ tbg) : GoodIn tbg (va_wsS own idx yX4_copy (.code yX4_copy cX4_copy 5 none :: tbg)) := z_goodS h tm_5_91 tm_1_6 tm_5_92
theorem ds_X4_copy : dsc yX4_copy 4 := ⟨by decide +kernel, by decide +kernel, by decide +kernel⟩
theorem gv_X4_countBargain {own : String} {idx : Nat} (h : Cond.methodLink own idx yX4_countBargain ∈ tbg) : GoodIn tbg (wsV own idx RX4 yX4_countBargain (.code yX4_countBargain cX4_countBargain 3 none :: tbg)) := z_goodV h tm_6_141 (tb0 (by decide +kernel) (by decide +kernel)) tm_1_6 tm_6_142
theorem ds_X4_countBargain : dsc yX4_countBargain 2 := ⟨by decide +kernel, by decide +kernel, by decide +kernel⟩
theorem gv_X4_done {own : String} {idx : Nat} (h : Cond.methodLink own idx yX4_done ∈ tbg) : GoodIn tbg (wsV own idx RX4 yX4_done (.code yX4_done cX4_done 1 (some .int) :: tbg)) := z_goodV h tm_6_105 (tb0 (by decide +kernel) (by decide +kernel)) tm_1_6 tm_6_106
theorem ds_X4_done : dsc yX4_done 0 := ⟨by decide +kernel, by decide +kernel, by decide +kernel⟩
theorem gv_X4_endHeld {own : String} {idx : Nat} (h : Cond.methodLink own idx yX4_endHeld ∈ tbg) : GoodIn tbg (wsV own idx RX4 yX4_endHeld (.code yX4_endHeld cX4_endHeld 2 none :: tbg)) := z_goodV h tm_6_190 (tb0 (by decide +kernel) (by decide +kernel)) tm_1_6 tm_6_191
theorem ds_X4_endHeld : dsc yX4_endHeld 0 := ⟨by decide +kernel, by decide +kernel, by decide +kernel⟩
theorem gv_X4_exchange {own : String} {idx : Nat} (h : Cond.methodLink own idx yX4_exchange ∈ tbg) : GoodIn tbg (wsV own idx RX4 yX4_exchange (.code yX4_exchange cX4_exchange 5 none :: tbg)) := z_goodV h tm_6_137 (tb0 (by decide +kernel) (by decide +kernel)) tm_1_6 tm_6_138
theorem ds_X4_exchange : dsc yX4_exchange 3 := ⟨by decide +kernel, by decide +kernel, by decide +kernel⟩
theorem gv_X4_expire {own : String} {idx : Nat} (h : Cond.methodLink own idx yX4_expire ∈ tbg) : GoodIn tbg (wsV own idx RX4 yX4_expire (.code yX4_expire cX4_expire 2 none :: tbg)) := z_goodV h tm_6_198 (tb0 (by decide +kernel) (by decide +kernel)) tm_1_6 tm_6_199
theorem ds_X4_expire : dsc yX4_expire 0 := ⟨by decide +kernel, by decide +kernel, by decide +kernel⟩
theorem gv_X4_fail {own : String} {idx : Nat} (h : Cond.methodLink own idx yX4_fail ∈ tbg) : GoodIn tbg (wsV own idx RX4 yX4_fail (.code yX4_fail cX4_fail 2 (some .int) :: tbg)) := z_goodV h tm_5_77 (tb0 (by decide +kernel) (by decide +kernel)) tm_1_6 tm_5_78
theorem ds_X4_fail : dsc yX4_fail 1 := ⟨by decide +kernel, by decide +kernel, by decide +kernel⟩
theorem gv_X4_fitsAt {own : String} {idx : Nat} (h : Cond.methodLink own idx yX4_fitsAt ∈ tbg) : GoodIn tbg (wsV own idx RX4 yX4_fitsAt (.code yX4_fitsAt cX4_fitsAt 4 (some .boolean) :: tbg)) := z_goodV h tm_5_196 (tb0 (by decide +kernel) (by decide +kernel)) tm_1_6 tm_5_197
theorem ds_X4_fitsAt : dsc yX4_fitsAt 3 := ⟨by decide +kernel, by decide +kernel, by decide +kernel⟩
theorem gv_X4_gainOf {own : String} {idx : Nat} (h : Cond.methodLink own idx yX4_gainOf ∈ tbg) : GoodIn tbg (wsV own idx RX4 yX4_gainOf (.code yX4_gainOf cX4_gainOf 3 (some .int) :: tbg)) := z_goodV h tm_6_173 (tb0 (by decide +kernel) (by decide +kernel)) tm_1_6 tm_6_174
theorem ds_X4_gainOf : dsc yX4_gainOf 2 := ⟨by decide +kernel, by decide +kernel, by decide +kernel⟩
theorem gv_X4_grow {own : String} {idx : Nat} (h : Cond.methodLink own idx yX4_grow ∈ tbg) : GoodIn tbg (wsV own idx RX4 yX4_grow (.code yX4_grow cX4_grow 4 none :: tbg)) := z_goodV h tm_6_54 (tb0 (by decide +kernel) (by decide +kernel)) tm_1_6 tm_6_55
theorem ds_X4_grow : dsc yX4_grow 3 := ⟨by decide +kernel, by decide +kernel, by decide +kernel⟩
theorem gv_X4_hasByte {own : String} {idx : Nat} (h : Cond.methodLink own idx yX4_hasByte ∈ tbg) : GoodIn tbg (wsV own idx RX4 yX4_hasByte (.code yX4_hasByte cX4_hasByte 3 (some .boolean) :: tbg)) := z_goodV h tm_6_11 (tb0 (by decide +kernel) (by decide +kernel)) tm_1_6 tm_6_12
theorem ds_X4_hasByte : dsc yX4_hasByte 2 := ⟨by decide +kernel, by decide +kernel, by decide +kernel⟩
theorem gv_X4_holderOf {own : String} {idx : Nat} (h : Cond.methodLink own idx yX4_holderOf ∈ tbg) : GoodIn tbg (wsV own idx RX4 yX4_holderOf (.code yX4_holderOf cX4_holderOf 4 (some .int) :: tbg)) := z_goodV h tm_6_7 (tb0 (by decide +kernel) (by decide +kernel)) tm_1_6 tm_6_8
theorem ds_X4_holderOf : dsc yX4_holderOf 2 := ⟨by decide +kernel, by decide +kernel, by decide +kernel⟩
theorem gv_X4_inState {own : String} {idx : Nat} (h : Cond.methodLink own idx yX4_inState ∈ tbg) : GoodIn tbg (wsV own idx RX4 yX4_inState (.code yX4_inState cX4_inState 4 (some .int) :: tbg)) := z_goodV h tm_5_239 (tb0 (by decide +kernel) (by decide +kernel)) tm_1_6 tm_6_0
theorem ds_X4_inState : dsc yX4_inState 1 := ⟨by decide +kernel, by decide +kernel, by decide +kernel⟩
theorem gv_X4_isBetween {own : String} {idx : Nat} (h : Cond.methodLink own idx yX4_isBetween ∈ tbg) : GoodIn tbg (va_wsS own idx yX4_isBetween (.code yX4_isBetween cX4_isBetween 6 (some .boolean) :: tbg)) := z_goodS h tm_5_84 tm_1_6 tm_5_85
theorem ds_X4_isBetween : dsc yX4_isBetween 3 := ⟨by decide +kernel, by decide +kernel, by decide +kernel⟩
theorem gv_X4_isBooking {own : String} {idx : Nat} (h : Cond.methodLink own idx yX4_isBooking ∈ tbg) : GoodIn tbg (wsV own idx RX4 yX4_isBooking (.code yX4_isBooking cX4_isBooking 2 (some .boolean) :: tbg)) := z_goodV h tm_6_77 (tb0 (by decide +kernel) (by decide +kernel)) tm_1_6 tm_6_78
theorem ds_X4_isBooking : dsc yX4_isBooking 1 := ⟨by decide +kernel, by decide +kernel, by decide +kernel⟩
theorem gv_X4_isByte {own : String} {idx : Nat} (h : Cond.methodLink own idx yX4_isByte ∈ tbg) : GoodIn tbg (wsV own idx RX4 yX4_isByte (.code yX4_isByte cX4_isByte 2 (some .boolean) :: tbg)) := z_goodV h tm_6_215 (tb0 (by decide +kernel) (by decide +kernel)) tm_1_6 tm_6_216
theorem ds_X4_isByte : dsc yX4_isByte 1 := ⟨by decide +kernel, by decide +kernel, by decide +kernel⟩
theorem gv_X4_isDigit {own : String} {idx : Nat} (h : Cond.methodLink own idx yX4_isDigit ∈ tbg) : GoodIn tbg (va_wsS own idx yX4_isDigit (.code yX4_isDigit cX4_isDigit 1 (some .boolean) :: tbg)) := z_goodS h tm_5_109 tm_1_6 tm_5_110
theorem ds_X4_isDigit : dsc yX4_isDigit 1 := ⟨by decide +kernel, by decide +kernel, by decide +kernel⟩
theorem gv_X4_isFine {own : String} {idx : Nat} (h : Cond.methodLink own idx yX4_isFine ∈ tbg) : GoodIn tbg (wsV own idx RX4 yX4_isFine (.code yX4_isFine cX4_isFine 1 (some .boolean) :: tbg)) := z_goodV h tm_5_131 (tb0 (by decide +kernel) (by decide +kernel)) tm_1_6 tm_5_132
theorem ds_X4_isFine : dsc yX4_isFine 0 := ⟨by decide +kernel, by decide +kernel, by decide +kernel⟩
theorem gv_X4_isLetter {own : String} {idx : Nat} (h : Cond.methodLink own idx yX4_isLetter ∈ tbg) : GoodIn tbg (va_wsS own idx yX4_isLetter (.code yX4_isLetter cX4_isLetter 1 (some .boolean) :: tbg)) := z_goodS h tm_5_102 tm_1_6 tm_5_103
theorem ds_X4_isLetter : dsc yX4_isLetter 1 := ⟨by decide +kernel, by decide +kernel, by decide +kernel⟩
theorem gv_X4_isLive {own : String} {idx : Nat} (h : Cond.methodLink own idx yX4_isLive ∈ tbg) : GoodIn tbg (wsV own idx RX4 yX4_isLive (.code yX4_isLive cX4_isLive 2 (some .boolean) :: tbg)) := z_goodV h tm_5_204 (tb0 (by decide +kernel) (by decide +kernel)) tm_1_6 tm_5_205
theorem ds_X4_isLive : dsc yX4_isLive 1 := ⟨by decide +kernel, by decide +kernel, by decide +kernel⟩
theorem gv_X4_isOwner {own : String} {idx : Nat} (h : Cond.methodLink own idx yX4_isOwner ∈ tbg) : GoodIn tbg (wsV own idx RX4 yX4_isOwner (.code yX4_isOwner cX4_isOwner 2 (some .boolean) :: tbg)) := z_goodV h tm_6_20 (tb0 (by decide +kernel) (by decide +kernel)) tm_1_6 tm_6_21
theorem ds_X4_isOwner : dsc yX4_isOwner 1 := ⟨by decide +kernel, by decide +kernel, by decide +kernel⟩
theorem gv_X4_isSpan {own : String} {idx : Nat} (h : Cond.methodLink own idx yX4_isSpan ∈ tbg) : GoodIn tbg (wsV own idx RX4 yX4_isSpan (.code yX4_isSpan cX4_isSpan 3 (some .boolean) :: tbg)) := z_goodV h tm_6_62 (tb0 (by decide +kernel) (by decide +kernel)) tm_1_6 tm_6_63
theorem ds_X4_isSpan : dsc yX4_isSpan 2 := ⟨by decide +kernel, by decide +kernel, by decide +kernel⟩
theorem gv_X4_isTaken {own : String} {idx : Nat} (h : Cond.methodLink own idx yX4_isTaken ∈ tbg) : GoodIn tbg (wsV own idx RX4 yX4_isTaken (.code yX4_isTaken cX4_isTaken 9 (some .boolean) :: tbg)) := z_goodV h tm_5_200 (tb0 (by decide +kernel) (by decide +kernel)) tm_1_6 tm_5_201
theorem ds_X4_isTaken : dsc yX4_isTaken 6 := ⟨by decide +kernel, by decide +kernel, by decide +kernel⟩
theorem gv_X4_isWord {own : String} {idx : Nat} (h : Cond.methodLink own idx yX4_isWord ∈ tbg) : GoodIn tbg (wsV own idx RX4 yX4_isWord (.code yX4_isWord cX4_isWord 5 (some .boolean) :: tbg)) := z_goodV h tm_5_117 (tb0 (by decide +kernel) (by decide +kernel)) tm_1_6 tm_5_118
theorem ds_X4_isWord : dsc yX4_isWord 1 := ⟨by decide +kernel, by decide +kernel, by decide +kernel⟩
theorem gv_X4_joyNow {own : String} {idx : Nat} (h : Cond.methodLink own idx yX4_joyNow ∈ tbg) : GoodIn tbg (wsV own idx RX4 yX4_joyNow (.code yX4_joyNow cX4_joyNow 2 (some .int) :: tbg)) := z_goodV h tm_6_36 (tb0 (by decide +kernel) (by decide +kernel)) tm_1_6 tm_6_37
theorem ds_X4_joyNow : dsc yX4_joyNow 1 := ⟨by decide +kernel, by decide +kernel, by decide +kernel⟩
theorem gv_X4_joyOf {own : String} {idx : Nat} (h : Cond.methodLink own idx yX4_joyOf ∈ tbg) : GoodIn tbg (wsV own idx RX4 yX4_joyOf (.code yX4_joyOf cX4_joyOf 3 (some .int) :: tbg)) := z_goodV h tm_6_40 (tb0 (by decide +kernel) (by decide +kernel)) tm_1_6 tm_6_41
theorem ds_X4_joyOf : dsc yX4_joyOf 2 := ⟨by decide +kernel, by decide +kernel, by decide +kernel⟩
theorem gv_X4_joys {own : String} {idx : Nat} (h : Cond.methodLink own idx yX4_joys ∈ tbg) : GoodIn tbg (wsV own idx RX4 yX4_joys (.code yX4_joys cX4_joys 4 (some .int) :: tbg)) := z_goodV h tm_6_32 (tb0 (by decide +kernel) (by decide +kernel)) tm_1_6 tm_6_33
theorem ds_X4_joys : dsc yX4_joys 1 := ⟨by decide +kernel, by decide +kernel, by decide +kernel⟩
theorem gv_X4_layBest {own : String} {idx : Nat} (h : Cond.methodLink own idx yX4_layBest ∈ tbg) : GoodIn tbg (wsV own idx RX4 yX4_layBest (.code yX4_layBest cX4_layBest 3 none :: tbg)) := z_goodV h tm_6_165 (tb0 (by decide +kernel) (by decide +kernel)) tm_1_6 tm_6_166
theorem ds_X4_layBest : dsc yX4_layBest 0 := ⟨by decide +kernel, by decide +kernel, by decide +kernel⟩
theorem gv_X4_layOrder {own : String} {idx : Nat} (h : Cond.methodLink own idx yX4_layOrder ∈ tbg) : GoodIn tbg (wsV own idx RX4 yX4_layOrder (.code yX4_layOrder cX4_layOrder 3 none :: tbg)) := z_goodV h tm_6_85 (tb0 (by decide +kernel) (by decide +kernel)) tm_1_6 tm_6_86
theorem ds_X4_layOrder : dsc yX4_layOrder 0 := ⟨by decide +kernel, by decide +kernel, by decide +kernel⟩
theorem gv_X4_look {own : String} {idx : Nat} (h : Cond.methodLink own idx yX4_look ∈ tbg) : GoodIn tbg (wsV own idx RX4 yX4_look (.code yX4_look cX4_look 3 none :: tbg)) := z_goodV h tm_5_139 (tb0 (by decide +kernel) (by decide +kernel)) tm_1_6 tm_5_140
theorem ds_X4_look : dsc yX4_look 2 := ⟨by decide +kernel, by decide +kernel, by decide +kernel⟩
theorem gv_X4_makeBuyout {own : String} {idx : Nat} (h : Cond.methodLink own idx yX4_makeBuyout ∈ tbg) : GoodIn tbg (wsV own idx RX4 yX4_makeBuyout (.code yX4_makeBuyout cX4_makeBuyout 5 none :: tbg)) := z_goodV h tm_6_157 (tb0 (by decide +kernel) (by decide +kernel)) tm_1_6 tm_6_158
theorem ds_X4_makeBuyout : dsc yX4_makeBuyout 2 := ⟨by decide +kernel, by decide +kernel, by decide +kernel⟩
theorem gv_X4_makeSwap {own : String} {idx : Nat} (h : Cond.methodLink own idx yX4_makeSwap ∈ tbg) : GoodIn tbg (wsV own idx RX4 yX4_makeSwap (.code yX4_makeSwap cX4_makeSwap 3 none :: tbg)) := z_goodV h tm_6_133 (tb0 (by decide +kernel) (by decide +kernel)) tm_1_6 tm_6_134
theorem ds_X4_makeSwap : dsc yX4_makeSwap 2 := ⟨by decide +kernel, by decide +kernel, by decide +kernel⟩
theorem gv_X4_nextToken {own : String} {idx : Nat} (h : Cond.methodLink own idx yX4_nextToken ∈ tbg) : GoodIn tbg (wsV own idx RX4 yX4_nextToken (.code yX4_nextToken cX4_nextToken 2 none :: tbg)) := z_goodV h tm_5_95 (tb0 (by decide +kernel) (by decide +kernel)) tm_1_6 tm_5_96
theorem ds_X4_nextToken : dsc yX4_nextToken 0 := ⟨by decide +kernel, by decide +kernel, by decide +kernel⟩
theorem gv_X4_of {own : String} {idx : Nat} (h : Cond.methodLink own idx yX4_of ∈ tbg) : GoodIn tbg (wsV own idx RX4 yX4_of (.code yX4_of cX4_of 3 (some .int) :: tbg)) := z_goodV h tm_5_165 (tb0 (by decide +kernel) (by decide +kernel)) tm_1_6 tm_5_166
theorem ds_X4_of : dsc yX4_of 2 := ⟨by decide +kernel, by decide +kernel, by decide +kernel⟩
theorem gv_X4_ofOwner {own : String} {idx : Nat} (h : Cond.methodLink own idx yX4_ofOwner ∈ tbg) : GoodIn tbg (wsV own idx RX4 yX4_ofOwner (.code yX4_ofOwner cX4_ofOwner 3 (some .int) :: tbg)) := z_goodV h tm_6_28 (tb0 (by decide +kernel) (by decide +kernel)) tm_1_6 tm_6_29
theorem ds_X4_ofOwner : dsc yX4_ofOwner 2 := ⟨by decide +kernel, by decide +kernel, by decide +kernel⟩
theorem gv_X4_openBookings {own : String} {idx : Nat} (h : Cond.methodLink own idx yX4_openBookings ∈ tbg) : GoodIn tbg (wsV own idx RX4 yX4_openBookings (.code yX4_openBookings cX4_openBookings 4 (some .int) :: tbg)) := z_goodV h tm_5_161 (tb0 (by decide +kernel) (by decide +kernel)) tm_1_6 tm_5_162
theorem ds_X4_openBookings : dsc yX4_openBookings 1 := ⟨by decide +kernel, by decide +kernel, by decide +kernel⟩
theorem gv_X4_parseBook {own : String} {idx : Nat} (h : Cond.methodLink own idx yX4_parseBook ∈ tbg) : GoodIn tbg (wsV own idx RX4 yX4_parseBook (.code yX4_parseBook cX4_parseBook 9 none :: tbg)) := z_goodV h tm_5_157 (tb0 (by decide +kernel) (by decide +kernel)) tm_1_6 tm_5_158
theorem ds_X4_parseBook : dsc yX4_parseBook 0 := ⟨by decide +kernel, by decide +kernel, by decide +kernel⟩
theorem gv_X4_parseEnd {own : String} {idx : Nat} (h : Cond.methodLink own idx yX4_parseEnd ∈ tbg) : GoodIn tbg (wsV own idx RX4 yX4_parseEnd (.code yX4_parseEnd cX4_parseEnd 1 none :: tbg)) := z_goodV h tm_5_143 (tb0 (by decide +kernel) (by decide +kernel)) tm_1_6 tm_5_144
theorem ds_X4_parseEnd : dsc yX4_parseEnd 0 := ⟨by decide +kernel, by decide +kernel, by decide +kernel⟩
theorem gv_X4_parseNumber {own : String} {idx : Nat} (h : Cond.methodLink own idx yX4_parseNumber ∈ tbg) : GoodIn tbg (wsV own idx RX4 yX4_parseNumber (.code yX4_parseNumber cX4_parseNumber 4 (some .int) :: tbg)) := z_goodV h tm_5_135 (tb0 (by decide +kernel) (by decide +kernel)) tm_1_6 tm_5_136
theorem ds_X4_parseNumber : dsc yX4_parseNumber 2 := ⟨by decide +kernel, by decide +kernel, by decide +kernel⟩
theorem gv_X4_parseOwner {own : String} {idx : Nat} (h : Cond.methodLink own idx yX4_parseOwner ∈ tbg) : GoodIn tbg (wsV own idx RX4 yX4_parseOwner (.code yX4_parseOwner cX4_parseOwner 3 none :: tbg)) := z_goodV h tm_5_148 (tb0 (by decide +kernel) (by decide +kernel)) tm_1_6 tm_5_149
theorem ds_X4_parseOwner : dsc yX4_parseOwner 0 := ⟨by decide +kernel, by decide +kernel, by decide +kernel⟩
theorem gv_X4_parseSet {own : String} {idx : Nat} (h : Cond.methodLink own idx yX4_parseSet ∈ tbg) : GoodIn tbg (wsV own idx RX4 yX4_parseSet (.code yX4_parseSet cX4_parseSet 3 none :: tbg)) := z_goodV h tm_5_212 (tb0 (by decide +kernel) (by decide +kernel)) tm_1_6 tm_5_213
theorem ds_X4_parseSet : dsc yX4_parseSet 0 := ⟨by decide +kernel, by decide +kernel, by decide +kernel⟩
theorem gv_X4_passTick {own : String} {idx : Nat} (h : Cond.methodLink own idx yX4_passTick ∈ tbg) : GoodIn tbg (wsV own idx RX4 yX4_passTick (.code yX4_passTick cX4_passTick 1 none :: tbg)) := z_goodV h tm_6_186 (tb0 (by decide +kernel) (by decide +kernel)) tm_1_6 tm_6_187
theorem ds_X4_passTick : dsc yX4_passTick 0 := ⟨by decide +kernel, by decide +kernel, by decide +kernel⟩
theorem gv_X4_passTicks {own : String} {idx : Nat} (h : Cond.methodLink own idx yX4_passTicks ∈ tbg) : GoodIn tbg (wsV own idx RX4 yX4_passTicks (.code yX4_passTicks cX4_passTicks 3 none :: tbg)) := z_goodV h tm_6_182 (tb0 (by decide +kernel) (by decide +kernel)) tm_1_6 tm_6_183
theorem ds_X4_passTicks : dsc yX4_passTicks 1 := ⟨by decide +kernel, by decide +kernel, by decide +kernel⟩
theorem gv_X4_place {own : String} {idx : Nat} (h : Cond.methodLink own idx yX4_place ∈ tbg) : GoodIn tbg (wsV own idx RX4 yX4_place (.code yX4_place cX4_place 3 (some .boolean) :: tbg)) := z_goodV h tm_5_188 (tb0 (by decide +kernel) (by decide +kernel)) tm_1_6 tm_5_189
theorem ds_X4_place : dsc yX4_place 1 := ⟨by decide +kernel, by decide +kernel, by decide +kernel⟩
theorem gv_X4_placeAll {own : String} {idx : Nat} (h : Cond.methodLink own idx yX4_placeAll ∈ tbg) : GoodIn tbg (wsV own idx RX4 yX4_placeAll (.code yX4_placeAll cX4_placeAll 2 none :: tbg)) := z_goodV h tm_6_109 (tb0 (by decide +kernel) (by decide +kernel)) tm_1_6 tm_6_110
theorem ds_X4_placeAll : dsc yX4_placeAll 0 := ⟨by decide +kernel, by decide +kernel, by decide +kernel⟩
theorem gv_X4_priceOf {own : String} {idx : Nat} (h : Cond.methodLink own idx yX4_priceOf ∈ tbg) : GoodIn tbg (wsV own idx RX4 yX4_priceOf (.code yX4_priceOf cX4_priceOf 3 (some .int) :: tbg)) := z_goodV h tm_6_153 (tb0 (by decide +kernel) (by decide +kernel)) tm_1_6 tm_6_154
theorem ds_X4_priceOf : dsc yX4_priceOf 2 := ⟨by decide +kernel, by decide +kernel, by decide +kernel⟩
theorem gv_X4_put {own : String} {idx : Nat} (h : Cond.methodLink own idx yX4_put ∈ tbg) : GoodIn tbg (wsV own idx RX4 yX4_put (.code yX4_put cX4_put 4 none :: tbg)) := z_goodV h tm_5_180 (tb0 (by decide +kernel) (by decide +kernel)) tm_1_6 tm_5_181
theorem ds_X4_put : dsc yX4_put 3 := ⟨by decide +kernel, by decide +kernel, by decide +kernel⟩
theorem gv_X4_require {own : String} {idx : Nat} (h : Cond.methodLink own idx yX4_require ∈ tbg) : GoodIn tbg (wsV own idx RX4 yX4_require (.code yX4_require cX4_require 3 none :: tbg)) := z_goodV h tm_5_123 (tb0 (by decide +kernel) (by decide +kernel)) tm_1_6 tm_5_124
theorem ds_X4_require : dsc yX4_require 2 := ⟨by decide +kernel, by decide +kernel, by decide +kernel⟩
theorem gv_X4_settle {own : String} {idx : Nat} (h : Cond.methodLink own idx yX4_settle ∈ tbg) : GoodIn tbg (wsV own idx RX4 yX4_settle (.code yX4_settle cX4_settle 3 none :: tbg)) := z_goodV h tm_5_208 (tb0 (by decide +kernel) (by decide +kernel)) tm_1_6 tm_5_209
theorem ds_X4_settle : dsc yX4_settle 2 := ⟨by decide +kernel, by decide +kernel, by decide +kernel⟩
theorem gv_X4_swapGain {own : String} {idx : Nat} (h : Cond.methodLink own idx yX4_swapGain ∈ tbg) : GoodIn tbg (wsV own idx RX4 yX4_swapGain (.code yX4_swapGain cX4_swapGain 10 (some .int) :: tbg)) := z_goodV h tm_6_129 (tb0 (by decide +kernel) (by decide +kernel)) tm_1_6 tm_6_130
theorem ds_X4_swapGain : dsc yX4_swapGain 2 := ⟨by decide +kernel, by decide +kernel, by decide +kernel⟩
