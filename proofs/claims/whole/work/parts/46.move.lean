theorem g_Fl_moveThing_0 {Q : PQ} {h : HP} {x1 : Int} {x2 : Int} {x3 : Int} {f0 : Nat} (h_f0 : isF f0)
    (o1 : WR (rmC h f0))
    (o2 : rOn (rmC h f0) x2 x3 = -1 → 0 ≤ x1 ∧ x1 < 10)
    (k3 : rOn (rmC h f0) x2 x3 = -1 → Q (some (vi 1)) (hs (hs h (f0 + 4) x1.toNat x2) (f0 + 5) x1.toNat x3))
    (k4 : ¬ rOn (rmC h f0) x2 x3 = -1 → Q (some (vi 0)) h) :
    Wp true i_Fl_moveThing 0 [vr f0, vi x1, vi x2, vi x3] [] h Q := by
  refine r_aload_n (v := f0) f_58_0 rfl (F_n h_f0) ?_
  refine r_iload_n (v := x2) f_58_1 rfl ?_
  refine r_iload_n (v := x3) f_58_2 rfl ?_
  refine r_callv (as := [vr f0, vi x2, vi x3]) (st' := []) (ls0 := [vr f0, vi x2, vi x3, vr 9999]) f_58_3 (by decide) rfl rfl (Nat.le_of_ble_eq_true rfl) (Nat.le_of_ble_eq_true rfl) ⟨_, _, rfl, (F_k h_f0)⟩ rfl ?_
  refine c_Fl_thingAt h_f0 o1 ?_
  show Wp true i_Fl_moveThing 6 [vr f0, vi x1, vi x2, vi x3] [vi (rOn (rmC h f0) x2 x3)] h Q
  refine r_iconst f_58_6 (by decide) ?_
  refine r_br2 (t := 12) f_58_7 rfl cb_eq (fun c1 => ?_) (fun c1 => ?_)
  · refine r_aload_n (v := f0) f_58_12 rfl (F_n h_f0) ?_
    refine r_getr (q := (f0 + 4)) f_58_13 (F_k h_f0) (by decide) (Or.inl rfl) rfl ?_
    refine r_iload_n (v := x1) f_58_16 rfl ?_
    refine r_iload_n (v := x2) f_58_17 rfl ?_
    refine r_iastore (n := 10) f_58_18 (F_4 h_f0) (o2 c1) ?_
    refine r_aload_n (v := f0) f_58_19 rfl (F_n h_f0) ?_
    refine r_getr (q := (f0 + 5)) f_58_20 (F_k h_f0) (by decide) (Or.inl rfl) rfl ?_
    refine r_iload_n (v := x1) f_58_23 rfl ?_
    refine r_iload_n (v := x3) f_58_24 rfl ?_
    refine r_iastore (n := 10) f_58_25 (F_5 h_f0) (o2 c1) ?_
    refine r_iconst f_58_26 (by decide) ?_
    exact r_retz f_58_27 rfl (by decide) (k3 c1)
  · refine r_iconst f_58_10 (by decide) ?_
    exact r_retz f_58_11 rfl (by decide) (k4 c1)

theorem g_M_moves_0 {Q : PQ} {h : HP} {x1 : Int} {x2 : Int} {x3 : Int} 
    (o1 : WR (rmM h 0))
    (o2 : rOn (rmM h 0) x2 x3 = -1 → 0 ≤ x1 ∧ x1 < 100)
    (o3 : rOn (rmM h 0) x2 x3 = -1 → 0 ≤ 15 + 6 * x1 ∧ 15 + 6 * x1 < 3000)
    (o4 : rOn (rmM h 0) x2 x3 = -1 → -2147483648 ≤ (15 + 6 * x1) + 1 ∧ (15 + 6 * x1) + 1 ≤ 2147483647)
    (o5 : rOn (rmM h 0) x2 x3 = -1 → 0 ≤ (15 + 6 * x1) + 1 ∧ (15 + 6 * x1) + 1 < 3000)
    (k6 : rOn (rmM h 0) x2 x3 = -1 → Q (some (vi 1)) (hs (hs h 104 (15 + 6 * x1).toNat x2) 104 ((15 + 6 * x1) + 1).toNat x3))
    (k7 : ¬ rOn (rmM h 0) x2 x3 = -1 → Q (some (vi 0)) h) :
    Wp true i_M_moves 0 [vr 103, vi x1, vi x2, vi x3] [] h Q := by
  refine r_aload_n (v := 103) f_310_0 rfl (by decide) ?_
  refine r_iload_n (v := x2) f_310_1 rfl ?_
  refine r_iload_n (v := x3) f_310_2 rfl ?_
  refine r_callv (as := [vr 103, vi x2, vi x3]) (st' := []) (ls0 := [vr 103, vi x2, vi x3, vr 9999]) f_310_3 (by decide) rfl rfl (Nat.le_of_ble_eq_true rfl) (Nat.le_of_ble_eq_true rfl) ⟨_, _, rfl, rfl⟩ rfl ?_
  refine c_M_thingOn o1 ?_
  show Wp true i_M_moves 6 [vr 103, vi x1, vi x2, vi x3] [vi (rOn (rmM h 0) x2 x3)] h Q
  refine r_iconst f_310_6 (by decide) ?_
  refine r_br2 (t := 12) f_310_7 rfl cb_eq (fun c1 => ?_) (fun c1 => ?_)
  · refine r_aload_n (v := 103) f_310_12 rfl (by decide) ?_
    refine r_getr (q := 104) f_310_13 rfl (by decide) (Or.inl rfl) rfl ?_
    refine r_iload_n (v := x1) f_310_16 rfl ?_
    refine r_calls (as := [vi x1]) (st' := [vr 104]) (ls0 := [vi x1]) f_310_17 (by decide) (by decide) rfl rfl (Nat.le_of_ble_eq_true rfl) (Nat.le_of_ble_eq_true rfl) rfl ?_
    refine c_M_thingRow (o2 c1) ?_
    show Wp true i_M_moves 20 [vr 103, vi x1, vi x2, vi x3] [vi (15 + 6 * x1), vr 104] h Q
    refine r_iload_n (v := x2) f_310_20 rfl ?_
    refine r_iastore (n := 3000) f_310_21 ⟨rfl, rfl⟩ (o3 c1) ?_
    refine r_aload_n (v := 103) f_310_22 rfl (by decide) ?_
    refine r_getr (q := 104) f_310_23 rfl (by decide) (Or.inl rfl) rfl ?_
    refine r_iload_n (v := x1) f_310_26 rfl ?_
    refine r_calls (as := [vi x1]) (st' := [vr 104]) (ls0 := [vi x1]) f_310_27 (by decide) (by decide) rfl rfl (Nat.le_of_ble_eq_true rfl) (Nat.le_of_ble_eq_true rfl) rfl ?_
    refine c_M_thingRow (o2 c1) ?_
    show Wp true i_M_moves 30 [vr 103, vi x1, vi x2, vi x3] [vi (15 + 6 * x1), vr 104] (hs h 104 (15 + 6 * x1).toNat x2) Q
    refine r_iconst f_310_30 (by decide) ?_
    refine r_iadd (u := (15 + 6 * x1) + 1) f_310_31 rfl (o4 c1) ?_
    refine r_iload_n (v := x3) f_310_32 rfl ?_
    refine r_iastore (n := 3000) f_310_33 ⟨rfl, rfl⟩ (o5 c1) ?_
    refine r_iconst f_310_34 (by decide) ?_
    exact r_retz f_310_35 rfl (by decide) (k6 c1)
  · refine r_iconst f_310_10 (by decide) ?_
    exact r_retz f_310_11 rfl (by decide) (k7 c1)

theorem g_C_move_0 {Q : PQ} {h : HP} {x1 : Int} {x2 : Int} {x3 : Int} 
    (k1 : ¬ (0 ≤ x1 ∧ x1 < h 10 3) → Q (some (vi (bi (False)))) (hs h 0 0 1))
    (k2 : (0 ≤ x1 ∧ x1 < h 10 3) → (0 ≤ x2 ∧ x2 < h 10 0 ∧ 0 ≤ x3 ∧ x3 < h 10 1) → Wp true i_Fl_moveThing 0 [vr 10, vi x1, vi x2, vi x3] [] h (fun r h' => Wp true i_C_move 39 [vr 0, vi x1, vi x2, vi x3] (r.toList ++ []) h' Q))
    (k3 : (0 ≤ x1 ∧ x1 < h 10 3) → ¬ (0 ≤ x2 ∧ x2 < h 10 0 ∧ 0 ≤ x3 ∧ x3 < h 10 1) → Q (some (vi (bi (False)))) (hs h 0 0 1)) :
    Wp true i_C_move 0 [vr 0, vi x1, vi x2, vi x3] [] h Q := by
  refine r_aload_n (v := 0) f_173_0 rfl (by decide) ?_
  refine r_getr (q := 10) f_173_1 rfl (by decide) (Or.inl rfl) rfl ?_
  refine r_iload_n (v := x1) f_173_4 rfl ?_
  refine r_callv (as := [vr 10, vi x1]) (st' := []) (ls0 := [vr 10, vi x1]) f_173_5 (by decide) rfl rfl (Nat.le_of_ble_eq_true rfl) (Nat.le_of_ble_eq_true rfl) ⟨_, _, rfl, rfl⟩ rfl ?_
  refine c_Fl_hasThing isF_10 ?_
  show Wp true i_C_move 8 [vr 0, vi x1, vi x2, vi x3] [vi (bi (0 ≤ x1 ∧ x1 < h 10 3))] h Q
  refine r_br (t := 23) f_173_8 rfl cb_bf (fun c1 => ?_) (fun c1 => ?_)
  · refine r_aload_n (v := 0) f_173_23 rfl (by decide) ?_
    refine r_iconst f_173_24 (by decide) ?_
    refine r_callv (as := [vr 0, vi 1]) (st' := []) (ls0 := [vr 0, vi 1]) f_173_25 (by decide) rfl rfl (Nat.le_of_ble_eq_true rfl) (Nat.le_of_ble_eq_true rfl) ⟨_, _, rfl, rfl⟩ rfl ?_
    refine c_C_deny  ?_
    show Wp true i_C_move 28 [vr 0, vi x1, vi x2, vi x3] [vi (bi (False))] (hs h 0 0 1) Q
    exact r_retz f_173_28 rfl (bi_01 _) (k1 c1)
  · have c1 := Decidable.not_not.mp c1
    refine r_aload_n (v := 0) f_173_11 rfl (by decide) ?_
    refine r_getr (q := 10) f_173_12 rfl (by decide) (Or.inl rfl) rfl ?_
    refine r_iload_n (v := x2) f_173_15 rfl ?_
    refine r_iload_n (v := x3) f_173_16 rfl ?_
    refine r_callv (as := [vr 10, vi x2, vi x3]) (st' := []) (ls0 := [vr 10, vi x2, vi x3]) f_173_17 (by decide) rfl rfl (Nat.le_of_ble_eq_true rfl) (Nat.le_of_ble_eq_true rfl) ⟨_, _, rfl, rfl⟩ rfl ?_
    refine c_Fl_hasBoard isF_10 ?_
    show Wp true i_C_move 20 [vr 0, vi x1, vi x2, vi x3] [vi (bi (0 ≤ x2 ∧ x2 < h 10 0 ∧ 0 ≤ x3 ∧ x3 < h 10 1))] h Q
    refine r_br (t := 29) f_173_20 rfl cb_bt (fun c2 => ?_) (fun c2 => ?_)
    · refine r_aload_n (v := 0) f_173_29 rfl (by decide) ?_
      refine r_getr (q := 10) f_173_30 rfl (by decide) (Or.inl rfl) rfl ?_
      refine r_iload_n (v := x1) f_173_33 rfl ?_
      refine r_iload_n (v := x2) f_173_34 rfl ?_
      refine r_iload_n (v := x3) f_173_35 rfl ?_
      exact r_callv (as := [vr 10, vi x1, vi x2, vi x3]) (st' := []) (ls0 := [vr 10, vi x1, vi x2, vi x3]) f_173_36 (by decide) rfl rfl (Nat.le_of_ble_eq_true rfl) (Nat.le_of_ble_eq_true rfl) ⟨_, _, rfl, rfl⟩ rfl (k2 c1 c2)
    · refine r_aload_n (v := 0) f_173_23 rfl (by decide) ?_
      refine r_iconst f_173_24 (by decide) ?_
      refine r_callv (as := [vr 0, vi 1]) (st' := []) (ls0 := [vr 0, vi 1]) f_173_25 (by decide) rfl rfl (Nat.le_of_ble_eq_true rfl) (Nat.le_of_ble_eq_true rfl) ⟨_, _, rfl, rfl⟩ rfl ?_
      refine c_C_deny  ?_
      show Wp true i_C_move 28 [vr 0, vi x1, vi x2, vi x3] [vi (bi (False))] (hs h 0 0 1) Q
      exact r_retz f_173_28 rfl (bi_01 _) (k3 c1 c2)

theorem g_C_move_39 {Q : PQ} {h : HP} {x1 : Int} {x2 : Int} {x3 : Int} {s0 : Int} 
    (k1 : s0 = 0 → Q (some (vi (bi (False)))) (hs h 0 0 7))
    (k2 : ¬ s0 = 0 → Q (some (vi (bi (True)))) (hs h 0 0 0)) :
    Wp true i_C_move 39 [vr 0, vi x1, vi x2, vi x3] [vi s0] h Q := by
  refine r_br (t := 49) f_173_39 rfl cb_eq (fun c1 => ?_) (fun c1 => ?_)
  · refine r_aload_n (v := 0) f_173_49 rfl (by decide) ?_
    refine r_bipush f_173_50 (by decide) ?_
    refine r_callv (as := [vr 0, vi 7]) (st' := []) (ls0 := [vr 0, vi 7]) f_173_52 (by decide) rfl rfl (Nat.le_of_ble_eq_true rfl) (Nat.le_of_ble_eq_true rfl) ⟨_, _, rfl, rfl⟩ rfl ?_
    refine c_C_deny  ?_
    show Wp true i_C_move 55 [vr 0, vi x1, vi x2, vi x3] [vi (bi (False))] (hs h 0 0 7) Q
    exact r_retz f_173_55 rfl (bi_01 _) (k1 c1)
  · refine r_aload_n (v := 0) f_173_42 rfl (by decide) ?_
    refine r_callv (as := [vr 0]) (st' := []) (ls0 := [vr 0]) f_173_43 (by decide) rfl rfl (Nat.le_of_ble_eq_true rfl) (Nat.le_of_ble_eq_true rfl) ⟨_, _, rfl, rfl⟩ rfl ?_
    refine c_C_grant  ?_
    show Wp true i_C_move 46 [vr 0, vi x1, vi x2, vi x3] [vi (bi (True))] (hs h 0 0 0) Q
    refine r_goto (t := 55) f_173_46 rfl ?_
    exact r_retz f_173_55 rfl (bi_01 _) (k2 c1)

theorem g_M_move_0 {Q : PQ} {h : HP} {x1 : Int} {x2 : Int} {x3 : Int} 
    (k1 : ¬ (0 ≤ x1 ∧ x1 < h 104 2) → Q (some (vi (bi ((1 : Int) = 0)))) (hs h 103 2 1))
    (k2 : (0 ≤ x1 ∧ x1 < h 104 2) → (0 ≤ x2 ∧ x2 < h 104 0 ∧ 0 ≤ x3 ∧ x3 < h 104 1) → Wp true i_M_moves 0 [vr 103, vi x1, vi x2, vi x3] [] h (fun r h' => Wp true i_M_move 29 [vr 103, vi x1, vi x2, vi x3] (r.toList ++ [vr 103]) h' Q))
    (k3 : (0 ≤ x1 ∧ x1 < h 104 2) → ¬ (0 ≤ x2 ∧ x2 < h 104 0 ∧ 0 ≤ x3 ∧ x3 < h 104 1) → Q (some (vi (bi ((1 : Int) = 0)))) (hs h 103 2 1)) :
    Wp true i_M_move 0 [vr 103, vi x1, vi x2, vi x3] [] h Q := by
  refine r_aload_n (v := 103) f_311_0 rfl (by decide) ?_
  refine r_aload_n (v := 103) f_311_1 rfl (by decide) ?_
  refine r_iload_n (v := x1) f_311_2 rfl ?_
  refine r_callv (as := [vr 103, vi x1]) (st' := [vr 103]) (ls0 := [vr 103, vi x1]) f_311_3 (by decide) rfl rfl (Nat.le_of_ble_eq_true rfl) (Nat.le_of_ble_eq_true rfl) ⟨_, _, rfl, rfl⟩ rfl ?_
  refine c_M_isThing  ?_
  show Wp true i_M_move 6 [vr 103, vi x1, vi x2, vi x3] [vi (bi (0 ≤ x1 ∧ x1 < h 104 2)), vr 103] h Q
  refine r_br (t := 18) f_311_6 rfl cb_bf (fun c1 => ?_) (fun c1 => ?_)
  · refine r_iconst f_311_18 (by decide) ?_
    refine r_goto (t := 38) f_311_19 rfl ?_
    refine r_callv (as := [vr 103, vi 1]) (st' := []) (ls0 := [vr 103, vi 1]) f_311_38 (by decide) rfl rfl (Nat.le_of_ble_eq_true rfl) (Nat.le_of_ble_eq_true rfl) ⟨_, _, rfl, rfl⟩ rfl ?_
    refine c_M_is  ?_
    show Wp true i_M_move 41 [vr 103, vi x1, vi x2, vi x3] [vi (bi ((1 : Int) = 0))] (hs h 103 2 1) Q
    exact r_retz f_311_41 rfl (bi_01 _) (k1 c1)
  · have c1 := Decidable.not_not.mp c1
    refine r_aload_n (v := 103) f_311_9 rfl (by decide) ?_
    refine r_iload_n (v := x2) f_311_10 rfl ?_
    refine r_iload_n (v := x3) f_311_11 rfl ?_
    refine r_callv (as := [vr 103, vi x2, vi x3]) (st' := [vr 103]) (ls0 := [vr 103, vi x2, vi x3]) f_311_12 (by decide) rfl rfl (Nat.le_of_ble_eq_true rfl) (Nat.le_of_ble_eq_true rfl) ⟨_, _, rfl, rfl⟩ rfl ?_
    refine c_M_isBoard  ?_
    show Wp true i_M_move 15 [vr 103, vi x1, vi x2, vi x3] [vi (bi (0 ≤ x2 ∧ x2 < h 104 0 ∧ 0 ≤ x3 ∧ x3 < h 104 1)), vr 103] h Q
    refine r_br (t := 22) f_311_15 rfl cb_bt (fun c2 => ?_) (fun c2 => ?_)
    · refine r_aload_n (v := 103) f_311_22 rfl (by decide) ?_
      refine r_iload_n (v := x1) f_311_23 rfl ?_
      refine r_iload_n (v := x2) f_311_24 rfl ?_
      refine r_iload_n (v := x3) f_311_25 rfl ?_
      exact r_callv (as := [vr 103, vi x1, vi x2, vi x3]) (st' := [vr 103]) (ls0 := [vr 103, vi x1, vi x2, vi x3]) f_311_26 (by decide) rfl rfl (Nat.le_of_ble_eq_true rfl) (Nat.le_of_ble_eq_true rfl) ⟨_, _, rfl, rfl⟩ rfl (k2 c1 c2)
    · refine r_iconst f_311_18 (by decide) ?_
      refine r_goto (t := 38) f_311_19 rfl ?_
      refine r_callv (as := [vr 103, vi 1]) (st' := []) (ls0 := [vr 103, vi 1]) f_311_38 (by decide) rfl rfl (Nat.le_of_ble_eq_true rfl) (Nat.le_of_ble_eq_true rfl) ⟨_, _, rfl, rfl⟩ rfl ?_
      refine c_M_is  ?_
      show Wp true i_M_move 41 [vr 103, vi x1, vi x2, vi x3] [vi (bi ((1 : Int) = 0))] (hs h 103 2 1) Q
      exact r_retz f_311_41 rfl (bi_01 _) (k3 c1 c2)

theorem g_M_move_29 {Q : PQ} {h : HP} {x1 : Int} {x2 : Int} {x3 : Int} {s1 : Int} 
    (k1 : s1 = 0 → Q (some (vi (bi ((7 : Int) = 0)))) (hs h 103 2 7))
    (k2 : ¬ s1 = 0 → Q (some (vi (bi ((0 : Int) = 0)))) (hs h 103 2 0)) :
    Wp true i_M_move 29 [vr 103, vi x1, vi x2, vi x3] [vi s1, vr 103] h Q := by
  refine r_br (t := 36) f_311_29 rfl cb_eq (fun c1 => ?_) (fun c1 => ?_)
  · refine r_bipush f_311_36 (by decide) ?_
    refine r_callv (as := [vr 103, vi 7]) (st' := []) (ls0 := [vr 103, vi 7]) f_311_38 (by decide) rfl rfl (Nat.le_of_ble_eq_true rfl) (Nat.le_of_ble_eq_true rfl) ⟨_, _, rfl, rfl⟩ rfl ?_
    refine c_M_is  ?_
    show Wp true i_M_move 41 [vr 103, vi x1, vi x2, vi x3] [vi (bi ((7 : Int) = 0))] (hs h 103 2 7) Q
    exact r_retz f_311_41 rfl (bi_01 _) (k1 c1)
  · refine r_iconst f_311_32 (by decide) ?_
    refine r_goto (t := 38) f_311_33 rfl ?_
    refine r_callv (as := [vr 103, vi 0]) (st' := []) (ls0 := [vr 103, vi 0]) f_311_38 (by decide) rfl rfl (Nat.le_of_ble_eq_true rfl) (Nat.le_of_ble_eq_true rfl) ⟨_, _, rfl, rfl⟩ rfl ?_
    refine c_M_is  ?_
    show Wp true i_M_move 41 [vr 103, vi x1, vi x2, vi x3] [vi (bi ((0 : Int) = 0))] (hs h 103 2 0) Q
    exact r_retz f_311_41 rfl (bi_01 _) (k2 c1)

theorem g_C_leg_0 {Q : PQ} {h : HP} {x1 : Int} {x2 : Int} 
    (k1 : ¬ (0 ≤ x1 ∧ x1 < h 10 3) → Q (some (vi (bi (False)))) (hs h 0 0 1))
    (k2 : (0 ≤ x1 ∧ x1 < h 10 3) → (x2 = 0 ∨ x2 = 1) → Wp true i_C_leg 29 [vr 0, vi x1, vi x2] [] h Q)
    (k3 : (0 ≤ x1 ∧ x1 < h 10 3) → ¬ (x2 = 0 ∨ x2 = 1) → x2 = -1 → Wp true i_C_leg 29 [vr 0, vi x1, vi x2] [] h Q)
    (k4 : (0 ≤ x1 ∧ x1 < h 10 3) → ¬ (x2 = 0 ∨ x2 = 1) → ¬ x2 = -1 → Q (some (vi (bi (False)))) (hs h 0 0 1)) :
    Wp true i_C_leg 0 [vr 0, vi x1, vi x2] [] h Q := by
  refine r_aload_n (v := 0) f_174_0 rfl (by decide) ?_
  refine r_getr (q := 10) f_174_1 rfl (by decide) (Or.inl rfl) rfl ?_
  refine r_iload_n (v := x1) f_174_4 rfl ?_
  refine r_callv (as := [vr 10, vi x1]) (st' := []) (ls0 := [vr 10, vi x1]) f_174_5 (by decide) rfl rfl (Nat.le_of_ble_eq_true rfl) (Nat.le_of_ble_eq_true rfl) ⟨_, _, rfl, rfl⟩ rfl ?_
  refine c_Fl_hasThing isF_10 ?_
  show Wp true i_C_leg 8 [vr 0, vi x1, vi x2] [vi (bi (0 ≤ x1 ∧ x1 < h 10 3))] h Q
  refine r_br (t := 23) f_174_8 rfl cb_bf (fun c1 => ?_) (fun c1 => ?_)
  · refine r_aload_n (v := 0) f_174_23 rfl (by decide) ?_
    refine r_iconst f_174_24 (by decide) ?_
    refine r_callv (as := [vr 0, vi 1]) (st' := []) (ls0 := [vr 0, vi 1]) f_174_25 (by decide) rfl rfl (Nat.le_of_ble_eq_true rfl) (Nat.le_of_ble_eq_true rfl) ⟨_, _, rfl, rfl⟩ rfl ?_
    refine c_C_deny  ?_
    show Wp true i_C_leg 28 [vr 0, vi x1, vi x2] [vi (bi (False))] (hs h 0 0 1) Q
    exact r_retz f_174_28 rfl (bi_01 _) (k1 c1)
  · have c1 := Decidable.not_not.mp c1
    refine r_iload_n (v := x2) f_174_11 rfl ?_
    refine r_calls (as := [vi x2]) (st' := []) (ls0 := [vi x2]) f_174_12 (by decide) (by decide) rfl rfl (Nat.le_of_ble_eq_true rfl) (Nat.le_of_ble_eq_true rfl) rfl ?_
    refine c_C_isLand  ?_
    show Wp true i_C_leg 15 [vr 0, vi x1, vi x2] [vi (bi (x2 = 0 ∨ x2 = 1))] h Q
    refine r_br (t := 29) f_174_15 rfl cb_bt (fun c2 => ?_) (fun c2 => ?_)
    · exact (k2 c1 c2)
    · refine r_iload_n (v := x2) f_174_18 rfl ?_
      refine r_iconst f_174_19 (by decide) ?_
      refine r_br2 (t := 29) f_174_20 rfl cb_eq (fun c3 => ?_) (fun c3 => ?_)
      · exact (k3 c1 c2 c3)
      · refine r_aload_n (v := 0) f_174_23 rfl (by decide) ?_
        refine r_iconst f_174_24 (by decide) ?_
        refine r_callv (as := [vr 0, vi 1]) (st' := []) (ls0 := [vr 0, vi 1]) f_174_25 (by decide) rfl rfl (Nat.le_of_ble_eq_true rfl) (Nat.le_of_ble_eq_true rfl) ⟨_, _, rfl, rfl⟩ rfl ?_
        refine c_C_deny  ?_
        show Wp true i_C_leg 28 [vr 0, vi x1, vi x2] [vi (bi (False))] (hs h 0 0 1) Q
        exact r_retz f_174_28 rfl (bi_01 _) (k4 c1 c2 c3)

theorem g_C_leg_29 {Q : PQ} {h : HP} {x1 : Int} {x2 : Int} 
    (o1 : 0 ≤ x1 ∧ x1 < 10)
    (k2 : Q (some (vi (bi (True)))) (hs (hs h 17 x1.toNat x2) 0 0 0)) :
    Wp true i_C_leg 29 [vr 0, vi x1, vi x2] [] h Q := by
  refine r_aload_n (v := 0) f_174_29 rfl (by decide) ?_
  refine r_getr (q := 10) f_174_30 rfl (by decide) (Or.inl rfl) rfl ?_
  refine r_getr (q := 17) f_174_33 rfl (by decide) (Or.inl rfl) rfl ?_
  refine r_iload_n (v := x1) f_174_36 rfl ?_
  refine r_iload_n (v := x2) f_174_37 rfl ?_
  refine r_iastore (n := 10) f_174_38 ⟨rfl, rfl⟩ o1 ?_
  refine r_aload_n (v := 0) f_174_39 rfl (by decide) ?_
  refine r_callv (as := [vr 0]) (st' := []) (ls0 := [vr 0]) f_174_40 (by decide) rfl rfl (Nat.le_of_ble_eq_true rfl) (Nat.le_of_ble_eq_true rfl) ⟨_, _, rfl, rfl⟩ rfl ?_
  refine c_C_grant  ?_
  show Wp true i_C_leg 43 [vr 0, vi x1, vi x2] [vi (bi (True))] (hs (hs h 17 x1.toNat x2) 0 0 0) Q
  exact r_retz f_174_43 rfl (bi_01 _) k2

theorem g_M_leg_0 {Q : PQ} {h : HP} {x1 : Int} {x2 : Int} 
    (k1 : ¬ (0 ≤ x1 ∧ x1 < h 104 2) → Q (some (vi (bi ((1 : Int) = 0)))) (hs h 103 2 1))
    (k2 : (0 ≤ x1 ∧ x1 < h 104 2) → x2 = -1 → Wp true i_M_leg 26 [vr 103, vi x1, vi x2] [] h Q)
    (k3 : (0 ≤ x1 ∧ x1 < h 104 2) → ¬ x2 = -1 → (x2 = 0 ∨ x2 = 1) → Wp true i_M_leg 26 [vr 103, vi x1, vi x2] [] h Q)
    (k4 : (0 ≤ x1 ∧ x1 < h 104 2) → ¬ x2 = -1 → ¬ (x2 = 0 ∨ x2 = 1) → Q (some (vi (bi ((1 : Int) = 0)))) (hs h 103 2 1)) :
    Wp true i_M_leg 0 [vr 103, vi x1, vi x2] [] h Q := by
  refine r_aload_n (v := 103) f_312_0 rfl (by decide) ?_
  refine r_iload_n (v := x1) f_312_1 rfl ?_
  refine r_callv (as := [vr 103, vi x1]) (st' := []) (ls0 := [vr 103, vi x1]) f_312_2 (by decide) rfl rfl (Nat.le_of_ble_eq_true rfl) (Nat.le_of_ble_eq_true rfl) ⟨_, _, rfl, rfl⟩ rfl ?_
  refine c_M_isThing  ?_
  show Wp true i_M_leg 5 [vr 103, vi x1, vi x2] [vi (bi (0 ≤ x1 ∧ x1 < h 104 2))] h Q
  refine r_br (t := 20) f_312_5 rfl cb_bf (fun c1 => ?_) (fun c1 => ?_)
  · refine r_aload_n (v := 103) f_312_20 rfl (by decide) ?_
    refine r_iconst f_312_21 (by decide) ?_
    refine r_callv (as := [vr 103, vi 1]) (st' := []) (ls0 := [vr 103, vi 1]) f_312_22 (by decide) rfl rfl (Nat.le_of_ble_eq_true rfl) (Nat.le_of_ble_eq_true rfl) ⟨_, _, rfl, rfl⟩ rfl ?_
    refine c_M_is  ?_
    show Wp true i_M_leg 25 [vr 103, vi x1, vi x2] [vi (bi ((1 : Int) = 0))] (hs h 103 2 1) Q
    exact r_retz f_312_25 rfl (bi_01 _) (k1 c1)
  · have c1 := Decidable.not_not.mp c1
    refine r_iload_n (v := x2) f_312_8 rfl ?_
    refine r_iconst f_312_9 (by decide) ?_
    refine r_br2 (t := 26) f_312_10 rfl cb_eq (fun c2 => ?_) (fun c2 => ?_)
    · exact (k2 c1 c2)
    · refine r_iload_n (v := x2) f_312_13 rfl ?_
      refine r_calls (as := [vi x2]) (st' := []) (ls0 := [vi x2]) f_312_14 (by decide) (by decide) rfl rfl (Nat.le_of_ble_eq_true rfl) (Nat.le_of_ble_eq_true rfl) rfl ?_
      refine c_M_isLand  ?_
      show Wp true i_M_leg 17 [vr 103, vi x1, vi x2] [vi (bi (x2 = 0 ∨ x2 = 1))] h Q
      refine r_br (t := 26) f_312_17 rfl cb_bt (fun c3 => ?_) (fun c3 => ?_)
      · exact (k3 c1 c2 c3)
      · refine r_aload_n (v := 103) f_312_20 rfl (by decide) ?_
        refine r_iconst f_312_21 (by decide) ?_
        refine r_callv (as := [vr 103, vi 1]) (st' := []) (ls0 := [vr 103, vi 1]) f_312_22 (by decide) rfl rfl (Nat.le_of_ble_eq_true rfl) (Nat.le_of_ble_eq_true rfl) ⟨_, _, rfl, rfl⟩ rfl ?_
        refine c_M_is  ?_
        show Wp true i_M_leg 25 [vr 103, vi x1, vi x2] [vi (bi ((1 : Int) = 0))] (hs h 103 2 1) Q
        exact r_retz f_312_25 rfl (bi_01 _) (k4 c1 c2 c3)

theorem g_M_leg_26 {Q : PQ} {h : HP} {x1 : Int} {x2 : Int} 
    (o1 : 0 ≤ x1 ∧ x1 < 100)
    (o2 : -2147483648 ≤ (15 + 6 * x1) + 4 ∧ (15 + 6 * x1) + 4 ≤ 2147483647)
    (o3 : 0 ≤ (15 + 6 * x1) + 4 ∧ (15 + 6 * x1) + 4 < 3000)
    (k4 : Q (some (vi (bi ((0 : Int) = 0)))) (hs (hs h 104 ((15 + 6 * x1) + 4).toNat x2) 103 2 0)) :
    Wp true i_M_leg 26 [vr 103, vi x1, vi x2] [] h Q := by
  refine r_aload_n (v := 103) f_312_26 rfl (by decide) ?_
  refine r_getr (q := 104) f_312_27 rfl (by decide) (Or.inl rfl) rfl ?_
  refine r_iload_n (v := x1) f_312_30 rfl ?_
  refine r_calls (as := [vi x1]) (st' := [vr 104]) (ls0 := [vi x1]) f_312_31 (by decide) (by decide) rfl rfl (Nat.le_of_ble_eq_true rfl) (Nat.le_of_ble_eq_true rfl) rfl ?_
  refine c_M_thingRow o1 ?_
  show Wp true i_M_leg 34 [vr 103, vi x1, vi x2] [vi (15 + 6 * x1), vr 104] h Q
  refine r_iconst f_312_34 (by decide) ?_
  refine r_iadd (u := (15 + 6 * x1) + 4) f_312_35 rfl o2 ?_
  refine r_iload_n (v := x2) f_312_36 rfl ?_
  refine r_iastore (n := 3000) f_312_37 ⟨rfl, rfl⟩ o3 ?_
  refine r_aload_n (v := 103) f_312_38 rfl (by decide) ?_
  refine r_iconst f_312_39 (by decide) ?_
  refine r_callv (as := [vr 103, vi 0]) (st' := []) (ls0 := [vr 103, vi 0]) f_312_40 (by decide) rfl rfl (Nat.le_of_ble_eq_true rfl) (Nat.le_of_ble_eq_true rfl) ⟨_, _, rfl, rfl⟩ rfl ?_
  refine c_M_is  ?_
  show Wp true i_M_leg 43 [vr 103, vi x1, vi x2] [vi (bi ((0 : Int) = 0))] (hs (hs h 104 ((15 + 6 * x1) + 4).toNat x2) 103 2 0) Q
  exact r_retz f_312_43 rfl (bi_01 _) k4

theorem g_C_bends_0 {Q : PQ} {h : HP} {x1 : Int} 
    (k1 : (0 ≤ x1 ∧ x1 ≤ 9) → Q (some (vi (bi (True)))) (hs (hs h 10 2 x1) 0 0 0))
    (k2 : ¬ (0 ≤ x1 ∧ x1 ≤ 9) → Q (some (vi (bi (False)))) (hs h 0 0 1)) :
    Wp true i_C_bends 0 [vr 0, vi x1] [] h Q := by
  refine r_iload_n (v := x1) f_175_0 rfl ?_
  refine r_iconst f_175_1 (by decide) ?_
  refine r_bipush f_175_2 (by decide) ?_
  refine r_calls (as := [vi x1, vi 0, vi 9]) (st' := []) (ls0 := [vi x1, vi 0, vi 9]) f_175_4 (by decide) (by decide) rfl rfl (Nat.le_of_ble_eq_true rfl) (Nat.le_of_ble_eq_true rfl) rfl ?_
  refine c_C_within  ?_
  show Wp true i_C_bends 7 [vr 0, vi x1] [vi (bi (0 ≤ x1 ∧ x1 ≤ 9))] h Q
  refine r_br (t := 16) f_175_7 rfl cb_bt (fun c1 => ?_) (fun c1 => ?_)
  · refine r_aload_n (v := 0) f_175_16 rfl (by decide) ?_
    refine r_getr (q := 10) f_175_17 rfl (by decide) (Or.inl rfl) rfl ?_
    refine r_iload_n (v := x1) f_175_20 rfl ?_
    refine r_puti f_175_21 rfl (by decide) ?_
    refine r_aload_n (v := 0) f_175_24 rfl (by decide) ?_
    refine r_callv (as := [vr 0]) (st' := []) (ls0 := [vr 0]) f_175_25 (by decide) rfl rfl (Nat.le_of_ble_eq_true rfl) (Nat.le_of_ble_eq_true rfl) ⟨_, _, rfl, rfl⟩ rfl ?_
    refine c_C_grant  ?_
    show Wp true i_C_bends 28 [vr 0, vi x1] [vi (bi (True))] (hs (hs h 10 2 x1) 0 0 0) Q
    exact r_retz f_175_28 rfl (bi_01 _) (k1 c1)
  · refine r_aload_n (v := 0) f_175_10 rfl (by decide) ?_
    refine r_iconst f_175_11 (by decide) ?_
    refine r_callv (as := [vr 0, vi 1]) (st' := []) (ls0 := [vr 0, vi 1]) f_175_12 (by decide) rfl rfl (Nat.le_of_ble_eq_true rfl) (Nat.le_of_ble_eq_true rfl) ⟨_, _, rfl, rfl⟩ rfl ?_
    refine c_C_deny  ?_
    show Wp true i_C_bends 15 [vr 0, vi x1] [vi (bi (False))] (hs h 0 0 1) Q
    exact r_retz f_175_15 rfl (bi_01 _) (k2 c1)

theorem g_M_bends_0 {Q : PQ} {h : HP} {x1 : Int} 
    (k1 : (0 ≤ x1 ∧ x1 ≤ 9) → Q (some (vi (bi ((0 : Int) = 0)))) (hs (hs h 104 3 x1) 103 2 0))
    (k2 : ¬ (0 ≤ x1 ∧ x1 ≤ 9) → Q (some (vi (bi ((1 : Int) = 0)))) (hs h 103 2 1)) :
    Wp true i_M_bends 0 [vr 103, vi x1] [] h Q := by
  refine r_iload_n (v := x1) f_313_0 rfl ?_
  refine r_i2l f_313_1 ?_
  refine r_lconst (v := 0) f_313_2 rfl ?_
  refine r_ldc2_w f_313_3 (by decide) ?_
  refine r_calls (as := [vj x1, vj 0, vj 9]) (st' := []) (ls0 := [vj x1, vr 9999, vj 0, vr 9999, vj 9, vr 9999]) f_313_6 (by decide) (by decide) rfl rfl (Nat.le_of_ble_eq_true rfl) (Nat.le_of_ble_eq_true rfl) rfl ?_
  refine c_M_isFrom  ?_
  show Wp true i_M_bends 9 [vr 103, vi x1] [vi (bi (0 ≤ x1 ∧ x1 ≤ 9))] h Q
  refine r_br (t := 18) f_313_9 rfl cb_bt (fun c1 => ?_) (fun c1 => ?_)
  · refine r_aload_n (v := 103) f_313_18 rfl (by decide) ?_
    refine r_getr (q := 104) f_313_19 rfl (by decide) (Or.inl rfl) rfl ?_
    refine r_iconst f_313_22 (by decide) ?_
    refine r_iload_n (v := x1) f_313_23 rfl ?_
    refine r_iastore (n := 3000) f_313_24 ⟨rfl, rfl⟩ (by decide) ?_
    refine r_aload_n (v := 103) f_313_25 rfl (by decide) ?_
    refine r_iconst f_313_26 (by decide) ?_
    refine r_callv (as := [vr 103, vi 0]) (st' := []) (ls0 := [vr 103, vi 0]) f_313_27 (by decide) rfl rfl (Nat.le_of_ble_eq_true rfl) (Nat.le_of_ble_eq_true rfl) ⟨_, _, rfl, rfl⟩ rfl ?_
    refine c_M_is  ?_
    show Wp true i_M_bends 30 [vr 103, vi x1] [vi (bi ((0 : Int) = 0))] (hs (hs h 104 3 x1) 103 2 0) Q
    exact r_retz f_313_30 rfl (bi_01 _) (k1 c1)
  · refine r_aload_n (v := 103) f_313_12 rfl (by decide) ?_
    refine r_iconst f_313_13 (by decide) ?_
    refine r_callv (as := [vr 103, vi 1]) (st' := []) (ls0 := [vr 103, vi 1]) f_313_14 (by decide) rfl rfl (Nat.le_of_ble_eq_true rfl) (Nat.le_of_ble_eq_true rfl) ⟨_, _, rfl, rfl⟩ rfl ?_
    refine c_M_is  ?_
    show Wp true i_M_bends 17 [vr 103, vi x1] [vi (bi ((1 : Int) = 0))] (hs h 103 2 1) Q
    exact r_retz f_313_17 rfl (bi_01 _) (k2 c1)

theorem g_C_lineTrouble_0 {Q : PQ} {h : HP} {x1 : Int} 
    (o1 : (0 ≤ x1 ∧ x1 ≤ 3) → 0 ≤ x1 ∧ x1 < 4)
    (o2 : (0 ≤ x1 ∧ x1 ≤ 3) → ¬ (h 3 x1.toNat = -1) → -2147483648 ≤ (h 10 1) ∧ (h 10 1) ≤ 2147483647)
    (k3 : (0 ≤ x1 ∧ x1 ≤ 3) → ¬ (h 3 x1.toNat = -1) → ¬ (0 + (h 10 1) ≤ h 4 x1.toNat) → Q (some (vi 3)) h)
    (k4 : (0 ≤ x1 ∧ x1 ≤ 3) → ¬ (h 3 x1.toNat = -1) → (0 + (h 10 1) ≤ h 4 x1.toNat) → Q (some (vi 0)) h)
    (k5 : (0 ≤ x1 ∧ x1 ≤ 3) → (h 3 x1.toNat = -1) → Q (some (vi 2)) h)
    (k6 : ¬ (0 ≤ x1 ∧ x1 ≤ 3) → Q (some (vi 1)) h) :
    Wp true i_C_lineTrouble 0 [vr 0, vi x1] [] h Q := by
  refine r_iload_n (v := x1) f_212_0 rfl ?_
  refine r_calls (as := [vi x1]) (st' := []) (ls0 := [vi x1]) f_212_1 (by decide) (by decide) rfl rfl (Nat.le_of_ble_eq_true rfl) (Nat.le_of_ble_eq_true rfl) rfl ?_
  refine c_C_isTray  ?_
  show Wp true i_C_lineTrouble 4 [vr 0, vi x1] [vi (bi (0 ≤ x1 ∧ x1 ≤ 3))] h Q
  refine r_br (t := 9) f_212_4 rfl cb_bt (fun c1 => ?_) (fun c1 => ?_)
  · refine r_aload_n (v := 0) f_212_9 rfl (by decide) ?_
    refine r_getr (q := 1) f_212_10 rfl (by decide) (Or.inl rfl) rfl ?_
    refine r_iload_n (v := x1) f_212_13 rfl ?_
    refine r_callv (as := [vr 1, vi x1]) (st' := []) (ls0 := [vr 1, vi x1]) f_212_14 (by decide) rfl rfl (Nat.le_of_ble_eq_true rfl) (Nat.le_of_ble_eq_true rfl) ⟨_, _, rfl, rfl⟩ rfl ?_
    refine c_Ty_isMissing (o1 c1) ?_
    show Wp true i_C_lineTrouble 17 [vr 0, vi x1] [vi (bi (h 3 x1.toNat = -1))] h Q
    refine r_br (t := 22) f_212_17 rfl cb_bf (fun c2 => ?_) (fun c2 => ?_)
    · refine r_aload_n (v := 0) f_212_22 rfl (by decide) ?_
      refine r_getr (q := 1) f_212_23 rfl (by decide) (Or.inl rfl) rfl ?_
      refine r_iload_n (v := x1) f_212_26 rfl ?_
      refine r_iconst f_212_27 (by decide) ?_
      refine r_aload_n (v := 0) f_212_28 rfl (by decide) ?_
      refine r_getr (q := 10) f_212_29 rfl (by decide) (Or.inl rfl) rfl ?_
      refine r_geti (v := h 10 1) f_212_32 rfl (by decide) rfl ?_
      refine r_callv (as := [vr 1, vi x1, vi 0, vi (h 10 1)]) (st' := []) (ls0 := [vr 1, vi x1, vi 0, vi (h 10 1)]) f_212_35 (by decide) rfl rfl (Nat.le_of_ble_eq_true rfl) (Nat.le_of_ble_eq_true rfl) ⟨_, _, rfl, rfl⟩ rfl ?_
      refine c_Ty_hasRun (o1 c1) (by decide) (o2 c1 c2) ?_
      show Wp true i_C_lineTrouble 38 [vr 0, vi x1] [vi (bi (0 + (h 10 1) ≤ h 4 x1.toNat))] h Q
      refine r_br (t := 45) f_212_38 rfl cb_bf (fun c3 => ?_) (fun c3 => ?_)
      · refine r_iconst f_212_45 (by decide) ?_
        exact r_reti f_212_46 rfl (k3 c1 c2 c3)
      · have c3 := Decidable.not_not.mp c3
        refine r_iconst f_212_41 (by decide) ?_
        refine r_goto (t := 46) f_212_42 rfl ?_
        exact r_reti f_212_46 rfl (k4 c1 c2 c3)
    · have c2 := Decidable.not_not.mp c2
      refine r_iconst f_212_20 (by decide) ?_
      exact r_reti f_212_21 rfl (k5 c1 c2)
  · refine r_iconst f_212_7 (by decide) ?_
    exact r_reti f_212_8 rfl (k6 c1)

theorem g_C_draw_0 {Q : PQ} {h : HP} {x1 : Int} 
    (k1 : Wp true i_C_lineTrouble 0 [vr 0, vi x1] [] h (fun r h' => Wp true i_C_draw 5 [vr 0, vi x1, vr 9999, vr 9999, vr 9999, vr 9999] (r.toList ++ []) h' Q)) :
    Wp true i_C_draw 0 [vr 0, vi x1, vr 9999, vr 9999, vr 9999, vr 9999] [] h Q := by
  refine r_aload_n (v := 0) f_176_0 rfl (by decide) ?_
  refine r_iload_n (v := x1) f_176_1 rfl ?_
  exact r_callv (as := [vr 0, vi x1]) (st' := []) (ls0 := [vr 0, vi x1]) f_176_2 (by decide) rfl rfl (Nat.le_of_ble_eq_true rfl) (Nat.le_of_ble_eq_true rfl) ⟨_, _, rfl, rfl⟩ rfl k1

theorem g_C_draw_5 {Q : PQ} {h : HP} {x1 : Int} {s0 : Int} 
    (k1 : s0 = 0 → Wp true i_C_draw 18 [vr 0, vi x1, vi s0, vi 0, vr 9999, vr 9999] [] h Q)
    (k2 : ¬ s0 = 0 → Q (some (vi (bi (False)))) (hs h 0 0 s0)) :
    Wp true i_C_draw 5 [vr 0, vi x1, vr 9999, vr 9999, vr 9999, vr 9999] [vi s0] h Q := by
  refine r_istore_n (ls' := [vr 0, vi x1, vi s0, vr 9999, vr 9999, vr 9999]) f_176_5 (Nat.le_of_ble_eq_true rfl) rfl ?_
  refine r_iload_n (v := s0) f_176_6 rfl ?_
  refine r_br (t := 16) f_176_7 rfl cb_eq (fun c1 => ?_) (fun c1 => ?_)
  · refine r_iconst f_176_16 (by decide) ?_
    refine r_istore_n (ls' := [vr 0, vi x1, vi s0, vi 0, vr 9999, vr 9999]) f_176_17 (Nat.le_of_ble_eq_true rfl) rfl ?_
    exact (k1 c1)
  · refine r_aload_n (v := 0) f_176_10 rfl (by decide) ?_
    refine r_iload_n (v := s0) f_176_11 rfl ?_
    refine r_callv (as := [vr 0, vi s0]) (st' := []) (ls0 := [vr 0, vi s0]) f_176_12 (by decide) rfl rfl (Nat.le_of_ble_eq_true rfl) (Nat.le_of_ble_eq_true rfl) ⟨_, _, rfl, rfl⟩ rfl ?_
    refine c_C_deny  ?_
    show Wp true i_C_draw 15 [vr 0, vi x1, vi s0, vr 9999, vr 9999, vr 9999] [vi (bi (False))] (hs h 0 0 s0) Q
    exact r_retz f_176_15 rfl (bi_01 _) (k2 c1)

theorem g_C_draw_18 {Q : PQ} {h : HP} {x1 : Int} {x2 : Int} {x3 : Int} {j4 : AV} 
    (k1 : h 10 1 ≤ x3 → Wp true i_C_draw 75 [vr 0, vi x1, vi x2, vi 0, j4, vr 9999] [] h Q)
    (o2 : ¬ h 10 1 ≤ x3 → 0 ≤ x1 ∧ x1 < 4)
    (o3 : ¬ h 10 1 ≤ x3 → 0 ≤ x3 ∧ x3 < 60)
    (k4 : ¬ h 10 1 ≤ x3 → h 2 (x1 * 60 + x3).toNat < 0 → Q (some (vi (bi (False)))) (hs h 0 0 5))
    (o5 : ¬ h 10 1 ≤ x3 → ¬ h 2 (x1 * 60 + x3).toNat < 0 → h 2 (x1 * 60 + x3).toNat ≤ h 10 0 → -2147483648 ≤ x3 + 1 ∧ x3 + 1 ≤ 2147483647)
    (k6 : ¬ h 10 1 ≤ x3 → ¬ h 2 (x1 * 60 + x3).toNat < 0 → h 2 (x1 * 60 + x3).toNat ≤ h 10 0 → Wp true i_C_draw 18 [vr 0, vi x1, vi x2, vi (x3 + 1), vj (h 2 (x1 * 60 + x3).toNat), vr 9999] [] h Q)
    (k7 : ¬ h 10 1 ≤ x3 → ¬ h 2 (x1 * 60 + x3).toNat < 0 → ¬ h 2 (x1 * 60 + x3).toNat ≤ h 10 0 → Q (some (vi (bi (False)))) (hs h 0 0 5)) :
    Wp true i_C_draw 18 [vr 0, vi x1, vi x2, vi x3, j4, vr 9999] [] h Q := by
  refine r_iload_n (v := x3) f_176_18 rfl ?_
  refine r_aload_n (v := 0) f_176_19 rfl (by decide) ?_
  refine r_getr (q := 10) f_176_20 rfl (by decide) (Or.inl rfl) rfl ?_
  refine r_geti (v := h 10 1) f_176_23 rfl (by decide) rfl ?_
  refine r_br2 (t := 73) f_176_26 rfl cb_ge (fun c1 => ?_) (fun c1 => ?_)
  · refine r_iconst f_176_73 (by decide) ?_
    refine r_istore_n (ls' := [vr 0, vi x1, vi x2, vi 0, j4, vr 9999]) f_176_74 (Nat.le_of_ble_eq_true rfl) rfl ?_
    exact (k1 c1)
  · refine r_aload_n (v := 0) f_176_29 rfl (by decide) ?_
    refine r_getr (q := 1) f_176_30 rfl (by decide) (Or.inl rfl) rfl ?_
    refine r_iload_n (v := x1) f_176_33 rfl ?_
    refine r_iload_n (v := x3) f_176_34 rfl ?_
    refine r_callv (as := [vr 1, vi x1, vi x3]) (st' := []) (ls0 := [vr 1, vi x1, vi x3]) f_176_35 (by decide) rfl rfl (Nat.le_of_ble_eq_true rfl) (Nat.le_of_ble_eq_true rfl) ⟨_, _, rfl, rfl⟩ rfl ?_
    refine c_Ty_at (o2 c1) (o3 c1) ?_
    show Wp true i_C_draw 38 [vr 0, vi x1, vi x2, vi x3, j4, vr 9999] [vj (h 2 (x1 * 60 + x3).toNat)] h Q
    refine r_lstore (ls' := [vr 0, vi x1, vi x2, vi x3, vj (h 2 (x1 * 60 + x3).toNat), vr 9999]) f_176_38 (Nat.le_of_ble_eq_true rfl) rfl ?_
    refine r_lload (v := h 2 (x1 * 60 + x3).toNat) f_176_40 rfl ?_
    refine r_lconst (v := 0) f_176_42 rfl ?_
    refine r_lcmp f_176_43 ?_
    refine r_br (t := 61) f_176_44 rfl lc_lt (fun c2 => ?_) (fun c2 => ?_)
    · refine r_aload_n (v := 0) f_176_61 rfl (by decide) ?_
      refine r_iconst f_176_62 (by decide) ?_
      refine r_callv (as := [vr 0, vi 5]) (st' := []) (ls0 := [vr 0, vi 5]) f_176_63 (by decide) rfl rfl (Nat.le_of_ble_eq_true rfl) (Nat.le_of_ble_eq_true rfl) ⟨_, _, rfl, rfl⟩ rfl ?_
      refine c_C_deny  ?_
      show Wp true i_C_draw 66 [vr 0, vi x1, vi x2, vi x3, vj (h 2 (x1 * 60 + x3).toNat), vr 9999] [vi (bi (False))] (hs h 0 0 5) Q
      exact r_retz f_176_66 rfl (bi_01 _) (k4 c1 c2)
    · refine r_lload (v := h 2 (x1 * 60 + x3).toNat) f_176_47 rfl ?_
      refine r_aload_n (v := 0) f_176_49 rfl (by decide) ?_
      refine r_getr (q := 10) f_176_50 rfl (by decide) (Or.inl rfl) rfl ?_
      refine r_geti (v := h 10 0) f_176_53 rfl (by decide) rfl ?_
      refine r_i2l f_176_56 ?_
      refine r_lcmp f_176_57 ?_
      refine r_br (t := 67) f_176_58 rfl lc_le (fun c3 => ?_) (fun c3 => ?_)
      · refine r_iinc (v := x3) (w := x3 + 1) (ls' := [vr 0, vi x1, vi x2, vi (x3 + 1), vj (h 2 (x1 * 60 + x3).toNat), vr 9999]) f_176_67 rfl rfl (o5 c1 c2 c3) rfl ?_
        refine r_goto (t := 18) f_176_70 rfl ?_
        exact (k6 c1 c2 c3)
      · refine r_aload_n (v := 0) f_176_61 rfl (by decide) ?_
        refine r_iconst f_176_62 (by decide) ?_
        refine r_callv (as := [vr 0, vi 5]) (st' := []) (ls0 := [vr 0, vi 5]) f_176_63 (by decide) rfl rfl (Nat.le_of_ble_eq_true rfl) (Nat.le_of_ble_eq_true rfl) ⟨_, _, rfl, rfl⟩ rfl ?_
        refine c_C_deny  ?_
        show Wp true i_C_draw 66 [vr 0, vi x1, vi x2, vi x3, vj (h 2 (x1 * 60 + x3).toNat), vr 9999] [vi (bi (False))] (hs h 0 0 5) Q
        exact r_retz f_176_66 rfl (bi_01 _) (k7 c1 c2 c3)

theorem g_C_draw_75 {Q : PQ} {h : HP} {x1 : Int} {x2 : Int} {x3 : Int} {j4 : AV} 
    (k1 : h 10 1 ≤ x3 → Q (some (vi (bi (True)))) (hs h 0 0 0))
    (o2 : ¬ h 10 1 ≤ x3 → 0 ≤ x1 ∧ x1 < 4)
    (o3 : ¬ h 10 1 ≤ x3 → 0 ≤ x3 ∧ x3 < 60)
    (o4 : ¬ h 10 1 ≤ x3 → 0 ≤ x3 ∧ x3 < 7)
    (o5 : ¬ h 10 1 ≤ x3 → -2147483648 ≤ x3 + 1 ∧ x3 + 1 ≤ 2147483647)
    (k6 : ¬ h 10 1 ≤ x3 → Wp true i_C_draw 75 [vr 0, vi x1, vi x2, vi (x3 + 1), j4, vr 9999] [] (hs h 12 x3.toNat (w32 (h 2 (x1 * 60 + x3).toNat))) Q) :
    Wp true i_C_draw 75 [vr 0, vi x1, vi x2, vi x3, j4, vr 9999] [] h Q := by
  refine r_iload_n (v := x3) f_176_75 rfl ?_
  refine r_aload_n (v := 0) f_176_76 rfl (by decide) ?_
  refine r_getr (q := 10) f_176_77 rfl (by decide) (Or.inl rfl) rfl ?_
  refine r_geti (v := h 10 1) f_176_80 rfl (by decide) rfl ?_
  refine r_br2 (t := 111) f_176_83 rfl cb_ge (fun c1 => ?_) (fun c1 => ?_)
  · refine r_aload_n (v := 0) f_176_111 rfl (by decide) ?_
    refine r_callv (as := [vr 0]) (st' := []) (ls0 := [vr 0]) f_176_112 (by decide) rfl rfl (Nat.le_of_ble_eq_true rfl) (Nat.le_of_ble_eq_true rfl) ⟨_, _, rfl, rfl⟩ rfl ?_
    refine c_C_grant  ?_
    show Wp true i_C_draw 115 [vr 0, vi x1, vi x2, vi x3, j4, vr 9999] [vi (bi (True))] (hs h 0 0 0) Q
    exact r_retz f_176_115 rfl (bi_01 _) (k1 c1)
  · refine r_aload_n (v := 0) f_176_86 rfl (by decide) ?_
    refine r_getr (q := 10) f_176_87 rfl (by decide) (Or.inl rfl) rfl ?_
    refine r_getr (q := 12) f_176_90 rfl (by decide) (Or.inl rfl) rfl ?_
    refine r_iload_n (v := x3) f_176_93 rfl ?_
    refine r_aload_n (v := 0) f_176_94 rfl (by decide) ?_
    refine r_getr (q := 1) f_176_95 rfl (by decide) (Or.inl rfl) rfl ?_
    refine r_iload_n (v := x1) f_176_98 rfl ?_
    refine r_iload_n (v := x3) f_176_99 rfl ?_
    refine r_callv (as := [vr 1, vi x1, vi x3]) (st' := [vi x3, vr 12]) (ls0 := [vr 1, vi x1, vi x3]) f_176_100 (by decide) rfl rfl (Nat.le_of_ble_eq_true rfl) (Nat.le_of_ble_eq_true rfl) ⟨_, _, rfl, rfl⟩ rfl ?_
    refine c_Ty_at (o2 c1) (o3 c1) ?_
    show Wp true i_C_draw 103 [vr 0, vi x1, vi x2, vi x3, j4, vr 9999] [vj (h 2 (x1 * 60 + x3).toNat), vi x3, vr 12] h Q
    refine r_l2i f_176_103 ?_
    refine r_iastore (n := 7) f_176_104 ⟨rfl, rfl⟩ (o4 c1) ?_
    refine r_iinc (v := x3) (w := x3 + 1) (ls' := [vr 0, vi x1, vi x2, vi (x3 + 1), j4, vr 9999]) f_176_105 rfl rfl (o5 c1) rfl ?_
    refine r_goto (t := 75) f_176_108 rfl ?_
    exact (k6 c1)

theorem g_M_draw_0 {Q : PQ} {h : HP} {x1 : Int} 
    (o1 : (0 ≤ x1 ∧ x1 < 4) → 0 ≤ x1 ∧ x1 < 4)
    (k2 : (0 ≤ x1 ∧ x1 < 4) → ¬ h 107 x1.toNat = -1 → h 104 1 ≤ h 107 x1.toNat → Wp true i_M_draw 52 [vr 103, vi x1, vi 0] [] h Q)
    (k3 : (0 ≤ x1 ∧ x1 < 4) → ¬ h 107 x1.toNat = -1 → ¬ h 104 1 ≤ h 107 x1.toNat → Q (some (vi (bi ((3 : Int) = 0)))) (hs h 103 2 3))
    (k4 : (0 ≤ x1 ∧ x1 < 4) → h 107 x1.toNat = -1 → Q (some (vi (bi ((2 : Int) = 0)))) (hs h 103 2 2))
    (k5 : ¬ (0 ≤ x1 ∧ x1 < 4) → Q (some (vi (bi ((1 : Int) = 0)))) (hs h 103 2 1)) :
    Wp true i_M_draw 0 [vr 103, vi x1, vr 9999] [] h Q := by
  refine r_iload_n (v := x1) f_314_0 rfl ?_
  refine r_calls (as := [vi x1]) (st' := []) (ls0 := [vi x1]) f_314_1 (by decide) (by decide) rfl rfl (Nat.le_of_ble_eq_true rfl) (Nat.le_of_ble_eq_true rfl) rfl ?_
  refine c_M_isTray  ?_
  show Wp true i_M_draw 4 [vr 103, vi x1, vr 9999] [vi (bi (0 ≤ x1 ∧ x1 < 4))] h Q
  refine r_br (t := 13) f_314_4 rfl cb_bt (fun c1 => ?_) (fun c1 => ?_)
  · refine r_aload_n (v := 103) f_314_13 rfl (by decide) ?_
    refine r_getr (q := 107) f_314_14 rfl (by decide) (Or.inl rfl) rfl ?_
    refine r_iload_n (v := x1) f_314_17 rfl ?_
    refine r_iaload (n := 4) (v := h 107 x1.toNat) f_314_18 ⟨rfl, rfl⟩ (o1 c1) rfl ?_
    refine r_iconst f_314_19 (by decide) ?_
    refine r_br2 (t := 29) f_314_20 rfl cb_ne (fun c2 => ?_) (fun c2 => ?_)
    · refine r_aload_n (v := 103) f_314_29 rfl (by decide) ?_
      refine r_getr (q := 107) f_314_30 rfl (by decide) (Or.inl rfl) rfl ?_
      refine r_iload_n (v := x1) f_314_33 rfl ?_
      refine r_iaload (n := 4) (v := h 107 x1.toNat) f_314_34 ⟨rfl, rfl⟩ (o1 c1) rfl ?_
      refine r_aload_n (v := 103) f_314_35 rfl (by decide) ?_
      refine r_getr (q := 104) f_314_36 rfl (by decide) (Or.inl rfl) rfl ?_
      refine r_iconst f_314_39 (by decide) ?_
      refine r_iaload (n := 3000) (v := h 104 1) f_314_40 ⟨rfl, rfl⟩ (by decide) rfl ?_
      refine r_br2 (t := 50) f_314_41 rfl cb_ge (fun c3 => ?_) (fun c3 => ?_)
      · refine r_iconst f_314_50 (by decide) ?_
        refine r_istore_n (ls' := [vr 103, vi x1, vi 0]) f_314_51 (Nat.le_of_ble_eq_true rfl) rfl ?_
        exact (k2 c1 c2 c3)
      · refine r_aload_n (v := 103) f_314_44 rfl (by decide) ?_
        refine r_iconst f_314_45 (by decide) ?_
        refine r_callv (as := [vr 103, vi 3]) (st' := []) (ls0 := [vr 103, vi 3]) f_314_46 (by decide) rfl rfl (Nat.le_of_ble_eq_true rfl) (Nat.le_of_ble_eq_true rfl) ⟨_, _, rfl, rfl⟩ rfl ?_
        refine c_M_is  ?_
        show Wp true i_M_draw 49 [vr 103, vi x1, vr 9999] [vi (bi ((3 : Int) = 0))] (hs h 103 2 3) Q
        exact r_retz f_314_49 rfl (bi_01 _) (k3 c1 c2 c3)
    · have c2 := Decidable.not_not.mp c2
      refine r_aload_n (v := 103) f_314_23 rfl (by decide) ?_
      refine r_iconst f_314_24 (by decide) ?_
      refine r_callv (as := [vr 103, vi 2]) (st' := []) (ls0 := [vr 103, vi 2]) f_314_25 (by decide) rfl rfl (Nat.le_of_ble_eq_true rfl) (Nat.le_of_ble_eq_true rfl) ⟨_, _, rfl, rfl⟩ rfl ?_
      refine c_M_is  ?_
      show Wp true i_M_draw 28 [vr 103, vi x1, vr 9999] [vi (bi ((2 : Int) = 0))] (hs h 103 2 2) Q
      exact r_retz f_314_28 rfl (bi_01 _) (k4 c1 c2)
  · refine r_aload_n (v := 103) f_314_7 rfl (by decide) ?_
    refine r_iconst f_314_8 (by decide) ?_
    refine r_callv (as := [vr 103, vi 1]) (st' := []) (ls0 := [vr 103, vi 1]) f_314_9 (by decide) rfl rfl (Nat.le_of_ble_eq_true rfl) (Nat.le_of_ble_eq_true rfl) ⟨_, _, rfl, rfl⟩ rfl ?_
    refine c_M_is  ?_
    show Wp true i_M_draw 12 [vr 103, vi x1, vr 9999] [vi (bi ((1 : Int) = 0))] (hs h 103 2 1) Q
    exact r_retz f_314_12 rfl (bi_01 _) (k5 c1)

theorem g_M_draw_52 {Q : PQ} {h : HP} {x1 : Int} {x2 : Int} 
    (k1 : h 104 1 ≤ x2 → Wp true i_M_draw 101 [vr 103, vi x1, vi 0] [] h Q)
    (o2 : ¬ h 104 1 ≤ x2 → -2147483648 ≤ 60 * x1 ∧ 60 * x1 ≤ 2147483647)
    (o3 : ¬ h 104 1 ≤ x2 → -2147483648 ≤ (60 * x1) + x2 ∧ (60 * x1) + x2 ≤ 2147483647)
    (o4 : ¬ h 104 1 ≤ x2 → 0 ≤ (60 * x1) + x2 ∧ (60 * x1) + x2 < 240)
    (o5 : ¬ h 104 1 ≤ x2 → (0 ≤ (h 108 ((60 * x1) + x2).toNat) ∧ (h 108 ((60 * x1) + x2).toNat) ≤ (h 104 0)) → -2147483648 ≤ x2 + 1 ∧ x2 + 1 ≤ 2147483647)
    (k6 : ¬ h 104 1 ≤ x2 → (0 ≤ (h 108 ((60 * x1) + x2).toNat) ∧ (h 108 ((60 * x1) + x2).toNat) ≤ (h 104 0)) → Wp true i_M_draw 52 [vr 103, vi x1, vi (x2 + 1)] [] h Q)
    (k7 : ¬ h 104 1 ≤ x2 → ¬ (0 ≤ (h 108 ((60 * x1) + x2).toNat) ∧ (h 108 ((60 * x1) + x2).toNat) ≤ (h 104 0)) → Q (some (vi (bi ((5 : Int) = 0)))) (hs h 103 2 5)) :
    Wp true i_M_draw 52 [vr 103, vi x1, vi x2] [] h Q := by
  refine r_iload_n (v := x2) f_314_52 rfl ?_
  refine r_aload_n (v := 103) f_314_53 rfl (by decide) ?_
  refine r_getr (q := 104) f_314_54 rfl (by decide) (Or.inl rfl) rfl ?_
  refine r_iconst f_314_57 (by decide) ?_
  refine r_iaload (n := 3000) (v := h 104 1) f_314_58 ⟨rfl, rfl⟩ (by decide) rfl ?_
  refine r_br2 (t := 99) f_314_59 rfl cb_ge (fun c1 => ?_) (fun c1 => ?_)
  · refine r_iconst f_314_99 (by decide) ?_
    refine r_istore_n (ls' := [vr 103, vi x1, vi 0]) f_314_100 (Nat.le_of_ble_eq_true rfl) rfl ?_
    exact (k1 c1)
  · refine r_aload_n (v := 103) f_314_62 rfl (by decide) ?_
    refine r_getr (q := 108) f_314_63 rfl (by decide) (Or.inl rfl) rfl ?_
    refine r_bipush f_314_66 (by decide) ?_
    refine r_iload_n (v := x1) f_314_68 rfl ?_
    refine r_imul (u := 60 * x1) f_314_69 rfl (o2 c1) ?_
    refine r_iload_n (v := x2) f_314_70 rfl ?_
    refine r_iadd (u := (60 * x1) + x2) f_314_71 rfl (o3 c1) ?_
    refine r_laload (n := 240) (v := h 108 ((60 * x1) + x2).toNat) f_314_72 ⟨rfl, rfl⟩ (o4 c1) rfl ?_
    refine r_lconst (v := 0) f_314_73 rfl ?_
    refine r_aload_n (v := 103) f_314_74 rfl (by decide) ?_
    refine r_getr (q := 104) f_314_75 rfl (by decide) (Or.inl rfl) rfl ?_
    refine r_iconst f_314_78 (by decide) ?_
    refine r_iaload (n := 3000) (v := h 104 0) f_314_79 ⟨rfl, rfl⟩ (by decide) rfl ?_
    refine r_i2l f_314_80 ?_
    refine r_calls (as := [vj (h 108 ((60 * x1) + x2).toNat), vj 0, vj (h 104 0)]) (st' := []) (ls0 := [vj (h 108 ((60 * x1) + x2).toNat), vr 9999, vj 0, vr 9999, vj (h 104 0), vr 9999]) f_314_81 (by decide) (by decide) rfl rfl (Nat.le_of_ble_eq_true rfl) (Nat.le_of_ble_eq_true rfl) rfl ?_
    refine c_M_isFrom  ?_
    show Wp true i_M_draw 84 [vr 103, vi x1, vi x2] [vi (bi (0 ≤ (h 108 ((60 * x1) + x2).toNat) ∧ (h 108 ((60 * x1) + x2).toNat) ≤ (h 104 0)))] h Q
    refine r_br (t := 93) f_314_84 rfl cb_bt (fun c2 => ?_) (fun c2 => ?_)
    · refine r_iinc (v := x2) (w := x2 + 1) (ls' := [vr 103, vi x1, vi (x2 + 1)]) f_314_93 rfl rfl (o5 c1 c2) rfl ?_
      refine r_goto (t := 52) f_314_96 rfl ?_
      exact (k6 c1 c2)
    · refine r_aload_n (v := 103) f_314_87 rfl (by decide) ?_
      refine r_iconst f_314_88 (by decide) ?_
      refine r_callv (as := [vr 103, vi 5]) (st' := []) (ls0 := [vr 103, vi 5]) f_314_89 (by decide) rfl rfl (Nat.le_of_ble_eq_true rfl) (Nat.le_of_ble_eq_true rfl) ⟨_, _, rfl, rfl⟩ rfl ?_
      refine c_M_is  ?_
      show Wp true i_M_draw 92 [vr 103, vi x1, vi x2] [vi (bi ((5 : Int) = 0))] (hs h 103 2 5) Q
      exact r_retz f_314_92 rfl (bi_01 _) (k7 c1 c2)

theorem g_M_draw_101 {Q : PQ} {h : HP} {x1 : Int} {x2 : Int} 
    (k1 : h 104 1 ≤ x2 → Q (some (vi (bi ((0 : Int) = 0)))) (hs h 103 2 0))
    (o2 : ¬ h 104 1 ≤ x2 → -2147483648 ≤ 8 + x2 ∧ 8 + x2 ≤ 2147483647)
    (o3 : ¬ h 104 1 ≤ x2 → -2147483648 ≤ 60 * x1 ∧ 60 * x1 ≤ 2147483647)
    (o4 : ¬ h 104 1 ≤ x2 → -2147483648 ≤ (60 * x1) + x2 ∧ (60 * x1) + x2 ≤ 2147483647)
    (o5 : ¬ h 104 1 ≤ x2 → 0 ≤ (60 * x1) + x2 ∧ (60 * x1) + x2 < 240)
    (o6 : ¬ h 104 1 ≤ x2 → 0 ≤ 8 + x2 ∧ 8 + x2 < 3000)
    (o7 : ¬ h 104 1 ≤ x2 → -2147483648 ≤ x2 + 1 ∧ x2 + 1 ≤ 2147483647)
    (k8 : ¬ h 104 1 ≤ x2 → Wp true i_M_draw 101 [vr 103, vi x1, vi (x2 + 1)] [] (hs h 104 (8 + x2).toNat (w32 (h 108 ((60 * x1) + x2).toNat))) Q) :
    Wp true i_M_draw 101 [vr 103, vi x1, vi x2] [] h Q := by
  refine r_iload_n (v := x2) f_314_101 rfl ?_
  refine r_aload_n (v := 103) f_314_102 rfl (by decide) ?_
  refine r_getr (q := 104) f_314_103 rfl (by decide) (Or.inl rfl) rfl ?_
  refine r_iconst f_314_106 (by decide) ?_
  refine r_iaload (n := 3000) (v := h 104 1) f_314_107 ⟨rfl, rfl⟩ (by decide) rfl ?_
  refine r_br2 (t := 138) f_314_108 rfl cb_ge (fun c1 => ?_) (fun c1 => ?_)
  · refine r_aload_n (v := 103) f_314_138 rfl (by decide) ?_
    refine r_iconst f_314_139 (by decide) ?_
    refine r_callv (as := [vr 103, vi 0]) (st' := []) (ls0 := [vr 103, vi 0]) f_314_140 (by decide) rfl rfl (Nat.le_of_ble_eq_true rfl) (Nat.le_of_ble_eq_true rfl) ⟨_, _, rfl, rfl⟩ rfl ?_
    refine c_M_is  ?_
    show Wp true i_M_draw 143 [vr 103, vi x1, vi x2] [vi (bi ((0 : Int) = 0))] (hs h 103 2 0) Q
    exact r_retz f_314_143 rfl (bi_01 _) (k1 c1)
  · refine r_aload_n (v := 103) f_314_111 rfl (by decide) ?_
    refine r_getr (q := 104) f_314_112 rfl (by decide) (Or.inl rfl) rfl ?_
    refine r_bipush f_314_115 (by decide) ?_
    refine r_iload_n (v := x2) f_314_117 rfl ?_
    refine r_iadd (u := 8 + x2) f_314_118 rfl (o2 c1) ?_
    refine r_aload_n (v := 103) f_314_119 rfl (by decide) ?_
    refine r_getr (q := 108) f_314_120 rfl (by decide) (Or.inl rfl) rfl ?_
    refine r_bipush f_314_123 (by decide) ?_
    refine r_iload_n (v := x1) f_314_125 rfl ?_
    refine r_imul (u := 60 * x1) f_314_126 rfl (o3 c1) ?_
    refine r_iload_n (v := x2) f_314_127 rfl ?_
    refine r_iadd (u := (60 * x1) + x2) f_314_128 rfl (o4 c1) ?_
    refine r_laload (n := 240) (v := h 108 ((60 * x1) + x2).toNat) f_314_129 ⟨rfl, rfl⟩ (o5 c1) rfl ?_
    refine r_l2i f_314_130 ?_
    refine r_iastore (n := 3000) f_314_131 ⟨rfl, rfl⟩ (o6 c1) ?_
    refine r_iinc (v := x2) (w := x2 + 1) (ls' := [vr 103, vi x1, vi (x2 + 1)]) f_314_132 rfl rfl (o7 c1) rfl ?_
    refine r_goto (t := 101) f_314_135 rfl ?_
    exact (k8 c1)

theorem g_C_copy_0 {Q : PQ} {h : HP} {x1 : Int} 
    (k1 : Wp true i_C_lineTrouble 0 [vr 0, vi x1] [] h (fun r h' => Wp true i_C_copy 5 [vr 0, vi x1, vr 9999, vr 9999] (r.toList ++ []) h' Q)) :
    Wp true i_C_copy 0 [vr 0, vi x1, vr 9999, vr 9999] [] h Q := by
  refine r_aload_n (v := 0) f_177_0 rfl (by decide) ?_
  refine r_iload_n (v := x1) f_177_1 rfl ?_
  exact r_callv (as := [vr 0, vi x1]) (st' := []) (ls0 := [vr 0, vi x1]) f_177_2 (by decide) rfl rfl (Nat.le_of_ble_eq_true rfl) (Nat.le_of_ble_eq_true rfl) ⟨_, _, rfl, rfl⟩ rfl k1

theorem g_C_copy_5 {Q : PQ} {h : HP} {x1 : Int} {s0 : Int} 
    (k1 : s0 = 0 → Wp true i_C_copy 18 [vr 0, vi x1, vi s0, vi 0] [] h Q)
    (k2 : ¬ s0 = 0 → Q (some (vi (-1))) (hs h 0 0 s0)) :
    Wp true i_C_copy 5 [vr 0, vi x1, vr 9999, vr 9999] [vi s0] h Q := by
  refine r_istore_n (ls' := [vr 0, vi x1, vi s0, vr 9999]) f_177_5 (Nat.le_of_ble_eq_true rfl) rfl ?_
  refine r_iload_n (v := s0) f_177_6 rfl ?_
  refine r_br (t := 16) f_177_7 rfl cb_eq (fun c1 => ?_) (fun c1 => ?_)
  · refine r_iconst f_177_16 (by decide) ?_
    refine r_istore_n (ls' := [vr 0, vi x1, vi s0, vi 0]) f_177_17 (Nat.le_of_ble_eq_true rfl) rfl ?_
    exact (k1 c1)
  · refine r_aload_n (v := 0) f_177_10 rfl (by decide) ?_
    refine r_iload_n (v := s0) f_177_11 rfl ?_
    refine r_callv (as := [vr 0, vi s0]) (st' := []) (ls0 := [vr 0, vi s0]) f_177_12 (by decide) rfl rfl (Nat.le_of_ble_eq_true rfl) (Nat.le_of_ble_eq_true rfl) ⟨_, _, rfl, rfl⟩ rfl ?_
    refine c_C_refuse  ?_
    show Wp true i_C_copy 15 [vr 0, vi x1, vi s0, vr 9999] [vi (-1)] (hs h 0 0 s0) Q
    exact r_reti f_177_15 rfl (k2 c1)

theorem g_C_copy_18 {Q : PQ} {h : HP} {x1 : Int} {x2 : Int} {x3 : Int} 
    (k1 : h 10 1 ≤ x3 → Q (some (vi (h 10 1))) (hs h 0 0 0))
    (o2 : ¬ h 10 1 ≤ x3 → 0 ≤ x3 ∧ x3 < 7)
    (o3 : ¬ h 10 1 ≤ x3 → 0 ≤ x1 ∧ x1 < 4)
    (o4 : ¬ h 10 1 ≤ x3 → 0 ≤ x3 ∧ x3 < 60)
    (o5 : ¬ h 10 1 ≤ x3 → -2147483648 ≤ x3 + 1 ∧ x3 + 1 ≤ 2147483647)
    (k6 : ¬ h 10 1 ≤ x3 → Wp true i_C_copy 18 [vr 0, vi x1, vi x2, vi (x3 + 1)] [] (hs h 2 (x1 * 60 + x3).toNat (sFit (h 3 x1.toNat) (h 12 x3.toNat))) Q) :
    Wp true i_C_copy 18 [vr 0, vi x1, vi x2, vi x3] [] h Q := by
  refine r_iload_n (v := x3) f_177_18 rfl ?_
  refine r_aload_n (v := 0) f_177_19 rfl (by decide) ?_
  refine r_getr (q := 10) f_177_20 rfl (by decide) (Or.inl rfl) rfl ?_
  refine r_geti (v := h 10 1) f_177_23 rfl (by decide) rfl ?_
  refine r_br2 (t := 54) f_177_26 rfl cb_ge (fun c1 => ?_) (fun c1 => ?_)
  · refine r_aload_n (v := 0) f_177_54 rfl (by decide) ?_
    refine r_aload_n (v := 0) f_177_55 rfl (by decide) ?_
    refine r_getr (q := 10) f_177_56 rfl (by decide) (Or.inl rfl) rfl ?_
    refine r_geti (v := h 10 1) f_177_59 rfl (by decide) rfl ?_
    refine r_callv (as := [vr 0, vi (h 10 1)]) (st' := []) (ls0 := [vr 0, vi (h 10 1)]) f_177_62 (by decide) rfl rfl (Nat.le_of_ble_eq_true rfl) (Nat.le_of_ble_eq_true rfl) ⟨_, _, rfl, rfl⟩ rfl ?_
    refine c_C_answer  ?_
    show Wp true i_C_copy 65 [vr 0, vi x1, vi x2, vi x3] [vi (h 10 1)] (hs h 0 0 0) Q
    exact r_reti f_177_65 rfl (k1 c1)
  · refine r_aload_n (v := 0) f_177_29 rfl (by decide) ?_
    refine r_getr (q := 1) f_177_30 rfl (by decide) (Or.inl rfl) rfl ?_
    refine r_iload_n (v := x1) f_177_33 rfl ?_
    refine r_iload_n (v := x3) f_177_34 rfl ?_
    refine r_aload_n (v := 0) f_177_35 rfl (by decide) ?_
    refine r_getr (q := 10) f_177_36 rfl (by decide) (Or.inl rfl) rfl ?_
    refine r_getr (q := 12) f_177_39 rfl (by decide) (Or.inl rfl) rfl ?_
    refine r_iload_n (v := x3) f_177_42 rfl ?_
    refine r_iaload (n := 7) (v := h 12 x3.toNat) f_177_43 ⟨rfl, rfl⟩ (o2 c1) rfl ?_
    refine r_i2l f_177_44 ?_
    refine r_callv (as := [vr 1, vi x1, vi x3, vj (h 12 x3.toNat)]) (st' := []) (ls0 := [vr 1, vi x1, vi x3, vj (h 12 x3.toNat), vr 9999]) f_177_45 (by decide) rfl rfl (Nat.le_of_ble_eq_true rfl) (Nat.le_of_ble_eq_true rfl) ⟨_, _, rfl, rfl⟩ rfl ?_
    refine c_Ty_put (o3 c1) (o4 c1) ?_
    show Wp true i_C_copy 48 [vr 0, vi x1, vi x2, vi x3] [] (hs h 2 (x1 * 60 + x3).toNat (sFit (h 3 x1.toNat) (h 12 x3.toNat))) Q
    refine r_iinc (v := x3) (w := x3 + 1) (ls' := [vr 0, vi x1, vi x2, vi (x3 + 1)]) f_177_48 rfl rfl (o5 c1) rfl ?_
    refine r_goto (t := 18) f_177_51 rfl ?_
    exact (k6 c1)

theorem g_M_copy_0 {Q : PQ} {h : HP} {x1 : Int} 
    (o1 : (0 ≤ x1 ∧ x1 < 4) → 0 ≤ x1 ∧ x1 < 4)
    (k2 : (0 ≤ x1 ∧ x1 < 4) → ¬ h 107 x1.toNat = -1 → h 104 1 ≤ h 107 x1.toNat → Wp true i_M_copy 52 [vr 103, vi x1, vi 0] [] h Q)
    (k3 : (0 ≤ x1 ∧ x1 < 4) → ¬ h 107 x1.toNat = -1 → ¬ h 104 1 ≤ h 107 x1.toNat → Q (some (vi (-1))) (hs h 103 2 3))
    (k4 : (0 ≤ x1 ∧ x1 < 4) → h 107 x1.toNat = -1 → Q (some (vi (-1))) (hs h 103 2 2))
    (k5 : ¬ (0 ≤ x1 ∧ x1 < 4) → Q (some (vi (-1))) (hs h 103 2 1)) :
    Wp true i_M_copy 0 [vr 103, vi x1, vr 9999] [] h Q := by
  refine r_iload_n (v := x1) f_315_0 rfl ?_
  refine r_calls (as := [vi x1]) (st' := []) (ls0 := [vi x1]) f_315_1 (by decide) (by decide) rfl rfl (Nat.le_of_ble_eq_true rfl) (Nat.le_of_ble_eq_true rfl) rfl ?_
  refine c_M_isTray  ?_
  show Wp true i_M_copy 4 [vr 103, vi x1, vr 9999] [vi (bi (0 ≤ x1 ∧ x1 < 4))] h Q
  refine r_br (t := 13) f_315_4 rfl cb_bt (fun c1 => ?_) (fun c1 => ?_)
  · refine r_aload_n (v := 103) f_315_13 rfl (by decide) ?_
    refine r_getr (q := 107) f_315_14 rfl (by decide) (Or.inl rfl) rfl ?_
    refine r_iload_n (v := x1) f_315_17 rfl ?_
    refine r_iaload (n := 4) (v := h 107 x1.toNat) f_315_18 ⟨rfl, rfl⟩ (o1 c1) rfl ?_
    refine r_iconst f_315_19 (by decide) ?_
    refine r_br2 (t := 29) f_315_20 rfl cb_ne (fun c2 => ?_) (fun c2 => ?_)
    · refine r_aload_n (v := 103) f_315_29 rfl (by decide) ?_
      refine r_getr (q := 107) f_315_30 rfl (by decide) (Or.inl rfl) rfl ?_
      refine r_iload_n (v := x1) f_315_33 rfl ?_
      refine r_iaload (n := 4) (v := h 107 x1.toNat) f_315_34 ⟨rfl, rfl⟩ (o1 c1) rfl ?_
      refine r_aload_n (v := 103) f_315_35 rfl (by decide) ?_
      refine r_getr (q := 104) f_315_36 rfl (by decide) (Or.inl rfl) rfl ?_
      refine r_iconst f_315_39 (by decide) ?_
      refine r_iaload (n := 3000) (v := h 104 1) f_315_40 ⟨rfl, rfl⟩ (by decide) rfl ?_
      refine r_br2 (t := 50) f_315_41 rfl cb_ge (fun c3 => ?_) (fun c3 => ?_)
      · refine r_iconst f_315_50 (by decide) ?_
        refine r_istore_n (ls' := [vr 103, vi x1, vi 0]) f_315_51 (Nat.le_of_ble_eq_true rfl) rfl ?_
        exact (k2 c1 c2 c3)
      · refine r_aload_n (v := 103) f_315_44 rfl (by decide) ?_
        refine r_iconst f_315_45 (by decide) ?_
        refine r_callv (as := [vr 103, vi 3]) (st' := []) (ls0 := [vr 103, vi 3]) f_315_46 (by decide) rfl rfl (Nat.le_of_ble_eq_true rfl) (Nat.le_of_ble_eq_true rfl) ⟨_, _, rfl, rfl⟩ rfl ?_
        refine c_M_refuse  ?_
        show Wp true i_M_copy 49 [vr 103, vi x1, vr 9999] [vi (-1)] (hs h 103 2 3) Q
        exact r_reti f_315_49 rfl (k3 c1 c2 c3)
    · have c2 := Decidable.not_not.mp c2
      refine r_aload_n (v := 103) f_315_23 rfl (by decide) ?_
      refine r_iconst f_315_24 (by decide) ?_
      refine r_callv (as := [vr 103, vi 2]) (st' := []) (ls0 := [vr 103, vi 2]) f_315_25 (by decide) rfl rfl (Nat.le_of_ble_eq_true rfl) (Nat.le_of_ble_eq_true rfl) ⟨_, _, rfl, rfl⟩ rfl ?_
      refine c_M_refuse  ?_
      show Wp true i_M_copy 28 [vr 103, vi x1, vr 9999] [vi (-1)] (hs h 103 2 2) Q
      exact r_reti f_315_28 rfl (k4 c1 c2)
  · refine r_aload_n (v := 103) f_315_7 rfl (by decide) ?_
    refine r_iconst f_315_8 (by decide) ?_
    refine r_callv (as := [vr 103, vi 1]) (st' := []) (ls0 := [vr 103, vi 1]) f_315_9 (by decide) rfl rfl (Nat.le_of_ble_eq_true rfl) (Nat.le_of_ble_eq_true rfl) ⟨_, _, rfl, rfl⟩ rfl ?_
    refine c_M_refuse  ?_
    show Wp true i_M_copy 12 [vr 103, vi x1, vr 9999] [vi (-1)] (hs h 103 2 1) Q
    exact r_reti f_315_12 rfl (k5 c1)

theorem g_M_copy_52 {Q : PQ} {h : HP} {x1 : Int} {x2 : Int} 
    (k1 : h 104 1 ≤ x2 → Q (some (vi (h 104 1))) (hs h 103 2 0))
    (o2 : ¬ h 104 1 ≤ x2 → -2147483648 ≤ 60 * x1 ∧ 60 * x1 ≤ 2147483647)
    (o3 : ¬ h 104 1 ≤ x2 → -2147483648 ≤ (60 * x1) + x2 ∧ (60 * x1) + x2 ≤ 2147483647)
    (o4 : ¬ h 104 1 ≤ x2 → WR (rmM h 0))
    (o5 : ¬ h 104 1 ≤ x2 → 0 ≤ x2 ∧ x2 < h 104 1)
    (o6 : ¬ h 104 1 ≤ x2 → 0 ≤ (60 * x1) + x2 ∧ (60 * x1) + x2 < 240)
    (o7 : ¬ h 104 1 ≤ x2 → -2147483648 ≤ x2 + 1 ∧ x2 + 1 ≤ 2147483647)
    (k8 : ¬ h 104 1 ≤ x2 → Wp true i_M_copy 52 [vr 103, vi x1, vi (x2 + 1)] [] (hs h 108 ((60 * x1) + x2).toNat (rmM h 0 1 x2.toNat)) Q) :
    Wp true i_M_copy 52 [vr 103, vi x1, vi x2] [] h Q := by
  refine r_iload_n (v := x2) f_315_52 rfl ?_
  refine r_aload_n (v := 103) f_315_53 rfl (by decide) ?_
  refine r_getr (q := 104) f_315_54 rfl (by decide) (Or.inl rfl) rfl ?_
  refine r_iconst f_315_57 (by decide) ?_
  refine r_iaload (n := 3000) (v := h 104 1) f_315_58 ⟨rfl, rfl⟩ (by decide) rfl ?_
  refine r_br2 (t := 85) f_315_59 rfl cb_ge (fun c1 => ?_) (fun c1 => ?_)
  · refine r_aload_n (v := 103) f_315_85 rfl (by decide) ?_
    refine r_aload_n (v := 103) f_315_86 rfl (by decide) ?_
    refine r_getr (q := 104) f_315_87 rfl (by decide) (Or.inl rfl) rfl ?_
    refine r_iconst f_315_90 (by decide) ?_
    refine r_iaload (n := 3000) (v := h 104 1) f_315_91 ⟨rfl, rfl⟩ (by decide) rfl ?_
    refine r_callv (as := [vr 103, vi (h 104 1)]) (st' := []) (ls0 := [vr 103, vi (h 104 1)]) f_315_92 (by decide) rfl rfl (Nat.le_of_ble_eq_true rfl) (Nat.le_of_ble_eq_true rfl) ⟨_, _, rfl, rfl⟩ rfl ?_
    refine c_M_gives  ?_
    show Wp true i_M_copy 95 [vr 103, vi x1, vi x2] [vi (h 104 1)] (hs h 103 2 0) Q
    exact r_reti f_315_95 rfl (k1 c1)
  · refine r_aload_n (v := 103) f_315_62 rfl (by decide) ?_
    refine r_getr (q := 108) f_315_63 rfl (by decide) (Or.inl rfl) rfl ?_
    refine r_bipush f_315_66 (by decide) ?_
    refine r_iload_n (v := x1) f_315_68 rfl ?_
    refine r_imul (u := 60 * x1) f_315_69 rfl (o2 c1) ?_
    refine r_iload_n (v := x2) f_315_70 rfl ?_
    refine r_iadd (u := (60 * x1) + x2) f_315_71 rfl (o3 c1) ?_
    refine r_aload_n (v := 103) f_315_72 rfl (by decide) ?_
    refine r_iload_n (v := x2) f_315_73 rfl ?_
    refine r_callv (as := [vr 103, vi x2]) (st' := [vi ((60 * x1) + x2), vr 108]) (ls0 := [vr 103, vi x2]) f_315_74 (by decide) rfl rfl (Nat.le_of_ble_eq_true rfl) (Nat.le_of_ble_eq_true rfl) ⟨_, _, rfl, rfl⟩ rfl ?_
    refine c_M_lineOf (o4 c1) (o5 c1) ?_
    show Wp true i_M_copy 77 [vr 103, vi x1, vi x2] [vi (rmM h 0 1 x2.toNat), vi ((60 * x1) + x2), vr 108] h Q
    refine r_i2l f_315_77 ?_
    refine r_lastore (n := 240) f_315_78 ⟨rfl, rfl⟩ (o6 c1) ?_
    refine r_iinc (v := x2) (w := x2 + 1) (ls' := [vr 103, vi x1, vi (x2 + 1)]) f_315_79 rfl rfl (o7 c1) rfl ?_
    refine r_goto (t := 52) f_315_82 rfl ?_
    exact (k8 c1)

/-! ===== MOVE, LEG, BENDS, DRAW, COPY ===== -/
def aMove (R : HP) (t : Nat) (c r : Int) : HP := hs (hs R 2 t c) 3 t r
theorem rOn_no {R : HP} (W : WR R) {c r : Int} (h : rOn R c r = -1) {j : Nat} (hj : (j : Int) < R 0 3) : ¬ (R 2 j = c ∧ R 3 j = r) := by
  intro q
  have := rOn_self W hj
  rw [q.1, q.2] at this
  omega
theorem aMove_WR {R : HP} (W : WR R) {t : Nat} {c r : Int} (ht : (t : Int) < R 0 3) (hc : 0 ≤ c ∧ c < R 0 0) (hr : 0 ≤ r ∧ r < R 0 1) (hn : rOn R c r = -1) : WR (aMove R t c r) := by
  have no := fun j hj => rOn_no W hn (j := j) hj
  have e : ∀ k i, k ≠ 2 → k ≠ 3 → aMove R t c r k i = R k i := fun k i h2 h3 => by
    unfold aMove; rw [hs_o (by omega), hs_o (by omega)]
  have e2 : ∀ i, aMove R t c r 2 i = if i = t then c else R 2 i := fun i => by
    unfold aMove; rw [hs_o (by omega)]
    by_cases q : i = t
    · rw [q, hs_s, if_pos rfl]
    · rw [hs_o (Or.inr q), if_neg q]
  have e3 : ∀ i, aMove R t c r 3 i = if i = t then r else R 3 i := fun i => by
    unfold aMove
    by_cases q : i = t
    · rw [q, hs_s, if_pos rfl]
    · rw [hs_o (by omega), hs_o (by omega), if_neg q]
  obtain ⟨w0, w1, w2, w3, w4⟩ := W
  refine ⟨?_, fun r' hr' => ?_, fun i hi => ?_, fun i j hij hj => ?_, fun q => ?_⟩
  · rw [e 0 0 (by decide) (by decide), e 0 1 (by decide) (by decide), e 0 2 (by decide) (by decide), e 0 3 (by decide) (by decide)]
    exact w0
  · rw [e 0 1 (by decide) (by decide)] at hr'
    rw [e 1 r' (by decide) (by decide), e 0 0 (by decide) (by decide)]
    exact w1 r' hr'
  · rw [e 0 3 (by decide) (by decide)] at hi
    rw [e 4 i (by decide) (by decide), e 5 i (by decide) (by decide), e 6 i (by decide) (by decide), e 7 i (by decide) (by decide), e 0 0 (by decide) (by decide), e 0 1 (by decide) (by decide), e2, e3]
    obtain ⟨y1, y2, y3⟩ := w2 i hi
    refine ⟨?_, ?_, y3⟩
    · split
      · exact hc
      · exact y1
    · split
      · exact hr
      · exact y2
  · rw [e 0 3 (by decide) (by decide)] at hj
    rw [e2, e3, e2, e3]
    by_cases q1 : i = t
    · rw [if_pos q1, if_pos q1, if_neg (by omega), if_neg (by omega)]
      intro z
      exact no j hj ⟨z.1.symm, z.2.symm⟩
    · rw [if_neg q1, if_neg q1]
      by_cases q2 : j = t
      · rw [if_pos q2, if_pos q2]
        exact no i (by omega)
      · rw [if_neg q2, if_neg q2]
        exact w3 i j hij hj
  · rw [e 0 1 (by decide) (by decide)] at q
    rw [e 0 0 (by decide) (by decide)]
    exact w4 q
theorem aMove_D (R : HP) (t : Nat) (c r : Int) : SameD R (aMove R t c r) ∧ (aMove R t c r) 0 4 = R 0 4 ∧ (aMove R t c r) 0 5 = R 0 5 ∧ (aMove R t c r) 0 6 = R 0 6 := by
  have e : ∀ i, aMove R t c r 0 i = R 0 i := fun i => by
    unfold aMove; rw [hs_o (by omega), hs_o (by omega)]
  exact ⟨⟨e 0, e 1, e 3⟩, e 4, e 5, e 6⟩
theorem c_Fl_moveThing {Q : PQ} {h R : HP} {x1 x2 x3 : Int} {f0 : Nat} (h_f0 : isF f0) (eR : rmC h f0 = R) (W : WR R) (ht : 0 ≤ x1 ∧ x1 < R 0 3)
    (k1 : rOn R x2 x3 = -1 → ∀ h', ActC f0 h h' (aMove R x1.toNat x2 x3) → Q (some (vi 1)) h') (k0 : ¬ rOn R x2 x3 = -1 → Q (some (vi 0)) h) : Wp true i_Fl_moveThing 0 [vr f0, vi x1, vi x2, vi x3] [] h Q := by
  have w := W.1
  have hd := cdim eR
  have eR' := eR
  subst eR
  refine g_Fl_moveThing_0 h_f0 W (fun _ => by omega) (fun c => ?_) k0
  refine k1 c _ ?_
  have a := ActC_col (t := x1.toNat) (v := x2) eR' (by omega)
  have b := ActC_row (t := x1.toNat) (v := x3) a.1 (by rw [hs_o (by omega)]; omega)
  exact ActC_tr a b
theorem c_M_moves {Q : PQ} {h R : HP} {x1 x2 x3 : Int} (eR : rmM h 0 = R) (W : WR R) (ht : 0 ≤ x1 ∧ x1 < R 0 3) (hc : 0 ≤ x2 ∧ x2 < R 0 0) (hr : 0 ≤ x3 ∧ x3 < R 0 1)
    (k1 : rOn R x2 x3 = -1 → ∀ h', ActM h h' (aMove R x1.toNat x2 x3) → Q (some (vi 1)) h') (k0 : ¬ rOn R x2 x3 = -1 → Q (some (vi 0)) h) : Wp true i_M_moves 0 [vr 103, vi x1, vi x2, vi x3] [] h Q := by
  have w := W.1
  have hd := mdim eR
  have eR' := eR
  subst eR
  refine g_M_moves_0 W (fun _ => by omega) (fun _ => by omega) (fun _ => by omega) (fun _ => by omega) (fun c => ?_) k0
  refine k1 c _ ?_
  have e1 : (15 + 6 * x1).toNat = 15 + 6 * x1.toNat + 0 := by omega
  have e2 : (15 + 6 * x1 + 1).toNat = 15 + 6 * x1.toNat + 1 := by omega
  rw [e1, e2]
  have htn : (x1.toNat : Int) < rmM h 0 0 3 := by omega
  have a1 := rM_t (t := x1.toNat) (j := 0) (v := x2) W htn (by decide)
  have f : ∀ x, 15 ≤ x → x < 75 → ∀ (g : HP) (v : Int), (∀ k, k ≠ 104 → hs g 104 x v k = g k) ∧ (∀ i, 75 ≤ i → hs g 104 x v 104 i = g 104 i) ∧ hs g 104 x v 104 7 = g 104 7 := fun x x1 x2 g v => ⟨fun k hk => hs_ne hk, fun i hi => hs_o (by omega), hs_o (by omega)⟩
  have f1 := f (15 + 6 * x1.toNat + 0) (by omega) (by omega) h x2
  have f2 := f (15 + 6 * x1.toNat + 1) (by omega) (by omega) (hs h 104 (15 + 6 * x1.toNat + 0) x2) x3
  refine ⟨?_, fun k hk => (f2.1 k hk).trans (f1.1 k hk), fun i hi => (f2.2.1 i hi).trans (f1.2.1 i hi), f2.2.2.trans f1.2.2⟩
  have b := rM_t' (h := hs h 104 (15 + 6 * x1.toNat + 0) x2) (t := x1.toNat) (j := 1) (v := x3) (by rw [hs_o (by omega)]; omega) (by rw [hs_o (by omega)]; omega) (by rw [hs_o (by omega)]; exact htn) (by decide)
  rw [b, a1]
  rfl
theorem A_move {n : Nat} {h : HP} {x1 x2 x3 : Int} (hR : Rel n h) : Agree n h i_C_move i_M_move [vr 0, vi x1, vi x2, vi x3] [vr 103, vi x1, vi x2, vi x3] := by
  have s := hR.2.2.2.2.2.1
  have W := s.2.1
  have b := bnd hR
  have dd := cdim (rfl : rmC h 10 = rmC h 10)
  by_cases c0 : (0 ≤ x1 ∧ x1 < h 10 3) ∧ (0 ≤ x2 ∧ x2 < h 10 0 ∧ 0 ≤ x3 ∧ x3 < h 10 1)
  · obtain ⟨c1, c2⟩ := c0
    by_cases c3 : rOn (rmC h 10) x2 x3 = -1
    · have D := aMove_D (rmC h 10) x1.toNat x2 x3
      refine ag_act (v := vi 1) (st := 0) (R' := aMove (rmC h 10) x1.toNat x2 x3) hR (aMove_WR W (by omega) (by omega) (by omega) c3) D.1 ?_ (fun Q k => ?_) (fun g Q e gk k => ?_)
      · rw [D.2.1, D.2.2.1, D.2.2.2]; omega
      · refine g_C_move_0 (fun q => absurd c1 q) (fun _ _ => ?_) (fun _ q => absurd c2 q)
        exact c_Fl_moveThing isF_10 rfl W (by omega) (fun _ h' a => g_C_move_39 (fun q => absurd q (by decide)) (fun _ => k h' a)) (fun q => absurd c3 q)
      · have d := mdim e
        refine g_M_move_0 (fun q => by omega) (fun _ _ => ?_) (fun _ q => by omega)
        exact c_M_moves e W (by omega) (by omega) (by omega) (fun _ h' a => g_M_move_29 (fun q => absurd q (by decide)) (fun _ => k h' a)) (fun q => absurd c3 q)
    · refine ag_act0 (v := vi 0) (st := 7) hR (fun Q k => ?_) (fun g Q e gk k => ?_)
      · refine g_C_move_0 (fun q => absurd c1 q) (fun _ _ => ?_) (fun _ q => absurd c2 q)
        exact c_Fl_moveThing isF_10 rfl W (by omega) (fun q => absurd q c3) (fun _ => g_C_move_39 (fun _ => k) (fun q => absurd rfl q))
      · have d := mdim e
        refine g_M_move_0 (fun q => by omega) (fun _ _ => ?_) (fun _ q => by omega)
        exact c_M_moves e W (by omega) (by omega) (by omega) (fun q => absurd q c3) (fun _ => g_M_move_29 (fun _ => k) (fun q => absurd rfl q))
  · refine ag_act0 (v := vi 0) (st := 1) hR (fun Q k => ?_) (fun g Q e gk k => ?_)
    · exact g_C_move_0 (fun _ => k) (fun q1 q2 => absurd ⟨q1, q2⟩ c0) (fun _ _ => k)
    · have d := mdim e
      exact g_M_move_0 (fun _ => k) (fun q1 q2 => by omega) (fun _ _ => k)
theorem A_leg {n : Nat} {h : HP} {x1 x2 : Int} (hR : Rel n h) : Agree n h i_C_leg i_M_leg [vr 0, vi x1, vi x2] [vr 103, vi x1, vi x2] := by
  have s := hR.2.2.2.2.2.1
  have W := s.2.1
  have b := bnd hR
  have w := W.1
  have dd := cdim (rfl : rmC h 10 = rmC h 10)
  by_cases c0 : (0 ≤ x1 ∧ x1 < h 10 3) ∧ (x2 = -1 ∨ x2 = 0 ∨ x2 = 1)
  · obtain ⟨c1, c2⟩ := c0
    refine ag_act (v := vi 1) (st := 0) (R' := hs (rmC h 10) 6 x1.toNat x2) hR (WR_leg W (by omega)) ⟨hs_o (by omega), hs_o (by omega), hs_o (by omega)⟩ ?_ (fun Q k => ?_) (fun g Q e gk k => ?_)
    · rw [hs_o (by omega), hs_o (by omega), hs_o (by omega)]; omega
    · have fin : Wp true i_C_leg 29 [vr 0, vi x1, vi x2] [] h Q := g_C_leg_29 (by omega) (k _ (ActC_leg rfl (by omega)))
      exact g_C_leg_0 (fun q => absurd c1 q) (fun _ _ => fin) (fun _ _ _ => fin) (fun _ _ _ => by omega)
    · have d := mdim e
      have e4 : (15 + 6 * x1 + 4).toNat = 15 + 6 * x1.toNat + 4 := by omega
      have fin : Wp true i_M_leg 26 [vr 103, vi x1, vi x2] [] g Q := by
        refine g_M_leg_26 (by omega) (by omega) (by omega) ?_
        rw [e4]
        exact k _ (ActM_t (j := 4) e W (by omega) (by decide))
      exact g_M_leg_0 (fun q => by omega) (fun _ _ => fin) (fun _ _ _ => fin) (fun _ _ _ => by omega)
  · refine ag_act0 (v := vi 0) (st := 1) hR (fun Q k => ?_) (fun g Q e gk k => ?_)
    · exact g_C_leg_0 (fun _ => k) (fun _ _ => by omega) (fun _ _ _ => by omega) (fun _ _ _ => k)
    · have d := mdim e
      exact g_M_leg_0 (fun _ => k) (fun _ _ => by omega) (fun _ _ _ => by omega) (fun _ _ _ => k)
theorem A_bends {n : Nat} {h : HP} {x1 : Int} (hR : Rel n h) : Agree n h i_C_bends i_M_bends [vr 0, vi x1] [vr 103, vi x1] := by
  have s := hR.2.2.2.2.2.1
  have W := s.2.1
  have b := bnd hR
  by_cases c : 0 ≤ x1 ∧ x1 ≤ 9
  · refine ag_act (v := vi 1) (st := 0) (R' := hs (rmC h 10) 0 2 x1) hR (WR_hd W (by omega) (by omega)) ⟨hs_o (by omega), hs_o (by omega), hs_o (by omega)⟩ ?_ (fun Q k => ?_) (fun g Q e gk k => ?_)
    · rw [hs_o (by omega), hs_o (by omega), hs_o (by omega)]; omega
    · exact g_C_bends_0 (fun _ => k _ (ActC_bend rfl)) (fun q => absurd c q)
    · exact g_M_bends_0 (fun _ => k _ (ActM_bend e W)) (fun q => absurd c q)
  · refine ag_act0 (v := vi 0) (st := 1) hR (fun Q k => ?_) (fun g Q e gk k => ?_)
    · exact g_C_bends_0 (fun q => absurd q c) (fun _ => k)
    · exact g_M_bends_0 (fun q => absurd q c) (fun _ => k)
/-- the LINE out of a tray -/
theorem wr1_ok {R : HP} (W : WR R) {i : Nat} {T : Nat → Int} (hi : (i : Int) ≤ R 0 1) (hT : ∀ r : Nat, (r : Int) < R 0 1 → 0 ≤ T r ∧ T r ≤ R 0 0) : SameL R (wr R 1 0 i T) := by
  have e : ∀ k j, k ≠ 1 → wr R 1 0 i T k j = R k j := fun k j hk => by rw [wr_ne hk]
  obtain ⟨w0, w1, w2, w3, w4⟩ := W
  refine ⟨⟨?_, fun r hr => ?_, fun j hj => ?_, fun a b hab hb => ?_, fun q => ?_⟩, ⟨e 0 0 (by decide), e 0 1 (by decide), e 0 3 (by decide)⟩, e 0 2 (by decide), e 0 4 (by decide), e 0 5 (by decide), e 0 6 (by decide)⟩
  · rw [e 0 0 (by decide), e 0 1 (by decide), e 0 2 (by decide), e 0 3 (by decide)]; exact w0
  · rw [e 0 1 (by decide)] at hr
    rw [e 0 0 (by decide)]
    by_cases c : r < i
    · rw [wr_in (by omega)]; exact hT _ (by omega)
    · rw [wr_out (by omega)]; exact w1 r hr
  · rw [e 0 3 (by decide)] at hj
    rw [e 2 j (by decide), e 3 j (by decide), e 4 j (by decide), e 5 j (by decide), e 6 j (by decide), e 7 j (by decide), e 0 0 (by decide), e 0 1 (by decide)]
    exact w2 j hj
  · rw [e 0 3 (by decide)] at hb
    rw [e 2 a (by decide), e 3 a (by decide), e 2 b (by decide), e 3 b (by decide)]
    exact w3 a b hab hb
  · rw [e 0 1 (by decide)] at q
    rw [e 0 0 (by decide)]
    exact w4 q
def sLi (mi si : Nat → Int) (t d : Int) : Int := if 0 ≤ t ∧ t < 4 then (if mi t.toNat = -1 then 2 else if d ≤ si t.toNat then 0 else 3) else 1
theorem c_C_lineTrouble {Q : PQ} {h : HP} {x1 : Int} (W : WR (rmC h 10)) (k : Q (some (vi (sLi (h 3) (h 4) x1 (h 10 1)))) h) : Wp true i_C_lineTrouble 0 [vr 0, vi x1] [] h Q := by
  have w := WC_0 W
  unfold sLi at k
  refine g_C_lineTrouble_0 (fun _ => by omega) (fun _ _ => by omega) (fun c1 c2 c3 => ?_) (fun c1 c2 c3 => ?_) (fun c1 c2 => ?_) (fun c1 => ?_)
  · rw [if_pos (by omega), if_neg c2, if_neg (by omega)] at k; exact k
  · rw [if_pos (by omega), if_neg c2, if_pos (by omega)] at k; exact k
  · rw [if_pos (by omega), if_pos c2] at k; exact k
  · rw [if_neg (by omega)] at k; exact k
theorem sLi_0 {h : HP} (hT : RTray h) {t d : Int} (e : sLi (h 3) (h 4) t d = 0) : (0 ≤ t ∧ t < 4) ∧ ¬ h 3 t.toNat = -1 ∧ d ≤ h 4 t.toNat := by
  unfold sLi at e
  by_cases c : 0 ≤ t ∧ t < 4
  · rw [if_pos c] at e
    by_cases a : h 3 t.toNat = -1
    · rw [if_pos a] at e; omega
    · rw [if_neg a] at e
      by_cases g : d ≤ h 4 t.toNat
      · exact ⟨c, a, g⟩
      · rw [if_neg g] at e; omega
  · rw [if_neg c] at e; omega
theorem sLi_c {h : HP} (hT : RTray h) {t d : Int} (ne : ¬ sLi (h 3) (h 4) t d = 0) (ht : 0 ≤ t ∧ t < 4) : (h 107 t.toNat = -1 ∧ sLi (h 3) (h 4) t d = 2) ∨ (¬ h 107 t.toNat = -1 ∧ ¬ d ≤ h 107 t.toNat ∧ sLi (h 3) (h 4) t d = 3) := by
  have r := RT_1 hT ht
  unfold sLi at ne ⊢
  rw [if_pos ht] at ne ⊢
  by_cases a : h 3 t.toNat = -1
  · rw [if_pos a]; left; omega
  · rw [if_neg a] at ne ⊢
    by_cases g : d ≤ h 4 t.toNat
    · rw [if_pos g] at ne; exact absurd rfl ne
    · rw [if_neg g]; right; omega
theorem A_draw {n : Nat} {h : HP} {x1 : Int} (hR : Rel n h) : Agree n h i_C_draw i_M_draw [vr 0, vi x1, vr 9999, vr 9999, vr 9999, vr 9999] [vr 103, vi x1, vr 9999] := by
  have s := hR.2.2.2.2.2.1
  have W := s.2.1
  have b := bnd hR
  have w := W.1
  have dd := cdim (rfl : rmC h 10 = rmC h 10)
  have hT := hR.2.2.2.1
  by_cases c0 : sLi (h 3) (h 4) x1 (h 10 1) = 0
  · have a := sLi_0 hT c0
    have r1 := RT_1 hT a.1
    obtain ⟨T, eT⟩ : ∃ T : Nat → Int, ∀ r, T r = h 2 (60 * x1.toNat + r) := ⟨_, fun _ => rfl⟩
    have cT : ∀ r : Nat, h 2 (x1 * 60 + (r : Int)).toNat = T r := fun r => by
      rw [eT]; congr 1; omega
    have mT : ∀ r : Nat, (r : Int) < h 10 1 → h 108 (60 * x1 + (r : Int)).toNat = T r := fun r hr => by
      rcases hT x1.toNat (by omega) with q | ⟨-, -, -, -, q⟩
      · omega
      · rw [eT, q r (by omega)]; congr 1; omega
    by_cases ok : ∀ r : Nat, (r : Int) < h 10 1 → 0 ≤ T r ∧ T r ≤ h 10 0
    · have wT : ∀ r : Nat, (r : Int) < h 10 1 → w32 (T r) = T r := fun r hr => by
        have := ok r hr
        exact w32_id (by omega) (by omega)
      have full := wr1_ok W (i := (h 10 1).toNat) (T := T) (by omega) ok
      refine ag_act (v := vi 1) (st := 0) (R' := wr (rmC h 10) 1 0 (h 10 1).toNat T) hR full.1 full.2.1 ?_ (fun Q k => ?_) (fun g Q e gk k => ?_)
      · rw [full.2.2.2.1, full.2.2.2.2.1, full.2.2.2.2.2]; omega
      · refine g_C_draw_0 (c_C_lineTrouble W ?_)
        rw [c0]
        refine g_C_draw_5 (fun _ => ?_) (fun q => absurd rfl q)
        have wri : ∀ (d i : Nat) (h1 : HP) (j4 : AV), (i : Int) + d = h 10 1 → ActC 10 h h1 (wr (rmC h 10) 1 0 i T) → Wp true i_C_draw 75 [vr 0, vi x1, vi 0, vi (i : Int), j4, vr 9999] [] h1 Q := by
          intro d
          induction d with
          | zero =>
            intro i h1 j4 e1 ac
            have z := cdim ac.1
            rw [wr_ne (by decide)] at z
            have : i = (h 10 1).toNat := by omega
            subst this
            refine g_C_draw_75 (fun _ => k h1 ac) (fun q => by omega) (fun q => by omega) (fun q => by omega) (fun q => by omega) (fun q => by omega)
          | succ d ih =>
            intro i h1 j4 e1 ac
            have z := cdim ac.1
            rw [wr_ne (by decide)] at z
            have h2k : h1 2 = h 2 := ac.2.1 2 (by decide)
            refine g_C_draw_75 (fun q => by omega) (fun _ => by omega) (fun _ => by omega) (fun _ => by omega) (fun _ => by omega) (fun _ => ?_)
            rw [h2k, cT, wT i (by omega), Int.toNat_natCast]
            refine ih (i + 1) _ _ (by omega) ?_
            have q := ActC_cut (f := 10) (r := i) (v := T i) ac.1 (by rw [wr_ne (by decide)]; omega)
            have st := wr_s (h := rmC h 10) (k := 1) (a := 0) (n := i) (T := T)
            rw [Nat.zero_add] at st
            rw [st] at q
            exact ActC_tr ac q
        have tst : ∀ (d i : Nat) (j4 : AV), (i : Int) + d = h 10 1 → Wp true i_C_draw 18 [vr 0, vi x1, vi 0, vi (i : Int), j4, vr 9999] [] h Q := by
          intro d
          induction d with
          | zero =>
            intro i j4 e1
            refine g_C_draw_18 (fun _ => ?_) (fun q => by omega) (fun q => by omega) (fun q => by omega) (fun q => by omega) (fun q => by omega) (fun q => by omega)
            exact wri (h 10 1).toNat 0 h j4 (by omega) (by rw [wr_0]; exact ActC_0 10 h)
          | succ d ih =>
            intro i j4 e1
            have o := ok i (by omega)
            refine g_C_draw_18 (fun q => by omega) (fun _ => by omega) (fun _ => by omega) (fun _ q => by rw [cT] at q; omega) (fun _ _ _ => by omega) (fun _ _ _ => ih (i + 1) _ (by omega)) (fun _ _ q => by rw [cT] at q; omega)
        exact tst (h 10 1).toNat 0 _ (by omega)
      · have d := mdim e
        have g7 := gk 107 (by decide)
        have g8 := gk 108 (by decide)
        have wri : ∀ (d i : Nat) (h1 : HP), (i : Int) + d = h 10 1 → ActM g h1 (wr (rmC h 10) 1 0 i T) → Wp true i_M_draw 101 [vr 103, vi x1, vi (i : Int)] [] h1 Q := by
          intro d
          induction d with
          | zero =>
            intro i h1 e1 ac
            have z := mdim ac.1
            rw [wr_ne (by decide)] at z
            have : i = (h 10 1).toNat := by omega
            subst this
            exact g_M_draw_101 (fun _ => k h1 ac) (fun q => by omega) (fun q => by omega) (fun q => by omega) (fun q => by omega) (fun q => by omega) (fun q => by omega) (fun q => by omega)
          | succ d ih =>
            intro i h1 e1 ac
            have z := mdim ac.1
            rw [wr_ne (by decide)] at z
            have h2k : h1 108 = h 108 := (ac.2.1 108 (by decide)).trans g8
            have Wi := (wr1_ok W (i := i) (T := T) (by omega) ok).1
            refine g_M_draw_101 (fun q => by omega) (fun _ => by omega) (fun _ => by omega) (fun _ => by omega) (fun _ => by omega) (fun _ => by omega) (fun _ => by omega) (fun _ => ?_)
            have e8 : (8 + (i : Int)).toNat = 8 + i := by omega
            rw [h2k, mT i (by omega), wT i (by omega), e8]
            refine ih (i + 1) _ (by omega) ?_
            have q := ActM_cut (r := i) (v := T i) ac.1 Wi (by rw [wr_ne (by decide)]; omega)
            have st := wr_s (h := rmC h 10) (k := 1) (a := 0) (n := i) (T := T)
            rw [Nat.zero_add] at st
            rw [st] at q
            exact ActM_tr ac q
        have tst : ∀ (d i : Nat), (i : Int) + d = h 10 1 → Wp true i_M_draw 52 [vr 103, vi x1, vi (i : Int)] [] g Q := by
          intro d'
          induction d' with
          | zero =>
            intro i e1
            refine g_M_draw_52 (fun _ => ?_) (fun q => by omega) (fun q => by omega) (fun q => by omega) (fun q => by omega) (fun q => by omega) (fun q => by omega)
            exact wri (h 10 1).toNat 0 g (by omega) (by rw [wr_0, ← e]; exact ActM_0 g)
          | succ d' ih =>
            intro i e1
            have o := ok i (by omega)
            have m := mT i (by omega)
            refine g_M_draw_52 (fun q => by omega) (fun _ => by omega) (fun _ => by omega) (fun _ => by omega) (fun _ _ => by omega) (fun _ _ => ih (i + 1) (by omega)) (fun _ q => ?_)
            rw [g8, m] at q
            omega
        have t0 := tst (h 10 1).toNat 0 (by omega)
        rw [← g7] at r1
        exact g_M_draw_0 (fun q => q) (fun _ _ _ => t0) (fun _ _ q => by omega) (fun _ q => by omega) (fun q => by omega)
    · have ex : ∀ (d i : Nat), (i : Int) + d = h 10 1 → (∀ r : Nat, r < i → 0 ≤ T r ∧ T r ≤ h 10 0) → 0 < d := by
        intro d i e1 f
        rcases Nat.eq_zero_or_pos d with z | z
        · exact absurd (fun r hr => f r (by omega)) ok
        · exact z
      refine ag_act0 (v := vi 0) (st := 5) hR (fun Q k => ?_) (fun g Q e gk k => ?_)
      · refine g_C_draw_0 (c_C_lineTrouble W ?_)
        rw [c0]
        refine g_C_draw_5 (fun _ => ?_) (fun q => absurd rfl q)
        have tst : ∀ (d i : Nat) (j4 : AV), (i : Int) + d = h 10 1 → (∀ r : Nat, r < i → 0 ≤ T r ∧ T r ≤ h 10 0) → Wp true i_C_draw 18 [vr 0, vi x1, vi 0, vi (i : Int), j4, vr 9999] [] h Q := by
          intro d
          induction d with
          | zero =>
            intro i j4 e1 f
            exact absurd (ex 0 i e1 f) (by decide)
          | succ d ih =>
            intro i j4 e1 f
            refine g_C_draw_18 (fun q => by omega) (fun _ => by omega) (fun _ => by omega) (fun _ _ => k) (fun _ _ _ => by omega) (fun _ q1 q2 => ih (i + 1) _ (by omega) (fun r hr => ?_)) (fun _ _ _ => k)
            by_cases z : r = i
            · subst z; rw [cT] at q1 q2; omega
            · exact f r (by omega)
        exact tst (h 10 1).toNat 0 _ (by omega) (fun r hr => by omega)
      · have d := mdim e
        have g7 := gk 107 (by decide)
        have g8 := gk 108 (by decide)
        have tst : ∀ (d i : Nat), (i : Int) + d = h 10 1 → (∀ r : Nat, r < i → 0 ≤ T r ∧ T r ≤ h 10 0) → Wp true i_M_draw 52 [vr 103, vi x1, vi (i : Int)] [] g Q := by
          intro d'
          induction d' with
          | zero =>
            intro i e1 f
            exact absurd (ex 0 i e1 f) (by decide)
          | succ d' ih =>
            intro i e1 f
            have m := mT i (by omega)
            refine g_M_draw_52 (fun q => by omega) (fun _ => by omega) (fun _ => by omega) (fun _ => by omega) (fun _ _ => by omega) (fun _ q => ih (i + 1) (by omega) (fun r hr => ?_)) (fun _ _ => k)
            by_cases z : r = i
            · subst z; rw [g8, m] at q; omega
            · exact f r (by omega)
        have t0 := tst (h 10 1).toNat 0 (by omega) (fun r hr => by omega)
        rw [← g7] at r1
        exact g_M_draw_0 (fun q => q) (fun _ _ _ => t0) (fun _ _ q => by omega) (fun _ q => by omega) (fun q => by omega)
  · refine ag_act0 (v := vi 0) (st := sLi (h 3) (h 4) x1 (h 10 1)) hR (fun Q k => ?_) (fun g Q e gk k => ?_)
    · exact g_C_draw_0 (c_C_lineTrouble W (g_C_draw_5 (fun q => absurd q c0) (fun _ => k)))
    · have d := mdim e
      have g7 := gk 107 (by decide)
      by_cases c1 : 0 ≤ x1 ∧ x1 < 4
      · rcases sLi_c hT c0 c1 with ⟨q1, q2⟩ | ⟨q1, q2, q3⟩
        · rw [q2] at k
          rw [← g7] at q1
          exact g_M_draw_0 (fun q => q) (fun _ q => absurd q1 q) (fun _ q => absurd q1 q) (fun _ _ => k) (fun q => absurd c1 q)
        · rw [q3] at k
          rw [← g7] at q1 q2
          exact g_M_draw_0 (fun q => q) (fun _ _ q => by omega) (fun _ _ _ => k) (fun _ q => absurd q q1) (fun q => absurd c1 q)
      · have z : sLi (h 3) (h 4) x1 (h 10 1) = 1 := if_neg c1
        rw [z] at k
        exact g_M_draw_0 (fun q => q) (fun q => absurd q c1) (fun q => absurd q c1) (fun q => absurd q c1) (fun _ => k)
theorem A_copy {n : Nat} {h : HP} {x1 : Int} (hR : Rel n h) : Agree n h i_C_copy i_M_copy [vr 0, vi x1, vr 9999, vr 9999] [vr 103, vi x1, vr 9999] := by
  have s := hR.2.2.2.2.2.1
  have W := s.2.1
  have w := W.1
  have dd := cdim (rfl : rmC h 10 = rmC h 10)
  have hT := hR.2.2.2.1
  by_cases c0 : sLi (h 3) (h 4) x1 (h 10 1) = 0
  · have a := sLi_0 hT c0
    have r1 := RT_1 hT a.1
    refine ag_tray (v := vi (h 10 1)) (st := 0) (hc1 := wr h 2 (60 * x1.toNat) (h 10 1).toNat (fun r => rmC h 10 1 r)) (fun g => wr g 108 (60 * x1.toNat) (h 10 1).toNat (fun r => rmC h 10 1 r)) hR (fun k hk => wr_ne (by omega)) (fun g k hk => wr_ne (by omega)) ?_ (fun Q k => ?_) (fun g Q gk k => ?_)
    · intro t ht
      have f3 : (hs (wr (hs (wr h 2 (60 * x1.toNat) (h 10 1).toNat (fun r => rmC h 10 1 r)) 0 0 0) 108 (60 * x1.toNat) (h 10 1).toNat (fun r => rmC h 10 1 r)) 103 2 0) = fun k i => if k = 103 ∧ i = 2 then 0 else if k = 108 ∧ 60 * x1.toNat ≤ i ∧ i < 60 * x1.toNat + (h 10 1).toNat then rmC h 10 1 (i - 60 * x1.toNat) else if k = 0 ∧ i = 0 then 0 else if k = 2 ∧ 60 * x1.toNat ≤ i ∧ i < 60 * x1.toNat + (h 10 1).toNat then rmC h 10 1 (i - 60 * x1.toNat) else h k i := rfl
      rw [f3]
      rcases hT t ht with q | ⟨q1, q2, q3, q4, q5⟩
      · left; simp [q]
      · right
        refine ⟨by simpa using q1, by simpa using q2, by simpa using q3, by simpa using q4, fun p hp => ?_⟩
        have hp : (p : Int) < h 4 t := by simpa using hp
        have := q5 p hp
        simp
        split
        · rfl
        · exact this
    · refine g_C_copy_0 (c_C_lineTrouble W ?_)
      rw [c0]
      refine g_C_copy_5 (fun _ => ?_) (fun q => absurd rfl q)
      have key : ∀ (d i : Nat), (i : Int) + d = h 10 1 → Wp true i_C_copy 18 [vr 0, vi x1, vi 0, vi (i : Int)] [] (wr h 2 (60 * x1.toNat) i (fun r => rmC h 10 1 r)) Q := by
        intro d
        induction d with
        | zero =>
          intro i e1
          have : i = (h 10 1).toNat := by omega
          subst this
          refine g_C_copy_18 (fun _ => ?_) (fun q => ?_) (fun q => ?_) (fun q => ?_) (fun q => ?_) (fun q => ?_)
          · rw [wr_ne (by decide)]; exact k
          all_goals (rw [wr_ne (by decide)] at q; omega)
        | succ d ih =>
          intro i e1
          have v1 := WC_1 W (r := (i : Int)) (by omega) (by omega)
          rw [Int.toNat_natCast] at v1
          have v1 : 0 ≤ h 12 i ∧ h 12 i ≤ h 10 0 ∧ rmC h 10 1 i = h 12 i := v1
          have e2 : (x1 * 60 + (i : Int)).toNat = 60 * x1.toNat + i := by omega
          refine g_C_copy_18 (fun q => ?_) (fun _ => by omega) (fun _ => by omega) (fun _ => by omega) (fun _ => by omega) (fun _ => ?_)
          · rw [wr_ne (by decide)] at q; omega
          · rw [wr_ne (k' := 12) (by decide), wr_ne (k' := 3) (by decide), e2, Int.toNat_natCast, sFit_9 (by omega)]
            have st := wr_s (h := h) (k := 2) (a := 60 * x1.toNat) (n := i) (T := fun r => rmC h 10 1 r)
            simp only [v1.2.2] at st
            rw [st]
            exact ih (i + 1) (by omega)
      have := key (h 10 1).toNat 0 (by omega)
      rw [wr_0] at this
      exact this
    · have e : rmM g 0 = rmC h 10 := (rmM_congr (gk 104 (by decide))).trans s.1.symm
      have d := mdim e
      have g7 := gk 107 (by decide)
      have key : ∀ (d i : Nat), (i : Int) + d = h 10 1 → Wp true i_M_copy 52 [vr 103, vi x1, vi (i : Int)] [] (wr g 108 (60 * x1.toNat) i (fun r => rmC h 10 1 r)) Q := by
        intro d'
        induction d' with
        | zero =>
          intro i e1
          have : i = (h 10 1).toNat := by omega
          subst this
          refine g_M_copy_52 (fun _ => ?_) (fun q => ?_) (fun q => ?_) (fun q => ?_) (fun q => ?_) (fun q => ?_) (fun q => ?_) (fun q => ?_)
          · rw [wr_ne (by decide), show g 104 1 = h 10 1 by omega]; exact k
          all_goals (rw [wr_ne (by decide)] at q; omega)
        | succ d' ih =>
          intro i e1
          have e2 : (60 * x1 + (i : Int)).toNat = 60 * x1.toNat + i := by omega
          have eM : rmM (wr g 108 (60 * x1.toNat) i (fun r => rmC h 10 1 r)) 0 = rmC h 10 := (rmM_congr (wr_ne (by decide))).trans e
          refine g_M_copy_52 (fun q => ?_) (fun _ => by omega) (fun _ => by omega) (fun _ => by rw [eM]; exact W) (fun _ => ?_) (fun _ => by omega) (fun _ => by omega) (fun _ => ?_)
          · rw [wr_ne (by decide)] at q; omega
          · rw [wr_ne (by decide)]; omega
          · rw [eM, e2, Int.toNat_natCast]
            have st := wr_s (h := g) (k := 108) (a := 60 * x1.toNat) (n := i) (T := fun r => rmC h 10 1 r)
            rw [st]
            exact ih (i + 1) (by omega)
      have t0 := key (h 10 1).toNat 0 (by omega)
      rw [wr_0] at t0
      rw [← g7] at r1
      exact g_M_copy_0 (fun q => q) (fun _ _ _ => t0) (fun _ _ q => by omega) (fun _ q => by omega) (fun q => by omega)
  · refine ag_act0 (v := vi (-1)) (st := sLi (h 3) (h 4) x1 (h 10 1)) hR (fun Q k => ?_) (fun g Q e gk k => ?_)
    · exact g_C_copy_0 (c_C_lineTrouble W (g_C_copy_5 (fun q => absurd q c0) (fun _ => k)))
    · have d := mdim e
      have g7 := gk 107 (by decide)
      by_cases c1 : 0 ≤ x1 ∧ x1 < 4
      · rcases sLi_c hT c0 c1 with ⟨q1, q2⟩ | ⟨q1, q2, q3⟩
        · rw [q2] at k
          rw [← g7] at q1
          exact g_M_copy_0 (fun q => q) (fun _ q => absurd q1 q) (fun _ q => absurd q1 q) (fun _ _ => k) (fun q => absurd c1 q)
        · rw [q3] at k
          rw [← g7] at q1 q2
          exact g_M_copy_0 (fun q => q) (fun _ _ q => by omega) (fun _ _ _ => k) (fun _ q => absurd q q1) (fun q => absurd c1 q)
      · have z : sLi (h 3) (h 4) x1 (h 10 1) = 1 := if_neg c1
        rw [z] at k
        exact g_M_copy_0 (fun q => q) (fun q => absurd q c1) (fun q => absurd q c1) (fun q => absurd q c1) (fun _ => k)
