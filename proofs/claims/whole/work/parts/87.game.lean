theorem g_M_canTake_0 {Q : PQ} {h : HP} {x1 : Int} {x2 : Int} 
    (o1 : -2147483648 ≤ 1 - x1 ∧ 1 - x1 ≤ 2147483647)
    (o2 : WR (rmM h 0))
    (o3 : 0 ≤ x2 ∧ x2 < h 104 1)
    (k4 : rIn (rmM h 0) (1 - x1) x2.toNat ≤ 0 → Q (some (vi 0)) h)
    (k5 : ¬ rIn (rmM h 0) (1 - x1) x2.toNat ≤ 0 → Q (some (vi 1)) h) :
    Wp true i_M_canTake 0 [vr 103, vi x1, vi x2] [] h Q := by
  refine r_aload_n (v := 103) f_355_0 rfl (by decide) ?_
  refine r_iconst f_355_1 (by decide) ?_
  refine r_iload_n (v := x1) f_355_2 rfl ?_
  refine r_isub (u := 1 - x1) f_355_3 rfl o1 ?_
  refine r_iload_n (v := x2) f_355_4 rfl ?_
  refine r_callv (as := [vr 103, vi (1 - x1), vi x2]) (st' := []) (ls0 := [vr 103, vi (1 - x1), vi x2]) f_355_5 (by decide) rfl rfl (Nat.le_of_ble_eq_true rfl) (Nat.le_of_ble_eq_true rfl) ⟨_, _, rfl, rfl⟩ rfl ?_
  refine c_M_hasIn o2 o3 ?_
  show Wp true i_M_canTake 8 [vr 103, vi x1, vi x2] [vi (rIn (rmM h 0) (1 - x1) x2.toNat)] h Q
  refine r_br (t := 15) f_355_8 rfl cb_le (fun c1 => ?_) (fun c1 => ?_)
  · refine r_iconst f_355_15 (by decide) ?_
    exact r_retz f_355_16 rfl (by decide) (k4 c1)
  · refine r_iconst f_355_11 (by decide) ?_
    refine r_goto (t := 16) f_355_12 rfl ?_
    exact r_retz f_355_16 rfl (by decide) (k5 c1)

theorem g_M_canAny_0 {Q : PQ} {h : HP} {x1 : Int} 
    (k1 : Wp true i_M_canAny 2 [vr 103, vi x1, vi 0] [] h Q) :
    Wp true i_M_canAny 0 [vr 103, vi x1, vr 9999] [] h Q := by
  refine r_iconst f_356_0 (by decide) ?_
  refine r_istore_n (ls' := [vr 103, vi x1, vi 0]) f_356_1 (Nat.le_of_ble_eq_true rfl) rfl ?_
  exact k1

theorem g_M_canAny_2 {Q : PQ} {h : HP} {x1 : Int} {x2 : Int} 
    (k1 : h 104 1 ≤ x2 → Q (some (vi 0)) h)
    (k2 : ¬ h 104 1 ≤ x2 → Wp true i_M_canTake 0 [vr 103, vi x1, vi x2] [] h (fun r h' => Wp true i_M_canAny 18 [vr 103, vi x1, vi x2] (r.toList ++ []) h' Q)) :
    Wp true i_M_canAny 2 [vr 103, vi x1, vi x2] [] h Q := by
  refine r_iload_n (v := x2) f_356_2 rfl ?_
  refine r_aload_n (v := 103) f_356_3 rfl (by decide) ?_
  refine r_getr (q := 104) f_356_4 rfl (by decide) (Or.inl rfl) rfl ?_
  refine r_iconst f_356_7 (by decide) ?_
  refine r_iaload (n := 3000) (v := h 104 1) f_356_8 ⟨rfl, rfl⟩ (by decide) rfl ?_
  refine r_br2 (t := 29) f_356_9 rfl cb_ge (fun c1 => ?_) (fun c1 => ?_)
  · refine r_iconst f_356_29 (by decide) ?_
    exact r_retz f_356_30 rfl (by decide) (k1 c1)
  · refine r_aload_n (v := 103) f_356_12 rfl (by decide) ?_
    refine r_iload_n (v := x1) f_356_13 rfl ?_
    refine r_iload_n (v := x2) f_356_14 rfl ?_
    exact r_callv (as := [vr 103, vi x1, vi x2]) (st' := []) (ls0 := [vr 103, vi x1, vi x2]) f_356_15 (by decide) rfl rfl (Nat.le_of_ble_eq_true rfl) (Nat.le_of_ble_eq_true rfl) ⟨_, _, rfl, rfl⟩ rfl (k2 c1)

theorem g_M_canAny_18 {Q : PQ} {h : HP} {x1 : Int} {x2 : Int} {s0 : Int} 
    (o1 : s0 = 0 → -2147483648 ≤ x2 + 1 ∧ x2 + 1 ≤ 2147483647)
    (k2 : s0 = 0 → Wp true i_M_canAny 2 [vr 103, vi x1, vi (x2 + 1)] [] h Q)
    (k3 : ¬ s0 = 0 → Q (some (vi 1)) h) :
    Wp true i_M_canAny 18 [vr 103, vi x1, vi x2] [vi s0] h Q := by
  refine r_br (t := 23) f_356_18 rfl cb_eq (fun c1 => ?_) (fun c1 => ?_)
  · refine r_iinc (v := x2) (w := x2 + 1) (ls' := [vr 103, vi x1, vi (x2 + 1)]) f_356_23 rfl rfl (o1 c1) rfl ?_
    refine r_goto (t := 2) f_356_26 rfl ?_
    exact (k2 c1)
  · refine r_iconst f_356_21 (by decide) ?_
    exact r_retz f_356_22 rfl (by decide) (k3 c1)

theorem g_M_takes_0 {Q : PQ} {h : HP} {x1 : Int} {x2 : Int} {x3 : Int} 
    (k1 : h 104 1 ≤ x2 → Q none h)
    (o2 : ¬ h 104 1 ≤ x2 → -2147483648 ≤ 8 + x2 ∧ 8 + x2 ≤ 2147483647)
    (o3 : ¬ h 104 1 ≤ x2 → 0 ≤ 8 + x2 ∧ 8 + x2 < 3000)
    (o4 : ¬ h 104 1 ≤ x2 → ¬ x1 = 0 → -2147483648 ≤ -x3 ∧ -x3 ≤ 2147483647)
    (o5 : ¬ h 104 1 ≤ x2 → ¬ x1 = 0 → -2147483648 ≤ (h 104 (8 + x2).toNat) + (-x3) ∧ (h 104 (8 + x2).toNat) + (-x3) ≤ 2147483647)
    (k6 : ¬ h 104 1 ≤ x2 → ¬ x1 = 0 → Q none (hs h 104 (8 + x2).toNat ((h 104 (8 + x2).toNat) + (-x3))))
    (o7 : ¬ h 104 1 ≤ x2 → x1 = 0 → -2147483648 ≤ (h 104 (8 + x2).toNat) + x3 ∧ (h 104 (8 + x2).toNat) + x3 ≤ 2147483647)
    (k8 : ¬ h 104 1 ≤ x2 → x1 = 0 → Q none (hs h 104 (8 + x2).toNat ((h 104 (8 + x2).toNat) + x3))) :
    Wp true i_M_takes 0 [vr 103, vi x1, vi x2, vi x3] [] h Q := by
  refine r_iload_n (v := x2) f_357_0 rfl ?_
  refine r_aload_n (v := 103) f_357_1 rfl (by decide) ?_
  refine r_getr (q := 104) f_357_2 rfl (by decide) (Or.inl rfl) rfl ?_
  refine r_iconst f_357_5 (by decide) ?_
  refine r_iaload (n := 3000) (v := h 104 1) f_357_6 ⟨rfl, rfl⟩ (by decide) rfl ?_
  refine r_br2 (t := 32) f_357_7 rfl cb_ge (fun c1 => ?_) (fun c1 => ?_)
  · exact r_retv f_357_32 rfl (k1 c1)
  · refine r_aload_n (v := 103) f_357_10 rfl (by decide) ?_
    refine r_getr (q := 104) f_357_11 rfl (by decide) (Or.inl rfl) rfl ?_
    refine r_bipush f_357_14 (by decide) ?_
    refine r_iload_n (v := x2) f_357_16 rfl ?_
    refine r_iadd (u := 8 + x2) f_357_17 rfl (o2 c1) ?_
    refine r_dup2ir f_357_18 ?_
    refine r_iaload (n := 3000) (v := h 104 (8 + x2).toNat) f_357_19 ⟨rfl, rfl⟩ (o3 c1) rfl ?_
    refine r_iload_n (v := x1) f_357_20 rfl ?_
    refine r_br (t := 28) f_357_21 rfl cb_ne (fun c2 => ?_) (fun c2 => ?_)
    · refine r_iload_n (v := x3) f_357_28 rfl ?_
      refine r_ineg (u := -x3) f_357_29 rfl (o4 c1 c2) ?_
      refine r_iadd (u := (h 104 (8 + x2).toNat) + (-x3)) f_357_30 rfl (o5 c1 c2) ?_
      refine r_iastore (n := 3000) f_357_31 ⟨rfl, rfl⟩ (o3 c1) ?_
      exact r_retv f_357_32 rfl (k6 c1 c2)
    · have c2 := Decidable.not_not.mp c2
      refine r_iload_n (v := x3) f_357_24 rfl ?_
      refine r_goto (t := 30) f_357_25 rfl ?_
      refine r_iadd (u := (h 104 (8 + x2).toNat) + x3) f_357_30 rfl (o7 c1 c2) ?_
      refine r_iastore (n := 3000) f_357_31 ⟨rfl, rfl⟩ (o3 c1) ?_
      exact r_retv f_357_32 rfl (k8 c1 c2)

theorem g_M_nextMove_0 {Q : PQ} {h : HP} {x1 : Int} {x2 : Int} 
    (o1 : -2147483648 ≤ x2 + 1 ∧ x2 + 1 ≤ 2147483647)
    (k2 : Wp true i_M_nextMove 4 [vr 103, vi x1, vi x2, vi (x2 + 1)] [] h Q) :
    Wp true i_M_nextMove 0 [vr 103, vi x1, vi x2, vr 9999] [] h Q := by
  refine r_iload_n (v := x2) f_358_0 rfl ?_
  refine r_iconst f_358_1 (by decide) ?_
  refine r_iadd (u := x2 + 1) f_358_2 rfl o1 ?_
  refine r_istore_n (ls' := [vr 103, vi x1, vi x2, vi (x2 + 1)]) f_358_3 (Nat.le_of_ble_eq_true rfl) rfl ?_
  exact k2

theorem g_M_nextMove_4 {Q : PQ} {h : HP} {x1 : Int} {x2 : Int} {x3 : Int} 
    (k1 : h 104 1 ≤ x3 → Wp true i_M_nextMove 29 [vr 103, vi x1, vi x2, vi x3] [] h Q)
    (k2 : ¬ h 104 1 ≤ x3 → Wp true i_M_canTake 0 [vr 103, vi x1, vi x3] [] h (fun r h' => Wp true i_M_nextMove 20 [vr 103, vi x1, vi x2, vi x3] (r.toList ++ []) h' Q)) :
    Wp true i_M_nextMove 4 [vr 103, vi x1, vi x2, vi x3] [] h Q := by
  refine r_iload_n (v := x3) f_358_4 rfl ?_
  refine r_aload_n (v := 103) f_358_5 rfl (by decide) ?_
  refine r_getr (q := 104) f_358_6 rfl (by decide) (Or.inl rfl) rfl ?_
  refine r_iconst f_358_9 (by decide) ?_
  refine r_iaload (n := 3000) (v := h 104 1) f_358_10 ⟨rfl, rfl⟩ (by decide) rfl ?_
  refine r_br2 (t := 29) f_358_11 rfl cb_ge (fun c1 => ?_) (fun c1 => ?_)
  · exact (k1 c1)
  · refine r_aload_n (v := 103) f_358_14 rfl (by decide) ?_
    refine r_iload_n (v := x1) f_358_15 rfl ?_
    refine r_iload_n (v := x3) f_358_16 rfl ?_
    exact r_callv (as := [vr 103, vi x1, vi x3]) (st' := []) (ls0 := [vr 103, vi x1, vi x3]) f_358_17 (by decide) rfl rfl (Nat.le_of_ble_eq_true rfl) (Nat.le_of_ble_eq_true rfl) ⟨_, _, rfl, rfl⟩ rfl (k2 c1)

theorem g_M_nextMove_20 {Q : PQ} {h : HP} {x1 : Int} {x2 : Int} {x3 : Int} {s0 : Int} 
    (k1 : ¬ s0 = 0 → Wp true i_M_nextMove 29 [vr 103, vi x1, vi x2, vi x3] [] h Q)
    (o2 : s0 = 0 → -2147483648 ≤ x3 + 1 ∧ x3 + 1 ≤ 2147483647)
    (k3 : s0 = 0 → Wp true i_M_nextMove 4 [vr 103, vi x1, vi x2, vi (x3 + 1)] [] h Q) :
    Wp true i_M_nextMove 20 [vr 103, vi x1, vi x2, vi x3] [vi s0] h Q := by
  refine r_br (t := 29) f_358_20 rfl cb_ne (fun c1 => ?_) (fun c1 => ?_)
  · exact (k1 c1)
  · have c1 := Decidable.not_not.mp c1
    refine r_iinc (v := x3) (w := x3 + 1) (ls' := [vr 103, vi x1, vi x2, vi (x3 + 1)]) f_358_23 rfl rfl (o2 c1) rfl ?_
    refine r_goto (t := 4) f_358_26 rfl ?_
    exact (k3 c1)

theorem g_M_nextMove_29 {Q : PQ} {h : HP} {x1 : Int} {x2 : Int} {x3 : Int} 
    (k1 : x3 < h 104 1 → Q (some (vi x3)) h)
    (k2 : ¬ x3 < h 104 1 → ¬ x3 = h 104 1 → Q (some (vi (-1))) h)
    (k3 : ¬ x3 < h 104 1 → x3 = h 104 1 → Wp true i_M_canAny 0 [vr 103, vi x1, vr 9999] [] h (fun r h' => Wp true i_M_nextMove 54 [vr 103, vi x1, vi x2, vi x3] (r.toList ++ []) h' Q)) :
    Wp true i_M_nextMove 29 [vr 103, vi x1, vi x2, vi x3] [] h Q := by
  refine r_iload_n (v := x3) f_358_29 rfl ?_
  refine r_aload_n (v := 103) f_358_30 rfl (by decide) ?_
  refine r_getr (q := 104) f_358_31 rfl (by decide) (Or.inl rfl) rfl ?_
  refine r_iconst f_358_34 (by decide) ?_
  refine r_iaload (n := 3000) (v := h 104 1) f_358_35 ⟨rfl, rfl⟩ (by decide) rfl ?_
  refine r_br2 (t := 57) f_358_36 rfl cb_lt (fun c1 => ?_) (fun c1 => ?_)
  · refine r_iload_n (v := x3) f_358_57 rfl ?_
    refine r_goto (t := 62) f_358_58 rfl ?_
    exact r_reti f_358_62 rfl (k1 c1)
  · refine r_iload_n (v := x3) f_358_39 rfl ?_
    refine r_aload_n (v := 103) f_358_40 rfl (by decide) ?_
    refine r_getr (q := 104) f_358_41 rfl (by decide) (Or.inl rfl) rfl ?_
    refine r_iconst f_358_44 (by decide) ?_
    refine r_iaload (n := 3000) (v := h 104 1) f_358_45 ⟨rfl, rfl⟩ (by decide) rfl ?_
    refine r_br2 (t := 61) f_358_46 rfl cb_ne (fun c2 => ?_) (fun c2 => ?_)
    · refine r_iconst f_358_61 (by decide) ?_
      exact r_reti f_358_62 rfl (k2 c1 c2)
    · have c2 := Decidable.not_not.mp c2
      refine r_aload_n (v := 103) f_358_49 rfl (by decide) ?_
      refine r_iload_n (v := x1) f_358_50 rfl ?_
      exact r_callv (as := [vr 103, vi x1]) (st' := []) (ls0 := [vr 103, vi x1, vr 9999]) f_358_51 (by decide) rfl rfl (Nat.le_of_ble_eq_true rfl) (Nat.le_of_ble_eq_true rfl) ⟨_, _, rfl, rfl⟩ rfl (k3 c1 c2)

theorem g_M_nextMove_54 {Q : PQ} {h : HP} {x1 : Int} {x2 : Int} {x3 : Int} {s0 : Int} 
    (k1 : ¬ s0 = 0 → Q (some (vi (-1))) h)
    (k2 : s0 = 0 → Q (some (vi x3)) h) :
    Wp true i_M_nextMove 54 [vr 103, vi x1, vi x2, vi x3] [vi s0] h Q := by
  refine r_br (t := 61) f_358_54 rfl cb_ne (fun c1 => ?_) (fun c1 => ?_)
  · refine r_iconst f_358_61 (by decide) ?_
    exact r_reti f_358_62 rfl (k1 c1)
  · have c1 := Decidable.not_not.mp c1
    refine r_iload_n (v := x3) f_358_57 rfl ?_
    refine r_goto (t := 62) f_358_58 rfl ?_
    exact r_reti f_358_62 rfl (k2 c1)

theorem g_M_gameOf_0 {Q : PQ} {h : HP} {x1 : Int} 
    (k1 : Wp true i_M_gameOf 18 [vr 103, vi x1, vi 0, vr 9999, vr 9999, vr 9999, vr 9999] [] (hs (hs h 118 0 (-1)) 119 0 (-1000000)) Q) :
    Wp true i_M_gameOf 0 [vr 103, vi x1, vr 9999, vr 9999, vr 9999, vr 9999, vr 9999] [] h Q := by
  refine r_iconst f_359_0 (by decide) ?_
  refine r_istore_n (ls' := [vr 103, vi x1, vi 0, vr 9999, vr 9999, vr 9999, vr 9999]) f_359_1 (Nat.le_of_ble_eq_true rfl) rfl ?_
  refine r_aload_n (v := 103) f_359_2 rfl (by decide) ?_
  refine r_getr (q := 118) f_359_3 rfl (by decide) (Or.inl rfl) rfl ?_
  refine r_iconst f_359_6 (by decide) ?_
  refine r_iconst f_359_7 (by decide) ?_
  refine r_iastore (n := 8) f_359_8 ⟨rfl, rfl⟩ (by decide) ?_
  refine r_aload_n (v := 103) f_359_9 rfl (by decide) ?_
  refine r_getr (q := 119) f_359_10 rfl (by decide) (Or.inl rfl) rfl ?_
  refine r_iconst f_359_13 (by decide) ?_
  refine r_ldc_w f_359_14 (by decide) ?_
  refine r_iastore (n := 8) f_359_17 ⟨rfl, rfl⟩ (by decide) ?_
  exact k1

theorem g_M_gameOf_18 {Q : PQ} {h : HP} {x1 : Int} {x2 : Int} {j3 : AV} {j4 : AV} {j5 : AV} {j6 : AV} 
    (o1 : 0 ≤ x2)
    (k2 : ¬ x2 = x1 → Wp true i_M_gameOf 42 [vr 103, vi x1, vi x2, vi (x2 % 2), j4, j5, j6] [vi 0] h Q)
    (o3 : x2 = x1 → WR (rmM h 0))
    (o4 : x2 = x1 → -2147483648 ≤ (rVal (rmM h 0) 0 0) - (rVal (rmM h 0) 1 1) ∧ (rVal (rmM h 0) 0 0) - (rVal (rmM h 0) 1 1) ≤ 2147483647)
    (k5 : x2 = x1 → Wp true i_M_gameOf 42 [vr 103, vi x1, vi x2, vi (x2 % 2), j4, j5, j6] [vi ((rVal (rmM h 0) 0 0) - (rVal (rmM h 0) 1 1))] h Q) :
    Wp true i_M_gameOf 18 [vr 103, vi x1, vi x2, j3, j4, j5, j6] [] h Q := by
  refine r_iload_n (v := x2) f_359_18 rfl ?_
  refine r_iconst f_359_19 (by decide) ?_
  refine r_irem f_359_20 o1 (by decide) ?_
  refine r_istore_n (ls' := [vr 103, vi x1, vi x2, vi (x2 % 2), j4, j5, j6]) f_359_21 (Nat.le_of_ble_eq_true rfl) rfl ?_
  refine r_iload_n (v := x2) f_359_22 rfl ?_
  refine r_iload_n (v := x1) f_359_23 rfl ?_
  refine r_br2 (t := 41) f_359_24 rfl cb_ne (fun c1 => ?_) (fun c1 => ?_)
  · refine r_iconst f_359_41 (by decide) ?_
    exact (k2 c1)
  · have c1 := Decidable.not_not.mp c1
    refine r_aload_n (v := 103) f_359_27 rfl (by decide) ?_
    refine r_iconst f_359_28 (by decide) ?_
    refine r_callv (as := [vr 103, vi 0]) (st' := []) (ls0 := [vr 103, vi 0, vr 9999, vr 9999]) f_359_29 (by decide) rfl rfl (Nat.le_of_ble_eq_true rfl) (Nat.le_of_ble_eq_true rfl) ⟨_, _, rfl, rfl⟩ rfl ?_
    refine c_M_valueOf (o3 c1) (by decide) ?_
    show Wp true i_M_gameOf 32 [vr 103, vi x1, vi x2, vi (x2 % 2), j4, j5, j6] [vi (rVal (rmM h 0) 0 0)] h Q
    refine r_aload_n (v := 103) f_359_32 rfl (by decide) ?_
    refine r_iconst f_359_33 (by decide) ?_
    refine r_callv (as := [vr 103, vi 1]) (st' := [vi (rVal (rmM h 0) 0 0)]) (ls0 := [vr 103, vi 1, vr 9999, vr 9999]) f_359_34 (by decide) rfl rfl (Nat.le_of_ble_eq_true rfl) (Nat.le_of_ble_eq_true rfl) ⟨_, _, rfl, rfl⟩ rfl ?_
    refine c_M_valueOf (o3 c1) (by decide) ?_
    show Wp true i_M_gameOf 37 [vr 103, vi x1, vi x2, vi (x2 % 2), j4, j5, j6] [vi (rVal (rmM h 0) 1 1), vi (rVal (rmM h 0) 0 0)] h Q
    refine r_isub (u := (rVal (rmM h 0) 0 0) - (rVal (rmM h 0) 1 1)) f_359_37 rfl (o4 c1) ?_
    refine r_goto (t := 42) f_359_38 rfl ?_
    exact (k5 c1)

theorem g_M_gameOf_42 {Q : PQ} {h : HP} {x1 : Int} {x2 : Int} {x3 : Int} {j4 : AV} {j5 : AV} {j6 : AV} {s0 : Int} 
    (o1 : ¬ x2 = x1 → 0 ≤ x2 ∧ x2 < 8)
    (k2 : ¬ x2 = x1 → Wp true i_M_nextMove 0 [vr 103, vi x3, vi (h 118 x2.toNat), vr 9999] [] h (fun r h' => Wp true i_M_gameOf 64 [vr 103, vi x1, vi x2, vi x3, vi s0, j5, j6] (r.toList ++ []) h' Q))
    (k3 : x2 = x1 → Wp true i_M_gameOf 64 [vr 103, vi x1, vi x2, vi x3, vi s0, j5, j6] [vi (-1)] h Q) :
    Wp true i_M_gameOf 42 [vr 103, vi x1, vi x2, vi x3, j4, j5, j6] [vi s0] h Q := by
  refine r_istore (ls' := [vr 103, vi x1, vi x2, vi x3, vi s0, j5, j6]) f_359_42 (Nat.le_of_ble_eq_true rfl) rfl ?_
  refine r_iload_n (v := x2) f_359_44 rfl ?_
  refine r_iload_n (v := x1) f_359_45 rfl ?_
  refine r_br2 (t := 53) f_359_46 rfl cb_ne (fun c1 => ?_) (fun c1 => ?_)
  · refine r_aload_n (v := 103) f_359_53 rfl (by decide) ?_
    refine r_iload_n (v := x3) f_359_54 rfl ?_
    refine r_aload_n (v := 103) f_359_55 rfl (by decide) ?_
    refine r_getr (q := 118) f_359_56 rfl (by decide) (Or.inl rfl) rfl ?_
    refine r_iload_n (v := x2) f_359_59 rfl ?_
    refine r_iaload (n := 8) (v := h 118 x2.toNat) f_359_60 ⟨rfl, rfl⟩ (o1 c1) rfl ?_
    exact r_callv (as := [vr 103, vi x3, vi (h 118 x2.toNat)]) (st' := []) (ls0 := [vr 103, vi x3, vi (h 118 x2.toNat), vr 9999]) f_359_61 (by decide) rfl rfl (Nat.le_of_ble_eq_true rfl) (Nat.le_of_ble_eq_true rfl) ⟨_, _, rfl, rfl⟩ rfl (k2 c1)
  · have c1 := Decidable.not_not.mp c1
    refine r_iconst f_359_49 (by decide) ?_
    refine r_goto (t := 64) f_359_50 rfl ?_
    exact (k3 c1)

theorem g_M_gameOf_64 {Q : PQ} {h : HP} {x1 : Int} {x2 : Int} {x3 : Int} {x4 : Int} {j5 : AV} {j6 : AV} {s0 : Int} 
    (k1 : s0 = -1 → x1 ≤ x2 → Wp true i_M_gameOf 137 [vr 103, vi x1, vi x2, vi x3, vi x4, vi s0, j6] [] h Q)
    (o2 : s0 = -1 → ¬ x1 ≤ x2 → ¬ x3 = 0 → 0 ≤ x2 ∧ x2 < 8)
    (o3 : s0 = -1 → ¬ x1 ≤ x2 → ¬ x3 = 0 → -2147483648 ≤ -(h 119 x2.toNat) ∧ -(h 119 x2.toNat) ≤ 2147483647)
    (k4 : s0 = -1 → ¬ x1 ≤ x2 → ¬ x3 = 0 → Wp true i_M_gameOf 137 [vr 103, vi x1, vi x2, vi x3, vi (-(h 119 x2.toNat)), vi s0, j6] [] h Q)
    (o5 : s0 = -1 → ¬ x1 ≤ x2 → x3 = 0 → 0 ≤ x2 ∧ x2 < 8)
    (k6 : s0 = -1 → ¬ x1 ≤ x2 → x3 = 0 → Wp true i_M_gameOf 137 [vr 103, vi x1, vi x2, vi x3, vi (h 119 x2.toNat), vi s0, j6] [] h Q)
    (o7 : ¬ s0 = -1 → 0 ≤ x2 ∧ x2 < 8)
    (k8 : ¬ s0 = -1 → Wp true i_M_takes 0 [vr 103, vi x3, vi s0, vi 1] [] (hs h 118 x2.toNat s0) (fun r h' => Wp true i_M_gameOf 88 [vr 103, vi x1, vi x2, vi x3, vi x4, vi s0, j6] (r.toList ++ []) h' Q)) :
    Wp true i_M_gameOf 64 [vr 103, vi x1, vi x2, vi x3, vi x4, j5, j6] [vi s0] h Q := by
  refine r_istore (ls' := [vr 103, vi x1, vi x2, vi x3, vi x4, vi s0, j6]) f_359_64 (Nat.le_of_ble_eq_true rfl) rfl ?_
  refine r_iload (v := s0) f_359_66 rfl ?_
  refine r_iconst f_359_68 (by decide) ?_
  refine r_br2 (t := 110) f_359_69 rfl cb_eq (fun c1 => ?_) (fun c1 => ?_)
  · refine r_iload_n (v := x2) f_359_110 rfl ?_
    refine r_iload_n (v := x1) f_359_111 rfl ?_
    refine r_br2 (t := 137) f_359_112 rfl cb_ge (fun c2 => ?_) (fun c2 => ?_)
    · exact (k1 c1 c2)
    · refine r_iload_n (v := x3) f_359_115 rfl ?_
      refine r_br (t := 128) f_359_116 rfl cb_ne (fun c3 => ?_) (fun c3 => ?_)
      · refine r_aload_n (v := 103) f_359_128 rfl (by decide) ?_
        refine r_getr (q := 119) f_359_129 rfl (by decide) (Or.inl rfl) rfl ?_
        refine r_iload_n (v := x2) f_359_132 rfl ?_
        refine r_iaload (n := 8) (v := h 119 x2.toNat) f_359_133 ⟨rfl, rfl⟩ (o2 c1 c2 c3) rfl ?_
        refine r_ineg (u := -(h 119 x2.toNat)) f_359_134 rfl (o3 c1 c2 c3) ?_
        refine r_istore (ls' := [vr 103, vi x1, vi x2, vi x3, vi (-(h 119 x2.toNat)), vi s0, j6]) f_359_135 (Nat.le_of_ble_eq_true rfl) rfl ?_
        exact (k4 c1 c2 c3)
      · have c3 := Decidable.not_not.mp c3
        refine r_aload_n (v := 103) f_359_119 rfl (by decide) ?_
        refine r_getr (q := 119) f_359_120 rfl (by decide) (Or.inl rfl) rfl ?_
        refine r_iload_n (v := x2) f_359_123 rfl ?_
        refine r_iaload (n := 8) (v := h 119 x2.toNat) f_359_124 ⟨rfl, rfl⟩ (o5 c1 c2 c3) rfl ?_
        refine r_goto (t := 135) f_359_125 rfl ?_
        refine r_istore (ls' := [vr 103, vi x1, vi x2, vi x3, vi (h 119 x2.toNat), vi s0, j6]) f_359_135 (Nat.le_of_ble_eq_true rfl) rfl ?_
        exact (k6 c1 c2 c3)
  · refine r_aload_n (v := 103) f_359_72 rfl (by decide) ?_
    refine r_getr (q := 118) f_359_73 rfl (by decide) (Or.inl rfl) rfl ?_
    refine r_iload_n (v := x2) f_359_76 rfl ?_
    refine r_iload (v := s0) f_359_77 rfl ?_
    refine r_iastore (n := 8) f_359_79 ⟨rfl, rfl⟩ (o7 c1) ?_
    refine r_aload_n (v := 103) f_359_80 rfl (by decide) ?_
    refine r_iload_n (v := x3) f_359_81 rfl ?_
    refine r_iload (v := s0) f_359_82 rfl ?_
    refine r_iconst f_359_84 (by decide) ?_
    exact r_callv (as := [vr 103, vi x3, vi s0, vi 1]) (st' := []) (ls0 := [vr 103, vi x3, vi s0, vi 1]) f_359_85 (by decide) rfl rfl (Nat.le_of_ble_eq_true rfl) (Nat.le_of_ble_eq_true rfl) ⟨_, _, rfl, rfl⟩ rfl (k8 c1)

theorem g_M_gameOf_88 {Q : PQ} {h : HP} {x1 : Int} {x2 : Int} {x3 : Int} {x4 : Int} {x5 : Int} {j6 : AV} 
    (o1 : -2147483648 ≤ x2 + 1 ∧ x2 + 1 ≤ 2147483647)
    (o2 : 0 ≤ x2 + 1 ∧ x2 + 1 < 8)
    (k3 : Wp true i_M_gameOf 18 [vr 103, vi x1, vi (x2 + 1), vi x3, vi x4, vi x5, j6] [] (hs (hs h 118 (x2 + 1).toNat (-1)) 119 (x2 + 1).toNat (-1000000)) Q) :
    Wp true i_M_gameOf 88 [vr 103, vi x1, vi x2, vi x3, vi x4, vi x5, j6] [] h Q := by
  refine r_iinc (v := x2) (w := x2 + 1) (ls' := [vr 103, vi x1, vi (x2 + 1), vi x3, vi x4, vi x5, j6]) f_359_88 rfl rfl o1 rfl ?_
  refine r_aload_n (v := 103) f_359_91 rfl (by decide) ?_
  refine r_getr (q := 118) f_359_92 rfl (by decide) (Or.inl rfl) rfl ?_
  refine r_iload_n (v := x2 + 1) f_359_95 rfl ?_
  refine r_iconst f_359_96 (by decide) ?_
  refine r_iastore (n := 8) f_359_97 ⟨rfl, rfl⟩ o2 ?_
  refine r_aload_n (v := 103) f_359_98 rfl (by decide) ?_
  refine r_getr (q := 119) f_359_99 rfl (by decide) (Or.inl rfl) rfl ?_
  refine r_iload_n (v := x2 + 1) f_359_102 rfl ?_
  refine r_ldc_w f_359_103 (by decide) ?_
  refine r_iastore (n := 8) f_359_106 ⟨rfl, rfl⟩ o2 ?_
  refine r_goto (t := 18) f_359_107 rfl ?_
  exact k3

theorem g_M_gameOf_137 {Q : PQ} {h : HP} {x1 : Int} {x2 : Int} {x3 : Int} {x4 : Int} {x5 : Int} {j6 : AV} 
    (o1 : ¬ x2 = 0 → -2147483648 ≤ x2 - 1 ∧ x2 - 1 ≤ 2147483647)
    (o2 : ¬ x2 = 0 → 0 ≤ x2 - 1)
    (o3 : ¬ x2 = 0 → 0 ≤ x2 - 1 ∧ x2 - 1 < 8)
    (k4 : ¬ x2 = 0 → Wp true i_M_takes 0 [vr 103, vi ((x2 - 1) % 2), vi (h 118 (x2 - 1).toNat), vi (-1)] [] h (fun r h' => Wp true i_M_gameOf 161 [vr 103, vi x1, vi (x2 - 1), vi x3, vi x4, vi x5, j6] (r.toList ++ []) h' Q))
    (k5 : x2 = 0 → Q (some (vi x4)) h) :
    Wp true i_M_gameOf 137 [vr 103, vi x1, vi x2, vi x3, vi x4, vi x5, j6] [] h Q := by
  refine r_iload_n (v := x2) f_359_137 rfl ?_
  refine r_br (t := 144) f_359_138 rfl cb_ne (fun c1 => ?_) (fun c1 => ?_)
  · refine r_iinc (v := x2) (w := x2 - 1) (ls' := [vr 103, vi x1, vi (x2 - 1), vi x3, vi x4, vi x5, j6]) f_359_144 rfl (by omega) (o1 c1) rfl ?_
    refine r_aload_n (v := 103) f_359_147 rfl (by decide) ?_
    refine r_iload_n (v := x2 - 1) f_359_148 rfl ?_
    refine r_iconst f_359_149 (by decide) ?_
    refine r_irem f_359_150 (o2 c1) (by decide) ?_
    refine r_aload_n (v := 103) f_359_151 rfl (by decide) ?_
    refine r_getr (q := 118) f_359_152 rfl (by decide) (Or.inl rfl) rfl ?_
    refine r_iload_n (v := x2 - 1) f_359_155 rfl ?_
    refine r_iaload (n := 8) (v := h 118 (x2 - 1).toNat) f_359_156 ⟨rfl, rfl⟩ (o3 c1) rfl ?_
    refine r_iconst f_359_157 (by decide) ?_
    exact r_callv (as := [vr 103, vi ((x2 - 1) % 2), vi (h 118 (x2 - 1).toNat), vi (-1)]) (st' := []) (ls0 := [vr 103, vi ((x2 - 1) % 2), vi (h 118 (x2 - 1).toNat), vi (-1)]) f_359_158 (by decide) rfl rfl (Nat.le_of_ble_eq_true rfl) (Nat.le_of_ble_eq_true rfl) ⟨_, _, rfl, rfl⟩ rfl (k4 c1)
  · have c1 := Decidable.not_not.mp c1
    refine r_iload (v := x4) f_359_141 rfl ?_
    exact r_reti f_359_143 rfl (k5 c1)

theorem g_M_gameOf_161 {Q : PQ} {h : HP} {x1 : Int} {x2 : Int} {x3 : Int} {x4 : Int} {x5 : Int} {j6 : AV} 
    (o1 : 0 ≤ x2)
    (o2 : ¬ x2 % 2 = 0 → -2147483648 ≤ -x4 ∧ -x4 ≤ 2147483647)
    (k3 : ¬ x2 % 2 = 0 → Wp true i_M_gameOf 175 [vr 103, vi x1, vi x2, vi x3, vi x4, vi x5, j6] [vi (-x4)] h Q)
    (k4 : x2 % 2 = 0 → Wp true i_M_gameOf 175 [vr 103, vi x1, vi x2, vi x3, vi x4, vi x5, j6] [vi x4] h Q) :
    Wp true i_M_gameOf 161 [vr 103, vi x1, vi x2, vi x3, vi x4, vi x5, j6] [] h Q := by
  refine r_iload_n (v := x2) f_359_161 rfl ?_
  refine r_iconst f_359_162 (by decide) ?_
  refine r_irem f_359_163 o1 (by decide) ?_
  refine r_br (t := 172) f_359_164 rfl cb_ne (fun c1 => ?_) (fun c1 => ?_)
  · refine r_iload (v := x4) f_359_172 rfl ?_
    refine r_ineg (u := -x4) f_359_174 rfl (o2 c1) ?_
    exact (k3 c1)
  · have c1 := Decidable.not_not.mp c1
    refine r_iload (v := x4) f_359_167 rfl ?_
    refine r_goto (t := 175) f_359_169 rfl ?_
    exact (k4 c1)

theorem g_M_gameOf_175 {Q : PQ} {h : HP} {x1 : Int} {x2 : Int} {x3 : Int} {x4 : Int} {x5 : Int} {j6 : AV} {s0 : Int} 
    (o1 : 0 ≤ x2 ∧ x2 < 8)
    (k2 : h 119 x2.toNat < s0 → ¬ x2 = 0 → Wp true i_M_gameOf 18 [vr 103, vi x1, vi x2, vi x3, vi x4, vi x5, vi s0] [] (hs h 119 x2.toNat s0) Q)
    (k3 : h 119 x2.toNat < s0 → x2 = 0 → Wp true i_M_gameOf 18 [vr 103, vi x1, vi x2, vi x3, vi x4, vi x5, vi s0] [] (hs (hs h 119 x2.toNat s0) 103 32 (h 118 0)) Q)
    (k4 : ¬ h 119 x2.toNat < s0 → Wp true i_M_gameOf 18 [vr 103, vi x1, vi x2, vi x3, vi x4, vi x5, vi s0] [] h Q) :
    Wp true i_M_gameOf 175 [vr 103, vi x1, vi x2, vi x3, vi x4, vi x5, j6] [vi s0] h Q := by
  refine r_istore (ls' := [vr 103, vi x1, vi x2, vi x3, vi x4, vi x5, vi s0]) f_359_175 (Nat.le_of_ble_eq_true rfl) rfl ?_
  refine r_iload (v := s0) f_359_177 rfl ?_
  refine r_aload_n (v := 103) f_359_179 rfl (by decide) ?_
  refine r_getr (q := 119) f_359_180 rfl (by decide) (Or.inl rfl) rfl ?_
  refine r_iload_n (v := x2) f_359_183 rfl ?_
  refine r_iaload (n := 8) (v := h 119 x2.toNat) f_359_184 ⟨rfl, rfl⟩ o1 rfl ?_
  refine r_br2 (t := 191) f_359_185 rfl cb_gt (fun c1 => ?_) (fun c1 => ?_)
  · refine r_aload_n (v := 103) f_359_191 rfl (by decide) ?_
    refine r_getr (q := 119) f_359_192 rfl (by decide) (Or.inl rfl) rfl ?_
    refine r_iload_n (v := x2) f_359_195 rfl ?_
    refine r_iload (v := s0) f_359_196 rfl ?_
    refine r_iastore (n := 8) f_359_198 ⟨rfl, rfl⟩ o1 ?_
    refine r_iload_n (v := x2) f_359_199 rfl ?_
    refine r_br (t := 213) f_359_200 rfl cb_ne (fun c2 => ?_) (fun c2 => ?_)
    · refine r_goto (t := 18) f_359_213 rfl ?_
      exact (k2 c1 c2)
    · have c2 := Decidable.not_not.mp c2
      refine r_aload_n (v := 103) f_359_203 rfl (by decide) ?_
      refine r_aload_n (v := 103) f_359_204 rfl (by decide) ?_
      refine r_getr (q := 118) f_359_205 rfl (by decide) (Or.inl rfl) rfl ?_
      refine r_iconst f_359_208 (by decide) ?_
      refine r_iaload (n := 8) (v := h 118 0) f_359_209 ⟨rfl, rfl⟩ (by decide) (by simp [hs]) ?_
      refine r_puti f_359_210 rfl (by decide) ?_
      refine r_goto (t := 18) f_359_213 rfl ?_
      exact (k3 c1 c2)
  · refine r_goto (t := 18) f_359_188 rfl ?_
    exact (k4 c1)

theorem g_M_wrongGame_0 {Q : PQ} {h : HP} {x1 : Int} 
    (k1 : (1 ≤ x1 ∧ x1 ≤ 3) → ¬ h 104 1 = 0 → Q (some (vi 0)) h)
    (k2 : (1 ≤ x1 ∧ x1 ≤ 3) → h 104 1 = 0 → Q (some (vi 6)) h)
    (k3 : ¬ (1 ≤ x1 ∧ x1 ≤ 3) → Q (some (vi 1)) h) :
    Wp true i_M_wrongGame 0 [vr 103, vi x1] [] h Q := by
  refine r_iload_n (v := x1) f_360_0 rfl ?_
  refine r_i2l f_360_1 ?_
  refine r_lconst (v := 1) f_360_2 rfl ?_
  refine r_ldc2_w f_360_3 (by decide) ?_
  refine r_calls (as := [vj x1, vj 1, vj 3]) (st' := []) (ls0 := [vj x1, vr 9999, vj 1, vr 9999, vj 3, vr 9999]) f_360_6 (by decide) (by decide) rfl rfl (Nat.le_of_ble_eq_true rfl) (Nat.le_of_ble_eq_true rfl) rfl ?_
  refine c_M_isFrom  ?_
  show Wp true i_M_wrongGame 9 [vr 103, vi x1] [vi (bi (1 ≤ x1 ∧ x1 ≤ 3))] h Q
  refine r_br (t := 16) f_360_9 rfl cb_bt (fun c1 => ?_) (fun c1 => ?_)
  · refine r_aload_n (v := 103) f_360_16 rfl (by decide) ?_
    refine r_getr (q := 104) f_360_17 rfl (by decide) (Or.inl rfl) rfl ?_
    refine r_iconst f_360_20 (by decide) ?_
    refine r_iaload (n := 3000) (v := h 104 1) f_360_21 ⟨rfl, rfl⟩ (by decide) rfl ?_
    refine r_br (t := 30) f_360_22 rfl cb_ne (fun c2 => ?_) (fun c2 => ?_)
    · refine r_iconst f_360_30 (by decide) ?_
      exact r_reti f_360_31 rfl (k1 c1 c2)
    · have c2 := Decidable.not_not.mp c2
      refine r_bipush f_360_25 (by decide) ?_
      refine r_goto (t := 31) f_360_27 rfl ?_
      exact r_reti f_360_31 rfl (k2 c1 c2)
  · refine r_iconst f_360_12 (by decide) ?_
    refine r_goto (t := 31) f_360_13 rfl ?_
    exact r_reti f_360_31 rfl (k3 c1)

theorem g_M_game_0 {Q : PQ} {h : HP} {x1 : Int} 
    (k1 : Wp true i_M_wrongGame 0 [vr 103, vi x1] [] h (fun r h' => Wp true i_M_game 5 [vr 103, vi x1, vr 9999] (r.toList ++ []) h' Q)) :
    Wp true i_M_game 0 [vr 103, vi x1, vr 9999] [] h Q := by
  refine r_aload_n (v := 103) f_361_0 rfl (by decide) ?_
  refine r_iload_n (v := x1) f_361_1 rfl ?_
  exact r_callv (as := [vr 103, vi x1]) (st' := []) (ls0 := [vr 103, vi x1]) f_361_2 (by decide) rfl rfl (Nat.le_of_ble_eq_true rfl) (Nat.le_of_ble_eq_true rfl) ⟨_, _, rfl, rfl⟩ rfl k1

theorem g_M_game_5 {Q : PQ} {h : HP} {x1 : Int} {s0 : Int} 
    (o1 : s0 ≤ 0 → -2147483648 ≤ 2 * x1 ∧ 2 * x1 ≤ 2147483647)
    (k2 : s0 ≤ 0 → Wp true i_M_gameOf 0 [vr 103, vi (2 * x1), vr 9999, vr 9999, vr 9999, vr 9999, vr 9999] [] h (fun r h' => Wp true i_M_game 26 [vr 103, vi x1, vi s0] (r.toList ++ [vr 103]) h' Q))
    (k3 : ¬ s0 ≤ 0 → Q (some (vi (-1))) (hs h 103 2 s0)) :
    Wp true i_M_game 5 [vr 103, vi x1, vr 9999] [vi s0] h Q := by
  refine r_istore_n (ls' := [vr 103, vi x1, vi s0]) f_361_5 (Nat.le_of_ble_eq_true rfl) rfl ?_
  refine r_iload_n (v := s0) f_361_6 rfl ?_
  refine r_br (t := 18) f_361_7 rfl cb_le (fun c1 => ?_) (fun c1 => ?_)
  · refine r_aload_n (v := 103) f_361_18 rfl (by decide) ?_
    refine r_aload_n (v := 103) f_361_19 rfl (by decide) ?_
    refine r_iconst f_361_20 (by decide) ?_
    refine r_iload_n (v := x1) f_361_21 rfl ?_
    refine r_imul (u := 2 * x1) f_361_22 rfl (o1 c1) ?_
    exact r_callv (as := [vr 103, vi (2 * x1)]) (st' := [vr 103]) (ls0 := [vr 103, vi (2 * x1), vr 9999, vr 9999, vr 9999, vr 9999, vr 9999]) f_361_23 (by decide) rfl rfl (Nat.le_of_ble_eq_true rfl) (Nat.le_of_ble_eq_true rfl) ⟨_, _, rfl, rfl⟩ rfl (k2 c1)
  · refine r_aload_n (v := 103) f_361_10 rfl (by decide) ?_
    refine r_iload_n (v := s0) f_361_11 rfl ?_
    refine r_callv (as := [vr 103, vi s0]) (st' := []) (ls0 := [vr 103, vi s0]) f_361_12 (by decide) rfl rfl (Nat.le_of_ble_eq_true rfl) (Nat.le_of_ble_eq_true rfl) ⟨_, _, rfl, rfl⟩ rfl ?_
    refine c_M_refuse  ?_
    show Wp true i_M_game 15 [vr 103, vi x1, vi s0] [vi (-1)] (hs h 103 2 s0) Q
    refine r_goto (t := 29) f_361_15 rfl ?_
    exact r_reti f_361_29 rfl (k3 c1)

theorem g_M_game_26 {Q : PQ} {h : HP} {x1 : Int} {x2 : Int} {s1 : Int} 
    (k1 : Q (some (vi s1)) (hs h 103 2 0)) :
    Wp true i_M_game 26 [vr 103, vi x1, vi x2] [vi s1, vr 103] h Q := by
  refine r_callv (as := [vr 103, vi s1]) (st' := []) (ls0 := [vr 103, vi s1]) f_361_26 (by decide) rfl rfl (Nat.le_of_ble_eq_true rfl) (Nat.le_of_ble_eq_true rfl) ⟨_, _, rfl, rfl⟩ rfl ?_
  refine c_M_gives  ?_
  show Wp true i_M_game 29 [vr 103, vi x1, vi x2] [vi s1] (hs h 103 2 0) Q
  exact r_reti f_361_29 rfl k1

theorem g_M_first_0 {Q : PQ} {h : HP} {x1 : Int} 
    (k1 : Wp true i_M_wrongGame 0 [vr 103, vi x1] [] h (fun r h' => Wp true i_M_first 5 [vr 103, vi x1, vr 9999] (r.toList ++ []) h' Q)) :
    Wp true i_M_first 0 [vr 103, vi x1, vr 9999] [] h Q := by
  refine r_aload_n (v := 103) f_362_0 rfl (by decide) ?_
  refine r_iload_n (v := x1) f_362_1 rfl ?_
  exact r_callv (as := [vr 103, vi x1]) (st' := []) (ls0 := [vr 103, vi x1]) f_362_2 (by decide) rfl rfl (Nat.le_of_ble_eq_true rfl) (Nat.le_of_ble_eq_true rfl) ⟨_, _, rfl, rfl⟩ rfl k1

theorem g_M_first_5 {Q : PQ} {h : HP} {x1 : Int} {s0 : Int} 
    (o1 : s0 ≤ 0 → -2147483648 ≤ 2 * x1 ∧ 2 * x1 ≤ 2147483647)
    (k2 : s0 ≤ 0 → Wp true i_M_gameOf 0 [vr 103, vi (2 * x1), vr 9999, vr 9999, vr 9999, vr 9999, vr 9999] [] h (fun r h' => Wp true i_M_first 23 [vr 103, vi x1, vi s0] (r.toList ++ []) h' Q))
    (k3 : ¬ s0 ≤ 0 → Q (some (vi (-1))) (hs h 103 2 s0)) :
    Wp true i_M_first 5 [vr 103, vi x1, vr 9999] [vi s0] h Q := by
  refine r_istore_n (ls' := [vr 103, vi x1, vi s0]) f_362_5 (Nat.le_of_ble_eq_true rfl) rfl ?_
  refine r_iload_n (v := s0) f_362_6 rfl ?_
  refine r_br (t := 16) f_362_7 rfl cb_le (fun c1 => ?_) (fun c1 => ?_)
  · refine r_aload_n (v := 103) f_362_16 rfl (by decide) ?_
    refine r_iconst f_362_17 (by decide) ?_
    refine r_iload_n (v := x1) f_362_18 rfl ?_
    refine r_imul (u := 2 * x1) f_362_19 rfl (o1 c1) ?_
    exact r_callv (as := [vr 103, vi (2 * x1)]) (st' := []) (ls0 := [vr 103, vi (2 * x1), vr 9999, vr 9999, vr 9999, vr 9999, vr 9999]) f_362_20 (by decide) rfl rfl (Nat.le_of_ble_eq_true rfl) (Nat.le_of_ble_eq_true rfl) ⟨_, _, rfl, rfl⟩ rfl (k2 c1)
  · refine r_aload_n (v := 103) f_362_10 rfl (by decide) ?_
    refine r_iload_n (v := s0) f_362_11 rfl ?_
    refine r_callv (as := [vr 103, vi s0]) (st' := []) (ls0 := [vr 103, vi s0]) f_362_12 (by decide) rfl rfl (Nat.le_of_ble_eq_true rfl) (Nat.le_of_ble_eq_true rfl) ⟨_, _, rfl, rfl⟩ rfl ?_
    refine c_M_refuse  ?_
    show Wp true i_M_first 15 [vr 103, vi x1, vi s0] [vi (-1)] (hs h 103 2 s0) Q
    exact r_reti f_362_15 rfl (k3 c1)

theorem g_M_first_23 {Q : PQ} {h : HP} {x1 : Int} {x2 : Int} {s0 : Int} 
    (k1 : Q (some (vi (h 103 32))) (hs h 103 2 0)) :
    Wp true i_M_first 23 [vr 103, vi x1, vi x2] [vi s0] h Q := by
  refine r_popi f_362_23 ?_
  refine r_aload_n (v := 103) f_362_24 rfl (by decide) ?_
  refine r_aload_n (v := 103) f_362_25 rfl (by decide) ?_
  refine r_geti (v := h 103 32) f_362_26 rfl (by decide) rfl ?_
  refine r_callv (as := [vr 103, vi (h 103 32)]) (st' := []) (ls0 := [vr 103, vi (h 103 32)]) f_362_29 (by decide) rfl rfl (Nat.le_of_ble_eq_true rfl) (Nat.le_of_ble_eq_true rfl) ⟨_, _, rfl, rfl⟩ rfl ?_
  refine c_M_gives  ?_
  show Wp true i_M_first 32 [vr 103, vi x1, vi x2] [vi (h 103 32)] (hs h 103 2 0) Q
  exact r_reti f_362_32 rfl k1

theorem c_M_canAny {Q : PQ} {g R : HP} {l : Int} (eR : rmM g 0 = R) (W : WR R) (hl : l = 0 ∨ l = 1)
    (k1 : (∃ s : Nat, (s : Int) < R 0 1 ∧ 0 < rIn R (1 - l) s) → Q (some (vi 1)) g) (k0 : (∀ s : Nat, (s : Int) < R 0 1 → rIn R (1 - l) s ≤ 0) → Q (some (vi 0)) g) : Wp true i_M_canAny 0 [vr 103, vi l, vr 9999] [] g Q := by
  have w := W.1
  have dd := mdim eR
  have key : ∀ (d i : Nat), (i : Int) + d = R 0 1 → (∀ s : Nat, s < i → rIn R (1 - l) s ≤ 0) → Wp true i_M_canAny 2 [vr 103, vi l, vi (i : Int)] [] g Q := by
    intro d
    induction d with
    | zero =>
      intro i e I
      exact g_M_canAny_2 (fun _ => k0 (fun s hs' => I s (by omega))) (fun q => by omega)
    | succ d ih =>
      intro i e I
      have en : ((i : Int)).toNat = i := Int.toNat_natCast _
      refine g_M_canAny_2 (fun q => by omega) (fun _ => g_M_canTake_0 (by omega) (by rw [eR]; exact W) (by omega) (fun q => ?_) (fun q => ?_))
      · rw [eR, en] at q
        refine g_M_canAny_18 (fun _ => by omega) (fun _ => ih (i + 1) (by omega) (fun s hs' => ?_)) (fun z => absurd rfl z)
        by_cases y : s = i
        · subst y; exact q
        · exact I s (by omega)
      · rw [eR, en] at q
        exact g_M_canAny_18 (fun z => absurd z (by decide)) (fun z => absurd z (by decide)) (fun _ => k1 ⟨i, by omega, by omega⟩)
  exact g_M_canAny_0 (key (R 0 1).toNat 0 (by omega) (fun s hs' => by omega))
theorem c_M_nextMove {Q : PQ} {g R : HP} {l p : Int} (eR : rmM g 0 = R) (W : WR R) (hl : l = 0 ∨ l = 1) (hp : -1 ≤ p ∧ p ≤ R 0 1)
    (k1 : ∀ k : Nat, p < k → Mo R l k → (∀ r : Nat, p < r → r < k → ¬ Mo R l r) → Q (some (vi (k : Int))) g) (k2 : (∀ r : Nat, p < r → ¬ Mo R l r) → Q (some (vi (-1))) g) : Wp true i_M_nextMove 0 [vr 103, vi l, vi p, vr 9999] [] g Q := by
  have w := W.1
  have dd := mdim eR
  have nx : ∀ i : Nat, p < i → (i : Int) ≤ R 0 1 + 1 → (∀ r : Nat, p < r → r < i → ¬ Mo R l r) → ((i : Int) < R 0 1 → 0 < rIn R (1 - l) i) → Wp true i_M_nextMove 29 [vr 103, vi l, vi p, vi (i : Int)] [] g Q := by
    intro i hi hb I ht
    refine g_M_nextMove_29 (fun z => k1 i hi (Or.inl ⟨by omega, ht (by omega)⟩) I) (fun z z2 => k2 (fun r hr mo => ?_)) (fun z z2 => ?_)
    · have := Mo_le mo
      exact I r hr (by omega) mo
    · refine c_M_canAny eR W hl (fun y => ?_) (fun y => ?_)
      · refine g_M_nextMove_54 (fun _ => k2 (fun r hr mo => ?_)) (fun x => absurd x (by decide))
        obtain ⟨s, a, b⟩ := y
        rcases mo with m | m
        · exact I r hr (by omega) (Or.inl m)
        · have := m.2 s a; omega
      · exact g_M_nextMove_54 (fun x => absurd rfl x) (fun _ => k1 i hi (Or.inr ⟨by omega, y⟩) I)
  have key : ∀ (d i : Nat), (i : Int) + d = R 0 1 → p < i → (∀ r : Nat, p < r → r < i → ¬ Mo R l r) → Wp true i_M_nextMove 4 [vr 103, vi l, vi p, vi (i : Int)] [] g Q := by
    intro d
    induction d with
    | zero =>
      intro i e hi I
      exact g_M_nextMove_4 (fun _ => nx i hi (by omega) I (fun z => by omega)) (fun q => by omega)
    | succ d ih =>
      intro i e hi I
      have en : ((i : Int)).toNat = i := Int.toNat_natCast _
      refine g_M_nextMove_4 (fun q => by omega) (fun _ => g_M_canTake_0 (by omega) (by rw [eR]; exact W) (by omega) (fun q => ?_) (fun q => ?_))
      · rw [eR, en] at q
        refine g_M_nextMove_20 (fun z => absurd rfl z) (fun _ => by omega) (fun _ => ih (i + 1) (by omega) (by omega) (fun r hr hr2 mo => ?_))
        by_cases y : r = i
        · subst y
          rcases mo with m | m <;> omega
        · exact I r hr (by omega) mo
      · rw [eR, en] at q
        exact g_M_nextMove_20 (fun _ => nx i hi (by omega) I (fun _ => by omega)) (fun z => absurd z (by decide)) (fun z => absurd z (by decide))
  refine g_M_nextMove_0 (by omega) ?_
  obtain ⟨i, ei⟩ : ∃ i : Nat, p + 1 = i := ⟨(p + 1).toNat, by omega⟩
  rw [ei]
  by_cases z : (i : Int) ≤ R 0 1
  · exact key (R 0 1 - i).toNat i (by omega) (by omega) (fun r hr hr2 => by omega)
  · exact g_M_nextMove_4 (fun _ => nx i (by omega) (by omega) (fun r hr hr2 => by omega) (fun z => by omega)) (fun q => by omega)
def tkG (g : HP) (l : Int) (k : Nat) (s : Int) : HP := if (k : Int) < g 104 1 then hs g 104 (8 + k) (g 104 (8 + k) + sgL l * s) else g
theorem tkG_ne {g : HP} {l s : Int} {k c : Nat} (hc : c ≠ 104) : tkG g l k s c = g c := by
  unfold tkG
  split
  · exact hs_ne hc
  · rfl
theorem c_M_takes {Q : PQ} {g : HP} {l s : Int} {k : Nat} (hl : l = 0 ∨ l = 1) (hs1 : s = 1 ∨ s = -1) (hk : (k : Int) < g 104 1 → k < 7 ∧ -100 ≤ g 104 (8 + k) ∧ g 104 (8 + k) ≤ 100) (kk : Q none (tkG g l k s)) : Wp true i_M_takes 0 [vr 103, vi l, vi (k : Int), vi s] [] g Q := by
  have e8 : (8 + (k : Int)).toNat = 8 + k := by omega
  by_cases z : (k : Int) < g 104 1
  · have h2 := hk z
    rw [show tkG g l k s = hs g 104 (8 + k) (g 104 (8 + k) + sgL l * s) from if_pos z] at kk
    refine g_M_takes_0 (fun q => by omega) (fun _ => by omega) (fun _ => by omega) (fun _ _ => by omega) (fun _ _ => by rw [e8]; omega) (fun _ q => ?_) (fun _ _ => by rw [e8]; omega) (fun _ q => ?_)
    · rw [e8]
      have : sgL l = -1 := if_neg q
      rw [this, show (-1 : Int) * s = -s by omega] at kk
      exact kk
    · rw [e8]
      have : sgL l = 1 := if_pos q
      rw [this, Int.one_mul] at kk
      exact kk
  · rw [show tkG g l k s = g from if_neg z] at kk
    exact g_M_takes_0 (fun _ => kk) (fun q => by omega) (fun q => by omega) (fun q => by omega) (fun q => by omega) (fun q => by omega) (fun q => by omega) (fun q => by omega)
theorem tkG_rm {g R : HP} {l : Int} {k : Nat} (eR : rmM g 0 = R) (W : WR R) : rmM (tkG g l k 1) 0 = mvG R l k := by
  have dd := mdim eR
  unfold tkG mvG
  by_cases z : (k : Int) < g 104 1
  · rw [if_pos z, if_pos (by omega), rM_cut (by rw [eR]; exact W) z, eR, ← mR_1 z, eR, Int.mul_one]
  · rw [if_neg z, if_neg (by omega)]; exact eR
theorem tkG_back {g g3 : HP} {l : Int} {k : Nat} (hl : l = 0 ∨ l = 1) (e : g3 104 = tkG g l k 1 104) : tkG g3 l k (-1) 104 = g 104 := by
  have sg := sg_c hl
  have e1 : g3 104 1 = g 104 1 := by
    rw [e]
    unfold tkG
    split
    · exact hs_o (Or.inr (by omega))
    · rfl
  unfold tkG at e ⊢
  by_cases z : (k : Int) < g 104 1
  · rw [if_pos z] at e
    rw [if_pos (by omega)]
    funext i
    by_cases y : i = 8 + k
    · subst y; rw [hs_s, e, hs_s]; omega
    · rw [hs_o (Or.inr y), e, hs_o (Or.inr y)]
  · rw [if_neg z] at e
    rw [if_neg (by omega)]; exact e
def FrG (d : Nat) (g g' : HP) : Prop := (∀ k, k ≠ 118 → k ≠ 119 → k ≠ 103 → g' k = g k) ∧ (∀ i, i < d → g' 118 i = g 118 i ∧ g' 119 i = g 119 i) ∧ (∀ i, i ≠ 32 → g' 103 i = g 103 i) ∧ (d ≠ 0 → g' 103 = g 103)
theorem FrG_refl {d : Nat} {g : HP} : FrG d g g := ⟨fun _ _ _ _ => rfl, fun _ _ => ⟨rfl, rfl⟩, fun _ _ => rfl, fun _ => rfl⟩
def BeG (R : HP) (l : Int) (m d : Nat) (p b : Int) (g : HP) : Prop :=
  ((∀ r : Nat, (r : Int) ≤ p → ¬ Mo R l r) ∧ b = -1000000) ∨
  ((∃ r : Nat, (r : Int) ≤ p ∧ Mo R l r ∧ Gv m (1 - l) (mvG R l r) (sgL l * b)) ∧ (∀ (r : Nat) u, (r : Int) ≤ p → Mo R l r → Gv m (1 - l) (mvG R l r) u → sgL l * u ≤ b) ∧
   (d = 0 → ∃ f : Nat, g 103 32 = f ∧ (f : Int) ≤ p ∧ Mo R 0 f ∧ Gv m 1 (mvG R 0 f) b ∧ ∀ r u, r < f → Mo R 0 r → Gv m 1 (mvG R 0 r) u → u < b))
theorem go_M {Q : PQ} {N : Nat} (hN : N ≤ 7) : ∀ (m d : Nat) (g R : HP) (l : Int) (j3 j4 j5 j6 : AV), d + m = N → l = (d : Int) % 2 → rmM g 0 = R → WR R → g 118 d = -1 → g 119 d = -1000000 →
    (∀ (g' : HP) (v x3 x5 : Int) (j6 : AV), FrG d g g' → Gv m l R v → (d = 0 → 0 < m → ∃ f : Nat, g' 103 32 = f ∧ FinG R (m - 1) v f) → Wp true i_M_gameOf 137 [vr 103, vi (N : Int), vi (d : Int), vi x3, vi v, vi x5, j6] [] g' Q) →
    Wp true i_M_gameOf 18 [vr 103, vi (N : Int), vi (d : Int), j3, j4, j5, j6] [] g Q := by
  intro m
  induction m with
  | zero =>
    intro d g R l j3 j4 j5 j6 e el eR W p0 b0 K
    have vr0 := vLd_rg W
    have en : d = N := by omega
    refine g_M_gameOf_18 (by omega) (fun z => by omega) (fun _ => by rw [eR]; exact W) (fun _ => by rw [eR]; unfold vLd at vr0; omega) (fun _ => ?_)
    rw [eR]
    refine g_M_gameOf_42 (fun z => by omega) (fun z => by omega) (fun _ => ?_)
    refine g_M_gameOf_64 (fun _ _ => ?_) (fun _ z => by omega) (fun _ z => by omega) (fun _ z => by omega) (fun _ z => by omega) (fun _ z => by omega) (fun z => absurd rfl z) (fun z => absurd rfl z)
    exact K g (vLd R) _ _ _ FrG_refl rfl (fun _ z => by omega)
  | succ m ih =>
    intro d g R l j3 j4 j5 j6 e el eR W p0 b0 K
    have w := W.1
    have hl : l = 0 ∨ l = 1 := by omega
    have sg := sg_c hl
    have ed : ((d : Int)).toNat = d := Int.toNat_natCast _
    have inner : ∀ (q : Nat) (p b : Int) (g1 : HP) (j3 j4 j5 j6 : AV), R 0 1 - p ≤ q → -1 ≤ p → p ≤ R 0 1 → FrG d g g1 → g1 118 d = p → g1 119 d = b → BeG R l m d p b g1 → Wp true i_M_gameOf 18 [vr 103, vi (N : Int), vi (d : Int), j3, j4, j5, j6] [] g1 Q := by
      intro q
      induction q with
      | zero =>
        intro p b g1 j3 j4 j5 j6 hq hp1 hp2 F e118 e119 B
        have eR1 : rmM g1 0 = R := (rmM_congr (F.1 104 (by decide) (by decide) (by decide))).trans eR
        refine g_M_gameOf_18 (by omega) (fun _ => ?_) (fun z => by omega) (fun z => by omega) (fun z => by omega)
        refine g_M_gameOf_42 (fun _ => by omega) (fun _ => ?_) (fun z => by omega)
        rw [ed, e118, ← el]
        refine c_M_nextMove eR1 W hl ⟨hp1, hp2⟩ (fun k hk mo I => ?_) (fun no => ?_)
        · have := Mo_le mo; omega
        · have fin : ∀ x3 x5 j6, Wp true i_M_gameOf 137 [vr 103, vi (N : Int), vi (d : Int), vi x3, vi (sgL l * b), vi x5, j6] [] g1 Q := by
            intro x3 x5 j6
            rcases B with ⟨b1, b2⟩ | ⟨⟨r, rp, mo, gv⟩, all, ff⟩
            · obtain ⟨r, mo⟩ := Mo_ex W l
              by_cases z : (r : Int) ≤ p
              · exact absurd mo (b1 r z)
              · exact absurd mo (no r (by omega))
            · refine K g1 (sgL l * b) x3 x5 j6 F ⟨⟨r, mo, gv⟩, fun r' u mo' gu => ?_⟩ (fun hd _ => ?_)
              · have : (r' : Int) ≤ p := by
                  by_cases z : (r' : Int) ≤ p
                  · exact z
                  · exact absurd mo' (no r' (by omega))
                have := all r' u this mo' gu
                rcases sg with ⟨-, s⟩ | ⟨-, s⟩ <;> rw [s] at this ⊢ <;> omega
              · obtain ⟨f, e1, e2, e3, e4, e5⟩ := ff hd
                have l0 : l = 0 := by omega
                subst l0
                have s0 : sgL 0 = 1 := rfl
                rw [s0, Int.one_mul] at gv ⊢
                refine ⟨f, e1, e3, e4, fun r' u mo' gu => ?_, e5⟩
                have : (r' : Int) ≤ p := by
                  by_cases z : (r' : Int) ≤ p
                  · exact z
                  · exact absurd mo' (no r' (by omega))
                have := all r' u this mo' gu
                rw [s0] at this; omega
          have bb : -1000000 ≤ b ∧ b ≤ 1000000 := by
            rcases B with ⟨b1, b2⟩ | ⟨⟨r, rp, mo, gv⟩, all, ff⟩
            · omega
            · have := Gv_rg m (by omega) (WR_mv W hl mo) gv
              rcases sg with ⟨-, s⟩ | ⟨-, s⟩ <;> rw [s] at this <;> omega
          refine g_M_gameOf_64 (fun _ z => by omega) (fun _ _ _ => by omega) (fun _ _ _ => by rw [ed, e119]; omega) (fun _ _ z => ?_) (fun _ _ _ => by omega) (fun _ _ z => ?_) (fun z => absurd rfl z) (fun z => absurd rfl z)
          · rw [ed, e119]
            have s : sgL l = -1 := by rcases sg with ⟨a, s⟩ | ⟨a, s⟩ <;> omega
            have f1 := fin
            rw [s, show (-1 : Int) * b = -b by omega] at f1
            exact f1 _ _ _
          · rw [ed, e119]
            have s : sgL l = 1 := by rcases sg with ⟨a, s⟩ | ⟨a, s⟩ <;> omega
            have f1 := fin
            rw [s, Int.one_mul] at f1
            exact f1 _ _ _
      | succ q ihq =>
        intro p b g1 j3 j4 j5 j6 hq hp1 hp2 F e118 e119 B
        by_cases done : R 0 1 - p ≤ q
        · exact ihq p b g1 j3 j4 j5 j6 done hp1 hp2 F e118 e119 B
        have eR1 : rmM g1 0 = R := (rmM_congr (F.1 104 (by decide) (by decide) (by decide))).trans eR
        have d1 := mdim eR1
        have bb : -1000000 ≤ b ∧ b ≤ 1000000 := by
          rcases B with ⟨b1, b2⟩ | ⟨⟨r, rp, mo, gv⟩, all, ff⟩
          · omega
          · have := Gv_rg m (by omega) (WR_mv W hl mo) gv
            rcases sg with ⟨-, s⟩ | ⟨-, s⟩ <;> rw [s] at this <;> omega
        refine g_M_gameOf_18 (by omega) (fun _ => ?_) (fun z => by omega) (fun z => by omega) (fun z => by omega)
        refine g_M_gameOf_42 (fun _ => by omega) (fun _ => ?_) (fun z => by omega)
        rw [ed, e118, ← el]
        refine c_M_nextMove eR1 W hl ⟨hp1, hp2⟩ (fun k hk mo I => ?_) (fun no => ?_)
        · have kb := Mo_le mo
          refine g_M_gameOf_64 (fun z => by omega) (fun z => by omega) (fun z => by omega) (fun z => by omega) (fun z => by omega) (fun z => by omega) (fun _ => by omega) (fun _ => ?_)
          rw [ed]
          obtain ⟨g2, eg2⟩ : ∃ g2, g2 = hs g1 118 d (k : Int) := ⟨_, rfl⟩
          rw [← eg2]
          have n2 : ∀ c, c ≠ 118 → g2 c = g1 c := fun c hc => by rw [eg2]; exact hs_ne hc
          have eR2 : rmM g2 0 = R := (rmM_congr (n2 104 (by decide))).trans eR1
          have cutb : ∀ g5 : HP, g5 104 = g2 104 → (k : Int) < g5 104 1 → k < 7 ∧ -100 ≤ g5 104 (8 + k) ∧ g5 104 (8 + k) ≤ 100 := by
            intro g5 e5 z
            rw [e5, n2 104 (by decide)] at z ⊢
            have c1 := mR_1 (h := g1) (r := k) z
            rw [eR1] at c1
            have := W.2.1 k (by omega)
            omega
          refine c_M_takes hl (Or.inl rfl) (cutb g2 rfl) ?_
          refine g_M_gameOf_88 (by omega) (by omega) ?_
          rw [show ((d : Int) + 1).toNat = d + 1 by omega]
          obtain ⟨g3, eg3⟩ : ∃ g3, g3 = hs (hs (tkG g2 l k 1) 118 (d + 1) (-1)) 119 (d + 1) (-1000000) := ⟨_, rfl⟩
          rw [← eg3]
          have n3 : ∀ c, c ≠ 118 → c ≠ 119 → g3 c = tkG g2 l k 1 c := fun c h1 h2 => by rw [eg3, hs_ne h2, hs_ne h1]
          have s3 : ∀ i, i ≠ d + 1 → g3 118 i = g2 118 i ∧ g3 119 i = g2 119 i := fun i hi => by
            rw [eg3]
            constructor
            · rw [hs_ne (k' := 118) (by decide), hs_o (Or.inr hi), tkG_ne (by decide)]
            · rw [hs_o (Or.inr hi), hs_ne (k' := 119) (by decide), tkG_ne (by decide)]
          have eR3 : rmM g3 0 = mvG R l k := (rmM_congr (n3 104 (by decide) (by decide))).trans (tkG_rm eR2 W)
          refine ih (d + 1) g3 (mvG R l k) (1 - l) _ _ _ _ (by omega) (by omega) eR3 (WR_mv W hl mo) (by rw [eg3, hs_ne (k' := 118) (by decide), hs_s]) (by rw [eg3, hs_s]) (fun g4 v x3 x5 j6 F4 gv _ => ?_)
          have vb := Gv_rg m (by omega) (WR_mv W hl mo) gv
          have k4 : g4 118 d = (k : Int) := by rw [(F4.2.1 d (by omega)).1, (s3 d (by omega)).1, eg2, hs_s]
          have b4 : g4 119 d = b := by rw [(F4.2.1 d (by omega)).2, (s3 d (by omega)).2, eg2, hs_ne (k' := 119) (by decide)]; exact e119
          refine g_M_gameOf_137 (fun _ => by omega) (fun _ => by omega) (fun _ => by omega) (fun _ => ?_) (fun z => by omega)
          rw [show (((d + 1 : Nat) : Int) - 1) = (d : Int) by omega, ed, k4, ← el]
          have c4 : g4 104 = tkG g2 l k 1 104 := (F4.1 104 (by decide) (by decide) (by decide)).trans (n3 104 (by decide) (by decide))
          have c4' : (k : Int) < g4 104 1 → k < 7 ∧ -100 ≤ g4 104 (8 + k) ∧ g4 104 (8 + k) ≤ 100 := by
            intro z
            rw [c4] at z ⊢
            have z1 : (k : Int) < g2 104 1 := by
              unfold tkG at z
              split at z
              · assumption
              · exact z
            have := cutb g2 rfl z1
            unfold tkG
            rw [if_pos z1, hs_s]
            have w1 := W.2.1 k (by have := mdim eR2; omega)
            have c1 := mR_1 (h := g2) (r := k) z1
            rw [eR2] at c1
            rcases sg with ⟨-, s⟩ | ⟨-, s⟩ <;> rw [s] <;> omega
          refine c_M_takes hl (Or.inr rfl) c4' ?_
          obtain ⟨g5, eg5⟩ : ∃ g5, g5 = tkG g4 l k (-1) := ⟨_, rfl⟩
          rw [← eg5]
          have a5 : g5 104 = g1 104 := by rw [eg5, tkG_back hl c4]; exact n2 104 (by decide)
          have n5 : ∀ c, c ≠ 104 → g5 c = g4 c := fun c hc => by rw [eg5]; exact tkG_ne hc
          have m5 : g5 103 = g1 103 := by rw [n5 103 (by decide), F4.2.2.2 (by omega), n3 103 (by decide) (by decide), tkG_ne (by decide)]; exact n2 103 (by decide)
          have F5 : FrG d g g5 := by
            refine ⟨fun c h1 h2 h3 => ?_, fun i hi => ?_, fun i hi => ?_, fun hd => ?_⟩
            · by_cases z : c = 104
              · subst z; rw [a5]; exact F.1 104 h1 h2 h3
              · rw [n5 c z, F4.1 c h1 h2 h3, n3 c h1 h2, tkG_ne z, n2 c h1]; exact F.1 c h1 h2 h3
            · have a := F4.2.1 i (by omega)
              have b := s3 i (by omega)
              have c := F.2.1 i hi
              rw [n5 118 (by decide), n5 119 (by decide), a.1, a.2, b.1, b.2, eg2, hs_o (Or.inr (by omega)), hs_ne (k' := 119) (by decide)]
              exact c
            · rw [m5]; exact F.2.2.1 i hi
            · rw [m5]; exact F.2.2.2 hd
          have k5 : g5 118 d = (k : Int) := by rw [n5 118 (by decide)]; exact k4
          have b5 : g5 119 d = b := by rw [n5 119 (by decide)]; exact b4
          have way : ∀ x3 x4 x5 j6, Wp true i_M_gameOf 175 [vr 103, vi (N : Int), vi (d : Int), vi x3, vi x4, vi x5, j6] [vi (sgL l * v)] g5 Q := by
            intro x3 x4 x5 j6
            have gv' : Gv m (1 - l) (mvG R l k) (sgL l * (sgL l * v)) := by
              rcases sg with ⟨-, s⟩ | ⟨-, s⟩
              · rw [s, Int.one_mul, Int.one_mul]; exact gv
              · rw [s, show (-1 : Int) * (-1 * v) = v by omega]; exact gv
            have old : ∀ (r : Nat) u, (r : Int) ≤ k → Mo R l r → Gv m (1 - l) (mvG R l r) u → (r = k ∧ u = v) ∨ (r : Int) ≤ p := by
              intro r u hr mr gu
              by_cases z : r = k
              · subst z; exact Or.inl ⟨rfl, Gv_un (by omega) gu gv⟩
              · by_cases y : (r : Int) ≤ p
                · exact Or.inr y
                · exact absurd mr (I r (by omega) (by omega))
            refine g_M_gameOf_175 (by omega) (fun lt hd => ?_) (fun lt hd => ?_) (fun nl => ?_)
            · rw [ed, b5] at lt
              rw [ed]
              refine ihq k (sgL l * v) _ _ _ _ _ (by omega) (by omega) (by omega) ⟨fun c h1 h2 h3 => (hs_ne h2).trans (F5.1 c h1 h2 h3), fun i hi => ?_, fun i hi => by rw [hs_ne (k' := 103) (by decide)]; exact F5.2.2.1 i hi, fun hd => by rw [hs_ne (k' := 103) (by decide)]; exact F5.2.2.2 hd⟩ (by rw [hs_ne (k' := 118) (by decide)]; exact k5) hs_s (Or.inr ⟨⟨k, by omega, mo, gv'⟩, fun r u hr mr gu => ?_, fun z => by omega⟩)
              · rw [hs_ne (k' := 118) (by decide), hs_o (Or.inr (by omega))]; exact F5.2.1 i hi
              · rcases old r u hr mr gu with ⟨-, eu⟩ | y
                · rw [eu]; exact Int.le_refl _
                · rcases B with ⟨b1, b2⟩ | ⟨-, all, -⟩
                  · exact absurd mr (b1 r y)
                  · have := all r u y mr gu; omega
            · rw [ed, b5] at lt
              rw [ed]
              have d0 : d = 0 := by omega
              subst d0
              rw [k5]
              have l0 : l = 0 := by omega
              subst l0
              have s0 : sgL 0 = 1 := rfl
              refine ihq k (sgL 0 * v) _ _ _ _ _ (by omega) (by omega) (by omega) ⟨fun c h1 h2 h3 => by rw [hs_ne h3, hs_ne h2]; exact F5.1 c h1 h2 h3, fun i hi => by omega, fun i hi => by rw [hs_o (Or.inr hi), hs_ne (k' := 103) (by decide)]; exact F5.2.2.1 i hi, fun hd => absurd rfl hd⟩ (by rw [hs_ne (k' := 118) (by decide), hs_ne (k' := 118) (by decide)]; exact k5) (by rw [hs_ne (k' := 119) (by decide), hs_s]) (Or.inr ⟨⟨k, by omega, mo, gv'⟩, fun r u hr mr gu => ?_, fun _ => ⟨k, hs_s, by omega, mo, by rw [s0, Int.one_mul]; exact gv, fun r u hr mr gu => ?_⟩⟩)
              · rcases old r u hr mr gu with ⟨-, eu⟩ | y
                · rw [eu]; exact Int.le_refl _
                · rcases B with ⟨b1, b2⟩ | ⟨-, all, -⟩
                  · exact absurd mr (b1 r y)
                  · have := all r u y mr gu; omega
              · rcases old r u (by omega) mr gu with ⟨z, eu⟩ | y
                · omega
                · rcases B with ⟨b1, b2⟩ | ⟨-, all, -⟩
                  · exact absurd mr (b1 r y)
                  · have := all r u y mr gu; rw [s0] at this lt ⊢; omega
            · rw [ed, b5] at nl
              refine ihq k b g5 _ _ _ _ (by omega) (by omega) (by omega) F5 k5 b5 ?_
              rcases B with ⟨b1, b2⟩ | ⟨⟨r, rp, mr, gr⟩, all, ff⟩
              · exfalso
                rcases sg with ⟨-, s⟩ | ⟨-, s⟩ <;> rw [s] at nl <;> omega
              · refine Or.inr ⟨⟨r, by omega, mr, gr⟩, fun r' u hr mr' gu => ?_, fun hd => ?_⟩
                · rcases old r' u hr mr' gu with ⟨-, eu⟩ | y
                  · rw [eu]; omega
                  · exact all r' u y mr' gu
                · obtain ⟨f, e1, e2, e3⟩ := ff hd
                  exact ⟨f, by rw [m5]; exact e1, by omega, e3⟩
          refine g_M_gameOf_161 (by omega) (fun _ => by omega) (fun z => ?_) (fun z => ?_)
          · have s : sgL l = -1 := by rcases sg with ⟨a, s⟩ | ⟨a, s⟩ <;> omega
            have f1 := way
            rw [s, show (-1 : Int) * v = -v by omega] at f1
            exact f1 _ _ _ _
          · have s : sgL l = 1 := by rcases sg with ⟨a, s⟩ | ⟨a, s⟩ <;> omega
            have f1 := way
            rw [s, Int.one_mul] at f1
            exact f1 _ _ _ _
        · have fin : ∀ x3 x5 j6, Wp true i_M_gameOf 137 [vr 103, vi (N : Int), vi (d : Int), vi x3, vi (sgL l * b), vi x5, j6] [] g1 Q := by
            intro x3 x5 j6
            rcases B with ⟨b1, b2⟩ | ⟨⟨r, rp, mo, gv⟩, all, ff⟩
            · obtain ⟨r, mo⟩ := Mo_ex W l
              by_cases z : (r : Int) ≤ p
              · exact absurd mo (b1 r z)
              · exact absurd mo (no r (by omega))
            · refine K g1 (sgL l * b) x3 x5 j6 F ⟨⟨r, mo, gv⟩, fun r' u mo' gu => ?_⟩ (fun hd _ => ?_)
              · have : (r' : Int) ≤ p := by
                  by_cases z : (r' : Int) ≤ p
                  · exact z
                  · exact absurd mo' (no r' (by omega))
                have := all r' u this mo' gu
                rcases sg with ⟨-, s⟩ | ⟨-, s⟩ <;> rw [s] at this ⊢ <;> omega
              · obtain ⟨f, e1, e2, e3, e4, e5⟩ := ff hd
                have l0 : l = 0 := by omega
                subst l0
                have s0 : sgL 0 = 1 := rfl
                rw [s0, Int.one_mul] at gv ⊢
                refine ⟨f, e1, e3, e4, fun r' u mo' gu => ?_, e5⟩
                have : (r' : Int) ≤ p := by
                  by_cases z : (r' : Int) ≤ p
                  · exact z
                  · exact absurd mo' (no r' (by omega))
                have := all r' u this mo' gu
                rw [s0] at this; omega
          refine g_M_gameOf_64 (fun _ z => by omega) (fun _ _ _ => by omega) (fun _ _ _ => by rw [ed, e119]; omega) (fun _ _ z => ?_) (fun _ _ _ => by omega) (fun _ _ z => ?_) (fun z => absurd rfl z) (fun z => absurd rfl z)
          · rw [ed, e119]
            have s : sgL l = -1 := by rcases sg with ⟨a, s⟩ | ⟨a, s⟩ <;> omega
            have f1 := fin
            rw [s, show (-1 : Int) * b = -b by omega] at f1
            exact f1 _ _ _
          · rw [ed, e119]
            have s : sgL l = 1 := by rcases sg with ⟨a, s⟩ | ⟨a, s⟩ <;> omega
            have f1 := fin
            rw [s, Int.one_mul] at f1
            exact f1 _ _ _
    exact inner (R 0 1 + 1).toNat (-1) (-1000000) g _ _ _ _ (by omega) (by omega) (by omega) FrG_refl p0 b0 (Or.inl ⟨fun r hr => by omega, rfl⟩)
theorem c_M_gameOf {Q : PQ} {g R : HP} {x : Nat} (hx : 1 ≤ x ∧ x ≤ 3) (eR : rmM g 0 = R) (W : WR R)
    (kk : ∀ (g' : HP) (o : Int) (f : Nat), (∀ k, k ≠ 118 → k ≠ 119 → k ≠ 103 → g' k = g k) → (∀ i, i ≠ 32 → g' 103 i = g 103 i) → FinG R 1 o f → g' 103 32 = f → Q (some (vi o)) g') : Wp true i_M_gameOf 0 [vr 103, vi (2 * (x : Int)), vr 9999, vr 9999, vr 9999, vr 9999, vr 9999] [] g Q := by
  refine g_M_gameOf_0 ?_
  rw [show (2 * (x : Int)) = ((2 * x : Nat) : Int) by omega]
  have n1 : ∀ c, c ≠ 118 → c ≠ 119 → hs (hs g 118 0 (-1)) 119 0 (-1000000) c = g c := fun c h1 h2 => by rw [hs_ne h2, hs_ne h1]
  refine go_M (N := 2 * x) (by omega) (2 * x) 0 _ R 0 _ _ _ _ (by omega) (by omega) ((rmM_congr (n1 104 (by decide) (by decide))).trans eR) W (by rw [hs_ne (k' := 118) (by decide), hs_s]) hs_s (fun g' v x3 x5 j6 F gv ff => ?_)
  obtain ⟨f, e1, e2⟩ := ff rfl (by omega)
  refine g_M_gameOf_137 (fun z => absurd rfl z) (fun z => absurd rfl z) (fun z => absurd rfl z) (fun z => absurd rfl z) (fun _ => ?_)
  refine kk g' v f (fun c h1 h2 h3 => (F.1 c h1 h2 h3).trans (n1 c h1 h2)) (fun i hi => ?_) (FinG_flat W (x - 1) (by rw [show 2 * (x - 1) + 1 = 2 * x - 1 by omega]; exact e2)) e1
  rw [F.2.2.1 i hi, n1 103 (by decide) (by decide)]
