theorem g_M_plain_0 {Q : PQ} {h : HP} {x1 : Int} 
    (k1 : Wp true i_M_plain 2 [vr 103, vi x1, vi 0] [] h Q) :
    Wp true i_M_plain 0 [vr 103, vi x1, vr 9999] [] h Q := by
  refine r_iconst f_222_0 (by decide) ?_
  refine r_istore_n (ls' := [vr 103, vi x1, vi 0]) f_222_1 (Nat.le_of_ble_eq_true rfl) rfl ?_
  exact k1

theorem g_M_plain_2 {Q : PQ} {h : HP} {x1 : Int} {x2 : Int} 
    (o1 : 500 ≤ x2 → -2147483648 ≤ x1 + 3 ∧ x1 + 3 ≤ 2147483647)
    (o2 : 500 ≤ x2 → 0 ≤ x1 + 3 ∧ x1 + 3 < 3000)
    (o3 : 500 ≤ x2 → -2147483648 ≤ x1 + 7 ∧ x1 + 7 ≤ 2147483647)
    (o4 : 500 ≤ x2 → 0 ≤ x1 + 7 ∧ x1 + 7 < 3000)
    (k5 : 500 ≤ x2 → Q none (hs (hs h 104 (x1 + 3).toNat 9) 104 (x1 + 7).toNat (-1)))
    (o6 : ¬ 500 ≤ x2 → -2147483648 ≤ x1 + x2 ∧ x1 + x2 ≤ 2147483647)
    (o7 : ¬ 500 ≤ x2 → 0 ≤ x1 + x2 ∧ x1 + x2 < 3000)
    (o8 : ¬ 500 ≤ x2 → -2147483648 ≤ x2 + 1 ∧ x2 + 1 ≤ 2147483647)
    (k9 : ¬ 500 ≤ x2 → Wp true i_M_plain 2 [vr 103, vi x1, vi (x2 + 1)] [] (hs h 104 (x1 + x2).toNat 0) Q) :
    Wp true i_M_plain 2 [vr 103, vi x1, vi x2] [] h Q := by
  refine r_iload_n (v := x2) f_222_2 rfl ?_
  refine r_sipush f_222_3 (by decide) ?_
  refine r_br2 (t := 24) f_222_6 rfl cb_ge (fun c1 => ?_) (fun c1 => ?_)
  · refine r_aload_n (v := 103) f_222_24 rfl (by decide) ?_
    refine r_getr (q := 104) f_222_25 rfl (by decide) (Or.inl rfl) rfl ?_
    refine r_iload_n (v := x1) f_222_28 rfl ?_
    refine r_iconst f_222_29 (by decide) ?_
    refine r_iadd (u := x1 + 3) f_222_30 rfl (o1 c1) ?_
    refine r_bipush f_222_31 (by decide) ?_
    refine r_iastore (n := 3000) f_222_33 ⟨rfl, rfl⟩ (o2 c1) ?_
    refine r_aload_n (v := 103) f_222_34 rfl (by decide) ?_
    refine r_getr (q := 104) f_222_35 rfl (by decide) (Or.inl rfl) rfl ?_
    refine r_iload_n (v := x1) f_222_38 rfl ?_
    refine r_bipush f_222_39 (by decide) ?_
    refine r_iadd (u := x1 + 7) f_222_41 rfl (o3 c1) ?_
    refine r_iconst f_222_42 (by decide) ?_
    refine r_iastore (n := 3000) f_222_43 ⟨rfl, rfl⟩ (o4 c1) ?_
    exact r_retv f_222_44 rfl (k5 c1)
  · refine r_aload_n (v := 103) f_222_9 rfl (by decide) ?_
    refine r_getr (q := 104) f_222_10 rfl (by decide) (Or.inl rfl) rfl ?_
    refine r_iload_n (v := x1) f_222_13 rfl ?_
    refine r_iload_n (v := x2) f_222_14 rfl ?_
    refine r_iadd (u := x1 + x2) f_222_15 rfl (o6 c1) ?_
    refine r_iconst f_222_16 (by decide) ?_
    refine r_iastore (n := 3000) f_222_17 ⟨rfl, rfl⟩ (o7 c1) ?_
    refine r_iinc (v := x2) (w := x2 + 1) (ls' := [vr 103, vi x1, vi (x2 + 1)]) f_222_18 rfl rfl (o8 c1) rfl ?_
    refine r_goto (t := 2) f_222_21 rfl ?_
    exact (k9 c1)

theorem g_M_aRoom_0 {Q : PQ} {h : HP}  
    (k1 : Wp true i_M_ahead 0 [vr 103, vr 9999] [] h (fun r h' => Wp true i_M_aRoom 4 [vr 103, vr 9999] (r.toList ++ []) h' Q)) :
    Wp true i_M_aRoom 0 [vr 103, vr 9999] [] h Q := by
  refine r_aload_n (v := 103) f_258_0 rfl (by decide) ?_
  exact r_callv (as := [vr 103]) (st' := []) (ls0 := [vr 103, vr 9999]) f_258_1 (by decide) rfl rfl (Nat.le_of_ble_eq_true rfl) (Nat.le_of_ble_eq_true rfl) ⟨_, _, rfl, rfl⟩ rfl k1

theorem g_M_aRoom_4 {Q : PQ} {h : HP}  
    (k1 : Wp true i_M_number 0 [vr 103, vi 2000, vi 1, vi 9] [] h (fun r h' => Wp true i_M_aRoom 14 [vr 103, vr 9999] (r.toList ++ []) h' Q)) :
    Wp true i_M_aRoom 4 [vr 103, vr 9999] [] h Q := by
  refine r_aload_n (v := 103) f_258_4 rfl (by decide) ?_
  refine r_sipush f_258_5 (by decide) ?_
  refine r_iconst f_258_8 (by decide) ?_
  refine r_bipush f_258_9 (by decide) ?_
  exact r_callv (as := [vr 103, vi 2000, vi 1, vi 9]) (st' := []) (ls0 := [vr 103, vi 2000, vi 1, vi 9]) f_258_11 (by decide) rfl rfl (Nat.le_of_ble_eq_true rfl) (Nat.le_of_ble_eq_true rfl) ⟨_, _, rfl, rfl⟩ rfl k1

theorem g_M_aRoom_14 {Q : PQ} {h : HP} {s0 : Int} 
    (k1 : s0 = 0 → Q (some (vi 0)) h)
    (k2 : ¬ s0 = 0 → Wp true i_M_wantWord 0 [vr 103, vr 2001, vi 4] [] h (fun r h' => Wp true i_M_aRoom 24 [vr 103, vr 9999] (r.toList ++ []) h' Q)) :
    Wp true i_M_aRoom 14 [vr 103, vr 9999] [vi s0] h Q := by
  refine r_br (t := 40) f_258_14 rfl cb_eq (fun c1 => ?_) (fun c1 => ?_)
  · refine r_iconst f_258_40 (by decide) ?_
    exact r_retz f_258_41 rfl (by decide) (k1 c1)
  · refine r_aload_n (v := 103) f_258_17 rfl (by decide) ?_
    refine r_ldcS f_258_18 (by decide) ?_
    refine r_iconst f_258_20 (by decide) ?_
    exact r_callv (as := [vr 103, vr 2001, vi 4]) (st' := []) (ls0 := [vr 103, vr 2001, vi 4]) f_258_21 (by decide) rfl rfl (Nat.le_of_ble_eq_true rfl) (Nat.le_of_ble_eq_true rfl) ⟨_, _, rfl, rfl⟩ rfl (k2 c1)

theorem g_M_aRoom_24 {Q : PQ} {h : HP} {s0 : Int} 
    (k1 : s0 = 0 → Q (some (vi 0)) h)
    (k2 : ¬ s0 = 0 → Wp true i_M_number 0 [vr 103, vi 2001, vi 1, vi 7] [] h (fun r h' => Wp true i_M_aRoom 37 [vr 103, vr 9999] (r.toList ++ []) h' Q)) :
    Wp true i_M_aRoom 24 [vr 103, vr 9999] [vi s0] h Q := by
  refine r_br (t := 40) f_258_24 rfl cb_eq (fun c1 => ?_) (fun c1 => ?_)
  · refine r_iconst f_258_40 (by decide) ?_
    exact r_retz f_258_41 rfl (by decide) (k1 c1)
  · refine r_aload_n (v := 103) f_258_27 rfl (by decide) ?_
    refine r_sipush f_258_28 (by decide) ?_
    refine r_iconst f_258_31 (by decide) ?_
    refine r_bipush f_258_32 (by decide) ?_
    exact r_callv (as := [vr 103, vi 2001, vi 1, vi 7]) (st' := []) (ls0 := [vr 103, vi 2001, vi 1, vi 7]) f_258_34 (by decide) rfl rfl (Nat.le_of_ble_eq_true rfl) (Nat.le_of_ble_eq_true rfl) ⟨_, _, rfl, rfl⟩ rfl (k2 c1)

theorem g_M_aRoom_37 {Q : PQ} {h : HP} {s0 : Int} 
    (k1 : ¬ s0 = 0 → Wp true i_M_aRoom 44 [vr 103, vi 0] [] h Q)
    (k2 : s0 = 0 → Q (some (vi 0)) h) :
    Wp true i_M_aRoom 37 [vr 103, vr 9999] [vi s0] h Q := by
  refine r_br (t := 42) f_258_37 rfl cb_ne (fun c1 => ?_) (fun c1 => ?_)
  · refine r_iconst f_258_42 (by decide) ?_
    refine r_istore_n (ls' := [vr 103, vi 0]) f_258_43 (Nat.le_of_ble_eq_true rfl) rfl ?_
    exact (k1 c1)
  · have c1 := Decidable.not_not.mp c1
    refine r_iconst f_258_40 (by decide) ?_
    exact r_retz f_258_41 rfl (by decide) (k2 c1)

theorem g_M_aRoom_44 {Q : PQ} {h : HP} {x1 : Int} 
    (k1 : h 104 2001 ≤ x1 → Q (some (vi 1)) h)
    (o2 : ¬ h 104 2001 ≤ x1 → -2147483648 ≤ 2008 + x1 ∧ 2008 + x1 ≤ 2147483647)
    (o3 : ¬ h 104 2001 ≤ x1 → 0 ≤ h 104 2000 ∧ h 104 2000 ≤ 2147483647)
    (o4 : ¬ h 104 2001 ≤ x1 → 0 ≤ 2008 + x1 ∧ 2008 + x1 < 3000)
    (o5 : ¬ h 104 2001 ≤ x1 → -2147483648 ≤ x1 + 1 ∧ x1 + 1 ≤ 2147483647)
    (k6 : ¬ h 104 2001 ≤ x1 → Wp true i_M_aRoom 44 [vr 103, vi (x1 + 1)] [] (hs h 104 (2008 + x1).toNat ((h 104 2000) / 2)) Q) :
    Wp true i_M_aRoom 44 [vr 103, vi x1] [] h Q := by
  refine r_iload_n (v := x1) f_258_44 rfl ?_
  refine r_aload_n (v := 103) f_258_45 rfl (by decide) ?_
  refine r_getr (q := 104) f_258_46 rfl (by decide) (Or.inl rfl) rfl ?_
  refine r_sipush f_258_49 (by decide) ?_
  refine r_iaload (n := 3000) (v := h 104 2001) f_258_52 ⟨rfl, rfl⟩ (by decide) rfl ?_
  refine r_br2 (t := 82) f_258_53 rfl cb_ge (fun c1 => ?_) (fun c1 => ?_)
  · refine r_iconst f_258_82 (by decide) ?_
    exact r_retz f_258_83 rfl (by decide) (k1 c1)
  · refine r_aload_n (v := 103) f_258_56 rfl (by decide) ?_
    refine r_getr (q := 104) f_258_57 rfl (by decide) (Or.inl rfl) rfl ?_
    refine r_sipush f_258_60 (by decide) ?_
    refine r_iload_n (v := x1) f_258_63 rfl ?_
    refine r_iadd (u := 2008 + x1) f_258_64 rfl (o2 c1) ?_
    refine r_aload_n (v := 103) f_258_65 rfl (by decide) ?_
    refine r_getr (q := 104) f_258_66 rfl (by decide) (Or.inl rfl) rfl ?_
    refine r_sipush f_258_69 (by decide) ?_
    refine r_iaload (n := 3000) (v := h 104 2000) f_258_72 ⟨rfl, rfl⟩ (by decide) rfl ?_
    refine r_iconst f_258_73 (by decide) ?_
    refine r_idiv f_258_74 (o3 c1) (by decide) ?_
    refine r_iastore (n := 3000) f_258_75 ⟨rfl, rfl⟩ (o4 c1) ?_
    refine r_iinc (v := x1) (w := x1 + 1) (ls' := [vr 103, vi (x1 + 1)]) f_258_76 rfl rfl (o5 c1) rfl ?_
    refine r_goto (t := 44) f_258_79 rfl ?_
    exact (k6 c1)

theorem g_M_aLine_0 {Q : PQ} {h : HP}  
    (k1 : Wp true i_M_ahead 0 [vr 103, vr 9999] [] h (fun r h' => Wp true i_M_aLine 4 [vr 103, vr 9999] (r.toList ++ []) h' Q)) :
    Wp true i_M_aLine 0 [vr 103, vr 9999] [] h Q := by
  refine r_aload_n (v := 103) f_259_0 rfl (by decide) ?_
  exact r_callv (as := [vr 103]) (st' := []) (ls0 := [vr 103, vr 9999]) f_259_1 (by decide) rfl rfl (Nat.le_of_ble_eq_true rfl) (Nat.le_of_ble_eq_true rfl) ⟨_, _, rfl, rfl⟩ rfl k1

theorem g_M_aLine_4 {Q : PQ} {h : HP}  
    (k1 : Wp true i_M_aLine 6 [vr 103, vi 0] [] h Q) :
    Wp true i_M_aLine 4 [vr 103, vr 9999] [] h Q := by
  refine r_iconst f_259_4 (by decide) ?_
  refine r_istore_n (ls' := [vr 103, vi 0]) f_259_5 (Nat.le_of_ble_eq_true rfl) rfl ?_
  exact k1

theorem g_M_aLine_6 {Q : PQ} {h : HP} {x1 : Int} 
    (k1 : h 104 2001 ≤ x1 → Q (some (vi 1)) h)
    (o2 : ¬ h 104 2001 ≤ x1 → -2147483648 ≤ 2008 + x1 ∧ 2008 + x1 ≤ 2147483647)
    (k3 : ¬ h 104 2001 ≤ x1 → Wp true i_M_number 0 [vr 103, vi (2008 + x1), vi 0, vi (h 104 2000)] [] h (fun r h' => Wp true i_M_aLine 36 [vr 103, vi x1] (r.toList ++ []) h' Q)) :
    Wp true i_M_aLine 6 [vr 103, vi x1] [] h Q := by
  refine r_iload_n (v := x1) f_259_6 rfl ?_
  refine r_aload_n (v := 103) f_259_7 rfl (by decide) ?_
  refine r_getr (q := 104) f_259_8 rfl (by decide) (Or.inl rfl) rfl ?_
  refine r_sipush f_259_11 (by decide) ?_
  refine r_iaload (n := 3000) (v := h 104 2001) f_259_14 ⟨rfl, rfl⟩ (by decide) rfl ?_
  refine r_br2 (t := 47) f_259_15 rfl cb_ge (fun c1 => ?_) (fun c1 => ?_)
  · refine r_iconst f_259_47 (by decide) ?_
    exact r_retz f_259_48 rfl (by decide) (k1 c1)
  · refine r_aload_n (v := 103) f_259_18 rfl (by decide) ?_
    refine r_sipush f_259_19 (by decide) ?_
    refine r_iload_n (v := x1) f_259_22 rfl ?_
    refine r_iadd (u := 2008 + x1) f_259_23 rfl (o2 c1) ?_
    refine r_iconst f_259_24 (by decide) ?_
    refine r_aload_n (v := 103) f_259_25 rfl (by decide) ?_
    refine r_getr (q := 104) f_259_26 rfl (by decide) (Or.inl rfl) rfl ?_
    refine r_sipush f_259_29 (by decide) ?_
    refine r_iaload (n := 3000) (v := h 104 2000) f_259_32 ⟨rfl, rfl⟩ (by decide) rfl ?_
    exact r_callv (as := [vr 103, vi (2008 + x1), vi 0, vi (h 104 2000)]) (st' := []) (ls0 := [vr 103, vi (2008 + x1), vi 0, vi (h 104 2000)]) f_259_33 (by decide) rfl rfl (Nat.le_of_ble_eq_true rfl) (Nat.le_of_ble_eq_true rfl) ⟨_, _, rfl, rfl⟩ rfl (k3 c1)

theorem g_M_aLine_36 {Q : PQ} {h : HP} {x1 : Int} {s0 : Int} 
    (o1 : ¬ s0 = 0 → -2147483648 ≤ x1 + 1 ∧ x1 + 1 ≤ 2147483647)
    (k2 : ¬ s0 = 0 → Wp true i_M_aLine 6 [vr 103, vi (x1 + 1)] [] h Q)
    (k3 : s0 = 0 → Q (some (vi 0)) h) :
    Wp true i_M_aLine 36 [vr 103, vi x1] [vi s0] h Q := by
  refine r_br (t := 41) f_259_36 rfl cb_ne (fun c1 => ?_) (fun c1 => ?_)
  · refine r_iinc (v := x1) (w := x1 + 1) (ls' := [vr 103, vi (x1 + 1)]) f_259_41 rfl rfl (o1 c1) rfl ?_
    refine r_goto (t := 6) f_259_44 rfl ?_
    exact (k2 c1)
  · have c1 := Decidable.not_not.mp c1
    refine r_iconst f_259_39 (by decide) ?_
    exact r_retz f_259_40 rfl (by decide) (k3 c1)

theorem g_M_aThing_0 {Q : PQ} {h : HP}  
    (o1 : -2147483648 ≤ 6 * (h 104 2002) ∧ 6 * (h 104 2002) ≤ 2147483647)
    (o2 : -2147483648 ≤ 2015 + (6 * (h 104 2002)) ∧ 2015 + (6 * (h 104 2002)) ≤ 2147483647)
    (k3 : ¬ h 104 2002 = 10 → Wp true i_M_ahead 0 [vr 103, vr 9999] [] h (fun r h' => Wp true i_M_aThing 35 [vr 103, vi (h 104 2002), vi (2015 + (6 * (h 104 2002))), vr 9999] (r.toList ++ []) h' Q))
    (k4 : h 104 2002 = 10 → Wp true i_M_fails 0 [vr 103, vi 6] [] h (fun r h' => Wp true i_M_aThing 30 [vr 103, vi (h 104 2002), vi (2015 + (6 * (h 104 2002))), vr 9999] (r.toList ++ []) h' Q)) :
    Wp true i_M_aThing 0 [vr 103, vr 9999, vr 9999, vr 9999] [] h Q := by
  refine r_aload_n (v := 103) f_260_0 rfl (by decide) ?_
  refine r_getr (q := 104) f_260_1 rfl (by decide) (Or.inl rfl) rfl ?_
  refine r_sipush f_260_4 (by decide) ?_
  refine r_iaload (n := 3000) (v := h 104 2002) f_260_7 ⟨rfl, rfl⟩ (by decide) rfl ?_
  refine r_istore_n (ls' := [vr 103, vi (h 104 2002), vr 9999, vr 9999]) f_260_8 (Nat.le_of_ble_eq_true rfl) rfl ?_
  refine r_sipush f_260_9 (by decide) ?_
  refine r_bipush f_260_12 (by decide) ?_
  refine r_iload_n (v := h 104 2002) f_260_14 rfl ?_
  refine r_imul (u := 6 * (h 104 2002)) f_260_15 rfl o1 ?_
  refine r_iadd (u := 2015 + (6 * (h 104 2002))) f_260_16 rfl o2 ?_
  refine r_istore_n (ls' := [vr 103, vi (h 104 2002), vi (2015 + (6 * (h 104 2002))), vr 9999]) f_260_17 (Nat.le_of_ble_eq_true rfl) rfl ?_
  refine r_iload_n (v := h 104 2002) f_260_18 rfl ?_
  refine r_bipush f_260_19 (by decide) ?_
  refine r_br2 (t := 31) f_260_21 rfl cb_ne (fun c1 => ?_) (fun c1 => ?_)
  · refine r_aload_n (v := 103) f_260_31 rfl (by decide) ?_
    exact r_callv (as := [vr 103]) (st' := []) (ls0 := [vr 103, vr 9999]) f_260_32 (by decide) rfl rfl (Nat.le_of_ble_eq_true rfl) (Nat.le_of_ble_eq_true rfl) ⟨_, _, rfl, rfl⟩ rfl (k3 c1)
  · have c1 := Decidable.not_not.mp c1
    refine r_aload_n (v := 103) f_260_24 rfl (by decide) ?_
    refine r_bipush f_260_25 (by decide) ?_
    exact r_callv (as := [vr 103, vi 6]) (st' := []) (ls0 := [vr 103, vi 6]) f_260_27 (by decide) rfl rfl (Nat.le_of_ble_eq_true rfl) (Nat.le_of_ble_eq_true rfl) ⟨_, _, rfl, rfl⟩ rfl (k4 c1)

theorem g_M_aThing_30 {Q : PQ} {h : HP} {x1 : Int} {x2 : Int} {s0 : Int} 
    (o1 : s0 = 0 ∨ s0 = 1)
    (k2 : Q (some (vi s0)) h) :
    Wp true i_M_aThing 30 [vr 103, vi x1, vi x2, vr 9999] [vi s0] h Q := by
  exact r_retz f_260_30 rfl o1 k2

theorem g_M_aThing_35 {Q : PQ} {h : HP} {x1 : Int} {x2 : Int} 
    (k1 : Wp true i_M_isName 0 [vr 103, vr 2001] [] h (fun r h' => Wp true i_M_aThing 41 [vr 103, vi x1, vi x2, vr 9999] (r.toList ++ []) h' Q)) :
    Wp true i_M_aThing 35 [vr 103, vi x1, vi x2, vr 9999] [] h Q := by
  refine r_aload_n (v := 103) f_260_35 rfl (by decide) ?_
  refine r_ldcS f_260_36 (by decide) ?_
  exact r_callv (as := [vr 103, vr 2001]) (st' := []) (ls0 := [vr 103, vr 2001]) f_260_38 (by decide) rfl rfl (Nat.le_of_ble_eq_true rfl) (Nat.le_of_ble_eq_true rfl) ⟨_, _, rfl, rfl⟩ rfl k1

theorem g_M_aThing_41 {Q : PQ} {h : HP} {x1 : Int} {x2 : Int} {s0 : Int} 
    (k1 : ¬ s0 = 0 → Wp true i_M_findHere 0 [vr 103, vi 40, vi x1, vr 9999] [] h (fun r h' => Wp true i_M_aThing 57 [vr 103, vi x1, vi x2, vr 9999] (r.toList ++ []) h' Q))
    (k2 : s0 = 0 → Wp true i_M_fails 0 [vr 103, vi 2] [] h (fun r h' => Wp true i_M_aThing 49 [vr 103, vi x1, vi x2, vr 9999] (r.toList ++ []) h' Q)) :
    Wp true i_M_aThing 41 [vr 103, vi x1, vi x2, vr 9999] [vi s0] h Q := by
  refine r_br (t := 50) f_260_41 rfl cb_ne (fun c1 => ?_) (fun c1 => ?_)
  · refine r_aload_n (v := 103) f_260_50 rfl (by decide) ?_
    refine r_bipush f_260_51 (by decide) ?_
    refine r_iload_n (v := x1) f_260_53 rfl ?_
    exact r_callv (as := [vr 103, vi 40, vi x1]) (st' := []) (ls0 := [vr 103, vi 40, vi x1, vr 9999]) f_260_54 (by decide) rfl rfl (Nat.le_of_ble_eq_true rfl) (Nat.le_of_ble_eq_true rfl) ⟨_, _, rfl, rfl⟩ rfl (k1 c1)
  · have c1 := Decidable.not_not.mp c1
    refine r_aload_n (v := 103) f_260_44 rfl (by decide) ?_
    refine r_iconst f_260_45 (by decide) ?_
    exact r_callv (as := [vr 103, vi 2]) (st' := []) (ls0 := [vr 103, vi 2]) f_260_46 (by decide) rfl rfl (Nat.le_of_ble_eq_true rfl) (Nat.le_of_ble_eq_true rfl) ⟨_, _, rfl, rfl⟩ rfl (k2 c1)

theorem g_M_aThing_49 {Q : PQ} {h : HP} {x1 : Int} {x2 : Int} {s0 : Int} 
    (o1 : s0 = 0 ∨ s0 = 1)
    (k2 : Q (some (vi s0)) h) :
    Wp true i_M_aThing 49 [vr 103, vi x1, vi x2, vr 9999] [vi s0] h Q := by
  exact r_retz f_260_49 rfl o1 k2

theorem g_M_aThing_57 {Q : PQ} {h : HP} {x1 : Int} {x2 : Int} {s0 : Int} 
    (o1 : s0 = -1 → -2147483648 ≤ 40 + x1 ∧ 40 + x1 ≤ 2147483647)
    (k2 : s0 = -1 → Wp true i_M_nameHere 0 [vr 103, vr 9999, vr 9999, vr 9999] [] h (fun r h' => Wp true i_M_aThing 79 [vr 103, vi x1, vi x2, vr 9999] (r.toList ++ [vi (40 + x1), vr 105]) h' Q))
    (k3 : ¬ s0 = -1 → Wp true i_M_fails 0 [vr 103, vi 3] [] h (fun r h' => Wp true i_M_aThing 66 [vr 103, vi x1, vi x2, vr 9999] (r.toList ++ []) h' Q)) :
    Wp true i_M_aThing 57 [vr 103, vi x1, vi x2, vr 9999] [vi s0] h Q := by
  refine r_iconst f_260_57 (by decide) ?_
  refine r_br2 (t := 67) f_260_58 rfl cb_eq (fun c1 => ?_) (fun c1 => ?_)
  · refine r_aload_n (v := 103) f_260_67 rfl (by decide) ?_
    refine r_getr (q := 105) f_260_68 rfl (by decide) (Or.inl rfl) rfl ?_
    refine r_bipush f_260_71 (by decide) ?_
    refine r_iload_n (v := x1) f_260_73 rfl ?_
    refine r_iadd (u := 40 + x1) f_260_74 rfl (o1 c1) ?_
    refine r_aload_n (v := 103) f_260_75 rfl (by decide) ?_
    exact r_callv (as := [vr 103]) (st' := [vi (40 + x1), vr 105]) (ls0 := [vr 103, vr 9999, vr 9999, vr 9999]) f_260_76 (by decide) rfl rfl (Nat.le_of_ble_eq_true rfl) (Nat.le_of_ble_eq_true rfl) ⟨_, _, rfl, rfl⟩ rfl (k2 c1)
  · refine r_aload_n (v := 103) f_260_61 rfl (by decide) ?_
    refine r_iconst f_260_62 (by decide) ?_
    exact r_callv (as := [vr 103, vi 3]) (st' := []) (ls0 := [vr 103, vi 3]) f_260_63 (by decide) rfl rfl (Nat.le_of_ble_eq_true rfl) (Nat.le_of_ble_eq_true rfl) ⟨_, _, rfl, rfl⟩ rfl (k3 c1)

theorem g_M_aThing_66 {Q : PQ} {h : HP} {x1 : Int} {x2 : Int} {s0 : Int} 
    (o1 : s0 = 0 ∨ s0 = 1)
    (k2 : Q (some (vi s0)) h) :
    Wp true i_M_aThing 66 [vr 103, vi x1, vi x2, vr 9999] [vi s0] h Q := by
  exact r_retz f_260_66 rfl o1 k2

theorem g_M_aThing_79 {Q : PQ} {h : HP} {x1 : Int} {x2 : Int} {s1 : Int} {s2 : Int} 
    (o1 : 0 ≤ s1 ∧ s1 < 60)
    (k2 : Wp true i_M_ahead 0 [vr 103, vr 9999] [] (hs h 105 s1.toNat s2) (fun r h' => Wp true i_M_aThing 84 [vr 103, vi x1, vi x2, vr 9999] (r.toList ++ []) h' Q)) :
    Wp true i_M_aThing 79 [vr 103, vi x1, vi x2, vr 9999] [vj s2, vi s1, vr 105] h Q := by
  refine r_lastore (n := 60) f_260_79 ⟨rfl, rfl⟩ o1 ?_
  refine r_aload_n (v := 103) f_260_80 rfl (by decide) ?_
  exact r_callv (as := [vr 103]) (st' := []) (ls0 := [vr 103, vr 9999]) f_260_81 (by decide) rfl rfl (Nat.le_of_ble_eq_true rfl) (Nat.le_of_ble_eq_true rfl) ⟨_, _, rfl, rfl⟩ rfl k2

theorem g_M_aThing_84 {Q : PQ} {h : HP} {x1 : Int} {x2 : Int} 
    (k1 : Wp true i_M_wantWord 0 [vr 103, vr 2001, vi 5] [] h (fun r h' => Wp true i_M_aThing 91 [vr 103, vi x1, vi x2, vr 9999] (r.toList ++ []) h' Q)) :
    Wp true i_M_aThing 84 [vr 103, vi x1, vi x2, vr 9999] [] h Q := by
  refine r_aload_n (v := 103) f_260_84 rfl (by decide) ?_
  refine r_ldcS f_260_85 (by decide) ?_
  refine r_iconst f_260_87 (by decide) ?_
  exact r_callv (as := [vr 103, vr 2001, vi 5]) (st' := []) (ls0 := [vr 103, vr 2001, vi 5]) f_260_88 (by decide) rfl rfl (Nat.le_of_ble_eq_true rfl) (Nat.le_of_ble_eq_true rfl) ⟨_, _, rfl, rfl⟩ rfl k1

theorem g_M_aThing_91 {Q : PQ} {h : HP} {x1 : Int} {x2 : Int} {s0 : Int} 
    (k1 : s0 = 0 → Q (some (vi 0)) h)
    (o2 : ¬ s0 = 0 → -2147483648 ≤ (h 104 2000) - 1 ∧ (h 104 2000) - 1 ≤ 2147483647)
    (k3 : ¬ s0 = 0 → Wp true i_M_number 0 [vr 103, vi x2, vi 0, vi ((h 104 2000) - 1)] [] h (fun r h' => Wp true i_M_aThing 110 [vr 103, vi x1, vi x2, vr 9999] (r.toList ++ []) h' Q)) :
    Wp true i_M_aThing 91 [vr 103, vi x1, vi x2, vr 9999] [vi s0] h Q := by
  refine r_br (t := 113) f_260_91 rfl cb_eq (fun c1 => ?_) (fun c1 => ?_)
  · refine r_iconst f_260_113 (by decide) ?_
    exact r_retz f_260_114 rfl (by decide) (k1 c1)
  · refine r_aload_n (v := 103) f_260_94 rfl (by decide) ?_
    refine r_iload_n (v := x2) f_260_95 rfl ?_
    refine r_iconst f_260_96 (by decide) ?_
    refine r_aload_n (v := 103) f_260_97 rfl (by decide) ?_
    refine r_getr (q := 104) f_260_98 rfl (by decide) (Or.inl rfl) rfl ?_
    refine r_sipush f_260_101 (by decide) ?_
    refine r_iaload (n := 3000) (v := h 104 2000) f_260_104 ⟨rfl, rfl⟩ (by decide) rfl ?_
    refine r_iconst f_260_105 (by decide) ?_
    refine r_isub (u := (h 104 2000) - 1) f_260_106 rfl (o2 c1) ?_
    exact r_callv (as := [vr 103, vi x2, vi 0, vi ((h 104 2000) - 1)]) (st' := []) (ls0 := [vr 103, vi x2, vi 0, vi ((h 104 2000) - 1)]) f_260_107 (by decide) rfl rfl (Nat.le_of_ble_eq_true rfl) (Nat.le_of_ble_eq_true rfl) ⟨_, _, rfl, rfl⟩ rfl (k3 c1)

theorem g_M_aThing_110 {Q : PQ} {h : HP} {x1 : Int} {x2 : Int} {s0 : Int} 
    (k1 : ¬ s0 = 0 → Wp true i_M_aThing 117 [vr 103, vi x1, vi x2, vi 0] [] h Q)
    (k2 : s0 = 0 → Q (some (vi 0)) h) :
    Wp true i_M_aThing 110 [vr 103, vi x1, vi x2, vr 9999] [vi s0] h Q := by
  refine r_br (t := 115) f_260_110 rfl cb_ne (fun c1 => ?_) (fun c1 => ?_)
  · refine r_iconst f_260_115 (by decide) ?_
    refine r_istore_n (ls' := [vr 103, vi x1, vi x2, vi 0]) f_260_116 (Nat.le_of_ble_eq_true rfl) rfl ?_
    exact (k1 c1)
  · have c1 := Decidable.not_not.mp c1
    refine r_iconst f_260_113 (by decide) ?_
    exact r_retz f_260_114 rfl (by decide) (k2 c1)

theorem g_M_aThing_117 {Q : PQ} {h : HP} {x1 : Int} {x2 : Int} {x3 : Int} 
    (o1 : x1 ≤ x3 → -2147483648 ≤ x2 + 1 ∧ x2 + 1 ≤ 2147483647)
    (o2 : x1 ≤ x3 → -2147483648 ≤ (h 104 2001) - 1 ∧ (h 104 2001) - 1 ≤ 2147483647)
    (k3 : x1 ≤ x3 → Wp true i_M_number 0 [vr 103, vi (x2 + 1), vi 0, vi ((h 104 2001) - 1)] [] h (fun r h' => Wp true i_M_aThing 204 [vr 103, vi x1, vi x2, vi x3] (r.toList ++ []) h' Q))
    (o4 : ¬ x1 ≤ x3 → ¬ h 103 12 = 3 → -2147483648 ≤ x3 + 1 ∧ x3 + 1 ≤ 2147483647)
    (k5 : ¬ x1 ≤ x3 → ¬ h 103 12 = 3 → Wp true i_M_aThing 117 [vr 103, vi x1, vi x2, vi (x3 + 1)] [] h Q)
    (o6 : ¬ x1 ≤ x3 → h 103 12 = 3 → -2147483648 ≤ 6 * x3 ∧ 6 * x3 ≤ 2147483647)
    (o7 : ¬ x1 ≤ x3 → h 103 12 = 3 → -2147483648 ≤ 2015 + (6 * x3) ∧ 2015 + (6 * x3) ≤ 2147483647)
    (o8 : ¬ x1 ≤ x3 → h 103 12 = 3 → 0 ≤ 2015 + (6 * x3) ∧ 2015 + (6 * x3) < 3000)
    (o9 : ¬ x1 ≤ x3 → h 103 12 = 3 → 0 ≤ x2 ∧ x2 < 3000)
    (o10 : ¬ x1 ≤ x3 → h 103 12 = 3 → ¬ h 104 (2015 + (6 * x3)).toNat = h 104 x2.toNat → -2147483648 ≤ x3 + 1 ∧ x3 + 1 ≤ 2147483647)
    (k11 : ¬ x1 ≤ x3 → h 103 12 = 3 → ¬ h 104 (2015 + (6 * x3)).toNat = h 104 x2.toNat → Wp true i_M_aThing 117 [vr 103, vi x1, vi x2, vi (x3 + 1)] [] h Q)
    (o12 : ¬ x1 ≤ x3 → h 103 12 = 3 → h 104 (2015 + (6 * x3)).toNat = h 104 x2.toNat → -2147483648 ≤ (2015 + (6 * x3)) + 1 ∧ (2015 + (6 * x3)) + 1 ≤ 2147483647)
    (o13 : ¬ x1 ≤ x3 → h 103 12 = 3 → h 104 (2015 + (6 * x3)).toNat = h 104 x2.toNat → 0 ≤ (2015 + (6 * x3)) + 1 ∧ (2015 + (6 * x3)) + 1 < 3000)
    (o14 : ¬ x1 ≤ x3 → h 103 12 = 3 → h 104 (2015 + (6 * x3)).toNat = h 104 x2.toNat → ¬ h 104 ((2015 + (6 * x3)) + 1).toNat = h 103 15 → -2147483648 ≤ x3 + 1 ∧ x3 + 1 ≤ 2147483647)
    (k15 : ¬ x1 ≤ x3 → h 103 12 = 3 → h 104 (2015 + (6 * x3)).toNat = h 104 x2.toNat → ¬ h 104 ((2015 + (6 * x3)) + 1).toNat = h 103 15 → Wp true i_M_aThing 117 [vr 103, vi x1, vi x2, vi (x3 + 1)] [] h Q)
    (k16 : ¬ x1 ≤ x3 → h 103 12 = 3 → h 104 (2015 + (6 * x3)).toNat = h 104 x2.toNat → h 104 ((2015 + (6 * x3)) + 1).toNat = h 103 15 → Wp true i_M_fails 0 [vr 103, vi 5] [] h (fun r h' => Wp true i_M_aThing 179 [vr 103, vi x1, vi x2, vi x3] (r.toList ++ []) h' Q)) :
    Wp true i_M_aThing 117 [vr 103, vi x1, vi x2, vi x3] [] h Q := by
  refine r_iload_n (v := x3) f_260_117 rfl ?_
  refine r_iload_n (v := x1) f_260_118 rfl ?_
  refine r_br2 (t := 186) f_260_119 rfl cb_ge (fun c1 => ?_) (fun c1 => ?_)
  · refine r_aload_n (v := 103) f_260_186 rfl (by decide) ?_
    refine r_iload_n (v := x2) f_260_187 rfl ?_
    refine r_iconst f_260_188 (by decide) ?_
    refine r_iadd (u := x2 + 1) f_260_189 rfl (o1 c1) ?_
    refine r_iconst f_260_190 (by decide) ?_
    refine r_aload_n (v := 103) f_260_191 rfl (by decide) ?_
    refine r_getr (q := 104) f_260_192 rfl (by decide) (Or.inl rfl) rfl ?_
    refine r_sipush f_260_195 (by decide) ?_
    refine r_iaload (n := 3000) (v := h 104 2001) f_260_198 ⟨rfl, rfl⟩ (by decide) rfl ?_
    refine r_iconst f_260_199 (by decide) ?_
    refine r_isub (u := (h 104 2001) - 1) f_260_200 rfl (o2 c1) ?_
    exact r_callv (as := [vr 103, vi (x2 + 1), vi 0, vi ((h 104 2001) - 1)]) (st' := []) (ls0 := [vr 103, vi (x2 + 1), vi 0, vi ((h 104 2001) - 1)]) f_260_201 (by decide) rfl rfl (Nat.le_of_ble_eq_true rfl) (Nat.le_of_ble_eq_true rfl) ⟨_, _, rfl, rfl⟩ rfl (k3 c1)
  · refine r_aload_n (v := 103) f_260_122 rfl (by decide) ?_
    refine r_geti (v := h 103 12) f_260_123 rfl (by decide) rfl ?_
    refine r_iconst f_260_126 (by decide) ?_
    refine r_br2 (t := 180) f_260_127 rfl cb_ne (fun c2 => ?_) (fun c2 => ?_)
    · refine r_iinc (v := x3) (w := x3 + 1) (ls' := [vr 103, vi x1, vi x2, vi (x3 + 1)]) f_260_180 rfl rfl (o4 c1 c2) rfl ?_
      refine r_goto (t := 117) f_260_183 rfl ?_
      exact (k5 c1 c2)
    · have c2 := Decidable.not_not.mp c2
      refine r_aload_n (v := 103) f_260_130 rfl (by decide) ?_
      refine r_getr (q := 104) f_260_131 rfl (by decide) (Or.inl rfl) rfl ?_
      refine r_sipush f_260_134 (by decide) ?_
      refine r_bipush f_260_137 (by decide) ?_
      refine r_iload_n (v := x3) f_260_139 rfl ?_
      refine r_imul (u := 6 * x3) f_260_140 rfl (o6 c1 c2) ?_
      refine r_iadd (u := 2015 + (6 * x3)) f_260_141 rfl (o7 c1 c2) ?_
      refine r_iaload (n := 3000) (v := h 104 (2015 + (6 * x3)).toNat) f_260_142 ⟨rfl, rfl⟩ (o8 c1 c2) rfl ?_
      refine r_aload_n (v := 103) f_260_143 rfl (by decide) ?_
      refine r_getr (q := 104) f_260_144 rfl (by decide) (Or.inl rfl) rfl ?_
      refine r_iload_n (v := x2) f_260_147 rfl ?_
      refine r_iaload (n := 3000) (v := h 104 x2.toNat) f_260_148 ⟨rfl, rfl⟩ (o9 c1 c2) rfl ?_
      refine r_br2 (t := 180) f_260_149 rfl cb_ne (fun c3 => ?_) (fun c3 => ?_)
      · refine r_iinc (v := x3) (w := x3 + 1) (ls' := [vr 103, vi x1, vi x2, vi (x3 + 1)]) f_260_180 rfl rfl (o10 c1 c2 c3) rfl ?_
        refine r_goto (t := 117) f_260_183 rfl ?_
        exact (k11 c1 c2 c3)
      · have c3 := Decidable.not_not.mp c3
        refine r_aload_n (v := 103) f_260_152 rfl (by decide) ?_
        refine r_getr (q := 104) f_260_153 rfl (by decide) (Or.inl rfl) rfl ?_
        refine r_sipush f_260_156 (by decide) ?_
        refine r_bipush f_260_159 (by decide) ?_
        refine r_iload_n (v := x3) f_260_161 rfl ?_
        refine r_imul (u := 6 * x3) f_260_162 rfl (o6 c1 c2) ?_
        refine r_iadd (u := 2015 + (6 * x3)) f_260_163 rfl (o7 c1 c2) ?_
        refine r_iconst f_260_164 (by decide) ?_
        refine r_iadd (u := (2015 + (6 * x3)) + 1) f_260_165 rfl (o12 c1 c2 c3) ?_
        refine r_iaload (n := 3000) (v := h 104 ((2015 + (6 * x3)) + 1).toNat) f_260_166 ⟨rfl, rfl⟩ (o13 c1 c2 c3) rfl ?_
        refine r_aload_n (v := 103) f_260_167 rfl (by decide) ?_
        refine r_geti (v := h 103 15) f_260_168 rfl (by decide) rfl ?_
        refine r_br2 (t := 180) f_260_171 rfl cb_ne (fun c4 => ?_) (fun c4 => ?_)
        · refine r_iinc (v := x3) (w := x3 + 1) (ls' := [vr 103, vi x1, vi x2, vi (x3 + 1)]) f_260_180 rfl rfl (o14 c1 c2 c3 c4) rfl ?_
          refine r_goto (t := 117) f_260_183 rfl ?_
          exact (k15 c1 c2 c3 c4)
        · have c4 := Decidable.not_not.mp c4
          refine r_aload_n (v := 103) f_260_174 rfl (by decide) ?_
          refine r_iconst f_260_175 (by decide) ?_
          exact r_callv (as := [vr 103, vi 5]) (st' := []) (ls0 := [vr 103, vi 5]) f_260_176 (by decide) rfl rfl (Nat.le_of_ble_eq_true rfl) (Nat.le_of_ble_eq_true rfl) ⟨_, _, rfl, rfl⟩ rfl (k16 c1 c2 c3 c4)

theorem g_M_aThing_179 {Q : PQ} {h : HP} {x1 : Int} {x2 : Int} {x3 : Int} {s0 : Int} 
    (o1 : s0 = 0 ∨ s0 = 1)
    (k2 : Q (some (vi s0)) h) :
    Wp true i_M_aThing 179 [vr 103, vi x1, vi x2, vi x3] [vi s0] h Q := by
  exact r_retz f_260_179 rfl o1 k2

theorem g_M_aThing_204 {Q : PQ} {h : HP} {x1 : Int} {x2 : Int} {x3 : Int} {s0 : Int} 
    (o1 : ¬ s0 = 0 → -2147483648 ≤ x2 + 4 ∧ x2 + 4 ≤ 2147483647)
    (o2 : ¬ s0 = 0 → 0 ≤ x2 + 4 ∧ x2 + 4 < 3000)
    (k3 : ¬ s0 = 0 → Wp true i_M_wantWord 0 [vr 103, vr 2001, vi 6] [] (hs h 104 (x2 + 4).toNat (-1)) (fun r h' => Wp true i_M_aThing 226 [vr 103, vi x1, vi x2, vi x3] (r.toList ++ []) h' Q))
    (k4 : s0 = 0 → Q (some (vi 0)) h) :
    Wp true i_M_aThing 204 [vr 103, vi x1, vi x2, vi x3] [vi s0] h Q := by
  refine r_br (t := 209) f_260_204 rfl cb_ne (fun c1 => ?_) (fun c1 => ?_)
  · refine r_aload_n (v := 103) f_260_209 rfl (by decide) ?_
    refine r_getr (q := 104) f_260_210 rfl (by decide) (Or.inl rfl) rfl ?_
    refine r_iload_n (v := x2) f_260_213 rfl ?_
    refine r_iconst f_260_214 (by decide) ?_
    refine r_iadd (u := x2 + 4) f_260_215 rfl (o1 c1) ?_
    refine r_iconst f_260_216 (by decide) ?_
    refine r_iastore (n := 3000) f_260_217 ⟨rfl, rfl⟩ (o2 c1) ?_
    refine r_aload_n (v := 103) f_260_218 rfl (by decide) ?_
    refine r_ldcS f_260_219 (by decide) ?_
    refine r_bipush f_260_221 (by decide) ?_
    exact r_callv (as := [vr 103, vr 2001, vi 6]) (st' := []) (ls0 := [vr 103, vr 2001, vi 6]) f_260_223 (by decide) rfl rfl (Nat.le_of_ble_eq_true rfl) (Nat.le_of_ble_eq_true rfl) ⟨_, _, rfl, rfl⟩ rfl (k3 c1)
  · have c1 := Decidable.not_not.mp c1
    refine r_iconst f_260_207 (by decide) ?_
    exact r_retz f_260_208 rfl (by decide) (k4 c1)

theorem g_M_aThing_226 {Q : PQ} {h : HP} {x1 : Int} {x2 : Int} {x3 : Int} {s0 : Int} 
    (k1 : s0 = 0 → Q (some (vi 0)) h)
    (o2 : ¬ s0 = 0 → -2147483648 ≤ x2 + 2 ∧ x2 + 2 ≤ 2147483647)
    (k3 : ¬ s0 = 0 → Wp true i_M_number 0 [vr 103, vi (x2 + 2), vi 0, vi 99] [] h (fun r h' => Wp true i_M_aThing 239 [vr 103, vi x1, vi x2, vi x3] (r.toList ++ []) h' Q)) :
    Wp true i_M_aThing 226 [vr 103, vi x1, vi x2, vi x3] [vi s0] h Q := by
  refine r_br (t := 278) f_260_226 rfl cb_eq (fun c1 => ?_) (fun c1 => ?_)
  · refine r_iconst f_260_278 (by decide) ?_
    exact r_retz f_260_279 rfl (by decide) (k1 c1)
  · refine r_aload_n (v := 103) f_260_229 rfl (by decide) ?_
    refine r_iload_n (v := x2) f_260_230 rfl ?_
    refine r_iconst f_260_231 (by decide) ?_
    refine r_iadd (u := x2 + 2) f_260_232 rfl (o2 c1) ?_
    refine r_iconst f_260_233 (by decide) ?_
    refine r_bipush f_260_234 (by decide) ?_
    exact r_callv (as := [vr 103, vi (x2 + 2), vi 0, vi 99]) (st' := []) (ls0 := [vr 103, vi (x2 + 2), vi 0, vi 99]) f_260_236 (by decide) rfl rfl (Nat.le_of_ble_eq_true rfl) (Nat.le_of_ble_eq_true rfl) ⟨_, _, rfl, rfl⟩ rfl (k3 c1)

theorem g_M_aThing_239 {Q : PQ} {h : HP} {x1 : Int} {x2 : Int} {x3 : Int} {s0 : Int} 
    (k1 : s0 = 0 → Q (some (vi 0)) h)
    (o2 : ¬ s0 = 0 → -2147483648 ≤ x2 + 2 ∧ x2 + 2 ≤ 2147483647)
    (o3 : ¬ s0 = 0 → -2147483648 ≤ (x2 + 2) + 1 ∧ (x2 + 2) + 1 ≤ 2147483647)
    (k4 : ¬ s0 = 0 → Wp true i_M_number 0 [vr 103, vi ((x2 + 2) + 1), vi 0, vi 99] [] h (fun r h' => Wp true i_M_aThing 254 [vr 103, vi x1, vi x2, vi x3] (r.toList ++ []) h' Q)) :
    Wp true i_M_aThing 239 [vr 103, vi x1, vi x2, vi x3] [vi s0] h Q := by
  refine r_br (t := 278) f_260_239 rfl cb_eq (fun c1 => ?_) (fun c1 => ?_)
  · refine r_iconst f_260_278 (by decide) ?_
    exact r_retz f_260_279 rfl (by decide) (k1 c1)
  · refine r_aload_n (v := 103) f_260_242 rfl (by decide) ?_
    refine r_iload_n (v := x2) f_260_243 rfl ?_
    refine r_iconst f_260_244 (by decide) ?_
    refine r_iadd (u := x2 + 2) f_260_245 rfl (o2 c1) ?_
    refine r_iconst f_260_246 (by decide) ?_
    refine r_iadd (u := (x2 + 2) + 1) f_260_247 rfl (o3 c1) ?_
    refine r_iconst f_260_248 (by decide) ?_
    refine r_bipush f_260_249 (by decide) ?_
    exact r_callv (as := [vr 103, vi ((x2 + 2) + 1), vi 0, vi 99]) (st' := []) (ls0 := [vr 103, vi ((x2 + 2) + 1), vi 0, vi 99]) f_260_251 (by decide) rfl rfl (Nat.le_of_ble_eq_true rfl) (Nat.le_of_ble_eq_true rfl) ⟨_, _, rfl, rfl⟩ rfl (k4 c1)

theorem g_M_aThing_254 {Q : PQ} {h : HP} {x1 : Int} {x2 : Int} {x3 : Int} {s0 : Int} 
    (k1 : s0 = 0 → Q (some (vi 0)) h)
    (k2 : ¬ s0 = 0 → Wp true i_M_isThere 0 [vr 103, vi 7] [] h (fun r h' => Wp true i_M_aThing 263 [vr 103, vi x1, vi x2, vi x3] (r.toList ++ []) h' Q)) :
    Wp true i_M_aThing 254 [vr 103, vi x1, vi x2, vi x3] [vi s0] h Q := by
  refine r_br (t := 278) f_260_254 rfl cb_eq (fun c1 => ?_) (fun c1 => ?_)
  · refine r_iconst f_260_278 (by decide) ?_
    exact r_retz f_260_279 rfl (by decide) (k1 c1)
  · refine r_aload_n (v := 103) f_260_257 rfl (by decide) ?_
    refine r_bipush f_260_258 (by decide) ?_
    exact r_callv (as := [vr 103, vi 7]) (st' := []) (ls0 := [vr 103, vi 7]) f_260_260 (by decide) rfl rfl (Nat.le_of_ble_eq_true rfl) (Nat.le_of_ble_eq_true rfl) ⟨_, _, rfl, rfl⟩ rfl (k2 c1)

theorem g_M_aThing_263 {Q : PQ} {h : HP} {x1 : Int} {x2 : Int} {x3 : Int} {s0 : Int} 
    (o1 : s0 = 0 → -2147483648 ≤ x2 + 5 ∧ x2 + 5 ≤ 2147483647)
    (k2 : s0 = 0 → Wp true i_M_isThere 0 [vr 103, vi 8] [] h (fun r h' => Wp true i_M_aThing 293 [vr 103, vi x1, vi x2, vi x3] (r.toList ++ [vi (x2 + 5), vr 104]) h' Q))
    (o3 : ¬ s0 = 0 → -2147483648 ≤ x2 + 4 ∧ x2 + 4 ≤ 2147483647)
    (k4 : ¬ s0 = 0 → Wp true i_M_number 0 [vr 103, vi (x2 + 4), vi 0, vi 1] [] h (fun r h' => Wp true i_M_aThing 275 [vr 103, vi x1, vi x2, vi x3] (r.toList ++ []) h' Q)) :
    Wp true i_M_aThing 263 [vr 103, vi x1, vi x2, vi x3] [vi s0] h Q := by
  refine r_br (t := 280) f_260_263 rfl cb_eq (fun c1 => ?_) (fun c1 => ?_)
  · refine r_aload_n (v := 103) f_260_280 rfl (by decide) ?_
    refine r_getr (q := 104) f_260_281 rfl (by decide) (Or.inl rfl) rfl ?_
    refine r_iload_n (v := x2) f_260_284 rfl ?_
    refine r_iconst f_260_285 (by decide) ?_
    refine r_iadd (u := x2 + 5) f_260_286 rfl (o1 c1) ?_
    refine r_aload_n (v := 103) f_260_287 rfl (by decide) ?_
    refine r_bipush f_260_288 (by decide) ?_
    exact r_callv (as := [vr 103, vi 8]) (st' := [vi (x2 + 5), vr 104]) (ls0 := [vr 103, vi 8]) f_260_290 (by decide) rfl rfl (Nat.le_of_ble_eq_true rfl) (Nat.le_of_ble_eq_true rfl) ⟨_, _, rfl, rfl⟩ rfl (k2 c1)
  · refine r_aload_n (v := 103) f_260_266 rfl (by decide) ?_
    refine r_iload_n (v := x2) f_260_267 rfl ?_
    refine r_iconst f_260_268 (by decide) ?_
    refine r_iadd (u := x2 + 4) f_260_269 rfl (o3 c1) ?_
    refine r_iconst f_260_270 (by decide) ?_
    refine r_iconst f_260_271 (by decide) ?_
    exact r_callv (as := [vr 103, vi (x2 + 4), vi 0, vi 1]) (st' := []) (ls0 := [vr 103, vi (x2 + 4), vi 0, vi 1]) f_260_272 (by decide) rfl rfl (Nat.le_of_ble_eq_true rfl) (Nat.le_of_ble_eq_true rfl) ⟨_, _, rfl, rfl⟩ rfl (k4 c1)

theorem g_M_aThing_275 {Q : PQ} {h : HP} {x1 : Int} {x2 : Int} {x3 : Int} {s0 : Int} 
    (o1 : ¬ s0 = 0 → -2147483648 ≤ x2 + 5 ∧ x2 + 5 ≤ 2147483647)
    (k2 : ¬ s0 = 0 → Wp true i_M_isThere 0 [vr 103, vi 8] [] h (fun r h' => Wp true i_M_aThing 293 [vr 103, vi x1, vi x2, vi x3] (r.toList ++ [vi (x2 + 5), vr 104]) h' Q))
    (k3 : s0 = 0 → Q (some (vi 0)) h) :
    Wp true i_M_aThing 275 [vr 103, vi x1, vi x2, vi x3] [vi s0] h Q := by
  refine r_br (t := 280) f_260_275 rfl cb_ne (fun c1 => ?_) (fun c1 => ?_)
  · refine r_aload_n (v := 103) f_260_280 rfl (by decide) ?_
    refine r_getr (q := 104) f_260_281 rfl (by decide) (Or.inl rfl) rfl ?_
    refine r_iload_n (v := x2) f_260_284 rfl ?_
    refine r_iconst f_260_285 (by decide) ?_
    refine r_iadd (u := x2 + 5) f_260_286 rfl (o1 c1) ?_
    refine r_aload_n (v := 103) f_260_287 rfl (by decide) ?_
    refine r_bipush f_260_288 (by decide) ?_
    exact r_callv (as := [vr 103, vi 8]) (st' := [vi (x2 + 5), vr 104]) (ls0 := [vr 103, vi 8]) f_260_290 (by decide) rfl rfl (Nat.le_of_ble_eq_true rfl) (Nat.le_of_ble_eq_true rfl) ⟨_, _, rfl, rfl⟩ rfl (k2 c1)
  · have c1 := Decidable.not_not.mp c1
    refine r_iconst f_260_278 (by decide) ?_
    exact r_retz f_260_279 rfl (by decide) (k3 c1)

theorem g_M_aThing_293 {Q : PQ} {h : HP} {x1 : Int} {x2 : Int} {x3 : Int} {s1 : Int} {s2 : Int} 
    (k1 : s2 = 0 → Wp true i_M_aThing 301 [vr 103, vi x1, vi x2, vi x3] [vi 0, vi s1, vr 104] h Q)
    (k2 : ¬ s2 = 0 → Wp true i_M_aThing 301 [vr 103, vi x1, vi x2, vi x3] [vi 1, vi s1, vr 104] h Q) :
    Wp true i_M_aThing 293 [vr 103, vi x1, vi x2, vi x3] [vi s2, vi s1, vr 104] h Q := by
  refine r_br (t := 300) f_260_293 rfl cb_eq (fun c1 => ?_) (fun c1 => ?_)
  · refine r_iconst f_260_300 (by decide) ?_
    exact (k1 c1)
  · refine r_iconst f_260_296 (by decide) ?_
    refine r_goto (t := 301) f_260_297 rfl ?_
    exact (k2 c1)

theorem g_M_aThing_301 {Q : PQ} {h : HP} {x1 : Int} {x2 : Int} {x3 : Int} {s1 : Int} {s2 : Int} 
    (o1 : 0 ≤ s1 ∧ s1 < 3000)
    (o2 : -2147483648 ≤ ((hs h 104 s1.toNat s2) 104 2002) + 1 ∧ ((hs h 104 s1.toNat s2) 104 2002) + 1 ≤ 2147483647)
    (k3 : Q (some (vi 1)) (hs (hs h 104 s1.toNat s2) 104 2002 (((hs h 104 s1.toNat s2) 104 2002) + 1))) :
    Wp true i_M_aThing 301 [vr 103, vi x1, vi x2, vi x3] [vi s2, vi s1, vr 104] h Q := by
  refine r_iastore (n := 3000) f_260_301 ⟨rfl, rfl⟩ o1 ?_
  refine r_aload_n (v := 103) f_260_302 rfl (by decide) ?_
  refine r_getr (q := 104) f_260_303 rfl (by decide) (Or.inl rfl) rfl ?_
  refine r_sipush f_260_306 (by decide) ?_
  refine r_dup2ir f_260_309 ?_
  refine r_iaload (n := 3000) (v := (hs h 104 s1.toNat s2) 104 2002) f_260_310 ⟨rfl, rfl⟩ (by decide) rfl ?_
  refine r_iconst f_260_311 (by decide) ?_
  refine r_iadd (u := ((hs h 104 s1.toNat s2) 104 2002) + 1) f_260_312 rfl o2 ?_
  refine r_iastore (n := 3000) f_260_313 ⟨rfl, rfl⟩ (by decide) ?_
  refine r_iconst f_260_314 (by decide) ?_
  exact r_retz f_260_315 rfl (by decide) k3

theorem g_M_roomPart_0 {Q : PQ} {h : HP}  
    (k1 : Wp true i_M_inWords 0 [vr 103, vr 2001, vr 9999, vr 9999, vr 9999, vr 9999, vr 9999] [] h (fun r h' => Wp true i_M_roomPart 6 [vr 103, vr 9999, vr 9999] (r.toList ++ []) h' Q)) :
    Wp true i_M_roomPart 0 [vr 103, vr 9999, vr 9999] [] h Q := by
  refine r_aload_n (v := 103) f_261_0 rfl (by decide) ?_
  refine r_ldcS f_261_1 (by decide) ?_
  exact r_callv (as := [vr 103, vr 2001]) (st' := []) (ls0 := [vr 103, vr 2001, vr 9999, vr 9999, vr 9999, vr 9999, vr 9999]) f_261_3 (by decide) rfl rfl (Nat.le_of_ble_eq_true rfl) (Nat.le_of_ble_eq_true rfl) ⟨_, _, rfl, rfl⟩ rfl k1

theorem g_M_roomPart_6 {Q : PQ} {h : HP} {s0 : Int} 
    (k1 : s0 < 0 → Wp true i_M_fails 0 [vr 103, vi 2] [] h (fun r h' => Wp true i_M_roomPart 34 [vr 103, vi s0, vr 9999] (r.toList ++ []) h' Q))
    (k2 : ¬ s0 < 0 → 3 < s0 → Wp true i_M_fails 0 [vr 103, vi 2] [] h (fun r h' => Wp true i_M_roomPart 34 [vr 103, vi s0, vr 9999] (r.toList ++ []) h' Q))
    (k3 : ¬ s0 < 0 → ¬ 3 < s0 → s0 = 0 → Wp true i_M_roomPart 35 [vr 103, vi s0, vr 9999] [] h Q)
    (k4 : ¬ s0 < 0 → ¬ 3 < s0 → ¬ s0 = 0 → ¬ o_and (h 103 20) 1 = 0 → Wp true i_M_roomPart 35 [vr 103, vi s0, vr 9999] [] h Q)
    (k5 : ¬ s0 < 0 → ¬ 3 < s0 → ¬ s0 = 0 → o_and (h 103 20) 1 = 0 → Wp true i_M_fails 0 [vr 103, vi 2] [] h (fun r h' => Wp true i_M_roomPart 34 [vr 103, vi s0, vr 9999] (r.toList ++ []) h' Q)) :
    Wp true i_M_roomPart 6 [vr 103, vr 9999, vr 9999] [vi s0] h Q := by
  refine r_istore_n (ls' := [vr 103, vi s0, vr 9999]) f_261_6 (Nat.le_of_ble_eq_true rfl) rfl ?_
  refine r_iload_n (v := s0) f_261_7 rfl ?_
  refine r_br (t := 29) f_261_8 rfl cb_lt (fun c1 => ?_) (fun c1 => ?_)
  · refine r_aload_n (v := 103) f_261_29 rfl (by decide) ?_
    refine r_iconst f_261_30 (by decide) ?_
    exact r_callv (as := [vr 103, vi 2]) (st' := []) (ls0 := [vr 103, vi 2]) f_261_31 (by decide) rfl rfl (Nat.le_of_ble_eq_true rfl) (Nat.le_of_ble_eq_true rfl) ⟨_, _, rfl, rfl⟩ rfl (k1 c1)
  · refine r_iload_n (v := s0) f_261_11 rfl ?_
    refine r_iconst f_261_12 (by decide) ?_
    refine r_br2 (t := 29) f_261_13 rfl cb_gt (fun c2 => ?_) (fun c2 => ?_)
    · refine r_aload_n (v := 103) f_261_29 rfl (by decide) ?_
      refine r_iconst f_261_30 (by decide) ?_
      exact r_callv (as := [vr 103, vi 2]) (st' := []) (ls0 := [vr 103, vi 2]) f_261_31 (by decide) rfl rfl (Nat.le_of_ble_eq_true rfl) (Nat.le_of_ble_eq_true rfl) ⟨_, _, rfl, rfl⟩ rfl (k2 c1 c2)
    · refine r_iload_n (v := s0) f_261_16 rfl ?_
      refine r_br (t := 35) f_261_17 rfl cb_eq (fun c3 => ?_) (fun c3 => ?_)
      · exact (k3 c1 c2 c3)
      · refine r_aload_n (v := 103) f_261_20 rfl (by decide) ?_
        refine r_geti (v := h 103 20) f_261_21 rfl (by decide) rfl ?_
        refine r_iconst f_261_24 (by decide) ?_
        refine r_iand f_261_25 ?_
        refine r_br (t := 35) f_261_26 rfl cb_ne (fun c4 => ?_) (fun c4 => ?_)
        · exact (k4 c1 c2 c3 c4)
        · have c4 := Decidable.not_not.mp c4
          refine r_aload_n (v := 103) f_261_29 rfl (by decide) ?_
          refine r_iconst f_261_30 (by decide) ?_
          exact r_callv (as := [vr 103, vi 2]) (st' := []) (ls0 := [vr 103, vi 2]) f_261_31 (by decide) rfl rfl (Nat.le_of_ble_eq_true rfl) (Nat.le_of_ble_eq_true rfl) ⟨_, _, rfl, rfl⟩ rfl (k5 c1 c2 c3 c4)

theorem g_M_roomPart_34 {Q : PQ} {h : HP} {x1 : Int} {s0 : Int} 
    (o1 : s0 = 0 ∨ s0 = 1)
    (k2 : Q (some (vi s0)) h) :
    Wp true i_M_roomPart 34 [vr 103, vi x1, vr 9999] [vi s0] h Q := by
  exact r_retz f_261_34 rfl o1 k2

theorem g_M_roomPart_35 {Q : PQ} {h : HP} {x1 : Int} 
    (k1 : x1 = 3 → Wp true i_M_roomPart 58 [vr 103, vi x1, vr 9999] [] h Q)
    (k2 : ¬ x1 = 3 → ¬ o_and (o_shr (h 103 20) x1) 1 = 1 → Wp true i_M_roomPart 58 [vr 103, vi x1, vr 9999] [] h Q)
    (k3 : ¬ x1 = 3 → o_and (o_shr (h 103 20) x1) 1 = 1 → Wp true i_M_fails 0 [vr 103, vi 5] [] h (fun r h' => Wp true i_M_roomPart 57 [vr 103, vi x1, vr 9999] (r.toList ++ []) h' Q)) :
    Wp true i_M_roomPart 35 [vr 103, vi x1, vr 9999] [] h Q := by
  refine r_iload_n (v := x1) f_261_35 rfl ?_
  refine r_iconst f_261_36 (by decide) ?_
  refine r_br2 (t := 58) f_261_37 rfl cb_eq (fun c1 => ?_) (fun c1 => ?_)
  · exact (k1 c1)
  · refine r_aload_n (v := 103) f_261_40 rfl (by decide) ?_
    refine r_geti (v := h 103 20) f_261_41 rfl (by decide) rfl ?_
    refine r_iload_n (v := x1) f_261_44 rfl ?_
    refine r_ishr f_261_45 ?_
    refine r_iconst f_261_46 (by decide) ?_
    refine r_iand f_261_47 ?_
    refine r_iconst f_261_48 (by decide) ?_
    refine r_br2 (t := 58) f_261_49 rfl cb_ne (fun c2 => ?_) (fun c2 => ?_)
    · exact (k2 c1 c2)
    · have c2 := Decidable.not_not.mp c2
      refine r_aload_n (v := 103) f_261_52 rfl (by decide) ?_
      refine r_iconst f_261_53 (by decide) ?_
      exact r_callv (as := [vr 103, vi 5]) (st' := []) (ls0 := [vr 103, vi 5]) f_261_54 (by decide) rfl rfl (Nat.le_of_ble_eq_true rfl) (Nat.le_of_ble_eq_true rfl) ⟨_, _, rfl, rfl⟩ rfl (k3 c1 c2)

theorem g_M_roomPart_57 {Q : PQ} {h : HP} {x1 : Int} {s0 : Int} 
    (o1 : s0 = 0 ∨ s0 = 1)
    (k2 : Q (some (vi s0)) h) :
    Wp true i_M_roomPart 57 [vr 103, vi x1, vr 9999] [vi s0] h Q := by
  exact r_retz f_261_57 rfl o1 k2

theorem g_M_roomPart_58 {Q : PQ} {h : HP} {x1 : Int} 
    (k1 : x1 = 0 → Wp true i_M_aRoom 0 [vr 103, vr 9999] [] (hs h 103 20 (o_or (h 103 20) (o_shl 1 x1))) (fun r h' => Wp true i_M_roomPart 100 [vr 103, vi x1, vr 9999] (r.toList ++ []) h' Q))
    (k2 : x1 = 1 → Wp true i_M_aLine 0 [vr 103, vr 9999] [] (hs h 103 20 (o_or (h 103 20) (o_shl 1 x1))) (fun r h' => Wp true i_M_roomPart 108 [vr 103, vi x1, vr 9999] (r.toList ++ []) h' Q))
    (k3 : x1 = 2 → Wp true i_M_ahead 0 [vr 103, vr 9999] [] (hs h 103 20 (o_or (h 103 20) (o_shl 1 x1))) (fun r h' => Wp true i_M_roomPart 116 [vr 103, vi x1, vr 9999] (r.toList ++ []) h' Q))
    (k4 : ¬ x1 = 0 → ¬ x1 = 1 → ¬ x1 = 2 → Wp true i_M_aThing 0 [vr 103, vr 9999, vr 9999, vr 9999] [] (hs h 103 20 (o_or (h 103 20) (o_shl 1 x1))) (fun r h' => Wp true i_M_roomPart 134 [vr 103, vi x1, vr 9999] (r.toList ++ []) h' Q)) :
    Wp true i_M_roomPart 58 [vr 103, vi x1, vr 9999] [] h Q := by
  refine r_aload_n (v := 103) f_261_58 rfl (by decide) ?_
  refine r_dupr f_261_59 ?_
  refine r_geti (v := h 103 20) f_261_60 rfl (by decide) rfl ?_
  refine r_iconst f_261_63 (by decide) ?_
  refine r_iload_n (v := x1) f_261_64 rfl ?_
  refine r_ishl f_261_65 ?_
  refine r_ior f_261_66 ?_
  refine r_puti f_261_67 rfl (by decide) ?_
  refine r_iload_n (v := x1) f_261_70 rfl ?_
  by_cases c1 : x1 = 0
  · refine r_swi (t := 96) f_261_71 0 c1 (by decide) rfl rfl ?_
    refine r_aload_n (v := 103) f_261_96 rfl (by decide) ?_
    exact r_callv (as := [vr 103]) (st' := []) (ls0 := [vr 103, vr 9999]) f_261_97 (by decide) rfl rfl (Nat.le_of_ble_eq_true rfl) (Nat.le_of_ble_eq_true rfl) ⟨_, _, rfl, rfl⟩ rfl (k1 c1)
  by_cases c2 : x1 = 1
  · refine r_swi (t := 104) f_261_71 1 c2 (by decide) rfl rfl ?_
    refine r_aload_n (v := 103) f_261_104 rfl (by decide) ?_
    exact r_callv (as := [vr 103]) (st' := []) (ls0 := [vr 103, vr 9999]) f_261_105 (by decide) rfl rfl (Nat.le_of_ble_eq_true rfl) (Nat.le_of_ble_eq_true rfl) ⟨_, _, rfl, rfl⟩ rfl (k2 c2)
  by_cases c3 : x1 = 2
  · refine r_swi (t := 112) f_261_71 2 c3 (by decide) rfl rfl ?_
    refine r_aload_n (v := 103) f_261_112 rfl (by decide) ?_
    exact r_callv (as := [vr 103]) (st' := []) (ls0 := [vr 103, vr 9999]) f_261_113 (by decide) rfl rfl (Nat.le_of_ble_eq_true rfl) (Nat.le_of_ble_eq_true rfl) ⟨_, _, rfl, rfl⟩ rfl (k3 c3)
  refine r_swo (t := 130) f_261_71 (by omega) rfl ?_
  refine r_aload_n (v := 103) f_261_130 rfl (by decide) ?_
  exact r_callv (as := [vr 103]) (st' := []) (ls0 := [vr 103, vr 9999, vr 9999, vr 9999]) f_261_131 (by decide) rfl rfl (Nat.le_of_ble_eq_true rfl) (Nat.le_of_ble_eq_true rfl) ⟨_, _, rfl, rfl⟩ rfl (k4 c1 c2 c3)

theorem g_M_roomPart_100 {Q : PQ} {h : HP} {x1 : Int} {s0 : Int} 
    (k1 : s0 = 0 → Q (some (vi 0)) h)
    (k2 : ¬ s0 = 0 → Wp true i_M_wantSign 0 [vr 103, vi 59] [] h (fun r h' => Wp true i_M_roomPart 145 [vr 103, vi x1, vi s0] (r.toList ++ []) h' Q)) :
    Wp true i_M_roomPart 100 [vr 103, vi x1, vr 9999] [vi s0] h Q := by
  refine r_istore_n (ls' := [vr 103, vi x1, vi s0]) f_261_100 (Nat.le_of_ble_eq_true rfl) rfl ?_
  refine r_goto (t := 135) f_261_101 rfl ?_
  refine r_iload_n (v := s0) f_261_135 rfl ?_
  refine r_br (t := 152) f_261_136 rfl cb_eq (fun c1 => ?_) (fun c1 => ?_)
  · refine r_iconst f_261_152 (by decide) ?_
    exact r_retz f_261_153 rfl (by decide) (k1 c1)
  · refine r_aload_n (v := 103) f_261_139 rfl (by decide) ?_
    refine r_bipush f_261_140 (by decide) ?_
    exact r_callv (as := [vr 103, vi 59]) (st' := []) (ls0 := [vr 103, vi 59]) f_261_142 (by decide) rfl rfl (Nat.le_of_ble_eq_true rfl) (Nat.le_of_ble_eq_true rfl) ⟨_, _, rfl, rfl⟩ rfl (k2 c1)

theorem g_M_roomPart_108 {Q : PQ} {h : HP} {x1 : Int} {s0 : Int} 
    (k1 : s0 = 0 → Q (some (vi 0)) h)
    (k2 : ¬ s0 = 0 → Wp true i_M_wantSign 0 [vr 103, vi 59] [] h (fun r h' => Wp true i_M_roomPart 145 [vr 103, vi x1, vi s0] (r.toList ++ []) h' Q)) :
    Wp true i_M_roomPart 108 [vr 103, vi x1, vr 9999] [vi s0] h Q := by
  refine r_istore_n (ls' := [vr 103, vi x1, vi s0]) f_261_108 (Nat.le_of_ble_eq_true rfl) rfl ?_
  refine r_goto (t := 135) f_261_109 rfl ?_
  refine r_iload_n (v := s0) f_261_135 rfl ?_
  refine r_br (t := 152) f_261_136 rfl cb_eq (fun c1 => ?_) (fun c1 => ?_)
  · refine r_iconst f_261_152 (by decide) ?_
    exact r_retz f_261_153 rfl (by decide) (k1 c1)
  · refine r_aload_n (v := 103) f_261_139 rfl (by decide) ?_
    refine r_bipush f_261_140 (by decide) ?_
    exact r_callv (as := [vr 103, vi 59]) (st' := []) (ls0 := [vr 103, vi 59]) f_261_142 (by decide) rfl rfl (Nat.le_of_ble_eq_true rfl) (Nat.le_of_ble_eq_true rfl) ⟨_, _, rfl, rfl⟩ rfl (k2 c1)

theorem g_M_roomPart_116 {Q : PQ} {h : HP} {x1 : Int} 
    (k1 : Wp true i_M_number 0 [vr 103, vi 2003, vi 0, vi 9] [] h (fun r h' => Wp true i_M_roomPart 126 [vr 103, vi x1, vr 9999] (r.toList ++ []) h' Q)) :
    Wp true i_M_roomPart 116 [vr 103, vi x1, vr 9999] [] h Q := by
  refine r_aload_n (v := 103) f_261_116 rfl (by decide) ?_
  refine r_sipush f_261_117 (by decide) ?_
  refine r_iconst f_261_120 (by decide) ?_
  refine r_bipush f_261_121 (by decide) ?_
  exact r_callv (as := [vr 103, vi 2003, vi 0, vi 9]) (st' := []) (ls0 := [vr 103, vi 2003, vi 0, vi 9]) f_261_123 (by decide) rfl rfl (Nat.le_of_ble_eq_true rfl) (Nat.le_of_ble_eq_true rfl) ⟨_, _, rfl, rfl⟩ rfl k1

theorem g_M_roomPart_126 {Q : PQ} {h : HP} {x1 : Int} {s0 : Int} 
    (k1 : s0 = 0 → Q (some (vi 0)) h)
    (k2 : ¬ s0 = 0 → Wp true i_M_wantSign 0 [vr 103, vi 59] [] h (fun r h' => Wp true i_M_roomPart 145 [vr 103, vi x1, vi s0] (r.toList ++ []) h' Q)) :
    Wp true i_M_roomPart 126 [vr 103, vi x1, vr 9999] [vi s0] h Q := by
  refine r_istore_n (ls' := [vr 103, vi x1, vi s0]) f_261_126 (Nat.le_of_ble_eq_true rfl) rfl ?_
  refine r_goto (t := 135) f_261_127 rfl ?_
  refine r_iload_n (v := s0) f_261_135 rfl ?_
  refine r_br (t := 152) f_261_136 rfl cb_eq (fun c1 => ?_) (fun c1 => ?_)
  · refine r_iconst f_261_152 (by decide) ?_
    exact r_retz f_261_153 rfl (by decide) (k1 c1)
  · refine r_aload_n (v := 103) f_261_139 rfl (by decide) ?_
    refine r_bipush f_261_140 (by decide) ?_
    exact r_callv (as := [vr 103, vi 59]) (st' := []) (ls0 := [vr 103, vi 59]) f_261_142 (by decide) rfl rfl (Nat.le_of_ble_eq_true rfl) (Nat.le_of_ble_eq_true rfl) ⟨_, _, rfl, rfl⟩ rfl (k2 c1)

theorem g_M_roomPart_134 {Q : PQ} {h : HP} {x1 : Int} {s0 : Int} 
    (k1 : s0 = 0 → Q (some (vi 0)) h)
    (k2 : ¬ s0 = 0 → Wp true i_M_wantSign 0 [vr 103, vi 59] [] h (fun r h' => Wp true i_M_roomPart 145 [vr 103, vi x1, vi s0] (r.toList ++ []) h' Q)) :
    Wp true i_M_roomPart 134 [vr 103, vi x1, vr 9999] [vi s0] h Q := by
  refine r_istore_n (ls' := [vr 103, vi x1, vi s0]) f_261_134 (Nat.le_of_ble_eq_true rfl) rfl ?_
  refine r_iload_n (v := s0) f_261_135 rfl ?_
  refine r_br (t := 152) f_261_136 rfl cb_eq (fun c1 => ?_) (fun c1 => ?_)
  · refine r_iconst f_261_152 (by decide) ?_
    exact r_retz f_261_153 rfl (by decide) (k1 c1)
  · refine r_aload_n (v := 103) f_261_139 rfl (by decide) ?_
    refine r_bipush f_261_140 (by decide) ?_
    exact r_callv (as := [vr 103, vi 59]) (st' := []) (ls0 := [vr 103, vi 59]) f_261_142 (by decide) rfl rfl (Nat.le_of_ble_eq_true rfl) (Nat.le_of_ble_eq_true rfl) ⟨_, _, rfl, rfl⟩ rfl (k2 c1)

theorem g_M_roomPart_145 {Q : PQ} {h : HP} {x1 : Int} {x2 : Int} {s0 : Int} 
    (k1 : s0 = 0 → Q (some (vi 0)) h)
    (k2 : ¬ s0 = 0 → Q (some (vi 1)) h) :
    Wp true i_M_roomPart 145 [vr 103, vi x1, vi x2] [vi s0] h Q := by
  refine r_br (t := 152) f_261_145 rfl cb_eq (fun c1 => ?_) (fun c1 => ?_)
  · refine r_iconst f_261_152 (by decide) ?_
    exact r_retz f_261_153 rfl (by decide) (k1 c1)
  · refine r_iconst f_261_148 (by decide) ?_
    refine r_goto (t := 153) f_261_149 rfl ?_
    exact r_retz f_261_153 rfl (by decide) (k2 c1)

/-! ===== the reference reads a ROOM ===== -/
def EM (X g : HP) : Prop := (∀ k, k ≠ 103 → g k = X k) ∧ ∀ i, i ∉ TLM → g 103 i = X 103 i
def SMo (B : Bt) (n s : Nat) (X g : HP) : Prop := EM X g ∧ MS B n s g
abbrev KPM : List Nat := [2, 3, 4, 10, 16, 38, 39]
def FrM (H X : HP) : Prop := (∀ k, k ≠ 103 → k ≠ 104 → k ≠ 105 → k ≠ 111 → X k = H k) ∧ (∀ i, i < 2000 → X 104 i = H 104 i) ∧ (∀ i, i < 40 → X 105 i = H 105 i) ∧ (∀ i, i ∈ KPM → X 103 i = H 103 i)
def FXM (H X : HP) : Prop := FrM H X ∧ X 103 18 = 0 ∧ X 103 17 = -1
def FaM (H g : HP) (fk : Int) (fp : Nat) : Prop := FrM H g ∧ g 103 18 = fk ∧ g 103 17 = fp
theorem EM_r {X : HP} : EM X X := ⟨fun _ _ => rfl, fun _ _ => rfl⟩
theorem EM_o {X g f : HP} (e : EM X g) (o : Oth 103 TLM g f) : EM X f := ⟨fun k hk => (o.1 k hk).trans (e.1 k hk), fun i hi => (o.2 i hi).trans (e.2 i hi)⟩
theorem EM_w {X g : HP} {k i : Nat} {v : Int} (e : EM X g) : EM (hs X k i v) (hs g k i v) := by
  refine ⟨fun k' hk' => ?_, fun i' hi' => ?_⟩
  · funext j
    simp only [hs, e.1 k' hk']
  · simp only [hs, e.2 i' hi']
theorem SMo_w {B : Bt} {n s : Nat} {X g : HP} {k i : Nat} {v : Int} (S : SMo B n s X g) (hk : k ≠ 103) (h2 : k ≠ 110) : SMo B n s (hs X k i v) (hs g k i v) :=
  ⟨EM_w S.1, MS_f S.2 (fun _ _ => by rw [hs_ne (fun q => hk q.symm)]) (hs_ne (fun q => h2 q.symm))⟩
theorem SMo_3 {B : Bt} {n s : Nat} {X g : HP} {i : Nat} {v : Int} (S : SMo B n s X g) (hi : i ∉ 11 :: TLM) : SMo B n s (hs X 103 i v) (hs g 103 i v) :=
  ⟨EM_w S.1, MS_f S.2 (fun j hj => by rw [hs_o (Or.inr (fun q => hi (by rw [← q]; exact hj)))]) (hs_ne (by decide))⟩
theorem FrM_r {H : HP} : FrM H H := ⟨fun _ _ _ _ _ => rfl, fun _ _ => rfl, fun _ _ => rfl, fun _ _ => rfl⟩
theorem FrM_4 {H X : HP} {i : Nat} {v : Int} (F : FrM H X) (hi : 2000 ≤ i) : FrM H (hs X 104 i v) :=
  ⟨fun k k1 k2 k3 k4 => by rw [hs_ne k2]; exact F.1 k k1 k2 k3 k4, fun j hj => by rw [hs_o (Or.inr (by omega))]; exact F.2.1 j hj, fun j hj => by rw [hs_ne (by decide)]; exact F.2.2.1 j hj, fun j hj => by rw [hs_ne (by decide)]; exact F.2.2.2 j hj⟩
theorem FrM_5 {H X : HP} {i : Nat} {v : Int} (F : FrM H X) (hi : 40 ≤ i) : FrM H (hs X 105 i v) :=
  ⟨fun k k1 k2 k3 k4 => by rw [hs_ne k3]; exact F.1 k k1 k2 k3 k4, fun j hj => by rw [hs_ne (by decide)]; exact F.2.1 j hj, fun j hj => by rw [hs_o (Or.inr (by omega))]; exact F.2.2.1 j hj, fun j hj => by rw [hs_ne (by decide)]; exact F.2.2.2 j hj⟩
theorem FrM_3 {H X : HP} {i : Nat} {v : Int} (F : FrM H X) (hi : i ∉ KPM) : FrM H (hs X 103 i v) :=
  ⟨fun k k1 k2 k3 k4 => by rw [hs_ne k1]; exact F.1 k k1 k2 k3 k4, fun j hj => by rw [hs_ne (by decide)]; exact F.2.1 j hj, fun j hj => by rw [hs_ne (by decide)]; exact F.2.2.1 j hj, fun j hj => by rw [hs_o (Or.inr (fun q => hi (by rw [← q]; exact hj)))]; exact F.2.2.2 j hj⟩
theorem FrM_1 {H X : HP} {i : Nat} {v : Int} (F : FrM H X) : FrM H (hs X 111 i v) :=
  ⟨fun k k1 k2 k3 k4 => by rw [hs_ne k4]; exact F.1 k k1 k2 k3 k4, fun j hj => by rw [hs_ne (by decide)]; exact F.2.1 j hj, fun j hj => by rw [hs_ne (by decide)]; exact F.2.2.1 j hj, fun j hj => by rw [hs_ne (by decide)]; exact F.2.2.2 j hj⟩
theorem FXM_4 {H X : HP} {i : Nat} {v : Int} (F : FXM H X) (hi : 2000 ≤ i) : FXM H (hs X 104 i v) := ⟨FrM_4 F.1 hi, by rw [hs_ne (by decide)]; exact F.2.1, by rw [hs_ne (by decide)]; exact F.2.2⟩
theorem FXM_5 {H X : HP} {i : Nat} {v : Int} (F : FXM H X) (hi : 40 ≤ i) : FXM H (hs X 105 i v) := ⟨FrM_5 F.1 hi, by rw [hs_ne (by decide)]; exact F.2.1, by rw [hs_ne (by decide)]; exact F.2.2⟩
theorem FXM_1 {H X : HP} {i : Nat} {v : Int} (F : FXM H X) : FXM H (hs X 111 i v) := ⟨FrM_1 F.1, by rw [hs_ne (by decide)]; exact F.2.1, by rw [hs_ne (by decide)]; exact F.2.2⟩
theorem FXM_3 {H X : HP} {i : Nat} {v : Int} (F : FXM H X) (hi : i ∉ 17 :: 18 :: KPM) : FXM H (hs X 103 i v) := by
  have h1 : i ≠ 17 := fun q => hi (by rw [q]; decide)
  have h2 : i ≠ 18 := fun q => hi (by rw [q]; decide)
  exact ⟨FrM_3 F.1 (fun q => hi (List.mem_cons_of_mem _ (List.mem_cons_of_mem _ q))), by rw [hs_o (Or.inr h2.symm)]; exact F.2.1, by rw [hs_o (Or.inr h1.symm)]; exact F.2.2⟩
theorem FaM_of {H X h g : HP} {fk : Int} {fp : Nat} (F : FXM H X) (e : EM X h) (f : FtM h g fk fp) : FaM H g fk fp := by
  have kp : ∀ i, i ∈ KPM → i ≠ 18 ∧ i ≠ 17 ∧ i ∉ TLM := by decide
  refine ⟨⟨fun k k1 k2 k3 k4 => ?_, fun i hi => ?_, fun i hi => ?_, fun i hi => ?_⟩, f.1, f.2.1⟩
  · rw [f.2.2.2 k k1, e.1 k k1]; exact F.1.1 k k1 k2 k3 k4
  · rw [f.2.2.2 104 (by decide), e.1 104 (by decide)]; exact F.1.2.1 i hi
  · rw [f.2.2.2 105 (by decide), e.1 105 (by decide)]; exact F.1.2.2.1 i hi
  · have q := kp i hi
    rw [f.2.2.1 i q.1 q.2.1 q.2.2, e.2 i q.2.2]; exact F.1.2.2.2 i hi
section
variable {Q : PQ} {h H X : HP} {B : Bt} {n s : Nat}
theorem z18 (F : FXM H X) (S : SMo B n s X h) : h 103 18 = 0 := by rw [S.1.2 18 (by decide)]; exact F.2.1
theorem c3_next (S : SMo B n s X h) (k : ∀ g, SMo B n (nx B n s) X g → Q none g) : Wp true i_M_ahead 0 [vr 103, vr 9999] [] h Q :=
  c_M_nx S.2 (fun g S' o => k g ⟨EM_o S.1 o, S'⟩)
theorem c3_fail {x1 : Int} {α : Type} {K : α → Prop} (F : FXM H X) (S : SMo B n s X h) (k : hd (fl B n s x1 : PR α) (fun fk fp => ∀ g, FaM H g fk fp → Q (some (vi 0)) g) K) : Wp true i_M_fails 0 [vr 103, vi x1] [] h Q :=
  c_M_fails S.2 (z18 F S) (hd_m k (fun _ _ q g f => q g (FaM_of F S.1 f)) (fun _ q => q))
theorem c3_word {w : Int} {j : Nat} (F : FXM H X) (S : SMo B n s X h) (hj : j < 22) (ew : w = wmL.getD j 0) (k : hd (sWord B n s j) (fun fk fp => ∀ g, FaM H g fk fp → Q (some (vi 0)) g) (fun s' => ∀ g, SMo B n s' X g → Q (some (vi 1)) g)) : Wp true i_M_wantWord 0 [vr 103, vr 2001, vi w] [] h Q :=
  c_M_wantWord S.2 (z18 F S) hj ew (hd_m k (fun _ _ q g f => q g (FaM_of F S.1 f)) (fun _ q g S' o => q g ⟨EM_o S.1 o, S'⟩))
theorem c3_end (F : FXM H X) (S : SMo B n s X h) (k : hd (sEnd B n s) (fun fk fp => ∀ g, FaM H g fk fp → Q (some (vi 0)) g) (fun s' => ∀ g, SMo B n s' X g → Q (some (vi 1)) g)) : Wp true i_M_wantSign 0 [vr 103, vi 59] [] h Q :=
  c_M_wantEnd S.2 (z18 F S) (hd_m k (fun _ _ q g f => q g (FaM_of F S.1 f)) (fun _ q g S' o => q g ⟨EM_o S.1 o, S'⟩))
theorem c3_num {x1 lo hi : Int} {i : Nat} (F : FXM H X) (S : SMo B n s X h) (ex : x1 = i) (hx : i < 3000) (k : hd (sNum B n s lo hi) (fun fk fp => ∀ g, FaM H g fk fp → Q (some (vi 0)) g) (fun a => lo ≤ a.1 → a.1 ≤ hi → ∀ g, SMo B n a.2 (hs X 104 i a.1) g → Q (some (vi 1)) g)) : Wp true i_M_number 0 [vr 103, vi x1, vi lo, vi hi] [] h Q := by
  subst ex
  refine c_M_number S.2 (z18 F S) (by omega) (hd_m k (fun _ _ q g f => q g (FaM_of F S.1 f)) (fun a q l1 l2 g S' o => q l1 l2 g ⟨EM_o (EM_w S.1) ?_, S'⟩))
  rw [Int.toNat_natCast] at o
  exact o
def DM (X R : HP) (N : NT) : Prop := rmM X 2000 = R ∧ (∀ i : Nat, (i : Int) < R 0 3 → X 105 (40 + i) = nm256 (N i)) ∧ X 104 2007 = -1
theorem DM_0 {R : HP} {N : NT} (D : DM X R N) : X 104 2000 = R 0 0 ∧ X 104 2001 = R 0 1 ∧ X 104 2002 = R 0 3 := by
  rw [← D.1]; exact ⟨rfl, rfl, rfl⟩
theorem bd_a {α β γ : Type} {x : PR α} {f : α → PR β} {g : β → PR γ} : bd (bd x f) g = bd x (fun a => bd (f a) g) := by
  rcases x with ⟨k, p⟩ | a <;> rfl
def sSize0 (B : Bt) (n s : Nat) (R : HP) : PR (Nat × HP) := bd (sNum B n (nx B n s) 1 9) fun a => bd (sWord B n a.2 1) fun s2 => bd (sNum B n s2 1 7) fun b => .inr (b.2, rLay R a.1 b.1)
def sEndR (B : Bt) (n : Nat) (a : Nat × HP) : PR (Nat × HP) := bd (sEnd B n a.1) fun s' => .inr (s', a.2)
theorem sSize_e {R : HP} : sSize B n s R = bd (sSize0 B n s R) (sEndR B n) := by
  unfold sSize sSize0
  rw [bd_a]
  congr 1; funext a
  rw [bd_a]
  congr 1; funext s2
  rw [bd_a]
  rfl
def sBends0 (B : Bt) (n s : Nat) (R : HP) : PR (Nat × HP) := bd (sNum B n (nx B n s) 0 9) fun a => .inr (a.2, hs R 0 2 a.1)
theorem sBends_e {R : HP} : sBends B n s R = bd (sBends0 B n s R) (sEndR B n) := by
  unfold sBends sBends0
  rw [bd_a]
  rfl
def sRest0 (B : Bt) (n s : Nat) (R : HP) : PR (Nat × HP) :=
  bd (sWord B n s 5) fun s2 => bd (sNum B n s2 0 (R 0 0 - 1)) fun c => bd (sRow B n c.2 R c.1) fun r => bd (sWord B n r.2 6) fun s5 =>
  bd (sNum B n s5 0 99) fun w0 => bd (sNum B n w0.2 0 99) fun w1 => bd (sLeg B n w1.2) fun l =>
  .inr ((sBig B n l.2).2, rAdd R c.1 r.1 w0.1 w1.1 l.1 (sBig B n l.2).1)
theorem sRest_e {R : HP} : sRest B n s R = bd (sRest0 B n s R) (sEndR B n) := by
  unfold sRest sRest0
  rw [bd_a]; congr 1; funext a
  rw [bd_a]; congr 1; funext a
  rw [bd_a]; congr 1; funext a
  rw [bd_a]; congr 1; funext a
  rw [bd_a]; congr 1; funext a
  rw [bd_a]; congr 1; funext a
  rw [bd_a]
  rfl
theorem rmM_c {X Y : HP} (e : ∀ i, i < 75 → Y 104 (2000 + i) = X 104 (2000 + i)) (c10 : X 104 2002 ≤ 10) (d7 : X 104 2001 ≤ 7) : rmM Y 2000 = rmM X 2000 := by
  have e1 := e 1 (by decide)
  have e2 := e 2 (by decide)
  have e3 := e 3 (by decide)
  funext k i
  simp only [rmM, e1, e2, e3]
  by_cases k0 : k = 0
  · simp only [k0, if_true]
    by_cases i2 : i < 2
    · rw [if_pos i2, if_pos i2, e i (by omega)]
    · rw [if_neg i2, if_neg i2]
      by_cases i7 : i < 7
      · simp only [i7, if_true, e i (by omega)]
      · simp only [i7, if_false]
  · simp only [if_neg k0]
    by_cases k1 : k = 1
    · simp only [k1, if_true]
      by_cases c : (i : Int) < X 104 (2000 + 1)
      · rw [if_pos c, if_pos c, Nat.add_assoc, e (8 + i) (by have : X 104 (2000 + 1) = X 104 2001 := rfl; omega)]
      · rw [if_neg c, if_neg c]
    · simp only [if_neg k1]
      by_cases c : (i : Int) < X 104 (2000 + 2)
      · rw [if_pos c, if_pos c]
        by_cases k8 : k < 8
        · have : X 104 (2000 + 2) = X 104 2002 := rfl
          rw [if_pos k8, if_pos k8, show 2000 + 15 + 6 * i + (k - 2) = 2000 + (15 + 6 * i + (k - 2)) by omega, e _ (by omega)]
        · rw [if_neg k8, if_neg k8]
      · rw [if_neg c, if_neg c]
theorem DM_lay {R Y : HP} {N : NT} {w d : Int} (D : DM X R N) (W : WR R) (r0 : R 0 1 ≤ 0) (hd : 0 ≤ d ∧ d ≤ 7) (y0 : Y 104 2000 = w) (y1 : Y 104 2001 = d) (yl : ∀ r : Nat, (r : Int) < d → Y 104 (2008 + r) = w / 2) (yo : ∀ i, 2002 ≤ i → i < 2008 → Y 104 i = X 104 i) (y5 : Y 105 = X 105) : DM Y (rLay R w d) N := by
  have t0 : R 0 3 = 0 := by
    have a := W.1
    by_cases q : 0 < R 0 3
    · have := (W.2.2.1 0 (by omega)).2.1
      omega
    · omega
  have x2 : X 104 2002 = 0 := by rw [(DM_0 D).2.2]; exact t0
  refine ⟨?_, fun i hi => ?_, by rw [yo 2007 (by decide) (by decide)]; exact D.2.2⟩
  · rw [← D.1]
    funext k i
    have e1 : Y 104 (2000 + 1) = d := y1
    have e2 : Y 104 (2000 + 2) = 0 := (yo 2002 (by decide) (by decide)).trans x2
    have f2 : X 104 (2000 + 2) = 0 := x2
    have e3 : Y 104 (2000 + 3) = X 104 (2000 + 3) := yo 2003 (by decide) (by decide)
    simp only [rmM, rLay, e1, e2, e3, f2]
    by_cases k0 : k = 0
    · subst k0
      by_cases i0 : i = 0
      · subst i0; simp; exact y0
      · by_cases i1 : i = 1
        · subst i1; simp; exact y1
        · have n2 : ¬ i < 2 := by omega
          by_cases i7 : i < 7
          · have := yo (2000 + i) (by omega) (by omega)
            simp [i0, i1, n2, i7, this]
          · simp [i0, i1, n2, i7]
    · by_cases k1 : k = 1
      · subst k1
        by_cases c : (i : Int) < d
        · simp [c]; exact yl i c
        · simp [c]
      · have n : ¬ (i : Int) < 0 := by omega
        simp [k0, k1, n]
  · have hi : (i : Int) < R 0 3 := hi
    omega
theorem c_M_aRoom {R : HP} {N : NT} (F : FXM H X) (S : SMo B n s X h) (D : DM X R N) (W : WR R) (r0 : R 0 1 ≤ 0) (k : hd (sSize0 B n s R) (fun fk fp => ∀ g, FaM H g fk fp → Q (some (vi 0)) g) (fun a => ∀ Y g, FXM H Y → SMo B n a.1 Y g → DM Y a.2 N → Y 103 20 = X 103 20 → Q (some (vi 1)) g)) : Wp true i_M_aRoom 0 [vr 103, vr 9999] [] h Q := by
  unfold sSize0 at k
  refine g_M_aRoom_0 (c3_next S (fun g1 S1 => g_M_aRoom_4 (c3_num (i := 2000) F S1 rfl (by decide) ?_)))
  refine hd_m (hd_bd.mp k) (fun fk fp q g f => g_M_aRoom_14 (fun _ => q g f) (fun z => absurd rfl z)) (fun a q la ha g2 S2 => ?_)
  have F2 := FXM_4 (i := 2000) (v := a.1) F (by decide)
  refine g_M_aRoom_14 (fun z => absurd z (by decide)) (fun _ => c3_word (j := 1) F2 S2 (by decide) rfl (hd_m (hd_bd.mp q) (fun fk fp q g f => g_M_aRoom_24 (fun _ => q g f) (fun z => absurd rfl z)) (fun s2 q2 g3 S3 => ?_)))
  refine g_M_aRoom_24 (fun z => absurd z (by decide)) (fun _ => c3_num (i := 2001) F2 S3 rfl (by decide) (hd_m (hd_bd.mp q2) (fun fk fp q g f => g_M_aRoom_37 (fun z => absurd rfl z) (fun _ => q g f)) (fun d q3 ld hd4 g4 S4 => ?_)))
  refine g_M_aRoom_37 (fun _ => ?_) (fun z => absurd z (by decide))
  have F3 := FXM_4 (i := 2001) (v := d.1) F2 (by decide)
  have lp : ∀ (m r : Nat) (Y g : HP), (r : Int) + m = d.1 → FXM H Y → SMo B n d.2 Y g → Y 104 2000 = a.1 → Y 104 2001 = d.1 → (∀ i : Nat, i < r → Y 104 (2008 + i) = a.1 / 2) → (∀ i, 2002 ≤ i → i < 2008 → Y 104 i = X 104 i) → Y 105 = X 105 → Y 103 20 = X 103 20 → Wp true i_M_aRoom 44 [vr 103, vi (r : Int)] [] g Q := by
    intro m
    induction m with
    | zero =>
      intro r Y g hr FY SY y0 y1 yl yo y5 yt
      have e1 : g 104 2001 = d.1 := by rw [SY.1.1 104 (by decide)]; exact y1
      refine g_M_aRoom_44 (fun _ => q3 Y g FY SY ?_ yt) (fun c => by omega) (fun c => by omega) (fun c => by omega) (fun c => by omega) (fun c => by omega)
      exact DM_lay D W r0 ⟨by omega, hd4⟩ y0 y1 (fun i hi => yl i (by omega)) yo y5
    | succ m ih =>
      intro r Y g hr FY SY y0 y1 yl yo y5 yt
      have e1 : g 104 2001 = d.1 := by rw [SY.1.1 104 (by decide)]; exact y1
      have e0 : g 104 2000 = a.1 := by rw [SY.1.1 104 (by decide)]; exact y0
      refine g_M_aRoom_44 (fun c => by omega) (fun _ => by omega) (fun _ => by omega) (fun _ => by omega) (fun _ => by omega) (fun _ => ?_)
      rw [e0, show (2008 + (r : Int)).toNat = 2008 + r by omega]
      refine ih (r + 1) (hs Y 104 (2008 + r) (a.1 / 2)) _ (by omega) (FXM_4 FY (by omega)) (SMo_w SY (by decide) (by decide)) ?_ ?_ (fun i hi => ?_) (fun i i1 i2 => ?_) ?_ ?_
      · rw [hs_o (Or.inr (by omega))]; exact y0
      · rw [hs_o (Or.inr (by omega))]; exact y1
      · by_cases z : i = r
        · rw [z, hs_s]
        · rw [hs_o (Or.inr (by omega))]; exact yl i (by omega)
      · rw [hs_o (Or.inr (by omega))]; exact yo i i1 i2
      · rw [hs_ne (by decide)]; exact y5
      · rw [hs_ne (by decide)]; exact yt
  refine lp d.1.toNat 0 _ g4 (by omega) F3 S4 ?_ hs_s (fun i hi => by omega) (fun i i1 i2 => ?_) ?_ ?_
  · rw [hs_o (by decide), hs_s]
  · rw [hs_o (Or.inr (by omega)), hs_o (Or.inr (by omega))]
  · rw [hs_ne (by decide), hs_ne (by decide)]
  · rw [hs_ne (by decide), hs_ne (by decide)]
theorem DM_cut {R : HP} {N : NT} {r : Nat} {v : Int} (D : DM X R N) (hr : (r : Int) < R 0 1) (h7 : R 0 1 ≤ 7) : DM (hs X 104 (2008 + r) v) (hs R 1 r v) N := by
  have x1 := (DM_0 D).2.1
  have e3 : (hs R 1 r v) 0 3 = R 0 3 := hs_o (Or.inl (by decide))
  have o : ∀ i, i ≠ 2008 + r → (hs X 104 (2008 + r) v) 104 i = X 104 i := fun i hi => hs_o (Or.inr hi)
  refine ⟨?_, fun i hi => ?_, by rw [o 2007 (by omega)]; exact D.2.2⟩
  · rw [← D.1]
    funext k i
    by_cases k1 : k = 1
    · subst k1
      by_cases z : i = r
      · subst z
        rw [hs_s]
        show (if (i : Int) < (hs X 104 (2008 + i) v) 104 2001 then (hs X 104 (2008 + i) v) 104 (2008 + i) else 0) = v
        rw [o 2001 (by omega), if_pos (by omega), hs_s]
      · rw [hs_o (Or.inr z)]
        show (if (i : Int) < (hs X 104 (2008 + r) v) 104 2001 then (hs X 104 (2008 + r) v) 104 (2008 + i) else 0) = (if (i : Int) < X 104 2001 then X 104 (2008 + i) else 0)
        rw [o 2001 (by omega), o (2008 + i) (by omega)]
    · rw [hs_o (Or.inl k1)]
      have e2 : (hs X 104 (2008 + r) v) 104 (2000 + 2) = X 104 (2000 + 2) := o _ (by omega)
      have e4 : (hs X 104 (2008 + r) v) 104 (2000 + 3) = X 104 (2000 + 3) := o _ (by omega)
      simp only [rmM, e2, e4, k1, if_false]
      by_cases k0 : k = 0
      · simp only [k0, if_true]
        by_cases i2 : i < 2
        · rw [if_pos i2, if_pos i2, o _ (by omega)]
        · rw [if_neg i2, if_neg i2]
          by_cases i7 : i < 7
          · simp only [i7, if_true, o (2000 + i) (by omega)]
          · simp only [i7, if_false]
      · simp only [if_neg k0]
        rw [o _ (by omega)]
  · rw [e3] at hi
    rw [hs_ne (by decide)]; exact D.2.1 i hi
theorem c_M_aLine {R : HP} {N : NT} (F : FXM H X) (S : SMo B n s X h) (D : DM X R N) (h7 : 0 ≤ R 0 1 ∧ R 0 1 ≤ 7) (k : hd (sCuts B n (R 0 1).toNat 0 (nx B n s) R) (fun fk fp => ∀ g, FaM H g fk fp → Q (some (vi 0)) g) (fun a => ∀ Y g, FXM H Y → SMo B n a.1 Y g → DM Y a.2 N → Y 103 20 = X 103 20 → Q (some (vi 1)) g)) : Wp true i_M_aLine 0 [vr 103, vr 9999] [] h Q := by
  have lp : ∀ (d r s : Nat) (Y g R' : HP), (r : Int) + d = R 0 1 → R' 0 1 = R 0 1 → FXM H Y → SMo B n s Y g → DM Y R' N → Y 103 20 = X 103 20 →
      hd (sCuts B n d r s R') (fun fk fp => ∀ g, FaM H g fk fp → Q (some (vi 0)) g) (fun a => ∀ Y g, FXM H Y → SMo B n a.1 Y g → DM Y a.2 N → Y 103 20 = X 103 20 → Q (some (vi 1)) g) →
      Wp true i_M_aLine 6 [vr 103, vi (r : Int)] [] g Q := by
    intro d
    induction d with
    | zero =>
      intro r s Y g R' hr eR FY SY DY yt kk
      have e1 : g 104 2001 = R 0 1 := by rw [SY.1.1 104 (by decide), (DM_0 DY).2.1, eR]
      exact g_M_aLine_6 (fun _ => kk Y g FY SY DY yt) (fun c => by omega) (fun c => by omega)
    | succ d ih =>
      intro r s Y g R' hr eR FY SY DY yt kk
      have e1 : g 104 2001 = R 0 1 := by rw [SY.1.1 104 (by decide), (DM_0 DY).2.1, eR]
      have e0 : g 104 2000 = R' 0 0 := by rw [SY.1.1 104 (by decide), (DM_0 DY).1]
      refine g_M_aLine_6 (fun c => by omega) (fun c => by omega) (fun _ => ?_)
      rw [e0]
      rw [sCuts] at kk
      refine c3_num (i := 2008 + r) FY SY (by omega) (by omega) (hd_m (hd_bd.mp kk) (fun fk fp q g f => g_M_aLine_36 (fun z => absurd rfl z) (fun z => absurd rfl z) (fun _ => q g f)) (fun a q l1 l2 g' S' => ?_))
      refine g_M_aLine_36 (fun _ => by omega) (fun _ => ?_) (fun z => absurd z (by decide))
      exact ih (r + 1) a.2 _ _ (hs R' 1 r a.1) (by omega) (by rw [hs_o (Or.inl (by decide))]; exact eR) (FXM_4 FY (by omega)) S' (DM_cut DY (by omega) (by omega)) (by rw [hs_ne (by decide)]; exact yt) q
  exact g_M_aLine_0 (c3_next S (fun g1 S1 => g_M_aLine_4 (lp (R 0 1).toNat 0 _ X g1 R (by omega) rfl F S1 D rfl k)))
theorem DM_bend {R : HP} {N : NT} {v : Int} (D : DM X R N) (c10 : R 0 3 ≤ 10) (h7 : R 0 1 ≤ 7) : DM (hs X 104 2003 v) (hs R 0 2 v) N := by
  have e3 : (hs R 0 2 v) 0 3 = R 0 3 := hs_o (by decide)
  have o : ∀ i, i ≠ 2003 → (hs X 104 2003 v) 104 i = X 104 i := fun i hi => hs_o (Or.inr hi)
  refine ⟨?_, fun i hi => ?_, by rw [o 2007 (by omega)]; exact D.2.2⟩
  · rw [← D.1]
    funext k i
    have e1 : (hs X 104 2003 v) 104 (2000 + 1) = X 104 (2000 + 1) := o _ (by omega)
    have e2 : (hs X 104 2003 v) 104 (2000 + 2) = X 104 (2000 + 2) := o _ (by omega)
    by_cases k0 : k = 0
    · subst k0
      by_cases i2 : i = 2
      · subst i2
        rw [hs_s]
        show (hs X 104 2003 v) 104 2003 = v
        exact hs_s
      · rw [hs_o (Or.inr i2)]
        simp only [rmM, if_true, i2, if_false, e2]
        by_cases l2 : i < 2
        · rw [if_pos l2, if_pos l2, o _ (by omega)]
        · rw [if_neg l2, if_neg l2]
          by_cases i3 : i = 3
          · rw [if_pos i3, if_pos i3]
          · rw [if_neg i3, if_neg i3, o _ (by omega)]
    · rw [hs_o (Or.inl k0)]
      simp only [rmM, if_neg k0, e1, e2]
      rw [o (2000 + 8 + i) (by omega), o (2000 + 15 + 6 * i + (k - 2)) (by omega)]
  · rw [e3] at hi
    rw [hs_ne (by decide)]; exact D.2.1 i hi
theorem hs_eq {h : HP} {k i : Nat} {v : Int} (e : h k i = v) : hs h k i v = h := by subst e; exact hs_id
theorem DM_add {R : HP} {N : NT} {c : Nat} {L : List Nat} {co ro w0 w1 l b : Int} (D : DM X R N) (ec : R 0 3 = c) (c10 : c < 10) (d7 : R 0 1 ≤ 7) :
    DM (hs (hs (hs (hs (hs (hs (hs (hs X 105 (40 + c) (nm256 L)) 104 (2015 + 6 * c) co) 104 (2015 + 6 * c + 1) ro) 104 (2015 + 6 * c + 2) w0) 104 (2015 + 6 * c + 3) w1) 104 (2015 + 6 * c + 4) l) 104 (2015 + 6 * c + 5) b) 104 2002 ((c : Int) + 1)) (rAdd R co ro w0 w1 l b) (nAdd N c L) := by
  obtain ⟨Y, eY⟩ : ∃ Y, Y = hs (hs (hs (hs (hs (hs (hs (hs X 105 (40 + c) (nm256 L)) 104 (2015 + 6 * c) co) 104 (2015 + 6 * c + 1) ro) 104 (2015 + 6 * c + 2) w0) 104 (2015 + 6 * c + 3) w1) 104 (2015 + 6 * c + 4) l) 104 (2015 + 6 * c + 5) b) 104 2002 ((c : Int) + 1) := ⟨_, rfl⟩
  rw [← eY]
  have x3 : X 104 2002 = c := by rw [(DM_0 D).2.2]; exact ec
  have y2 : Y 104 2002 = (c : Int) + 1 := by rw [eY]; exact hs_s
  have yo : ∀ i, i ≠ 2002 → ¬ (2015 + 6 * c ≤ i ∧ i ≤ 2015 + 6 * c + 5) → Y 104 i = X 104 i := by
    intro i i1 i2
    rw [eY, hs_o (Or.inr i1), hs_o (Or.inr (by omega)), hs_o (Or.inr (by omega)), hs_o (Or.inr (by omega)), hs_o (Or.inr (by omega)), hs_o (Or.inr (by omega)), hs_o (Or.inr (by omega)), hs_ne (by decide)]
  have v0 : Y 104 (2015 + 6 * c) = co := by rw [eY, hs_o (Or.inr (by omega)), hs_o (Or.inr (by omega)), hs_o (Or.inr (by omega)), hs_o (Or.inr (by omega)), hs_o (Or.inr (by omega)), hs_o (Or.inr (by omega)), hs_s]
  have v1 : Y 104 (2015 + 6 * c + 1) = ro := by rw [eY, hs_o (Or.inr (by omega)), hs_o (Or.inr (by omega)), hs_o (Or.inr (by omega)), hs_o (Or.inr (by omega)), hs_o (Or.inr (by omega)), hs_s]
  have v2 : Y 104 (2015 + 6 * c + 2) = w0 := by rw [eY, hs_o (Or.inr (by omega)), hs_o (Or.inr (by omega)), hs_o (Or.inr (by omega)), hs_o (Or.inr (by omega)), hs_s]
  have v3 : Y 104 (2015 + 6 * c + 3) = w1 := by rw [eY, hs_o (Or.inr (by omega)), hs_o (Or.inr (by omega)), hs_o (Or.inr (by omega)), hs_s]
  have v4 : Y 104 (2015 + 6 * c + 4) = l := by rw [eY, hs_o (Or.inr (by omega)), hs_o (Or.inr (by omega)), hs_s]
  have v5 : Y 104 (2015 + 6 * c + 5) = b := by rw [eY, hs_o (Or.inr (by omega)), hs_s]
  have h5 : ∀ j, Y 105 j = if j = 40 + c then nm256 L else X 105 j := by
    intro j; rw [eY]; simp only [hs]; simp
  refine ⟨?_, fun i hi => ?_, by rw [yo 2007 (by omega) (by omega)]; exact D.2.2⟩
  · rw [← D.1]
    have rec3 : rmM X 2000 0 3 = c := x3
    funext k i
    simp only [rAdd, rec3]
    have e1 : Y 104 (2000 + 1) = X 104 (2000 + 1) := yo _ (by omega) (by omega)
    have e2 : Y 104 (2000 + 2) = (c : Int) + 1 := y2
    have f2 : X 104 (2000 + 2) = (c : Int) := x3
    by_cases k0 : k = 0
    · subst k0
      by_cases i3 : i = 3
      · subst i3
        show Y 104 2002 = _
        rw [y2]; simp
      · rw [if_neg (by omega), if_neg (by omega)]
        simp only [rmM, if_true]
        by_cases l2 : i < 2
        · rw [if_pos l2, if_pos l2, yo _ (by omega) (by omega)]
        · rw [if_neg l2, if_neg l2, if_neg i3, if_neg i3, yo (2000 + 3) (by omega) (by omega)]
          by_cases i2 : i = 2
          · rw [if_pos i2, if_pos i2]
          · rw [if_neg i2, if_neg i2]
            by_cases i7 : i < 7
            · rw [if_pos i7, if_pos i7, yo _ (by omega) (by omega)]
            · rw [if_neg i7, if_neg i7]
    · by_cases k1 : k = 1
      · subst k1
        rw [if_neg (by omega), if_neg (by omega)]
        have x1 : X 104 (2000 + 1) = R 0 1 := (DM_0 D).2.1
        show (if (i : Int) < Y 104 (2000 + 1) then Y 104 (2000 + 8 + i) else 0) = (if (i : Int) < X 104 (2000 + 1) then X 104 (2000 + 8 + i) else 0)
        rw [e1]
        by_cases c1 : (i : Int) < X 104 (2000 + 1)
        · rw [if_pos c1, if_pos c1, yo _ (by omega) (by omega)]
        · rw [if_neg c1, if_neg c1]
      · have rY : rmM Y 2000 k i = (if (i : Int) < (c : Int) + 1 then (if k < 8 then Y 104 (2000 + 15 + 6 * i + (k - 2)) else 0) else 0) := by
          simp only [rmM]
          rw [if_neg k0, if_neg k1, e2]
        have rX : rmM X 2000 k i = (if (i : Int) < (c : Int) then (if k < 8 then X 104 (2000 + 15 + 6 * i + (k - 2)) else 0) else 0) := by
          simp only [rmM]
          rw [if_neg k0, if_neg k1, f2]
        rw [if_neg (by omega), rY]
        by_cases lt : (i : Int) < c
        · rw [if_pos (show (i : Int) < (c : Int) + 1 by omega), if_neg (show ¬ (2 ≤ k ∧ (i : Int) = (c : Int)) by omega), rX, if_pos lt]
          by_cases k8 : k < 8
          · rw [if_pos k8, if_pos k8, yo _ (by omega) (by omega)]
          · rw [if_neg k8, if_neg k8]
        · by_cases eq : (i : Int) = c
          · have ei : i = c := by omega
            subst ei
            rw [if_pos (show (i : Int) < (i : Int) + 1 by omega), if_pos (show 2 ≤ k ∧ (i : Int) = (i : Int) from ⟨by omega, rfl⟩)]
            rcases (show k = 2 ∨ k = 3 ∨ k = 4 ∨ k = 5 ∨ k = 6 ∨ k = 7 ∨ 8 ≤ k by omega) with rfl | rfl | rfl | rfl | rfl | rfl | z
            · show Y 104 (2000 + 15 + 6 * i + (2 - 2)) = co
              rw [show 2000 + 15 + 6 * i + (2 - 2) = 2015 + 6 * i by omega]; exact v0
            · show Y 104 (2000 + 15 + 6 * i + (3 - 2)) = ro
              rw [show 2000 + 15 + 6 * i + (3 - 2) = 2015 + 6 * i + 1 by omega]; exact v1
            · show Y 104 (2000 + 15 + 6 * i + (4 - 2)) = w0
              rw [show 2000 + 15 + 6 * i + (4 - 2) = 2015 + 6 * i + 2 by omega]; exact v2
            · show Y 104 (2000 + 15 + 6 * i + (5 - 2)) = w1
              rw [show 2000 + 15 + 6 * i + (5 - 2) = 2015 + 6 * i + 3 by omega]; exact v3
            · show Y 104 (2000 + 15 + 6 * i + (6 - 2)) = l
              rw [show 2000 + 15 + 6 * i + (6 - 2) = 2015 + 6 * i + 4 by omega]; exact v4
            · show Y 104 (2000 + 15 + 6 * i + (7 - 2)) = b
              rw [show 2000 + 15 + 6 * i + (7 - 2) = 2015 + 6 * i + 5 by omega]; exact v5
            · rw [if_neg (show ¬ k < 8 by omega), if_neg (show ¬ k = 2 by omega), if_neg (show ¬ k = 3 by omega), if_neg (show ¬ k = 4 by omega), if_neg (show ¬ k = 5 by omega), if_neg (show ¬ k = 6 by omega), if_neg (show ¬ k = 7 by omega)]
          · rw [if_neg (show ¬ (i : Int) < (c : Int) + 1 by omega), if_neg (show ¬ (2 ≤ k ∧ (i : Int) = (c : Int)) by omega), rX, if_neg lt]
  · have e3 : rAdd R co ro w0 w1 l b 0 3 = R 0 3 + 1 := rfl
    rw [e3] at hi
    rw [h5]
    unfold nAdd
    by_cases z : i = c
    · rw [if_pos (by omega), if_pos z]
    · rw [if_neg (by omega), if_neg z]; exact D.2.1 i (by omega)
end
