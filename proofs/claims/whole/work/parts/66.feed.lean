theorem g_To_hasSpace_0 {Q : PQ} {h : HP}  
    (o1 : -2147483648 ≤ (h 5 2) + 20 ∧ (h 5 2) + 20 ≤ 2147483647)
    (k2 : 900 < (h 5 2) + 20 → Q (some (vi 0)) h)
    (k3 : ¬ 900 < (h 5 2) + 20 → Q (some (vi 1)) h) :
    Wp true i_To_hasSpace 0 [vr 5] [] h Q := by
  refine r_aload_n (v := 5) f_118_0 rfl (by decide) ?_
  refine r_geti (v := h 5 2) f_118_1 rfl (by decide) rfl ?_
  refine r_bipush f_118_4 (by decide) ?_
  refine r_iadd (u := (h 5 2) + 20) f_118_6 rfl o1 ?_
  refine r_sipush f_118_7 (by decide) ?_
  refine r_br2 (t := 17) f_118_10 rfl cb_gt (fun c1 => ?_) (fun c1 => ?_)
  · refine r_iconst f_118_17 (by decide) ?_
    exact r_retz f_118_18 rfl (by decide) (k2 c1)
  · refine r_iconst f_118_13 (by decide) ?_
    refine r_goto (t := 18) f_118_14 rfl ?_
    exact r_retz f_118_18 rfl (by decide) (k3 c1)

theorem g_To_append_0 {Q : PQ} {h : HP} {x1 : Int} 
    (k1 : Wp true i_To_append 3 [vr 5, vi x1, vi 24] [] h Q) :
    Wp true i_To_append 0 [vr 5, vi x1, vr 9999] [] h Q := by
  refine r_bipush f_119_0 (by decide) ?_
  refine r_istore_n (ls' := [vr 5, vi x1, vi 24]) f_119_2 (Nat.le_of_ble_eq_true rfl) rfl ?_
  exact k1

theorem g_To_append_3 {Q : PQ} {h : HP} {x1 : Int} {x2 : Int} 
    (k1 : x2 < 0 → Q none h)
    (k2 : ¬ x2 < 0 → 900 ≤ h 5 2 → Q none h)
    (o3 : ¬ x2 < 0 → ¬ 900 ≤ h 5 2 → 0 ≤ h 5 2 ∧ h 5 2 < 900)
    (o4 : ¬ x2 < 0 → ¬ 900 ≤ h 5 2 → -128 ≤ w8 (o_shr x1 x2) ∧ w8 (o_shr x1 x2) ≤ 127)
    (o5 : ¬ x2 < 0 → ¬ 900 ≤ h 5 2 → -2147483648 ≤ (h 5 2) + 1 ∧ (h 5 2) + 1 ≤ 2147483647)
    (o6 : ¬ x2 < 0 → ¬ 900 ≤ h 5 2 → -2147483648 ≤ x2 - 8 ∧ x2 - 8 ≤ 2147483647)
    (k7 : ¬ x2 < 0 → ¬ 900 ≤ h 5 2 → Wp true i_To_append 3 [vr 5, vi x1, vi (x2 - 8)] [] (hs (hs h 6 (h 5 2).toNat (w8 (o_shr x1 x2))) 5 2 ((h 5 2) + 1)) Q) :
    Wp true i_To_append 3 [vr 5, vi x1, vi x2] [] h Q := by
  refine r_iload_n (v := x2) f_119_3 rfl ?_
  refine r_br (t := 46) f_119_4 rfl cb_lt (fun c1 => ?_) (fun c1 => ?_)
  · exact r_retv f_119_46 rfl (k1 c1)
  · refine r_aload_n (v := 5) f_119_7 rfl (by decide) ?_
    refine r_geti (v := h 5 2) f_119_8 rfl (by decide) rfl ?_
    refine r_sipush f_119_11 (by decide) ?_
    refine r_br2 (t := 46) f_119_14 rfl cb_ge (fun c2 => ?_) (fun c2 => ?_)
    · exact r_retv f_119_46 rfl (k2 c1 c2)
    · refine r_aload_n (v := 5) f_119_17 rfl (by decide) ?_
      refine r_getr (q := 6) f_119_18 rfl (by decide) (Or.inl rfl) rfl ?_
      refine r_aload_n (v := 5) f_119_21 rfl (by decide) ?_
      refine r_geti (v := h 5 2) f_119_22 rfl (by decide) rfl ?_
      refine r_iload_n (v := x1) f_119_25 rfl ?_
      refine r_iload_n (v := x2) f_119_26 rfl ?_
      refine r_ishr f_119_27 ?_
      refine r_i2b f_119_28 ?_
      refine r_bastore (n := 900) f_119_29 ⟨rfl, rfl⟩ (o3 c1 c2) (o4 c1 c2) ?_
      refine r_aload_n (v := 5) f_119_30 rfl (by decide) ?_
      refine r_dupr f_119_31 ?_
      refine r_geti (v := h 5 2) f_119_32 rfl (by decide) (by simp [hs]) ?_
      refine r_iconst f_119_35 (by decide) ?_
      refine r_iadd (u := (h 5 2) + 1) f_119_36 rfl (o5 c1 c2) ?_
      refine r_puti f_119_37 rfl (by decide) ?_
      refine r_iinc (v := x2) (w := x2 - 8) (ls' := [vr 5, vi x1, vi (x2 - 8)]) f_119_40 rfl (by omega) (o6 c1 c2) rfl ?_
      refine r_goto (t := 3) f_119_43 rfl ?_
      exact (k7 c1 c2)

theorem g_M_four_0 {Q : PQ} {h : HP} {x1 : Int} 
    (k1 : Wp true i_M_four 3 [vr 103, vi x1, vi 24] [] h Q) :
    Wp true i_M_four 0 [vr 103, vi x1, vr 9999] [] h Q := by
  refine r_bipush f_240_0 (by decide) ?_
  refine r_istore_n (ls' := [vr 103, vi x1, vi 24]) f_240_2 (Nat.le_of_ble_eq_true rfl) rfl ?_
  exact k1

theorem g_M_four_3 {Q : PQ} {h : HP} {x1 : Int} {x2 : Int} 
    (k1 : x2 < 0 → Q none h)
    (o2 : ¬ x2 < 0 → 0 ≤ h 103 10 ∧ h 103 10 < 900)
    (o3 : ¬ x2 < 0 → -128 ≤ w8 (o_shr x1 x2) ∧ w8 (o_shr x1 x2) ≤ 127)
    (o4 : ¬ x2 < 0 → -2147483648 ≤ (h 103 10) + 1 ∧ (h 103 10) + 1 ≤ 2147483647)
    (o5 : ¬ x2 < 0 → -2147483648 ≤ x2 - 8 ∧ x2 - 8 ≤ 2147483647)
    (k6 : ¬ x2 < 0 → Wp true i_M_four 3 [vr 103, vi x1, vi (x2 - 8)] [] (hs (hs h 109 (h 103 10).toNat (w8 (o_shr x1 x2))) 103 10 ((h 103 10) + 1)) Q) :
    Wp true i_M_four 3 [vr 103, vi x1, vi x2] [] h Q := by
  refine r_iload_n (v := x2) f_240_3 rfl ?_
  refine r_br (t := 36) f_240_4 rfl cb_lt (fun c1 => ?_) (fun c1 => ?_)
  · exact r_retv f_240_36 rfl (k1 c1)
  · refine r_aload_n (v := 103) f_240_7 rfl (by decide) ?_
    refine r_getr (q := 109) f_240_8 rfl (by decide) (Or.inl rfl) rfl ?_
    refine r_aload_n (v := 103) f_240_11 rfl (by decide) ?_
    refine r_geti (v := h 103 10) f_240_12 rfl (by decide) rfl ?_
    refine r_iload_n (v := x1) f_240_15 rfl ?_
    refine r_iload_n (v := x2) f_240_16 rfl ?_
    refine r_ishr f_240_17 ?_
    refine r_i2b f_240_18 ?_
    refine r_bastore (n := 900) f_240_19 ⟨rfl, rfl⟩ (o2 c1) (o3 c1) ?_
    refine r_aload_n (v := 103) f_240_20 rfl (by decide) ?_
    refine r_dupr f_240_21 ?_
    refine r_geti (v := h 103 10) f_240_22 rfl (by decide) (by simp [hs]) ?_
    refine r_iconst f_240_25 (by decide) ?_
    refine r_iadd (u := (h 103 10) + 1) f_240_26 rfl (o4 c1) ?_
    refine r_puti f_240_27 rfl (by decide) ?_
    refine r_iinc (v := x2) (w := x2 - 8) (ls' := [vr 103, vi x1, vi (x2 - 8)]) f_240_30 rfl (by omega) (o5 c1) rfl ?_
    refine r_goto (t := 3) f_240_33 rfl ?_
    exact (k6 c1)

theorem g_C_feed_0 {Q : PQ} {h : HP} {x1 : Int} {x2 : Int} {x3 : Int} {x4 : Int} {x5 : Int} 
    (k1 : Wp true i_To_hasSpace 0 [vr 5] [] h (fun r h' => Wp true i_C_feed 7 [vr 0, vi x1, vi x2, vi x3, vi x4, vi x5] (r.toList ++ []) h' Q)) :
    Wp true i_C_feed 0 [vr 0, vi x1, vi x2, vi x3, vi x4, vi x5] [] h Q := by
  refine r_aload_n (v := 0) f_149_0 rfl (by decide) ?_
  refine r_getr (q := 5) f_149_1 rfl (by decide) (Or.inl rfl) rfl ?_
  exact r_callv (as := [vr 5]) (st' := []) (ls0 := [vr 5]) f_149_4 (by decide) rfl rfl (Nat.le_of_ble_eq_true rfl) (Nat.le_of_ble_eq_true rfl) ⟨_, _, rfl, rfl⟩ rfl k1

theorem g_C_feed_7 {Q : PQ} {h : HP} {x1 : Int} {x2 : Int} {x3 : Int} {x4 : Int} {x5 : Int} {s0 : Int} 
    (k1 : ¬ s0 = 0 → Wp true i_To_append 0 [vr 5, vi x1, vr 9999] [] h (fun r h' => Wp true i_C_feed 20 [vr 0, vi x1, vi x2, vi x3, vi x4, vi x5] (r.toList ++ []) h' Q))
    (k2 : s0 = 0 → Q (some (vi (-1))) h) :
    Wp true i_C_feed 7 [vr 0, vi x1, vi x2, vi x3, vi x4, vi x5] [vi s0] h Q := by
  refine r_br (t := 12) f_149_7 rfl cb_ne (fun c1 => ?_) (fun c1 => ?_)
  · refine r_aload_n (v := 0) f_149_12 rfl (by decide) ?_
    refine r_getr (q := 5) f_149_13 rfl (by decide) (Or.inl rfl) rfl ?_
    refine r_iload_n (v := x1) f_149_16 rfl ?_
    exact r_callv (as := [vr 5, vi x1]) (st' := []) (ls0 := [vr 5, vi x1, vr 9999]) f_149_17 (by decide) rfl rfl (Nat.le_of_ble_eq_true rfl) (Nat.le_of_ble_eq_true rfl) ⟨_, _, rfl, rfl⟩ rfl (k1 c1)
  · have c1 := Decidable.not_not.mp c1
    refine r_iconst f_149_10 (by decide) ?_
    exact r_reti f_149_11 rfl (k2 c1)

theorem g_C_feed_20 {Q : PQ} {h : HP} {x1 : Int} {x2 : Int} {x3 : Int} {x4 : Int} {x5 : Int} 
    (k1 : Wp true i_To_append 0 [vr 5, vi x2, vr 9999] [] h (fun r h' => Wp true i_C_feed 28 [vr 0, vi x1, vi x2, vi x3, vi x4, vi x5] (r.toList ++ []) h' Q)) :
    Wp true i_C_feed 20 [vr 0, vi x1, vi x2, vi x3, vi x4, vi x5] [] h Q := by
  refine r_aload_n (v := 0) f_149_20 rfl (by decide) ?_
  refine r_getr (q := 5) f_149_21 rfl (by decide) (Or.inl rfl) rfl ?_
  refine r_iload_n (v := x2) f_149_24 rfl ?_
  exact r_callv (as := [vr 5, vi x2]) (st' := []) (ls0 := [vr 5, vi x2, vr 9999]) f_149_25 (by decide) rfl rfl (Nat.le_of_ble_eq_true rfl) (Nat.le_of_ble_eq_true rfl) ⟨_, _, rfl, rfl⟩ rfl k1

theorem g_C_feed_28 {Q : PQ} {h : HP} {x1 : Int} {x2 : Int} {x3 : Int} {x4 : Int} {x5 : Int} 
    (k1 : Wp true i_To_append 0 [vr 5, vi x3, vr 9999] [] h (fun r h' => Wp true i_C_feed 36 [vr 0, vi x1, vi x2, vi x3, vi x4, vi x5] (r.toList ++ []) h' Q)) :
    Wp true i_C_feed 28 [vr 0, vi x1, vi x2, vi x3, vi x4, vi x5] [] h Q := by
  refine r_aload_n (v := 0) f_149_28 rfl (by decide) ?_
  refine r_getr (q := 5) f_149_29 rfl (by decide) (Or.inl rfl) rfl ?_
  refine r_iload_n (v := x3) f_149_32 rfl ?_
  exact r_callv (as := [vr 5, vi x3]) (st' := []) (ls0 := [vr 5, vi x3, vr 9999]) f_149_33 (by decide) rfl rfl (Nat.le_of_ble_eq_true rfl) (Nat.le_of_ble_eq_true rfl) ⟨_, _, rfl, rfl⟩ rfl k1

theorem g_C_feed_36 {Q : PQ} {h : HP} {x1 : Int} {x2 : Int} {x3 : Int} {x4 : Int} {x5 : Int} 
    (k1 : Wp true i_To_append 0 [vr 5, vi x4, vr 9999] [] h (fun r h' => Wp true i_C_feed 45 [vr 0, vi x1, vi x2, vi x3, vi x4, vi x5] (r.toList ++ []) h' Q)) :
    Wp true i_C_feed 36 [vr 0, vi x1, vi x2, vi x3, vi x4, vi x5] [] h Q := by
  refine r_aload_n (v := 0) f_149_36 rfl (by decide) ?_
  refine r_getr (q := 5) f_149_37 rfl (by decide) (Or.inl rfl) rfl ?_
  refine r_iload (v := x4) f_149_40 rfl ?_
  exact r_callv (as := [vr 5, vi x4]) (st' := []) (ls0 := [vr 5, vi x4, vr 9999]) f_149_42 (by decide) rfl rfl (Nat.le_of_ble_eq_true rfl) (Nat.le_of_ble_eq_true rfl) ⟨_, _, rfl, rfl⟩ rfl k1

theorem g_C_feed_45 {Q : PQ} {h : HP} {x1 : Int} {x2 : Int} {x3 : Int} {x4 : Int} {x5 : Int} 
    (k1 : Wp true i_To_append 0 [vr 5, vi x5, vr 9999] [] h (fun r h' => Wp true i_C_feed 54 [vr 0, vi x1, vi x2, vi x3, vi x4, vi x5] (r.toList ++ []) h' Q)) :
    Wp true i_C_feed 45 [vr 0, vi x1, vi x2, vi x3, vi x4, vi x5] [] h Q := by
  refine r_aload_n (v := 0) f_149_45 rfl (by decide) ?_
  refine r_getr (q := 5) f_149_46 rfl (by decide) (Or.inl rfl) rfl ?_
  refine r_iload (v := x5) f_149_49 rfl ?_
  exact r_callv (as := [vr 5, vi x5]) (st' := []) (ls0 := [vr 5, vi x5, vr 9999]) f_149_51 (by decide) rfl rfl (Nat.le_of_ble_eq_true rfl) (Nat.le_of_ble_eq_true rfl) ⟨_, _, rfl, rfl⟩ rfl k1

theorem g_C_feed_54 {Q : PQ} {h : HP} {x1 : Int} {x2 : Int} {x3 : Int} {x4 : Int} {x5 : Int} 
    (k1 : Q (some (vi (h 5 2))) h) :
    Wp true i_C_feed 54 [vr 0, vi x1, vi x2, vi x3, vi x4, vi x5] [] h Q := by
  refine r_aload_n (v := 0) f_149_54 rfl (by decide) ?_
  refine r_getr (q := 5) f_149_55 rfl (by decide) (Or.inl rfl) rfl ?_
  refine r_geti (v := h 5 2) f_149_58 rfl (by decide) rfl ?_
  exact r_reti f_149_61 rfl k1

theorem g_M_feed_0 {Q : PQ} {h : HP} {x1 : Int} {x2 : Int} {x3 : Int} {x4 : Int} {x5 : Int} 
    (o1 : -2147483648 ≤ (h 103 10) + 20 ∧ (h 103 10) + 20 ≤ 2147483647)
    (k2 : (h 103 10) + 20 ≤ 900 → Wp true i_M_four 0 [vr 103, vi x1, vr 9999] [] h (fun r h' => Wp true i_M_feed 20 [vr 103, vi x1, vi x2, vi x3, vi x4, vi x5] (r.toList ++ []) h' Q))
    (k3 : ¬ (h 103 10) + 20 ≤ 900 → Q (some (vi (-1))) h) :
    Wp true i_M_feed 0 [vr 103, vi x1, vi x2, vi x3, vi x4, vi x5] [] h Q := by
  refine r_aload_n (v := 103) f_239_0 rfl (by decide) ?_
  refine r_geti (v := h 103 10) f_239_1 rfl (by decide) rfl ?_
  refine r_bipush f_239_4 (by decide) ?_
  refine r_iadd (u := (h 103 10) + 20) f_239_6 rfl o1 ?_
  refine r_sipush f_239_7 (by decide) ?_
  refine r_br2 (t := 15) f_239_10 rfl cb_le (fun c1 => ?_) (fun c1 => ?_)
  · refine r_aload_n (v := 103) f_239_15 rfl (by decide) ?_
    refine r_iload_n (v := x1) f_239_16 rfl ?_
    exact r_callv (as := [vr 103, vi x1]) (st' := []) (ls0 := [vr 103, vi x1, vr 9999]) f_239_17 (by decide) rfl rfl (Nat.le_of_ble_eq_true rfl) (Nat.le_of_ble_eq_true rfl) ⟨_, _, rfl, rfl⟩ rfl (k2 c1)
  · refine r_iconst f_239_13 (by decide) ?_
    exact r_reti f_239_14 rfl (k3 c1)

theorem g_M_feed_20 {Q : PQ} {h : HP} {x1 : Int} {x2 : Int} {x3 : Int} {x4 : Int} {x5 : Int} 
    (k1 : Wp true i_M_four 0 [vr 103, vi x2, vr 9999] [] h (fun r h' => Wp true i_M_feed 25 [vr 103, vi x1, vi x2, vi x3, vi x4, vi x5] (r.toList ++ []) h' Q)) :
    Wp true i_M_feed 20 [vr 103, vi x1, vi x2, vi x3, vi x4, vi x5] [] h Q := by
  refine r_aload_n (v := 103) f_239_20 rfl (by decide) ?_
  refine r_iload_n (v := x2) f_239_21 rfl ?_
  exact r_callv (as := [vr 103, vi x2]) (st' := []) (ls0 := [vr 103, vi x2, vr 9999]) f_239_22 (by decide) rfl rfl (Nat.le_of_ble_eq_true rfl) (Nat.le_of_ble_eq_true rfl) ⟨_, _, rfl, rfl⟩ rfl k1

theorem g_M_feed_25 {Q : PQ} {h : HP} {x1 : Int} {x2 : Int} {x3 : Int} {x4 : Int} {x5 : Int} 
    (k1 : Wp true i_M_four 0 [vr 103, vi x3, vr 9999] [] h (fun r h' => Wp true i_M_feed 30 [vr 103, vi x1, vi x2, vi x3, vi x4, vi x5] (r.toList ++ []) h' Q)) :
    Wp true i_M_feed 25 [vr 103, vi x1, vi x2, vi x3, vi x4, vi x5] [] h Q := by
  refine r_aload_n (v := 103) f_239_25 rfl (by decide) ?_
  refine r_iload_n (v := x3) f_239_26 rfl ?_
  exact r_callv (as := [vr 103, vi x3]) (st' := []) (ls0 := [vr 103, vi x3, vr 9999]) f_239_27 (by decide) rfl rfl (Nat.le_of_ble_eq_true rfl) (Nat.le_of_ble_eq_true rfl) ⟨_, _, rfl, rfl⟩ rfl k1

theorem g_M_feed_30 {Q : PQ} {h : HP} {x1 : Int} {x2 : Int} {x3 : Int} {x4 : Int} {x5 : Int} 
    (k1 : Wp true i_M_four 0 [vr 103, vi x4, vr 9999] [] h (fun r h' => Wp true i_M_feed 36 [vr 103, vi x1, vi x2, vi x3, vi x4, vi x5] (r.toList ++ []) h' Q)) :
    Wp true i_M_feed 30 [vr 103, vi x1, vi x2, vi x3, vi x4, vi x5] [] h Q := by
  refine r_aload_n (v := 103) f_239_30 rfl (by decide) ?_
  refine r_iload (v := x4) f_239_31 rfl ?_
  exact r_callv (as := [vr 103, vi x4]) (st' := []) (ls0 := [vr 103, vi x4, vr 9999]) f_239_33 (by decide) rfl rfl (Nat.le_of_ble_eq_true rfl) (Nat.le_of_ble_eq_true rfl) ⟨_, _, rfl, rfl⟩ rfl k1

theorem g_M_feed_36 {Q : PQ} {h : HP} {x1 : Int} {x2 : Int} {x3 : Int} {x4 : Int} {x5 : Int} 
    (k1 : Wp true i_M_four 0 [vr 103, vi x5, vr 9999] [] h (fun r h' => Wp true i_M_feed 42 [vr 103, vi x1, vi x2, vi x3, vi x4, vi x5] (r.toList ++ []) h' Q)) :
    Wp true i_M_feed 36 [vr 103, vi x1, vi x2, vi x3, vi x4, vi x5] [] h Q := by
  refine r_aload_n (v := 103) f_239_36 rfl (by decide) ?_
  refine r_iload (v := x5) f_239_37 rfl ?_
  exact r_callv (as := [vr 103, vi x5]) (st' := []) (ls0 := [vr 103, vi x5, vr 9999]) f_239_39 (by decide) rfl rfl (Nat.le_of_ble_eq_true rfl) (Nat.le_of_ble_eq_true rfl) ⟨_, _, rfl, rfl⟩ rfl k1

theorem g_M_feed_42 {Q : PQ} {h : HP} {x1 : Int} {x2 : Int} {x3 : Int} {x4 : Int} {x5 : Int} 
    (k1 : Q (some (vi (h 103 10))) h) :
    Wp true i_M_feed 42 [vr 103, vi x1, vi x2, vi x3, vi x4, vi x5] [] h Q := by
  refine r_aload_n (v := 103) f_239_42 rfl (by decide) ?_
  refine r_geti (v := h 103 10) f_239_43 rfl (by decide) rfl ?_
  exact r_reti f_239_46 rfl k1

theorem g_C_lived_0 {Q : PQ} {h : HP} {x1 : Int} 
    (k1 : (0 ≤ x1 ∧ x1 ≤ 4) → h 99 7 = 0 → Q (some (vi (-1))) (hs h 0 0 6))
    (o2 : (0 ≤ x1 ∧ x1 ≤ 4) → ¬ h 99 7 = 0 → 0 ≤ x1 ∧ x1 < 5)
    (k3 : (0 ≤ x1 ∧ x1 ≤ 4) → ¬ h 99 7 = 0 → Q (some (vi (h 102 x1.toNat))) (hs h 0 0 0))
    (k4 : ¬ (0 ≤ x1 ∧ x1 ≤ 4) → Q (some (vi (-1))) (hs h 0 0 1)) :
    Wp true i_C_lived 0 [vr 0, vi x1] [] h Q := by
  refine r_iload_n (v := x1) f_200_0 rfl ?_
  refine r_iconst f_200_1 (by decide) ?_
  refine r_iconst f_200_2 (by decide) ?_
  refine r_calls (as := [vi x1, vi 0, vi 4]) (st' := []) (ls0 := [vi x1, vi 0, vi 4]) f_200_3 (by decide) (by decide) rfl rfl (Nat.le_of_ble_eq_true rfl) (Nat.le_of_ble_eq_true rfl) rfl ?_
  refine c_C_within  ?_
  show Wp true i_C_lived 6 [vr 0, vi x1] [vi (bi (0 ≤ x1 ∧ x1 ≤ 4))] h Q
  refine r_br (t := 15) f_200_6 rfl cb_bt (fun c1 => ?_) (fun c1 => ?_)
  · refine r_aload_n (v := 0) f_200_15 rfl (by decide) ?_
    refine r_getr (q := 99) f_200_16 rfl (by decide) (Or.inl rfl) rfl ?_
    refine r_geti (v := h 99 7) f_200_19 rfl (by decide) rfl ?_
    refine r_br (t := 41) f_200_22 rfl cb_eq (fun c2 => ?_) (fun c2 => ?_)
    · refine r_aload_n (v := 0) f_200_41 rfl (by decide) ?_
      refine r_bipush f_200_42 (by decide) ?_
      refine r_callv (as := [vr 0, vi 6]) (st' := []) (ls0 := [vr 0, vi 6]) f_200_44 (by decide) rfl rfl (Nat.le_of_ble_eq_true rfl) (Nat.le_of_ble_eq_true rfl) ⟨_, _, rfl, rfl⟩ rfl ?_
      refine c_C_refuse  ?_
      show Wp true i_C_lived 47 [vr 0, vi x1] [vi (-1)] (hs h 0 0 6) Q
      exact r_reti f_200_47 rfl (k1 c1 c2)
    · refine r_aload_n (v := 0) f_200_25 rfl (by decide) ?_
      refine r_aload_n (v := 0) f_200_26 rfl (by decide) ?_
      refine r_getr (q := 99) f_200_27 rfl (by decide) (Or.inl rfl) rfl ?_
      refine r_getr (q := 102) f_200_30 rfl (by decide) (Or.inl rfl) rfl ?_
      refine r_iload_n (v := x1) f_200_33 rfl ?_
      refine r_iaload (n := 5) (v := h 102 x1.toNat) f_200_34 ⟨rfl, rfl⟩ (o2 c1 c2) rfl ?_
      refine r_callv (as := [vr 0, vi (h 102 x1.toNat)]) (st' := []) (ls0 := [vr 0, vi (h 102 x1.toNat)]) f_200_35 (by decide) rfl rfl (Nat.le_of_ble_eq_true rfl) (Nat.le_of_ble_eq_true rfl) ⟨_, _, rfl, rfl⟩ rfl ?_
      refine c_C_answer  ?_
      show Wp true i_C_lived 38 [vr 0, vi x1] [vi (h 102 x1.toNat)] (hs h 0 0 0) Q
      refine r_goto (t := 47) f_200_38 rfl ?_
      exact r_reti f_200_47 rfl (k3 c1 c2)
  · refine r_aload_n (v := 0) f_200_9 rfl (by decide) ?_
    refine r_iconst f_200_10 (by decide) ?_
    refine r_callv (as := [vr 0, vi 1]) (st' := []) (ls0 := [vr 0, vi 1]) f_200_11 (by decide) rfl rfl (Nat.le_of_ble_eq_true rfl) (Nat.le_of_ble_eq_true rfl) ⟨_, _, rfl, rfl⟩ rfl ?_
    refine c_C_refuse  ?_
    show Wp true i_C_lived 14 [vr 0, vi x1] [vi (-1)] (hs h 0 0 1) Q
    exact r_reti f_200_14 rfl (k4 c1)

theorem g_M_lived_0 {Q : PQ} {h : HP} {x1 : Int} 
    (k1 : x1 < 0 → Q (some (vi (-1))) (hs h 103 2 1))
    (k2 : ¬ x1 < 0 → x1 ≤ 4 → h 103 38 = 0 → Q (some (vi (-1))) (hs h 103 2 6))
    (o3 : ¬ x1 < 0 → x1 ≤ 4 → ¬ h 103 38 = 0 → 0 ≤ x1 ∧ x1 < 5)
    (k4 : ¬ x1 < 0 → x1 ≤ 4 → ¬ h 103 38 = 0 → Q (some (vi (h 122 x1.toNat))) (hs h 103 2 0))
    (k5 : ¬ x1 < 0 → ¬ x1 ≤ 4 → Q (some (vi (-1))) (hs h 103 2 1)) :
    Wp true i_M_lived 0 [vr 103, vi x1] [] h Q := by
  refine r_iload_n (v := x1) f_370_0 rfl ?_
  refine r_br (t := 9) f_370_1 rfl cb_lt (fun c1 => ?_) (fun c1 => ?_)
  · refine r_aload_n (v := 103) f_370_9 rfl (by decide) ?_
    refine r_iconst f_370_10 (by decide) ?_
    refine r_callv (as := [vr 103, vi 1]) (st' := []) (ls0 := [vr 103, vi 1]) f_370_11 (by decide) rfl rfl (Nat.le_of_ble_eq_true rfl) (Nat.le_of_ble_eq_true rfl) ⟨_, _, rfl, rfl⟩ rfl ?_
    refine c_M_refuse  ?_
    show Wp true i_M_lived 14 [vr 103, vi x1] [vi (-1)] (hs h 103 2 1) Q
    refine r_goto (t := 43) f_370_14 rfl ?_
    exact r_reti f_370_43 rfl (k1 c1)
  · refine r_iload_n (v := x1) f_370_4 rfl ?_
    refine r_iconst f_370_5 (by decide) ?_
    refine r_br2 (t := 17) f_370_6 rfl cb_le (fun c2 => ?_) (fun c2 => ?_)
    · refine r_aload_n (v := 103) f_370_17 rfl (by decide) ?_
      refine r_geti (v := h 103 38) f_370_18 rfl (by decide) rfl ?_
      refine r_br (t := 37) f_370_21 rfl cb_eq (fun c3 => ?_) (fun c3 => ?_)
      · refine r_aload_n (v := 103) f_370_37 rfl (by decide) ?_
        refine r_bipush f_370_38 (by decide) ?_
        refine r_callv (as := [vr 103, vi 6]) (st' := []) (ls0 := [vr 103, vi 6]) f_370_40 (by decide) rfl rfl (Nat.le_of_ble_eq_true rfl) (Nat.le_of_ble_eq_true rfl) ⟨_, _, rfl, rfl⟩ rfl ?_
        refine c_M_refuse  ?_
        show Wp true i_M_lived 43 [vr 103, vi x1] [vi (-1)] (hs h 103 2 6) Q
        exact r_reti f_370_43 rfl (k2 c1 c2 c3)
      · refine r_aload_n (v := 103) f_370_24 rfl (by decide) ?_
        refine r_aload_n (v := 103) f_370_25 rfl (by decide) ?_
        refine r_getr (q := 122) f_370_26 rfl (by decide) (Or.inl rfl) rfl ?_
        refine r_iload_n (v := x1) f_370_29 rfl ?_
        refine r_iaload (n := 5) (v := h 122 x1.toNat) f_370_30 ⟨rfl, rfl⟩ (o3 c1 c2 c3) rfl ?_
        refine r_callv (as := [vr 103, vi (h 122 x1.toNat)]) (st' := []) (ls0 := [vr 103, vi (h 122 x1.toNat)]) f_370_31 (by decide) rfl rfl (Nat.le_of_ble_eq_true rfl) (Nat.le_of_ble_eq_true rfl) ⟨_, _, rfl, rfl⟩ rfl ?_
        refine c_M_gives  ?_
        show Wp true i_M_lived 34 [vr 103, vi x1] [vi (h 122 x1.toNat)] (hs h 103 2 0) Q
        refine r_goto (t := 43) f_370_34 rfl ?_
        exact r_reti f_370_43 rfl (k4 c1 c2 c3)
    · refine r_aload_n (v := 103) f_370_9 rfl (by decide) ?_
      refine r_iconst f_370_10 (by decide) ?_
      refine r_callv (as := [vr 103, vi 1]) (st' := []) (ls0 := [vr 103, vi 1]) f_370_11 (by decide) rfl rfl (Nat.le_of_ble_eq_true rfl) (Nat.le_of_ble_eq_true rfl) ⟨_, _, rfl, rfl⟩ rfl ?_
      refine c_M_refuse  ?_
      show Wp true i_M_lived 14 [vr 103, vi x1] [vi (-1)] (hs h 103 2 1) Q
      refine r_goto (t := 43) f_370_14 rfl ?_
      exact r_reti f_370_43 rfl (k5 c1 c2)

/-! ===== FEED ===== -/
def apl (k o s : Nat) : HP → List Int → HP
  | h, [] => h
  | h, b :: l => apl k o s (hs (hs h k (h o s).toNat b) o s (h o s + 1)) l
theorem apl_app {k o s : Nat} : ∀ (l l' : List Int) (h : HP), apl k o s h (l ++ l') = apl k o s (apl k o s h l) l'
  | [], _, _ => rfl
  | b :: l, l', h => apl_app l l' _
theorem apl_o {k o s : Nat} (hk : k ≠ o) : ∀ (l : List Int) (h : HP), apl k o s h l o s = h o s + l.length ∧ (∀ i, i ≠ s → apl k o s h l o i = h o i) ∧ (∀ j, j ≠ k → j ≠ o → apl k o s h l j = h j)
  | [], h => ⟨by simp [apl], fun _ _ => rfl, fun _ _ _ => rfl⟩
  | b :: l, h => by
    have ih := apl_o (s := s) hk l (hs (hs h k (h o s).toNat b) o s (h o s + 1))
    refine ⟨?_, fun i hi => ?_, fun j j1 j2 => ?_⟩
    · refine ih.1.trans ?_
      rw [hs_s, List.length_cons]; omega
    · refine (ih.2.1 i hi).trans ?_
      rw [hs_o (Or.inr hi), hs_ne (fun q => hk q.symm)]
    · refine (ih.2.2 j j1 j2).trans ?_
      rw [hs_ne j2, hs_ne j1]
theorem apl_k {k o s : Nat} (hk : k ≠ o) : ∀ (l : List Int) (h : HP) (a p : Nat), h o s = a → apl k o s h l k p = if a ≤ p ∧ p < a + l.length then l.getD (p - a) 0 else h k p
  | [], h, a, p, _ => by
    show h k p = _
    rw [if_neg (by simp only [List.length_nil]; omega)]
  | b :: l, h, a, p, e => by
    have ih := apl_k (s := s) hk l (hs (hs h k (h o s).toNat b) o s (h o s + 1)) (a + 1) p (by rw [hs_s]; omega)
    refine ih.trans ?_
    rw [hs_ne hk, List.length_cons, e, Int.toNat_natCast]
    by_cases z : p = a
    · subst z
      rw [if_neg (by omega), if_pos (by omega), hs_s, Nat.sub_self]
      rfl
    · rw [hs_o (Or.inr z)]
      by_cases y : a + 1 ≤ p ∧ p < a + 1 + l.length
      · rw [if_pos y, if_pos (by omega), show p - a = (p - (a + 1)) + 1 by omega]
        rfl
      · rw [if_neg y, if_neg (by omega)]
def by4 (x : Int) : List Int := [w8 (o_shr x 24), w8 (o_shr x 16), w8 (o_shr x 8), w8 (o_shr x 0)]
theorem w8_rg (z : Int) : -128 ≤ w8 z ∧ w8 z ≤ 127 := by unfold w8; omega
theorem by4_rg {x b : Int} (h : b ∈ by4 x) : -128 ≤ b ∧ b ≤ 127 := by
  unfold by4 at h
  simp only [List.mem_cons, List.not_mem_nil, or_false] at h
  rcases h with rfl | rfl | rfl | rfl <;> exact w8_rg _
theorem c_To_append {Q : PQ} {h : HP} {x1 : Int} (o : 0 ≤ h 5 2 ∧ h 5 2 + 4 ≤ 900) (k : Q none (apl 6 5 2 h (by4 x1))) : Wp true i_To_append 0 [vr 5, vi x1, vr 9999] [] h Q := by
  refine g_To_append_0 ?_
  have st : ∀ (s : Int) (h1 : HP), 0 ≤ s → s ≤ 24 → (0 ≤ h1 5 2 ∧ h1 5 2 < 900) → Wp true i_To_append 3 [vr 5, vi x1, vi (s - 8)] [] (hs (hs h1 6 (h1 5 2).toNat (w8 (o_shr x1 s))) 5 2 (h1 5 2 + 1)) Q → Wp true i_To_append 3 [vr 5, vi x1, vi s] [] h1 Q := by
    intro s h1 s0 s1 o kk
    exact g_To_append_3 (fun q => by omega) (fun _ q => by omega) (fun _ _ => by omega) (fun _ _ => w8_rg _) (fun _ _ => by omega) (fun _ _ => by omega) (fun _ _ => kk)
  have ov : ∀ (h1 : HP) (b : Int), (hs (hs h1 6 (h1 5 2).toNat b) 5 2 (h1 5 2 + 1)) 5 2 = h1 5 2 + 1 := fun _ _ => hs_s
  refine st 24 h (by omega) (by omega) (by omega) ?_
  refine st 16 _ (by omega) (by omega) (by rw [ov]; omega) ?_
  refine st 8 _ (by omega) (by omega) (by rw [ov, ov]; omega) ?_
  refine st 0 _ (by omega) (by omega) (by rw [ov, ov, ov]; omega) ?_
  exact g_To_append_3 (fun _ => k) (fun q => absurd (by decide) q) (fun q => absurd (by decide) q) (fun q => absurd (by decide) q) (fun q => absurd (by decide) q) (fun q => absurd (by decide) q) (fun q => absurd (by decide) q)
theorem c_M_four {Q : PQ} {h : HP} {x1 : Int} (o : 0 ≤ h 103 10 ∧ h 103 10 + 4 ≤ 900) (k : Q none (apl 109 103 10 h (by4 x1))) : Wp true i_M_four 0 [vr 103, vi x1, vr 9999] [] h Q := by
  refine g_M_four_0 ?_
  have st : ∀ (s : Int) (h1 : HP), 0 ≤ s → s ≤ 24 → (0 ≤ h1 103 10 ∧ h1 103 10 < 900) → Wp true i_M_four 3 [vr 103, vi x1, vi (s - 8)] [] (hs (hs h1 109 (h1 103 10).toNat (w8 (o_shr x1 s))) 103 10 (h1 103 10 + 1)) Q → Wp true i_M_four 3 [vr 103, vi x1, vi s] [] h1 Q := by
    intro s h1 s0 s1 o kk
    exact g_M_four_3 (fun q => by omega) (fun _ => by omega) (fun _ => w8_rg _) (fun _ => by omega) (fun _ => by omega) (fun _ => kk)
  have ov : ∀ (h1 : HP) (b : Int), (hs (hs h1 109 (h1 103 10).toNat b) 103 10 (h1 103 10 + 1)) 103 10 = h1 103 10 + 1 := fun _ _ => hs_s
  refine st 24 h (by omega) (by omega) (by omega) ?_
  refine st 16 _ (by omega) (by omega) (by rw [ov]; omega) ?_
  refine st 8 _ (by omega) (by omega) (by rw [ov, ov]; omega) ?_
  refine st 0 _ (by omega) (by omega) (by rw [ov, ov, ov]; omega) ?_
  exact g_M_four_3 (fun _ => k) (fun q => absurd (by decide) q) (fun q => absurd (by decide) q) (fun q => absurd (by decide) q) (fun q => absurd (by decide) q) (fun q => absurd (by decide) q)
theorem A_feed {n : Nat} {h : HP} {x1 x2 x3 x4 x5 : Int} (hR : Rel n h) : Agree n h i_C_feed i_M_feed [vr 0, vi x1, vi x2, vi x3, vi x4, vi x5] [vr 103, vi x1, vi x2, vi x3, vi x4, vi x5] := by
  have T := hR.2.2.2.2.1
  have t1 := T.2.1
  have t2 := T.2.2.1
  by_cases c : h 5 2 + 20 ≤ 900
  · obtain ⟨L, eL⟩ : ∃ L, L = by4 x1 ++ by4 x2 ++ by4 x3 ++ by4 x4 ++ by4 x5 := ⟨_, rfl⟩
    have len : L.length = 20 := by rw [eL]; rfl
    have rg : ∀ b ∈ L, -128 ≤ b ∧ b ≤ 127 := by
      intro b hb
      rw [eL] at hb
      simp only [List.mem_append] at hb
      rcases hb with (((q | q) | q) | q) | q <;> exact by4_rg q
    obtain ⟨a, ea⟩ : ∃ a : Nat, h 5 2 = a := ⟨(h 5 2).toNat, by omega⟩
    have o1 := apl_o (k := 6) (o := 5) (s := 2) (by decide)
    have o2 := apl_o (k := 109) (o := 103) (s := 10) (by decide)
    have four : ∀ x, (by4 x).length = 4 := fun _ => rfl
    refine ⟨vi ((a : Int) + 20), fun h1 => h1 = apl 6 5 2 h L, fun h1 e => ?_, fun Q k => ?_, fun h1 Q e k => ?_⟩
    · subst e
      exact ⟨(o1 L h).2.2 1000 (by decide) (by decide), (o1 L h).2.2 1001 (by decide) (by decide)⟩
    · have k := k _ rfl
      rw [eL, apl_app, apl_app, apl_app, apl_app] at k
      have s1 := (o1 (by4 x1) h).1
      have s2 := (o1 (by4 x2) (apl 6 5 2 h (by4 x1))).1
      have s3 := (o1 (by4 x3) (apl 6 5 2 (apl 6 5 2 h (by4 x1)) (by4 x2))).1
      have s4 := (o1 (by4 x4) (apl 6 5 2 (apl 6 5 2 (apl 6 5 2 h (by4 x1)) (by4 x2)) (by4 x3))).1
      have s5 := (o1 (by4 x5) (apl 6 5 2 (apl 6 5 2 (apl 6 5 2 (apl 6 5 2 h (by4 x1)) (by4 x2)) (by4 x3)) (by4 x4))).1
      rw [four] at s1 s2 s3 s4 s5
      refine g_C_feed_0 (g_To_hasSpace_0 (by omega) (fun q => by omega) (fun _ => ?_))
      refine g_C_feed_7 (fun _ => ?_) (fun q => absurd q (by decide))
      refine c_To_append (by omega) (g_C_feed_20 ?_)
      refine c_To_append (by omega) (g_C_feed_28 ?_)
      refine c_To_append (by omega) (g_C_feed_36 ?_)
      refine c_To_append (by omega) (g_C_feed_45 ?_)
      refine c_To_append (by omega) (g_C_feed_54 ?_)
      rw [show (apl 6 5 2 (apl 6 5 2 (apl 6 5 2 (apl 6 5 2 (apl 6 5 2 h (by4 x1)) (by4 x2)) (by4 x3)) (by4 x4)) (by4 x5)) 5 2 = (a : Int) + 20 by omega]
      exact k
    · subst e
      obtain ⟨g, eg⟩ : ∃ g, g = apl 6 5 2 h L := ⟨_, rfl⟩
      rw [← eg]
      have f1 := o1 L h
      rw [← eg, len] at f1
      have g10 : g 103 10 = a := by rw [f1.2.2 103 (by decide) (by decide)]; omega
      have f2 := o2 L g
      have k := k (apl 109 103 10 g L) ?_ ?_ ?_
      · rw [eL, apl_app, apl_app, apl_app, apl_app] at k
        have s1 := (o2 (by4 x1) g).1
        have s2 := (o2 (by4 x2) (apl 109 103 10 g (by4 x1))).1
        have s3 := (o2 (by4 x3) (apl 109 103 10 (apl 109 103 10 g (by4 x1)) (by4 x2))).1
        have s4 := (o2 (by4 x4) (apl 109 103 10 (apl 109 103 10 (apl 109 103 10 g (by4 x1)) (by4 x2)) (by4 x3))).1
        have s5 := (o2 (by4 x5) (apl 109 103 10 (apl 109 103 10 (apl 109 103 10 (apl 109 103 10 g (by4 x1)) (by4 x2)) (by4 x3)) (by4 x4))).1
        rw [four] at s1 s2 s3 s4 s5
        refine g_M_feed_0 (by omega) (fun _ => ?_) (fun q => by omega)
        refine c_M_four (by omega) (g_M_feed_20 ?_)
        refine c_M_four (by omega) (g_M_feed_25 ?_)
        refine c_M_four (by omega) (g_M_feed_30 ?_)
        refine c_M_four (by omega) (g_M_feed_36 ?_)
        refine c_M_four (by omega) (g_M_feed_42 ?_)
        rw [show (apl 109 103 10 (apl 109 103 10 (apl 109 103 10 (apl 109 103 10 (apl 109 103 10 g (by4 x1)) (by4 x2)) (by4 x3)) (by4 x4)) (by4 x5)) 103 10 = (a : Int) + 20 by omega]
        exact k
      · obtain ⟨b0, b1, b2, b3, b4, b5, b6, b7⟩ := hR
        have ck : ∀ k, k ≠ 5 → k ≠ 6 → k ≠ 103 → k ≠ 109 → apl 109 103 10 g L k = h k := fun k k1 k2 k3 k4 => (f2.2.2 k k4 k3).trans (f1.2.2 k k2 k1)
        have c103 : ∀ i, i ≠ 10 → apl 109 103 10 g L 103 i = h 103 i := fun i hi => (f2.2.1 i hi).trans (by rw [f1.2.2 103 (by decide) (by decide)])
        have c5 : ∀ i, i ≠ 2 → apl 109 103 10 g L 5 i = h 5 i := fun i hi => by rw [f2.2.2 5 (by decide) (by decide)]; exact f1.2.1 i hi
        refine ⟨?_, ?_, ?_, ?_, ?_, ?_, ?_, ?_⟩
        · rw [ck 0 (by decide) (by decide) (by decide) (by decide), c103 2 (by decide)]; exact b0
        · rw [ck 0 (by decide) (by decide) (by decide) (by decide), c103 3 (by decide)]; exact b1
        · rw [ck 0 (by decide) (by decide) (by decide) (by decide), c103 4 (by decide)]; exact b2
        · exact RTray_c b3 (fun k hk => ck k (by omega) (by omega) (by omega) (by omega))
        · have e52 : apl 109 103 10 g L 5 2 = (a : Int) + 20 := by rw [f2.2.2 5 (by decide) (by decide)]; have := f1.1; omega
          have e10 : apl 109 103 10 g L 103 10 = (a : Int) + 20 := by have := f2.1; rw [len] at this; omega
          refine ⟨?_, by rw [e52, e10], by rw [e52]; omega, fun p hp => ?_, ?_, ?_⟩
          · rw [ck 7 (by decide) (by decide) (by decide) (by decide)]; exact b4.1
          · rw [e52] at hp
            have v1 : apl 109 103 10 g L 6 p = if a ≤ p ∧ p < a + L.length then L.getD (p - a) 0 else h 6 p := by
              rw [f2.2.2 6 (by decide) (by decide), eg]
              exact apl_k (by decide) L h a p ea
            have v2 : apl 109 103 10 g L 109 p = if a ≤ p ∧ p < a + L.length then L.getD (p - a) 0 else h 109 p := by
              rw [apl_k (by decide) L g a p g10, f1.2.2 109 (by decide) (by decide)]
            rw [v1, v2]
            by_cases z : a ≤ p ∧ p < a + L.length
            · rw [if_pos z, if_pos z]
              refine ⟨rfl, ?_⟩
              apply rg
              rw [List.getD_eq_getElem?_getD, List.getElem?_eq_getElem (by omega)]
              exact List.getElem_mem _
            · rw [if_neg z, if_neg z]
              exact b4.2.2.2.1 p (by omega)
          · rw [c5 3 (by decide), c103 16 (by decide)]; exact b4.2.2.2.2.1
          · rw [c5 4 (by decide), c103 17 (by decide)]; exact b4.2.2.2.2.2
        · exact Slot_off b5 (by omega) (fun k k1 k2 => ck k (by omega) (by omega) (by omega) (by omega)) (fun k k1 k2 => ck k (by omega) (by omega) (by omega) (by omega)) (fun i i1 i2 => by rw [ck 104 (by decide) (by decide) (by decide) (by decide)]) (fun i i1 i2 => by rw [ck 105 (by decide) (by decide) (by decide) (by decide)])
        · exact RMarks_c b6 (by omega) (by rw [ck 0 (by decide) (by decide) (by decide) (by decide)]) (c103 39 (by decide)) (fun k k1 k2 => ck k (by omega) (by omega) (by omega) (by omega)) (fun i i1 i2 => by rw [ck 104 (by decide) (by decide) (by decide) (by decide)]) (fun i i1 i2 => by rw [ck 105 (by decide) (by decide) (by decide) (by decide)])
        · exact RLived_c b7 (by rw [ck 99 (by decide) (by decide) (by decide) (by decide)]) (c103 38 (by decide)) (fun k hk => ck k (by omega) (by omega) (by omega) (by omega))
      · rw [f2.2.2 1000 (by decide) (by decide), f1.2.2 1000 (by decide) (by decide)]
      · rw [f2.2.2 1001 (by decide) (by decide), f1.2.2 1001 (by decide) (by decide)]
  · refine ⟨vi (-1), fun h1 => h1 = h, fun h1 e => by subst e; exact ⟨rfl, rfl⟩, fun Q k => ?_, fun h1 Q e k => ?_⟩
    · refine g_C_feed_0 (g_To_hasSpace_0 (by omega) (fun _ => ?_) (fun q => by omega))
      exact g_C_feed_7 (fun q => absurd rfl q) (fun _ => k h rfl)
    · subst e
      exact g_M_feed_0 (by omega) (fun q => by omega) (fun _ => k _ (Rel_up hR) rfl rfl)
theorem A_lived {n : Nat} {h : HP} {x1 : Int} (hR : Rel n h) : Agree n h i_C_lived i_M_lived [vr 0, vi x1] [vr 103, vi x1] := by
  have L := hR.2.2.2.2.2.2.2
  have l2 := L.2.1
  by_cases c : 0 ≤ x1 ∧ x1 ≤ 4
  · by_cases z : h 99 7 = 0
    · refine ag_act0 (v := vi (-1)) (st := 6) hR (fun Q k => ?_) (fun g Q e gk k => ?_)
      · exact g_C_lived_0 (fun _ _ => k) (fun _ q => absurd z q) (fun _ q => absurd z q) (fun q => absurd c q)
      · have y : g 103 38 = 0 := by rw [gk 103 (by decide), ← L.1]; exact z
        exact g_M_lived_0 (fun q => by omega) (fun _ _ _ => k) (fun _ _ q => absurd y q) (fun _ _ q => absurd y q) (fun _ q => by omega)
    · have w : h 102 x1.toNat = h 122 x1.toNat := L.2.2 (by omega) _ (by omega)
      refine ag_act0 (v := vi (h 102 x1.toNat)) (st := 0) hR (fun Q k => ?_) (fun g Q e gk k => ?_)
      · exact g_C_lived_0 (fun _ q => absurd q z) (fun _ _ => by omega) (fun _ _ => k) (fun q => absurd c q)
      · have y : ¬ g 103 38 = 0 := by rw [gk 103 (by decide), ← L.1]; exact z
        rw [w, ← gk 122 (by decide)] at k
        exact g_M_lived_0 (fun q => by omega) (fun _ _ q => absurd q y) (fun _ _ _ => by omega) (fun _ _ _ => k) (fun _ q => by omega)
  · refine ag_act0 (v := vi (-1)) (st := 1) hR (fun Q k => ?_) (fun g Q e gk k => ?_)
    · exact g_C_lived_0 (fun q => absurd q c) (fun q => absurd q c) (fun q => absurd q c) (fun _ => k)
    · exact g_M_lived_0 (fun _ => k) (fun _ _ _ => by omega) (fun _ _ _ => by omega) (fun _ _ _ => by omega) (fun _ _ => k)
