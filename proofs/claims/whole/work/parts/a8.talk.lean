theorem g_M_thingTo_0 {Q : PQ} {h : HP} {x1 : Int} 
    (k1 : Wp true i_M_isName 0 [vr 103, vr 2001] [] h (fun r h' => Wp true i_M_thingTo 6 [vr 103, vi x1] (r.toList ++ []) h' Q)) :
    Wp true i_M_thingTo 0 [vr 103, vi x1] [] h Q := by
  refine r_aload_n (v := 103) f_263_0 rfl (by decide) ?_
  refine r_ldcS f_263_1 (by decide) ?_
  exact r_callv (as := [vr 103, vr 2001]) (st' := []) (ls0 := [vr 103, vr 2001]) f_263_3 (by decide) rfl rfl (Nat.le_of_ble_eq_true rfl) (Nat.le_of_ble_eq_true rfl) ⟨_, _, rfl, rfl⟩ rfl k1

theorem g_M_thingTo_6 {Q : PQ} {h : HP} {x1 : Int} {s0 : Int} 
    (k1 : ¬ s0 = 0 → Wp true i_M_findHere 0 [vr 103, vi 0, vi (h 104 2), vr 9999] [] h (fun r h' => Wp true i_M_thingTo 31 [vr 103, vi x1] (r.toList ++ [vi x1, vr 104]) h' Q))
    (k2 : s0 = 0 → Wp true i_M_fails 0 [vr 103, vi 2] [] h (fun r h' => Wp true i_M_thingTo 14 [vr 103, vi x1] (r.toList ++ []) h' Q)) :
    Wp true i_M_thingTo 6 [vr 103, vi x1] [vi s0] h Q := by
  refine r_br (t := 15) f_263_6 rfl cb_ne (fun c1 => ?_) (fun c1 => ?_)
  · refine r_aload_n (v := 103) f_263_15 rfl (by decide) ?_
    refine r_getr (q := 104) f_263_16 rfl (by decide) (Or.inl rfl) rfl ?_
    refine r_iload_n (v := x1) f_263_19 rfl ?_
    refine r_aload_n (v := 103) f_263_20 rfl (by decide) ?_
    refine r_iconst f_263_21 (by decide) ?_
    refine r_aload_n (v := 103) f_263_22 rfl (by decide) ?_
    refine r_getr (q := 104) f_263_23 rfl (by decide) (Or.inl rfl) rfl ?_
    refine r_iconst f_263_26 (by decide) ?_
    refine r_iaload (n := 3000) (v := h 104 2) f_263_27 ⟨rfl, rfl⟩ (by decide) rfl ?_
    exact r_callv (as := [vr 103, vi 0, vi (h 104 2)]) (st' := [vi x1, vr 104]) (ls0 := [vr 103, vi 0, vi (h 104 2), vr 9999]) f_263_28 (by decide) rfl rfl (Nat.le_of_ble_eq_true rfl) (Nat.le_of_ble_eq_true rfl) ⟨_, _, rfl, rfl⟩ rfl (k1 c1)
  · have c1 := Decidable.not_not.mp c1
    refine r_aload_n (v := 103) f_263_9 rfl (by decide) ?_
    refine r_iconst f_263_10 (by decide) ?_
    exact r_callv (as := [vr 103, vi 2]) (st' := []) (ls0 := [vr 103, vi 2]) f_263_11 (by decide) rfl rfl (Nat.le_of_ble_eq_true rfl) (Nat.le_of_ble_eq_true rfl) ⟨_, _, rfl, rfl⟩ rfl (k2 c1)

theorem g_M_thingTo_14 {Q : PQ} {h : HP} {x1 : Int} {s0 : Int} 
    (o1 : s0 = 0 ∨ s0 = 1)
    (k2 : Q (some (vi s0)) h) :
    Wp true i_M_thingTo 14 [vr 103, vi x1] [vi s0] h Q := by
  exact r_retz f_263_14 rfl o1 k2

theorem g_M_thingTo_31 {Q : PQ} {h : HP} {x1 : Int} {s1 : Int} {s2 : Int} 
    (o1 : 0 ≤ s1 ∧ s1 < 3000)
    (o2 : 0 ≤ x1 ∧ x1 < 3000)
    (k3 : ¬ (hs h 104 s1.toNat s2) 104 x1.toNat = -1 → Wp true i_M_ahead 0 [vr 103, vr 9999] [] (hs h 104 s1.toNat s2) (fun r h' => Wp true i_M_thingTo 52 [vr 103, vi x1] (r.toList ++ []) h' Q))
    (k4 : (hs h 104 s1.toNat s2) 104 x1.toNat = -1 → Wp true i_M_fails 0 [vr 103, vi 3] [] (hs h 104 s1.toNat s2) (fun r h' => Wp true i_M_thingTo 47 [vr 103, vi x1] (r.toList ++ []) h' Q)) :
    Wp true i_M_thingTo 31 [vr 103, vi x1] [vi s2, vi s1, vr 104] h Q := by
  refine r_iastore (n := 3000) f_263_31 ⟨rfl, rfl⟩ o1 ?_
  refine r_aload_n (v := 103) f_263_32 rfl (by decide) ?_
  refine r_getr (q := 104) f_263_33 rfl (by decide) (Or.inl rfl) rfl ?_
  refine r_iload_n (v := x1) f_263_36 rfl ?_
  refine r_iaload (n := 3000) (v := (hs h 104 s1.toNat s2) 104 x1.toNat) f_263_37 ⟨rfl, rfl⟩ o2 rfl ?_
  refine r_iconst f_263_38 (by decide) ?_
  refine r_br2 (t := 48) f_263_39 rfl cb_ne (fun c1 => ?_) (fun c1 => ?_)
  · refine r_aload_n (v := 103) f_263_48 rfl (by decide) ?_
    exact r_callv (as := [vr 103]) (st' := []) (ls0 := [vr 103, vr 9999]) f_263_49 (by decide) rfl rfl (Nat.le_of_ble_eq_true rfl) (Nat.le_of_ble_eq_true rfl) ⟨_, _, rfl, rfl⟩ rfl (k3 c1)
  · have c1 := Decidable.not_not.mp c1
    refine r_aload_n (v := 103) f_263_42 rfl (by decide) ?_
    refine r_iconst f_263_43 (by decide) ?_
    exact r_callv (as := [vr 103, vi 3]) (st' := []) (ls0 := [vr 103, vi 3]) f_263_44 (by decide) rfl rfl (Nat.le_of_ble_eq_true rfl) (Nat.le_of_ble_eq_true rfl) ⟨_, _, rfl, rfl⟩ rfl (k4 c1)

theorem g_M_thingTo_47 {Q : PQ} {h : HP} {x1 : Int} {s0 : Int} 
    (o1 : s0 = 0 ∨ s0 = 1)
    (k2 : Q (some (vi s0)) h) :
    Wp true i_M_thingTo 47 [vr 103, vi x1] [vi s0] h Q := by
  exact r_retz f_263_47 rfl o1 k2

theorem g_M_thingTo_52 {Q : PQ} {h : HP} {x1 : Int} 
    (k1 : Q (some (vi 1)) h) :
    Wp true i_M_thingTo 52 [vr 103, vi x1] [] h Q := by
  refine r_iconst f_263_52 (by decide) ?_
  exact r_retz f_263_53 rfl (by decide) k1

theorem g_M_rowTo_0 {Q : PQ} {h : HP} {x1 : Int} 
    (o1 : -2147483648 ≤ (h 104 1) - 1 ∧ (h 104 1) - 1 ≤ 2147483647)
    (k2 : Wp true i_M_number 0 [vr 103, vi x1, vi 0, vi ((h 104 1) - 1)] [] h (fun r h' => Wp true i_M_rowTo 14 [vr 103, vi x1] (r.toList ++ []) h' Q)) :
    Wp true i_M_rowTo 0 [vr 103, vi x1] [] h Q := by
  refine r_aload_n (v := 103) f_264_0 rfl (by decide) ?_
  refine r_iload_n (v := x1) f_264_1 rfl ?_
  refine r_iconst f_264_2 (by decide) ?_
  refine r_aload_n (v := 103) f_264_3 rfl (by decide) ?_
  refine r_getr (q := 104) f_264_4 rfl (by decide) (Or.inl rfl) rfl ?_
  refine r_iconst f_264_7 (by decide) ?_
  refine r_iaload (n := 3000) (v := h 104 1) f_264_8 ⟨rfl, rfl⟩ (by decide) rfl ?_
  refine r_iconst f_264_9 (by decide) ?_
  refine r_isub (u := (h 104 1) - 1) f_264_10 rfl o1 ?_
  exact r_callv (as := [vr 103, vi x1, vi 0, vi ((h 104 1) - 1)]) (st' := []) (ls0 := [vr 103, vi x1, vi 0, vi ((h 104 1) - 1)]) f_264_11 (by decide) rfl rfl (Nat.le_of_ble_eq_true rfl) (Nat.le_of_ble_eq_true rfl) ⟨_, _, rfl, rfl⟩ rfl k2

theorem g_M_rowTo_14 {Q : PQ} {h : HP} {x1 : Int} {s0 : Int} 
    (o1 : s0 = 0 ∨ s0 = 1)
    (k2 : Q (some (vi s0)) h) :
    Wp true i_M_rowTo 14 [vr 103, vi x1] [vi s0] h Q := by
  exact r_retz f_264_14 rfl o1 k2

theorem g_M_test_0 {Q : PQ} {h : HP} {x1 : Int} 
    (k1 : Wp true i_M_inWords 0 [vr 103, vr 2001, vr 9999, vr 9999, vr 9999, vr 9999, vr 9999] [] h (fun r h' => Wp true i_M_test 6 [vr 103, vi x1, vr 9999] (r.toList ++ []) h' Q)) :
    Wp true i_M_test 0 [vr 103, vi x1, vr 9999] [] h Q := by
  refine r_aload_n (v := 103) f_265_0 rfl (by decide) ?_
  refine r_ldcS f_265_1 (by decide) ?_
  exact r_callv (as := [vr 103, vr 2001]) (st' := []) (ls0 := [vr 103, vr 2001, vr 9999, vr 9999, vr 9999, vr 9999, vr 9999]) f_265_3 (by decide) rfl rfl (Nat.le_of_ble_eq_true rfl) (Nat.le_of_ble_eq_true rfl) ⟨_, _, rfl, rfl⟩ rfl k1

theorem g_M_test_6 {Q : PQ} {h : HP} {x1 : Int} {s0 : Int} 
    (o1 : 19 ≤ s0 → -2147483648 ≤ 1500 + s0 ∧ 1500 + s0 ≤ 2147483647)
    (o2 : 19 ≤ s0 → 0 ≤ x1 ∧ x1 < 3000)
    (k3 : 19 ≤ s0 → Wp true i_M_ahead 0 [vr 103, vr 9999] [] (hs h 104 x1.toNat (1500 + s0)) (fun r h' => Wp true i_M_test 34 [vr 103, vi x1, vi s0] (r.toList ++ []) h' Q))
    (k4 : ¬ 19 ≤ s0 → Wp true i_M_fails 0 [vr 103, vi 2] [] h (fun r h' => Wp true i_M_test 18 [vr 103, vi x1, vi s0] (r.toList ++ []) h' Q)) :
    Wp true i_M_test 6 [vr 103, vi x1, vr 9999] [vi s0] h Q := by
  refine r_istore_n (ls' := [vr 103, vi x1, vi s0]) f_265_6 (Nat.le_of_ble_eq_true rfl) rfl ?_
  refine r_iload_n (v := s0) f_265_7 rfl ?_
  refine r_bipush f_265_8 (by decide) ?_
  refine r_br2 (t := 19) f_265_10 rfl cb_ge (fun c1 => ?_) (fun c1 => ?_)
  · refine r_aload_n (v := 103) f_265_19 rfl (by decide) ?_
    refine r_getr (q := 104) f_265_20 rfl (by decide) (Or.inl rfl) rfl ?_
    refine r_iload_n (v := x1) f_265_23 rfl ?_
    refine r_sipush f_265_24 (by decide) ?_
    refine r_iload_n (v := s0) f_265_27 rfl ?_
    refine r_iadd (u := 1500 + s0) f_265_28 rfl (o1 c1) ?_
    refine r_iastore (n := 3000) f_265_29 ⟨rfl, rfl⟩ (o2 c1) ?_
    refine r_aload_n (v := 103) f_265_30 rfl (by decide) ?_
    exact r_callv (as := [vr 103]) (st' := []) (ls0 := [vr 103, vr 9999]) f_265_31 (by decide) rfl rfl (Nat.le_of_ble_eq_true rfl) (Nat.le_of_ble_eq_true rfl) ⟨_, _, rfl, rfl⟩ rfl (k3 c1)
  · refine r_aload_n (v := 103) f_265_13 rfl (by decide) ?_
    refine r_iconst f_265_14 (by decide) ?_
    exact r_callv (as := [vr 103, vi 2]) (st' := []) (ls0 := [vr 103, vi 2]) f_265_15 (by decide) rfl rfl (Nat.le_of_ble_eq_true rfl) (Nat.le_of_ble_eq_true rfl) ⟨_, _, rfl, rfl⟩ rfl (k4 c1)

theorem g_M_test_18 {Q : PQ} {h : HP} {x1 : Int} {x2 : Int} {s0 : Int} 
    (o1 : s0 = 0 ∨ s0 = 1)
    (k2 : Q (some (vi s0)) h) :
    Wp true i_M_test 18 [vr 103, vi x1, vi x2] [vi s0] h Q := by
  exact r_retz f_265_18 rfl o1 k2

theorem g_M_test_34 {Q : PQ} {h : HP} {x1 : Int} {x2 : Int} 
    (o1 : -2147483648 ≤ x1 + 1 ∧ x1 + 1 ≤ 2147483647)
    (k2 : Wp true i_M_number 0 [vr 103, vi (x1 + 1), vi 0, vi 1] [] h (fun r h' => Wp true i_M_test 43 [vr 103, vi x1, vi x2] (r.toList ++ []) h' Q)) :
    Wp true i_M_test 34 [vr 103, vi x1, vi x2] [] h Q := by
  refine r_aload_n (v := 103) f_265_34 rfl (by decide) ?_
  refine r_iload_n (v := x1) f_265_35 rfl ?_
  refine r_iconst f_265_36 (by decide) ?_
  refine r_iadd (u := x1 + 1) f_265_37 rfl o1 ?_
  refine r_iconst f_265_38 (by decide) ?_
  refine r_iconst f_265_39 (by decide) ?_
  exact r_callv (as := [vr 103, vi (x1 + 1), vi 0, vi 1]) (st' := []) (ls0 := [vr 103, vi (x1 + 1), vi 0, vi 1]) f_265_40 (by decide) rfl rfl (Nat.le_of_ble_eq_true rfl) (Nat.le_of_ble_eq_true rfl) ⟨_, _, rfl, rfl⟩ rfl k2

theorem g_M_test_43 {Q : PQ} {h : HP} {x1 : Int} {x2 : Int} {s0 : Int} 
    (k1 : ¬ s0 = 0 → ¬ x2 = 21 → Wp true i_M_isSign 0 [vr 103, vi 60] [] h (fun r h' => Wp true i_M_test 68 [vr 103, vi x1, vi x2] (r.toList ++ []) h' Q))
    (o2 : ¬ s0 = 0 → x2 = 21 → -2147483648 ≤ x1 + 2 ∧ x1 + 2 ≤ 2147483647)
    (k3 : ¬ s0 = 0 → x2 = 21 → Wp true i_M_thingTo 0 [vr 103, vi (x1 + 2)] [] h (fun r h' => Wp true i_M_test 61 [vr 103, vi x1, vi x2] (r.toList ++ []) h' Q))
    (k4 : s0 = 0 → Q (some (vi 0)) h) :
    Wp true i_M_test 43 [vr 103, vi x1, vi x2] [vi s0] h Q := by
  refine r_br (t := 48) f_265_43 rfl cb_ne (fun c1 => ?_) (fun c1 => ?_)
  · refine r_iload_n (v := x2) f_265_48 rfl ?_
    refine r_bipush f_265_49 (by decide) ?_
    refine r_br2 (t := 62) f_265_51 rfl cb_ne (fun c2 => ?_) (fun c2 => ?_)
    · refine r_aload_n (v := 103) f_265_62 rfl (by decide) ?_
      refine r_bipush f_265_63 (by decide) ?_
      exact r_callv (as := [vr 103, vi 60]) (st' := []) (ls0 := [vr 103, vi 60]) f_265_65 (by decide) rfl rfl (Nat.le_of_ble_eq_true rfl) (Nat.le_of_ble_eq_true rfl) ⟨_, _, rfl, rfl⟩ rfl (k1 c1 c2)
    · have c2 := Decidable.not_not.mp c2
      refine r_aload_n (v := 103) f_265_54 rfl (by decide) ?_
      refine r_iload_n (v := x1) f_265_55 rfl ?_
      refine r_iconst f_265_56 (by decide) ?_
      refine r_iadd (u := x1 + 2) f_265_57 rfl (o2 c1 c2) ?_
      exact r_callv (as := [vr 103, vi (x1 + 2)]) (st' := []) (ls0 := [vr 103, vi (x1 + 2)]) f_265_58 (by decide) rfl rfl (Nat.le_of_ble_eq_true rfl) (Nat.le_of_ble_eq_true rfl) ⟨_, _, rfl, rfl⟩ rfl (k3 c1 c2)
  · have c1 := Decidable.not_not.mp c1
    refine r_iconst f_265_46 (by decide) ?_
    exact r_retz f_265_47 rfl (by decide) (k4 c1)

theorem g_M_test_61 {Q : PQ} {h : HP} {x1 : Int} {x2 : Int} {s0 : Int} 
    (o1 : s0 = 0 ∨ s0 = 1)
    (k2 : Q (some (vi s0)) h) :
    Wp true i_M_test 61 [vr 103, vi x1, vi x2] [vi s0] h Q := by
  exact r_retz f_265_61 rfl o1 k2

theorem g_M_test_68 {Q : PQ} {h : HP} {x1 : Int} {x2 : Int} {s0 : Int} 
    (k1 : ¬ s0 = 0 → Wp true i_M_test 95 [vr 103, vi x1, vi x2] [] h Q)
    (k2 : s0 = 0 → Wp true i_M_isSign 0 [vr 103, vi 62] [] h (fun r h' => Wp true i_M_test 77 [vr 103, vi x1, vi x2] (r.toList ++ []) h' Q)) :
    Wp true i_M_test 68 [vr 103, vi x1, vi x2] [vi s0] h Q := by
  refine r_br (t := 95) f_265_68 rfl cb_ne (fun c1 => ?_) (fun c1 => ?_)
  · exact (k1 c1)
  · have c1 := Decidable.not_not.mp c1
    refine r_aload_n (v := 103) f_265_71 rfl (by decide) ?_
    refine r_bipush f_265_72 (by decide) ?_
    exact r_callv (as := [vr 103, vi 62]) (st' := []) (ls0 := [vr 103, vi 62]) f_265_74 (by decide) rfl rfl (Nat.le_of_ble_eq_true rfl) (Nat.le_of_ble_eq_true rfl) ⟨_, _, rfl, rfl⟩ rfl (k2 c1)

theorem g_M_test_77 {Q : PQ} {h : HP} {x1 : Int} {x2 : Int} {s0 : Int} 
    (k1 : ¬ s0 = 0 → Wp true i_M_test 95 [vr 103, vi x1, vi x2] [] h Q)
    (k2 : s0 = 0 → Wp true i_M_isSign 0 [vr 103, vi 61] [] h (fun r h' => Wp true i_M_test 86 [vr 103, vi x1, vi x2] (r.toList ++ []) h' Q)) :
    Wp true i_M_test 77 [vr 103, vi x1, vi x2] [vi s0] h Q := by
  refine r_br (t := 95) f_265_77 rfl cb_ne (fun c1 => ?_) (fun c1 => ?_)
  · exact (k1 c1)
  · have c1 := Decidable.not_not.mp c1
    refine r_aload_n (v := 103) f_265_80 rfl (by decide) ?_
    refine r_bipush f_265_81 (by decide) ?_
    exact r_callv (as := [vr 103, vi 61]) (st' := []) (ls0 := [vr 103, vi 61]) f_265_83 (by decide) rfl rfl (Nat.le_of_ble_eq_true rfl) (Nat.le_of_ble_eq_true rfl) ⟨_, _, rfl, rfl⟩ rfl (k2 c1)

theorem g_M_test_86 {Q : PQ} {h : HP} {x1 : Int} {x2 : Int} {s0 : Int} 
    (k1 : ¬ s0 = 0 → Wp true i_M_test 95 [vr 103, vi x1, vi x2] [] h Q)
    (k2 : s0 = 0 → Wp true i_M_fails 0 [vr 103, vi 2] [] h (fun r h' => Wp true i_M_test 94 [vr 103, vi x1, vi x2] (r.toList ++ []) h' Q)) :
    Wp true i_M_test 86 [vr 103, vi x1, vi x2] [vi s0] h Q := by
  refine r_br (t := 95) f_265_86 rfl cb_ne (fun c1 => ?_) (fun c1 => ?_)
  · exact (k1 c1)
  · have c1 := Decidable.not_not.mp c1
    refine r_aload_n (v := 103) f_265_89 rfl (by decide) ?_
    refine r_iconst f_265_90 (by decide) ?_
    exact r_callv (as := [vr 103, vi 2]) (st' := []) (ls0 := [vr 103, vi 2]) f_265_91 (by decide) rfl rfl (Nat.le_of_ble_eq_true rfl) (Nat.le_of_ble_eq_true rfl) ⟨_, _, rfl, rfl⟩ rfl (k2 c1)

theorem g_M_test_94 {Q : PQ} {h : HP} {x1 : Int} {x2 : Int} {s0 : Int} 
    (o1 : s0 = 0 ∨ s0 = 1)
    (k2 : Q (some (vi s0)) h) :
    Wp true i_M_test 94 [vr 103, vi x1, vi x2] [vi s0] h Q := by
  exact r_retz f_265_94 rfl o1 k2

theorem g_M_test_95 {Q : PQ} {h : HP} {x1 : Int} {x2 : Int} 
    (o1 : -2147483648 ≤ x1 + 5 ∧ x1 + 5 ≤ 2147483647)
    (o2 : 0 ≤ x1 + 5 ∧ x1 + 5 < 3000)
    (k3 : Wp true i_M_ahead 0 [vr 103, vr 9999] [] (hs h 104 (x1 + 5).toNat (h 103 15)) (fun r h' => Wp true i_M_test 111 [vr 103, vi x1, vi x2] (r.toList ++ []) h' Q)) :
    Wp true i_M_test 95 [vr 103, vi x1, vi x2] [] h Q := by
  refine r_aload_n (v := 103) f_265_95 rfl (by decide) ?_
  refine r_getr (q := 104) f_265_96 rfl (by decide) (Or.inl rfl) rfl ?_
  refine r_iload_n (v := x1) f_265_99 rfl ?_
  refine r_iconst f_265_100 (by decide) ?_
  refine r_iadd (u := x1 + 5) f_265_101 rfl o1 ?_
  refine r_aload_n (v := 103) f_265_102 rfl (by decide) ?_
  refine r_geti (v := h 103 15) f_265_103 rfl (by decide) rfl ?_
  refine r_iastore (n := 3000) f_265_106 ⟨rfl, rfl⟩ o2 ?_
  refine r_aload_n (v := 103) f_265_107 rfl (by decide) ?_
  exact r_callv (as := [vr 103]) (st' := []) (ls0 := [vr 103, vr 9999]) f_265_108 (by decide) rfl rfl (Nat.le_of_ble_eq_true rfl) (Nat.le_of_ble_eq_true rfl) ⟨_, _, rfl, rfl⟩ rfl k3

theorem g_M_test_111 {Q : PQ} {h : HP} {x1 : Int} {x2 : Int} 
    (o1 : -2147483648 ≤ x1 + 2 ∧ x1 + 2 ≤ 2147483647)
    (k2 : ¬ x2 = 20 → Wp true i_M_number 0 [vr 103, vi (x1 + 2), vi 0, vi 99] [] h (fun r h' => Wp true i_M_test 133 [vr 103, vi x1, vi x2] (r.toList ++ []) h' Q))
    (k3 : x2 = 20 → Wp true i_M_number 0 [vr 103, vi (x1 + 2), vi 0, vi 999] [] h (fun r h' => Wp true i_M_test 133 [vr 103, vi x1, vi x2] (r.toList ++ []) h' Q)) :
    Wp true i_M_test 111 [vr 103, vi x1, vi x2] [] h Q := by
  refine r_aload_n (v := 103) f_265_111 rfl (by decide) ?_
  refine r_iload_n (v := x1) f_265_112 rfl ?_
  refine r_iconst f_265_113 (by decide) ?_
  refine r_iadd (u := x1 + 2) f_265_114 rfl o1 ?_
  refine r_iconst f_265_115 (by decide) ?_
  refine r_iload_n (v := x2) f_265_116 rfl ?_
  refine r_bipush f_265_117 (by decide) ?_
  refine r_br2 (t := 128) f_265_119 rfl cb_ne (fun c1 => ?_) (fun c1 => ?_)
  · refine r_bipush f_265_128 (by decide) ?_
    exact r_callv (as := [vr 103, vi (x1 + 2), vi 0, vi 99]) (st' := []) (ls0 := [vr 103, vi (x1 + 2), vi 0, vi 99]) f_265_130 (by decide) rfl rfl (Nat.le_of_ble_eq_true rfl) (Nat.le_of_ble_eq_true rfl) ⟨_, _, rfl, rfl⟩ rfl (k2 c1)
  · have c1 := Decidable.not_not.mp c1
    refine r_sipush f_265_122 (by decide) ?_
    refine r_goto (t := 130) f_265_125 rfl ?_
    exact r_callv (as := [vr 103, vi (x1 + 2), vi 0, vi 999]) (st' := []) (ls0 := [vr 103, vi (x1 + 2), vi 0, vi 999]) f_265_130 (by decide) rfl rfl (Nat.le_of_ble_eq_true rfl) (Nat.le_of_ble_eq_true rfl) ⟨_, _, rfl, rfl⟩ rfl (k3 c1)

theorem g_M_test_133 {Q : PQ} {h : HP} {x1 : Int} {x2 : Int} {s0 : Int} 
    (o1 : s0 = 0 ∨ s0 = 1)
    (k2 : Q (some (vi s0)) h) :
    Wp true i_M_test 133 [vr 103, vi x1, vi x2] [vi s0] h Q := by
  exact r_retz f_265_133 rfl o1 k2

theorem g_M_talkOrder_0 {Q : PQ} {h : HP} {x1 : Int} {x2 : Int} 
    (o1 : x1 = 9 → -2147483648 ≤ x2 + 1 ∧ x2 + 1 ≤ 2147483647)
    (k2 : x1 = 9 → Wp true i_M_number 0 [vr 103, vi (x2 + 1), vi 0, vi 1] [] h (fun r h' => Wp true i_M_talkOrder 57 [vr 103, vi x1, vi x2] (r.toList ++ []) h' Q))
    (o3 : x1 = 11 → -2147483648 ≤ x2 + 1 ∧ x2 + 1 ≤ 2147483647)
    (k4 : x1 = 11 → Wp true i_M_rowTo 0 [vr 103, vi (x2 + 1)] [] h (fun r h' => Wp true i_M_talkOrder 96 [vr 103, vi x1, vi x2] (r.toList ++ []) h' Q))
    (o5 : x1 = 12 → -2147483648 ≤ x2 + 1 ∧ x2 + 1 ≤ 2147483647)
    (k6 : x1 = 12 → Wp true i_M_thingTo 0 [vr 103, vi (x2 + 1)] [] h (fun r h' => Wp true i_M_talkOrder 104 [vr 103, vi x1, vi x2] (r.toList ++ []) h' Q))
    (o7 : x1 = 13 → -2147483648 ≤ x2 + 1 ∧ x2 + 1 ≤ 2147483647)
    (k8 : x1 = 13 → Wp true i_M_number 0 [vr 103, vi (x2 + 1), vi 0, vi 1] [] h (fun r h' => Wp true i_M_talkOrder 162 [vr 103, vi x1, vi x2] (r.toList ++ []) h' Q))
    (k9 : x1 = 15 → Wp true i_M_test 0 [vr 103, vi x2, vr 9999] [] h (fun r h' => Wp true i_M_talkOrder 168 [vr 103, vi x1, vi x2] (r.toList ++ []) h' Q))
    (o10 : x1 = 16 → -2147483648 ≤ x2 + 1 ∧ x2 + 1 ≤ 2147483647)
    (k11 : x1 = 16 → Wp true i_M_number 0 [vr 103, vi (x2 + 1), vi 1, vi 99] [] h (fun r h' => Wp true i_M_talkOrder 179 [vr 103, vi x1, vi x2] (r.toList ++ []) h' Q))
    (k12 : x1 = 10 → Q (some (vi 1)) h)
    (k13 : x1 = 14 → Q (some (vi 1)) h)
    (k14 : ¬ x1 = 9 → ¬ x1 = 11 → ¬ x1 = 12 → ¬ x1 = 13 → ¬ x1 = 15 → ¬ x1 = 16 → ¬ x1 = 10 → ¬ x1 = 14 → Q (some (vi 1)) h) :
    Wp true i_M_talkOrder 0 [vr 103, vi x1, vi x2] [] h Q := by
  refine r_iload_n (v := x1) f_266_0 rfl ?_
  by_cases c1 : x1 = 9
  · refine r_swi (t := 48) f_266_1 9 c1 (by decide) rfl rfl ?_
    refine r_aload_n (v := 103) f_266_48 rfl (by decide) ?_
    refine r_iload_n (v := x2) f_266_49 rfl ?_
    refine r_iconst f_266_50 (by decide) ?_
    refine r_iadd (u := x2 + 1) f_266_51 rfl (o1 c1) ?_
    refine r_iconst f_266_52 (by decide) ?_
    refine r_iconst f_266_53 (by decide) ?_
    exact r_callv (as := [vr 103, vi (x2 + 1), vi 0, vi 1]) (st' := []) (ls0 := [vr 103, vi (x2 + 1), vi 0, vi 1]) f_266_54 (by decide) rfl rfl (Nat.le_of_ble_eq_true rfl) (Nat.le_of_ble_eq_true rfl) ⟨_, _, rfl, rfl⟩ rfl (k2 c1)
  by_cases c2 : x1 = 11
  · refine r_swi (t := 89) f_266_1 11 c2 (by decide) rfl rfl ?_
    refine r_aload_n (v := 103) f_266_89 rfl (by decide) ?_
    refine r_iload_n (v := x2) f_266_90 rfl ?_
    refine r_iconst f_266_91 (by decide) ?_
    refine r_iadd (u := x2 + 1) f_266_92 rfl (o3 c2) ?_
    exact r_callv (as := [vr 103, vi (x2 + 1)]) (st' := []) (ls0 := [vr 103, vi (x2 + 1)]) f_266_93 (by decide) rfl rfl (Nat.le_of_ble_eq_true rfl) (Nat.le_of_ble_eq_true rfl) ⟨_, _, rfl, rfl⟩ rfl (k4 c2)
  by_cases c3 : x1 = 12
  · refine r_swi (t := 97) f_266_1 12 c3 (by decide) rfl rfl ?_
    refine r_aload_n (v := 103) f_266_97 rfl (by decide) ?_
    refine r_iload_n (v := x2) f_266_98 rfl ?_
    refine r_iconst f_266_99 (by decide) ?_
    refine r_iadd (u := x2 + 1) f_266_100 rfl (o5 c3) ?_
    exact r_callv (as := [vr 103, vi (x2 + 1)]) (st' := []) (ls0 := [vr 103, vi (x2 + 1)]) f_266_101 (by decide) rfl rfl (Nat.le_of_ble_eq_true rfl) (Nat.le_of_ble_eq_true rfl) ⟨_, _, rfl, rfl⟩ rfl (k6 c3)
  by_cases c4 : x1 = 13
  · refine r_swi (t := 153) f_266_1 13 c4 (by decide) rfl rfl ?_
    refine r_aload_n (v := 103) f_266_153 rfl (by decide) ?_
    refine r_iload_n (v := x2) f_266_154 rfl ?_
    refine r_iconst f_266_155 (by decide) ?_
    refine r_iadd (u := x2 + 1) f_266_156 rfl (o7 c4) ?_
    refine r_iconst f_266_157 (by decide) ?_
    refine r_iconst f_266_158 (by decide) ?_
    exact r_callv (as := [vr 103, vi (x2 + 1), vi 0, vi 1]) (st' := []) (ls0 := [vr 103, vi (x2 + 1), vi 0, vi 1]) f_266_159 (by decide) rfl rfl (Nat.le_of_ble_eq_true rfl) (Nat.le_of_ble_eq_true rfl) ⟨_, _, rfl, rfl⟩ rfl (k8 c4)
  by_cases c5 : x1 = 15
  · refine r_swi (t := 163) f_266_1 15 c5 (by decide) rfl rfl ?_
    refine r_aload_n (v := 103) f_266_163 rfl (by decide) ?_
    refine r_iload_n (v := x2) f_266_164 rfl ?_
    exact r_callv (as := [vr 103, vi x2]) (st' := []) (ls0 := [vr 103, vi x2, vr 9999]) f_266_165 (by decide) rfl rfl (Nat.le_of_ble_eq_true rfl) (Nat.le_of_ble_eq_true rfl) ⟨_, _, rfl, rfl⟩ rfl (k9 c5)
  by_cases c6 : x1 = 16
  · refine r_swi (t := 169) f_266_1 16 c6 (by decide) rfl rfl ?_
    refine r_aload_n (v := 103) f_266_169 rfl (by decide) ?_
    refine r_iload_n (v := x2) f_266_170 rfl ?_
    refine r_iconst f_266_171 (by decide) ?_
    refine r_iadd (u := x2 + 1) f_266_172 rfl (o10 c6) ?_
    refine r_iconst f_266_173 (by decide) ?_
    refine r_bipush f_266_174 (by decide) ?_
    exact r_callv (as := [vr 103, vi (x2 + 1), vi 1, vi 99]) (st' := []) (ls0 := [vr 103, vi (x2 + 1), vi 1, vi 99]) f_266_176 (by decide) rfl rfl (Nat.le_of_ble_eq_true rfl) (Nat.le_of_ble_eq_true rfl) ⟨_, _, rfl, rfl⟩ rfl (k11 c6)
  by_cases c7 : x1 = 10
  · refine r_swi (t := 180) f_266_1 10 c7 (by decide) rfl rfl ?_
    refine r_iconst f_266_180 (by decide) ?_
    exact r_retz f_266_181 rfl (by decide) (k12 c7)
  by_cases c8 : x1 = 14
  · refine r_swi (t := 180) f_266_1 14 c8 (by decide) rfl rfl ?_
    refine r_iconst f_266_180 (by decide) ?_
    exact r_retz f_266_181 rfl (by decide) (k13 c8)
  refine r_swo (t := 180) f_266_1 (by omega) rfl ?_
  refine r_iconst f_266_180 (by decide) ?_
  exact r_retz f_266_181 rfl (by decide) (k14 c1 c2 c3 c4 c5 c6 c7 c8)

theorem g_M_talkOrder_57 {Q : PQ} {h : HP} {x1 : Int} {x2 : Int} {s0 : Int} 
    (k1 : s0 = 0 → Q (some (vi 0)) h)
    (o2 : ¬ s0 = 0 → -2147483648 ≤ x2 + 2 ∧ x2 + 2 ≤ 2147483647)
    (k3 : ¬ s0 = 0 → Wp true i_M_rowTo 0 [vr 103, vi (x2 + 2)] [] h (fun r h' => Wp true i_M_talkOrder 67 [vr 103, vi x1, vi x2] (r.toList ++ []) h' Q)) :
    Wp true i_M_talkOrder 57 [vr 103, vi x1, vi x2] [vi s0] h Q := by
  refine r_br (t := 87) f_266_57 rfl cb_eq (fun c1 => ?_) (fun c1 => ?_)
  · refine r_iconst f_266_87 (by decide) ?_
    exact r_retz f_266_88 rfl (by decide) (k1 c1)
  · refine r_aload_n (v := 103) f_266_60 rfl (by decide) ?_
    refine r_iload_n (v := x2) f_266_61 rfl ?_
    refine r_iconst f_266_62 (by decide) ?_
    refine r_iadd (u := x2 + 2) f_266_63 rfl (o2 c1) ?_
    exact r_callv (as := [vr 103, vi (x2 + 2)]) (st' := []) (ls0 := [vr 103, vi (x2 + 2)]) f_266_64 (by decide) rfl rfl (Nat.le_of_ble_eq_true rfl) (Nat.le_of_ble_eq_true rfl) ⟨_, _, rfl, rfl⟩ rfl (k3 c1)

theorem g_M_talkOrder_67 {Q : PQ} {h : HP} {x1 : Int} {x2 : Int} {s0 : Int} 
    (k1 : s0 = 0 → Q (some (vi 0)) h)
    (o2 : ¬ s0 = 0 → -2147483648 ≤ x2 + 3 ∧ x2 + 3 ≤ 2147483647)
    (k3 : ¬ s0 = 0 → Wp true i_M_number 0 [vr 103, vi (x2 + 3), vi 1, vi 9] [] h (fun r h' => Wp true i_M_talkOrder 80 [vr 103, vi x1, vi x2] (r.toList ++ []) h' Q)) :
    Wp true i_M_talkOrder 67 [vr 103, vi x1, vi x2] [vi s0] h Q := by
  refine r_br (t := 87) f_266_67 rfl cb_eq (fun c1 => ?_) (fun c1 => ?_)
  · refine r_iconst f_266_87 (by decide) ?_
    exact r_retz f_266_88 rfl (by decide) (k1 c1)
  · refine r_aload_n (v := 103) f_266_70 rfl (by decide) ?_
    refine r_iload_n (v := x2) f_266_71 rfl ?_
    refine r_iconst f_266_72 (by decide) ?_
    refine r_iadd (u := x2 + 3) f_266_73 rfl (o2 c1) ?_
    refine r_iconst f_266_74 (by decide) ?_
    refine r_bipush f_266_75 (by decide) ?_
    exact r_callv (as := [vr 103, vi (x2 + 3), vi 1, vi 9]) (st' := []) (ls0 := [vr 103, vi (x2 + 3), vi 1, vi 9]) f_266_77 (by decide) rfl rfl (Nat.le_of_ble_eq_true rfl) (Nat.le_of_ble_eq_true rfl) ⟨_, _, rfl, rfl⟩ rfl (k3 c1)

theorem g_M_talkOrder_80 {Q : PQ} {h : HP} {x1 : Int} {x2 : Int} {s0 : Int} 
    (k1 : s0 = 0 → Q (some (vi 0)) h)
    (k2 : ¬ s0 = 0 → Q (some (vi 1)) h) :
    Wp true i_M_talkOrder 80 [vr 103, vi x1, vi x2] [vi s0] h Q := by
  refine r_br (t := 87) f_266_80 rfl cb_eq (fun c1 => ?_) (fun c1 => ?_)
  · refine r_iconst f_266_87 (by decide) ?_
    exact r_retz f_266_88 rfl (by decide) (k1 c1)
  · refine r_iconst f_266_83 (by decide) ?_
    refine r_goto (t := 88) f_266_84 rfl ?_
    exact r_retz f_266_88 rfl (by decide) (k2 c1)

theorem g_M_talkOrder_96 {Q : PQ} {h : HP} {x1 : Int} {x2 : Int} {s0 : Int} 
    (o1 : s0 = 0 ∨ s0 = 1)
    (k2 : Q (some (vi s0)) h) :
    Wp true i_M_talkOrder 96 [vr 103, vi x1, vi x2] [vi s0] h Q := by
  exact r_retz f_266_96 rfl o1 k2

theorem g_M_talkOrder_104 {Q : PQ} {h : HP} {x1 : Int} {x2 : Int} {s0 : Int} 
    (k1 : s0 = 0 → Q (some (vi 0)) h)
    (k2 : ¬ s0 = 0 → Wp true i_M_wantWord 0 [vr 103, vr 2001, vi 14] [] h (fun r h' => Wp true i_M_talkOrder 115 [vr 103, vi x1, vi x2] (r.toList ++ []) h' Q)) :
    Wp true i_M_talkOrder 104 [vr 103, vi x1, vi x2] [vi s0] h Q := by
  refine r_br (t := 151) f_266_104 rfl cb_eq (fun c1 => ?_) (fun c1 => ?_)
  · refine r_iconst f_266_151 (by decide) ?_
    exact r_retz f_266_152 rfl (by decide) (k1 c1)
  · refine r_aload_n (v := 103) f_266_107 rfl (by decide) ?_
    refine r_ldcS f_266_108 (by decide) ?_
    refine r_bipush f_266_110 (by decide) ?_
    exact r_callv (as := [vr 103, vr 2001, vi 14]) (st' := []) (ls0 := [vr 103, vr 2001, vi 14]) f_266_112 (by decide) rfl rfl (Nat.le_of_ble_eq_true rfl) (Nat.le_of_ble_eq_true rfl) ⟨_, _, rfl, rfl⟩ rfl (k2 c1)

theorem g_M_talkOrder_115 {Q : PQ} {h : HP} {x1 : Int} {x2 : Int} {s0 : Int} 
    (k1 : s0 = 0 → Q (some (vi 0)) h)
    (o2 : ¬ s0 = 0 → -2147483648 ≤ x2 + 2 ∧ x2 + 2 ≤ 2147483647)
    (o3 : ¬ s0 = 0 → -2147483648 ≤ (h 104 0) - 1 ∧ (h 104 0) - 1 ≤ 2147483647)
    (k4 : ¬ s0 = 0 → Wp true i_M_number 0 [vr 103, vi (x2 + 2), vi 0, vi ((h 104 0) - 1)] [] h (fun r h' => Wp true i_M_talkOrder 134 [vr 103, vi x1, vi x2] (r.toList ++ []) h' Q)) :
    Wp true i_M_talkOrder 115 [vr 103, vi x1, vi x2] [vi s0] h Q := by
  refine r_br (t := 151) f_266_115 rfl cb_eq (fun c1 => ?_) (fun c1 => ?_)
  · refine r_iconst f_266_151 (by decide) ?_
    exact r_retz f_266_152 rfl (by decide) (k1 c1)
  · refine r_aload_n (v := 103) f_266_118 rfl (by decide) ?_
    refine r_iload_n (v := x2) f_266_119 rfl ?_
    refine r_iconst f_266_120 (by decide) ?_
    refine r_iadd (u := x2 + 2) f_266_121 rfl (o2 c1) ?_
    refine r_iconst f_266_122 (by decide) ?_
    refine r_aload_n (v := 103) f_266_123 rfl (by decide) ?_
    refine r_getr (q := 104) f_266_124 rfl (by decide) (Or.inl rfl) rfl ?_
    refine r_iconst f_266_127 (by decide) ?_
    refine r_iaload (n := 3000) (v := h 104 0) f_266_128 ⟨rfl, rfl⟩ (by decide) rfl ?_
    refine r_iconst f_266_129 (by decide) ?_
    refine r_isub (u := (h 104 0) - 1) f_266_130 rfl (o3 c1) ?_
    exact r_callv (as := [vr 103, vi (x2 + 2), vi 0, vi ((h 104 0) - 1)]) (st' := []) (ls0 := [vr 103, vi (x2 + 2), vi 0, vi ((h 104 0) - 1)]) f_266_131 (by decide) rfl rfl (Nat.le_of_ble_eq_true rfl) (Nat.le_of_ble_eq_true rfl) ⟨_, _, rfl, rfl⟩ rfl (k4 c1)

theorem g_M_talkOrder_134 {Q : PQ} {h : HP} {x1 : Int} {x2 : Int} {s0 : Int} 
    (k1 : s0 = 0 → Q (some (vi 0)) h)
    (o2 : ¬ s0 = 0 → -2147483648 ≤ x2 + 3 ∧ x2 + 3 ≤ 2147483647)
    (k3 : ¬ s0 = 0 → Wp true i_M_rowTo 0 [vr 103, vi (x2 + 3)] [] h (fun r h' => Wp true i_M_talkOrder 144 [vr 103, vi x1, vi x2] (r.toList ++ []) h' Q)) :
    Wp true i_M_talkOrder 134 [vr 103, vi x1, vi x2] [vi s0] h Q := by
  refine r_br (t := 151) f_266_134 rfl cb_eq (fun c1 => ?_) (fun c1 => ?_)
  · refine r_iconst f_266_151 (by decide) ?_
    exact r_retz f_266_152 rfl (by decide) (k1 c1)
  · refine r_aload_n (v := 103) f_266_137 rfl (by decide) ?_
    refine r_iload_n (v := x2) f_266_138 rfl ?_
    refine r_iconst f_266_139 (by decide) ?_
    refine r_iadd (u := x2 + 3) f_266_140 rfl (o2 c1) ?_
    exact r_callv (as := [vr 103, vi (x2 + 3)]) (st' := []) (ls0 := [vr 103, vi (x2 + 3)]) f_266_141 (by decide) rfl rfl (Nat.le_of_ble_eq_true rfl) (Nat.le_of_ble_eq_true rfl) ⟨_, _, rfl, rfl⟩ rfl (k3 c1)

theorem g_M_talkOrder_144 {Q : PQ} {h : HP} {x1 : Int} {x2 : Int} {s0 : Int} 
    (k1 : s0 = 0 → Q (some (vi 0)) h)
    (k2 : ¬ s0 = 0 → Q (some (vi 1)) h) :
    Wp true i_M_talkOrder 144 [vr 103, vi x1, vi x2] [vi s0] h Q := by
  refine r_br (t := 151) f_266_144 rfl cb_eq (fun c1 => ?_) (fun c1 => ?_)
  · refine r_iconst f_266_151 (by decide) ?_
    exact r_retz f_266_152 rfl (by decide) (k1 c1)
  · refine r_iconst f_266_147 (by decide) ?_
    refine r_goto (t := 152) f_266_148 rfl ?_
    exact r_retz f_266_152 rfl (by decide) (k2 c1)

theorem g_M_talkOrder_162 {Q : PQ} {h : HP} {x1 : Int} {x2 : Int} {s0 : Int} 
    (o1 : s0 = 0 ∨ s0 = 1)
    (k2 : Q (some (vi s0)) h) :
    Wp true i_M_talkOrder 162 [vr 103, vi x1, vi x2] [vi s0] h Q := by
  exact r_retz f_266_162 rfl o1 k2

theorem g_M_talkOrder_168 {Q : PQ} {h : HP} {x1 : Int} {x2 : Int} {s0 : Int} 
    (o1 : s0 = 0 ∨ s0 = 1)
    (k2 : Q (some (vi s0)) h) :
    Wp true i_M_talkOrder 168 [vr 103, vi x1, vi x2] [vi s0] h Q := by
  exact r_retz f_266_168 rfl o1 k2

theorem g_M_talkOrder_179 {Q : PQ} {h : HP} {x1 : Int} {x2 : Int} {s0 : Int} 
    (o1 : s0 = 0 ∨ s0 = 1)
    (k2 : Q (some (vi s0)) h) :
    Wp true i_M_talkOrder 179 [vr 103, vi x1, vi x2] [vi s0] h Q := by
  exact r_retz f_266_179 rfl o1 k2

theorem g_M_talkStep_0 {Q : PQ} {h : HP}  
    (k1 : Wp true i_M_inWords 0 [vr 103, vr 2001, vr 9999, vr 9999, vr 9999, vr 9999, vr 9999] [] h (fun r h' => Wp true i_M_talkStep 6 [vr 103, vr 9999, vr 9999, vr 9999, vr 9999, vr 9999] (r.toList ++ []) h' Q)) :
    Wp true i_M_talkStep 0 [vr 103, vr 9999, vr 9999, vr 9999, vr 9999, vr 9999] [] h Q := by
  refine r_aload_n (v := 103) f_267_0 rfl (by decide) ?_
  refine r_ldcS f_267_1 (by decide) ?_
  exact r_callv (as := [vr 103, vr 2001]) (st' := []) (ls0 := [vr 103, vr 2001, vr 9999, vr 9999, vr 9999, vr 9999, vr 9999]) f_267_3 (by decide) rfl rfl (Nat.le_of_ble_eq_true rfl) (Nat.le_of_ble_eq_true rfl) ⟨_, _, rfl, rfl⟩ rfl k1

theorem g_M_talkStep_6 {Q : PQ} {h : HP} {s0 : Int} 
    (o1 : -2147483648 ≤ 7 * (h 104 2007) ∧ 7 * (h 104 2007) ≤ 2147483647)
    (o2 : -2147483648 ≤ 2075 + (7 * (h 104 2007)) ∧ 2075 + (7 * (h 104 2007)) ≤ 2147483647)
    (k3 : s0 = 15 → Wp true i_M_talkStep 42 [vr 103, vi s0, vi (h 104 2007), vi (2075 + (7 * (h 104 2007))), vr 9999, vr 9999] [vi 1] h Q)
    (k4 : ¬ s0 = 15 → ¬ s0 = 16 → Wp true i_M_talkStep 42 [vr 103, vi s0, vi (h 104 2007), vi (2075 + (7 * (h 104 2007))), vr 9999, vr 9999] [vi 0] h Q)
    (k5 : ¬ s0 = 15 → s0 = 16 → Wp true i_M_talkStep 42 [vr 103, vi s0, vi (h 104 2007), vi (2075 + (7 * (h 104 2007))), vr 9999, vr 9999] [vi 1] h Q) :
    Wp true i_M_talkStep 6 [vr 103, vr 9999, vr 9999, vr 9999, vr 9999, vr 9999] [vi s0] h Q := by
  refine r_istore_n (ls' := [vr 103, vi s0, vr 9999, vr 9999, vr 9999, vr 9999]) f_267_6 (Nat.le_of_ble_eq_true rfl) rfl ?_
  refine r_aload_n (v := 103) f_267_7 rfl (by decide) ?_
  refine r_getr (q := 104) f_267_8 rfl (by decide) (Or.inl rfl) rfl ?_
  refine r_sipush f_267_11 (by decide) ?_
  refine r_iaload (n := 3000) (v := h 104 2007) f_267_14 ⟨rfl, rfl⟩ (by decide) rfl ?_
  refine r_istore_n (ls' := [vr 103, vi s0, vi (h 104 2007), vr 9999, vr 9999, vr 9999]) f_267_15 (Nat.le_of_ble_eq_true rfl) rfl ?_
  refine r_sipush f_267_16 (by decide) ?_
  refine r_bipush f_267_19 (by decide) ?_
  refine r_iload_n (v := h 104 2007) f_267_21 rfl ?_
  refine r_imul (u := 7 * (h 104 2007)) f_267_22 rfl o1 ?_
  refine r_iadd (u := 2075 + (7 * (h 104 2007))) f_267_23 rfl o2 ?_
  refine r_istore_n (ls' := [vr 103, vi s0, vi (h 104 2007), vi (2075 + (7 * (h 104 2007))), vr 9999, vr 9999]) f_267_24 (Nat.le_of_ble_eq_true rfl) rfl ?_
  refine r_iload_n (v := s0) f_267_25 rfl ?_
  refine r_bipush f_267_26 (by decide) ?_
  refine r_br2 (t := 37) f_267_28 rfl cb_eq (fun c1 => ?_) (fun c1 => ?_)
  · refine r_iconst f_267_37 (by decide) ?_
    refine r_goto (t := 42) f_267_38 rfl ?_
    exact (k3 c1)
  · refine r_iload_n (v := s0) f_267_31 rfl ?_
    refine r_bipush f_267_32 (by decide) ?_
    refine r_br2 (t := 41) f_267_34 rfl cb_ne (fun c2 => ?_) (fun c2 => ?_)
    · refine r_iconst f_267_41 (by decide) ?_
      exact (k4 c1 c2)
    · have c2 := Decidable.not_not.mp c2
      refine r_iconst f_267_37 (by decide) ?_
      refine r_goto (t := 42) f_267_38 rfl ?_
      exact (k5 c1 c2)

theorem g_M_talkStep_42 {Q : PQ} {h : HP} {x1 : Int} {x2 : Int} {x3 : Int} {s0 : Int} 
    (k1 : x1 < 9 → Wp true i_M_fails 0 [vr 103, vi 2] [] h (fun r h' => Wp true i_M_talkStep 80 [vr 103, vi x1, vi x2, vi x3, vi s0, vr 9999] (r.toList ++ []) h' Q))
    (k2 : ¬ x1 < 9 → 18 < x1 → Wp true i_M_fails 0 [vr 103, vi 2] [] h (fun r h' => Wp true i_M_talkStep 80 [vr 103, vi x1, vi x2, vi x3, vi s0, vr 9999] (r.toList ++ []) h' Q))
    (k3 : ¬ x1 < 9 → ¬ 18 < x1 → x1 = 14 → Wp true i_M_fails 0 [vr 103, vi 2] [] h (fun r h' => Wp true i_M_talkStep 80 [vr 103, vi x1, vi x2, vi x3, vi s0, vr 9999] (r.toList ++ []) h' Q))
    (k4 : ¬ x1 < 9 → ¬ 18 < x1 → ¬ x1 = 14 → ¬ x1 = 17 → Wp true i_M_talkStep 81 [vr 103, vi x1, vi x2, vi x3, vi s0, vr 9999] [] h Q)
    (k5 : ¬ x1 < 9 → ¬ 18 < x1 → ¬ x1 = 14 → x1 = 17 → ¬ h 103 22 = 0 → Wp true i_M_talkStep 81 [vr 103, vi x1, vi x2, vi x3, vi s0, vr 9999] [] h Q)
    (k6 : ¬ x1 < 9 → ¬ 18 < x1 → ¬ x1 = 14 → x1 = 17 → h 103 22 = 0 → Wp true i_M_fails 0 [vr 103, vi 2] [] h (fun r h' => Wp true i_M_talkStep 80 [vr 103, vi x1, vi x2, vi x3, vi s0, vr 9999] (r.toList ++ []) h' Q)) :
    Wp true i_M_talkStep 42 [vr 103, vi x1, vi x2, vi x3, vr 9999, vr 9999] [vi s0] h Q := by
  refine r_istore (ls' := [vr 103, vi x1, vi x2, vi x3, vi s0, vr 9999]) f_267_42 (Nat.le_of_ble_eq_true rfl) rfl ?_
  refine r_iload_n (v := x1) f_267_44 rfl ?_
  refine r_bipush f_267_45 (by decide) ?_
  refine r_br2 (t := 75) f_267_47 rfl cb_lt (fun c1 => ?_) (fun c1 => ?_)
  · refine r_aload_n (v := 103) f_267_75 rfl (by decide) ?_
    refine r_iconst f_267_76 (by decide) ?_
    exact r_callv (as := [vr 103, vi 2]) (st' := []) (ls0 := [vr 103, vi 2]) f_267_77 (by decide) rfl rfl (Nat.le_of_ble_eq_true rfl) (Nat.le_of_ble_eq_true rfl) ⟨_, _, rfl, rfl⟩ rfl (k1 c1)
  · refine r_iload_n (v := x1) f_267_50 rfl ?_
    refine r_bipush f_267_51 (by decide) ?_
    refine r_br2 (t := 75) f_267_53 rfl cb_gt (fun c2 => ?_) (fun c2 => ?_)
    · refine r_aload_n (v := 103) f_267_75 rfl (by decide) ?_
      refine r_iconst f_267_76 (by decide) ?_
      exact r_callv (as := [vr 103, vi 2]) (st' := []) (ls0 := [vr 103, vi 2]) f_267_77 (by decide) rfl rfl (Nat.le_of_ble_eq_true rfl) (Nat.le_of_ble_eq_true rfl) ⟨_, _, rfl, rfl⟩ rfl (k2 c1 c2)
    · refine r_iload_n (v := x1) f_267_56 rfl ?_
      refine r_bipush f_267_57 (by decide) ?_
      refine r_br2 (t := 75) f_267_59 rfl cb_eq (fun c3 => ?_) (fun c3 => ?_)
      · refine r_aload_n (v := 103) f_267_75 rfl (by decide) ?_
        refine r_iconst f_267_76 (by decide) ?_
        exact r_callv (as := [vr 103, vi 2]) (st' := []) (ls0 := [vr 103, vi 2]) f_267_77 (by decide) rfl rfl (Nat.le_of_ble_eq_true rfl) (Nat.le_of_ble_eq_true rfl) ⟨_, _, rfl, rfl⟩ rfl (k3 c1 c2 c3)
      · refine r_iload_n (v := x1) f_267_62 rfl ?_
        refine r_bipush f_267_63 (by decide) ?_
        refine r_br2 (t := 81) f_267_65 rfl cb_ne (fun c4 => ?_) (fun c4 => ?_)
        · exact (k4 c1 c2 c3 c4)
        · have c4 := Decidable.not_not.mp c4
          refine r_aload_n (v := 103) f_267_68 rfl (by decide) ?_
          refine r_geti (v := h 103 22) f_267_69 rfl (by decide) rfl ?_
          refine r_br (t := 81) f_267_72 rfl cb_ne (fun c5 => ?_) (fun c5 => ?_)
          · exact (k5 c1 c2 c3 c4 c5)
          · have c5 := Decidable.not_not.mp c5
            refine r_aload_n (v := 103) f_267_75 rfl (by decide) ?_
            refine r_iconst f_267_76 (by decide) ?_
            exact r_callv (as := [vr 103, vi 2]) (st' := []) (ls0 := [vr 103, vi 2]) f_267_77 (by decide) rfl rfl (Nat.le_of_ble_eq_true rfl) (Nat.le_of_ble_eq_true rfl) ⟨_, _, rfl, rfl⟩ rfl (k6 c1 c2 c3 c4 c5)

theorem g_M_talkStep_80 {Q : PQ} {h : HP} {x1 : Int} {x2 : Int} {x3 : Int} {x4 : Int} {s0 : Int} 
    (o1 : s0 = 0 ∨ s0 = 1)
    (k2 : Q (some (vi s0)) h) :
    Wp true i_M_talkStep 80 [vr 103, vi x1, vi x2, vi x3, vi x4, vr 9999] [vi s0] h Q := by
  exact r_retz f_267_80 rfl o1 k2

theorem g_M_talkStep_81 {Q : PQ} {h : HP} {x1 : Int} {x2 : Int} {x3 : Int} {x4 : Int} 
    (k1 : x1 = 17 → Wp true i_M_talkStep 103 [vr 103, vi x1, vi x2, vi x3, vi x4, vr 9999] [] h Q)
    (k2 : ¬ x1 = 17 → ¬ h 103 23 = 30 → Wp true i_M_talkStep 103 [vr 103, vi x1, vi x2, vi x3, vi x4, vr 9999] [] h Q)
    (k3 : ¬ x1 = 17 → h 103 23 = 30 → Wp true i_M_fails 0 [vr 103, vi 6] [] h (fun r h' => Wp true i_M_talkStep 102 [vr 103, vi x1, vi x2, vi x3, vi x4, vr 9999] (r.toList ++ []) h' Q)) :
    Wp true i_M_talkStep 81 [vr 103, vi x1, vi x2, vi x3, vi x4, vr 9999] [] h Q := by
  refine r_iload_n (v := x1) f_267_81 rfl ?_
  refine r_bipush f_267_82 (by decide) ?_
  refine r_br2 (t := 103) f_267_84 rfl cb_eq (fun c1 => ?_) (fun c1 => ?_)
  · exact (k1 c1)
  · refine r_aload_n (v := 103) f_267_87 rfl (by decide) ?_
    refine r_geti (v := h 103 23) f_267_88 rfl (by decide) rfl ?_
    refine r_bipush f_267_91 (by decide) ?_
    refine r_br2 (t := 103) f_267_93 rfl cb_ne (fun c2 => ?_) (fun c2 => ?_)
    · exact (k2 c1 c2)
    · have c2 := Decidable.not_not.mp c2
      refine r_aload_n (v := 103) f_267_96 rfl (by decide) ?_
      refine r_bipush f_267_97 (by decide) ?_
      exact r_callv (as := [vr 103, vi 6]) (st' := []) (ls0 := [vr 103, vi 6]) f_267_99 (by decide) rfl rfl (Nat.le_of_ble_eq_true rfl) (Nat.le_of_ble_eq_true rfl) ⟨_, _, rfl, rfl⟩ rfl (k3 c1 c2)

theorem g_M_talkStep_102 {Q : PQ} {h : HP} {x1 : Int} {x2 : Int} {x3 : Int} {x4 : Int} {s0 : Int} 
    (o1 : s0 = 0 ∨ s0 = 1)
    (k2 : Q (some (vi s0)) h) :
    Wp true i_M_talkStep 102 [vr 103, vi x1, vi x2, vi x3, vi x4, vr 9999] [vi s0] h Q := by
  exact r_retz f_267_102 rfl o1 k2

theorem g_M_talkStep_103 {Q : PQ} {h : HP} {x1 : Int} {x2 : Int} {x3 : Int} {x4 : Int} 
    (k1 : x4 = 0 → Wp true i_M_talkStep 123 [vr 103, vi x1, vi x2, vi x3, vi x4, vr 9999] [] h Q)
    (k2 : ¬ x4 = 0 → ¬ h 103 22 = 3 → Wp true i_M_talkStep 123 [vr 103, vi x1, vi x2, vi x3, vi x4, vr 9999] [] h Q)
    (k3 : ¬ x4 = 0 → h 103 22 = 3 → Wp true i_M_fails 0 [vr 103, vi 7] [] h (fun r h' => Wp true i_M_talkStep 122 [vr 103, vi x1, vi x2, vi x3, vi x4, vr 9999] (r.toList ++ []) h' Q)) :
    Wp true i_M_talkStep 103 [vr 103, vi x1, vi x2, vi x3, vi x4, vr 9999] [] h Q := by
  refine r_iload (v := x4) f_267_103 rfl ?_
  refine r_br (t := 123) f_267_105 rfl cb_eq (fun c1 => ?_) (fun c1 => ?_)
  · exact (k1 c1)
  · refine r_aload_n (v := 103) f_267_108 rfl (by decide) ?_
    refine r_geti (v := h 103 22) f_267_109 rfl (by decide) rfl ?_
    refine r_iconst f_267_112 (by decide) ?_
    refine r_br2 (t := 123) f_267_113 rfl cb_ne (fun c2 => ?_) (fun c2 => ?_)
    · exact (k2 c1 c2)
    · have c2 := Decidable.not_not.mp c2
      refine r_aload_n (v := 103) f_267_116 rfl (by decide) ?_
      refine r_bipush f_267_117 (by decide) ?_
      exact r_callv (as := [vr 103, vi 7]) (st' := []) (ls0 := [vr 103, vi 7]) f_267_119 (by decide) rfl rfl (Nat.le_of_ble_eq_true rfl) (Nat.le_of_ble_eq_true rfl) ⟨_, _, rfl, rfl⟩ rfl (k3 c1 c2)

theorem g_M_talkStep_122 {Q : PQ} {h : HP} {x1 : Int} {x2 : Int} {x3 : Int} {x4 : Int} {s0 : Int} 
    (o1 : s0 = 0 ∨ s0 = 1)
    (k2 : Q (some (vi s0)) h) :
    Wp true i_M_talkStep 122 [vr 103, vi x1, vi x2, vi x3, vi x4, vr 9999] [vi s0] h Q := by
  exact r_retz f_267_122 rfl o1 k2

theorem g_M_talkStep_123 {Q : PQ} {h : HP} {x1 : Int} {x2 : Int} {x3 : Int} {x4 : Int} 
    (k1 : ¬ x1 = 17 → Wp true i_M_talkStep 139 [vr 103, vi x1, vi x2, vi x3, vi x4, vr 9999] [vi 1, vi (h 103 23), vr 103] h Q)
    (k2 : x1 = 17 → Wp true i_M_talkStep 139 [vr 103, vi x1, vi x2, vi x3, vi x4, vr 9999] [vi 0, vi (h 103 23), vr 103] h Q) :
    Wp true i_M_talkStep 123 [vr 103, vi x1, vi x2, vi x3, vi x4, vr 9999] [] h Q := by
  refine r_aload_n (v := 103) f_267_123 rfl (by decide) ?_
  refine r_dupr f_267_124 ?_
  refine r_geti (v := h 103 23) f_267_125 rfl (by decide) rfl ?_
  refine r_iload_n (v := x1) f_267_128 rfl ?_
  refine r_bipush f_267_129 (by decide) ?_
  refine r_br2 (t := 138) f_267_131 rfl cb_ne (fun c1 => ?_) (fun c1 => ?_)
  · refine r_iconst f_267_138 (by decide) ?_
    exact (k1 c1)
  · have c1 := Decidable.not_not.mp c1
    refine r_iconst f_267_134 (by decide) ?_
    refine r_goto (t := 139) f_267_135 rfl ?_
    exact (k2 c1)

theorem g_M_talkStep_139 {Q : PQ} {h : HP} {x1 : Int} {x2 : Int} {x3 : Int} {x4 : Int} {s1 : Int} {s2 : Int} 
    (o1 : -2147483648 ≤ s1 + s2 ∧ s1 + s2 ≤ 2147483647)
    (o2 : 0 ≤ x3 ∧ x3 < 3000)
    (k3 : Wp true i_M_talkStep 153 [vr 103, vi x1, vi x2, vi x3, vi x4, vi 1] [] (hs (hs h 103 23 (s1 + s2)) 104 x3.toNat x1) Q) :
    Wp true i_M_talkStep 139 [vr 103, vi x1, vi x2, vi x3, vi x4, vr 9999] [vi s2, vi s1, vr 103] h Q := by
  refine r_iadd (u := s1 + s2) f_267_139 rfl o1 ?_
  refine r_puti f_267_140 rfl (by decide) ?_
  refine r_aload_n (v := 103) f_267_143 rfl (by decide) ?_
  refine r_getr (q := 104) f_267_144 rfl (by decide) (Or.inl rfl) rfl ?_
  refine r_iload_n (v := x3) f_267_147 rfl ?_
  refine r_iload_n (v := x1) f_267_148 rfl ?_
  refine r_iastore (n := 3000) f_267_149 ⟨rfl, rfl⟩ o2 ?_
  refine r_iconst f_267_150 (by decide) ?_
  refine r_istore (ls' := [vr 103, vi x1, vi x2, vi x3, vi x4, vi 1]) f_267_151 (Nat.le_of_ble_eq_true rfl) rfl ?_
  exact k3

theorem g_M_talkStep_153 {Q : PQ} {h : HP} {x1 : Int} {x2 : Int} {x3 : Int} {x4 : Int} {x5 : Int} 
    (o1 : 7 ≤ x5 → -2147483648 ≤ (h 104 2007) + 1 ∧ (h 104 2007) + 1 ≤ 2147483647)
    (k2 : 7 ≤ x5 → Wp true i_M_ahead 0 [vr 103, vr 9999] [] (hs h 104 2007 ((h 104 2007) + 1)) (fun r h' => Wp true i_M_talkStep 192 [vr 103, vi x1, vi x2, vi x3, vi x4, vi x5] (r.toList ++ []) h' Q))
    (o3 : ¬ 7 ≤ x5 → -2147483648 ≤ x3 + x5 ∧ x3 + x5 ≤ 2147483647)
    (o4 : ¬ 7 ≤ x5 → 0 ≤ x3 + x5 ∧ x3 + x5 < 3000)
    (o5 : ¬ 7 ≤ x5 → -2147483648 ≤ x5 + 1 ∧ x5 + 1 ≤ 2147483647)
    (k6 : ¬ 7 ≤ x5 → Wp true i_M_talkStep 153 [vr 103, vi x1, vi x2, vi x3, vi x4, vi (x5 + 1)] [] (hs h 104 (x3 + x5).toNat 0) Q) :
    Wp true i_M_talkStep 153 [vr 103, vi x1, vi x2, vi x3, vi x4, vi x5] [] h Q := by
  refine r_iload (v := x5) f_267_153 rfl ?_
  refine r_bipush f_267_155 (by decide) ?_
  refine r_br2 (t := 176) f_267_157 rfl cb_ge (fun c1 => ?_) (fun c1 => ?_)
  · refine r_aload_n (v := 103) f_267_176 rfl (by decide) ?_
    refine r_getr (q := 104) f_267_177 rfl (by decide) (Or.inl rfl) rfl ?_
    refine r_sipush f_267_180 (by decide) ?_
    refine r_dup2ir f_267_183 ?_
    refine r_iaload (n := 3000) (v := h 104 2007) f_267_184 ⟨rfl, rfl⟩ (by decide) rfl ?_
    refine r_iconst f_267_185 (by decide) ?_
    refine r_iadd (u := (h 104 2007) + 1) f_267_186 rfl (o1 c1) ?_
    refine r_iastore (n := 3000) f_267_187 ⟨rfl, rfl⟩ (by decide) ?_
    refine r_aload_n (v := 103) f_267_188 rfl (by decide) ?_
    exact r_callv (as := [vr 103]) (st' := []) (ls0 := [vr 103, vr 9999]) f_267_189 (by decide) rfl rfl (Nat.le_of_ble_eq_true rfl) (Nat.le_of_ble_eq_true rfl) ⟨_, _, rfl, rfl⟩ rfl (k2 c1)
  · refine r_aload_n (v := 103) f_267_160 rfl (by decide) ?_
    refine r_getr (q := 104) f_267_161 rfl (by decide) (Or.inl rfl) rfl ?_
    refine r_iload_n (v := x3) f_267_164 rfl ?_
    refine r_iload (v := x5) f_267_165 rfl ?_
    refine r_iadd (u := x3 + x5) f_267_167 rfl (o3 c1) ?_
    refine r_iconst f_267_168 (by decide) ?_
    refine r_iastore (n := 3000) f_267_169 ⟨rfl, rfl⟩ (o4 c1) ?_
    refine r_iinc (v := x5) (w := x5 + 1) (ls' := [vr 103, vi x1, vi x2, vi x3, vi x4, vi (x5 + 1)]) f_267_170 rfl rfl (o5 c1) rfl ?_
    refine r_goto (t := 153) f_267_173 rfl ?_
    exact (k6 c1)

theorem g_M_talkStep_192 {Q : PQ} {h : HP} {x1 : Int} {x2 : Int} {x3 : Int} {x4 : Int} {x5 : Int} 
    (k1 : Wp true i_M_talkOrder 0 [vr 103, vi x1, vi x3] [] h (fun r h' => Wp true i_M_talkStep 198 [vr 103, vi x1, vi x2, vi x3, vi x4, vi x5] (r.toList ++ []) h' Q)) :
    Wp true i_M_talkStep 192 [vr 103, vi x1, vi x2, vi x3, vi x4, vi x5] [] h Q := by
  refine r_aload_n (v := 103) f_267_192 rfl (by decide) ?_
  refine r_iload_n (v := x1) f_267_193 rfl ?_
  refine r_iload_n (v := x3) f_267_194 rfl ?_
  exact r_callv (as := [vr 103, vi x1, vi x3]) (st' := []) (ls0 := [vr 103, vi x1, vi x3]) f_267_195 (by decide) rfl rfl (Nat.le_of_ble_eq_true rfl) (Nat.le_of_ble_eq_true rfl) ⟨_, _, rfl, rfl⟩ rfl k1

theorem g_M_talkStep_198 {Q : PQ} {h : HP} {x1 : Int} {x2 : Int} {x3 : Int} {x4 : Int} {x5 : Int} {s0 : Int} 
    (k1 : ¬ s0 = 0 → x4 = 0 → Wp true i_M_talkStep 228 [vr 103, vi x1, vi x2, vi x3, vi x4, vi x5] [] h Q)
    (o2 : ¬ s0 = 0 → ¬ x4 = 0 → 0 ≤ h 103 22 ∧ h 103 22 < 3)
    (o3 : ¬ s0 = 0 → ¬ x4 = 0 → -2147483648 ≤ (h 103 22) + 1 ∧ (h 103 22) + 1 ≤ 2147483647)
    (k4 : ¬ s0 = 0 → ¬ x4 = 0 → Wp true i_M_talkStep 228 [vr 103, vi x1, vi x2, vi x3, vi x4, vi x5] [] (hs (hs h 111 (h 103 22).toNat x2) 103 22 ((h 103 22) + 1)) Q)
    (k5 : s0 = 0 → Q (some (vi 0)) h) :
    Wp true i_M_talkStep 198 [vr 103, vi x1, vi x2, vi x3, vi x4, vi x5] [vi s0] h Q := by
  refine r_br (t := 203) f_267_198 rfl cb_ne (fun c1 => ?_) (fun c1 => ?_)
  · refine r_iload (v := x4) f_267_203 rfl ?_
    refine r_br (t := 228) f_267_205 rfl cb_eq (fun c2 => ?_) (fun c2 => ?_)
    · exact (k1 c1 c2)
    · refine r_aload_n (v := 103) f_267_208 rfl (by decide) ?_
      refine r_getr (q := 111) f_267_209 rfl (by decide) (Or.inl rfl) rfl ?_
      refine r_aload_n (v := 103) f_267_212 rfl (by decide) ?_
      refine r_geti (v := h 103 22) f_267_213 rfl (by decide) rfl ?_
      refine r_iload_n (v := x2) f_267_216 rfl ?_
      refine r_iastore (n := 3) f_267_217 ⟨rfl, rfl⟩ (o2 c1 c2) ?_
      refine r_aload_n (v := 103) f_267_218 rfl (by decide) ?_
      refine r_dupr f_267_219 ?_
      refine r_geti (v := h 103 22) f_267_220 rfl (by decide) (by simp [hs]) ?_
      refine r_iconst f_267_223 (by decide) ?_
      refine r_iadd (u := (h 103 22) + 1) f_267_224 rfl (o3 c1 c2) ?_
      refine r_puti f_267_225 rfl (by decide) ?_
      exact (k4 c1 c2)
  · have c1 := Decidable.not_not.mp c1
    refine r_iconst f_267_201 (by decide) ?_
    exact r_retz f_267_202 rfl (by decide) (k5 c1)

theorem g_M_talkStep_228 {Q : PQ} {h : HP} {x1 : Int} {x2 : Int} {x3 : Int} {x4 : Int} {x5 : Int} 
    (k1 : ¬ x1 = 17 → Wp true i_M_wantSign 0 [vr 103, vi 59] [] h (fun r h' => Wp true i_M_talkStep 291 [vr 103, vi x1, vi x2, vi x3, vi x4, vi x5] (r.toList ++ []) h' Q))
    (o2 : x1 = 17 → -2147483648 ≤ (h 103 22) - 1 ∧ (h 103 22) - 1 ≤ 2147483647)
    (o3 : x1 = 17 → -2147483648 ≤ x3 + 4 ∧ x3 + 4 ≤ 2147483647)
    (o4 : x1 = 17 → 0 ≤ (h 103 22) - 1 ∧ (h 103 22) - 1 < 3)
    (o5 : x1 = 17 → 0 ≤ x3 + 4 ∧ x3 + 4 < 3000)
    (o6 : x1 = 17 → -2147483648 ≤ 7 * (h 111 ((h 103 22) - 1).toNat) ∧ 7 * (h 111 ((h 103 22) - 1).toNat) ≤ 2147483647)
    (o7 : x1 = 17 → -2147483648 ≤ 2075 + (7 * (h 111 ((h 103 22) - 1).toNat)) ∧ 2075 + (7 * (h 111 ((h 103 22) - 1).toNat)) ≤ 2147483647)
    (o8 : x1 = 17 → -2147483648 ≤ (2075 + (7 * (h 111 ((h 103 22) - 1).toNat))) + 4 ∧ (2075 + (7 * (h 111 ((h 103 22) - 1).toNat))) + 4 ≤ 2147483647)
    (o9 : x1 = 17 → 0 ≤ (2075 + (7 * (h 111 ((h 103 22) - 1).toNat))) + 4 ∧ (2075 + (7 * (h 111 ((h 103 22) - 1).toNat))) + 4 < 3000)
    (k10 : x1 = 17 → Wp true i_M_wantSign 0 [vr 103, vi 59] [] (hs (hs (hs h 103 22 ((h 103 22) - 1)) 104 (x3 + 4).toNat (h 111 ((h 103 22) - 1).toNat)) 104 ((2075 + (7 * (h 111 ((h 103 22) - 1).toNat))) + 4).toNat x2) (fun r h' => Wp true i_M_talkStep 291 [vr 103, vi x1, vi x2, vi x3, vi x4, vi x5] (r.toList ++ []) h' Q)) :
    Wp true i_M_talkStep 228 [vr 103, vi x1, vi x2, vi x3, vi x4, vi x5] [] h Q := by
  refine r_iload_n (v := x1) f_267_228 rfl ?_
  refine r_bipush f_267_229 (by decide) ?_
  refine r_br2 (t := 285) f_267_231 rfl cb_ne (fun c1 => ?_) (fun c1 => ?_)
  · refine r_aload_n (v := 103) f_267_285 rfl (by decide) ?_
    refine r_bipush f_267_286 (by decide) ?_
    exact r_callv (as := [vr 103, vi 59]) (st' := []) (ls0 := [vr 103, vi 59]) f_267_288 (by decide) rfl rfl (Nat.le_of_ble_eq_true rfl) (Nat.le_of_ble_eq_true rfl) ⟨_, _, rfl, rfl⟩ rfl (k1 c1)
  · have c1 := Decidable.not_not.mp c1
    refine r_aload_n (v := 103) f_267_234 rfl (by decide) ?_
    refine r_dupr f_267_235 ?_
    refine r_geti (v := h 103 22) f_267_236 rfl (by decide) rfl ?_
    refine r_iconst f_267_239 (by decide) ?_
    refine r_isub (u := (h 103 22) - 1) f_267_240 rfl (o2 c1) ?_
    refine r_puti f_267_241 rfl (by decide) ?_
    refine r_aload_n (v := 103) f_267_244 rfl (by decide) ?_
    refine r_getr (q := 104) f_267_245 rfl (by decide) (Or.inl rfl) rfl ?_
    refine r_iload_n (v := x3) f_267_248 rfl ?_
    refine r_iconst f_267_249 (by decide) ?_
    refine r_iadd (u := x3 + 4) f_267_250 rfl (o3 c1) ?_
    refine r_aload_n (v := 103) f_267_251 rfl (by decide) ?_
    refine r_getr (q := 111) f_267_252 rfl (by decide) (Or.inl rfl) rfl ?_
    refine r_aload_n (v := 103) f_267_255 rfl (by decide) ?_
    refine r_geti (v := (h 103 22) - 1) f_267_256 rfl (by decide) (by simp [hs]) ?_
    refine r_iaload (n := 3) (v := h 111 ((h 103 22) - 1).toNat) f_267_259 ⟨rfl, rfl⟩ (o4 c1) (by simp [hs]) ?_
    refine r_iastore (n := 3000) f_267_260 ⟨rfl, rfl⟩ (o5 c1) ?_
    refine r_aload_n (v := 103) f_267_261 rfl (by decide) ?_
    refine r_getr (q := 104) f_267_262 rfl (by decide) (Or.inl rfl) rfl ?_
    refine r_sipush f_267_265 (by decide) ?_
    refine r_bipush f_267_268 (by decide) ?_
    refine r_aload_n (v := 103) f_267_270 rfl (by decide) ?_
    refine r_getr (q := 111) f_267_271 rfl (by decide) (Or.inl rfl) rfl ?_
    refine r_aload_n (v := 103) f_267_274 rfl (by decide) ?_
    refine r_geti (v := (h 103 22) - 1) f_267_275 rfl (by decide) (by simp [hs]) ?_
    refine r_iaload (n := 3) (v := h 111 ((h 103 22) - 1).toNat) f_267_278 ⟨rfl, rfl⟩ (o4 c1) (by simp [hs]) ?_
    refine r_imul (u := 7 * (h 111 ((h 103 22) - 1).toNat)) f_267_279 rfl (o6 c1) ?_
    refine r_iadd (u := 2075 + (7 * (h 111 ((h 103 22) - 1).toNat))) f_267_280 rfl (o7 c1) ?_
    refine r_iconst f_267_281 (by decide) ?_
    refine r_iadd (u := (2075 + (7 * (h 111 ((h 103 22) - 1).toNat))) + 4) f_267_282 rfl (o8 c1) ?_
    refine r_iload_n (v := x2) f_267_283 rfl ?_
    refine r_iastore (n := 3000) f_267_284 ⟨rfl, rfl⟩ (o9 c1) ?_
    refine r_aload_n (v := 103) f_267_285 rfl (by decide) ?_
    refine r_bipush f_267_286 (by decide) ?_
    exact r_callv (as := [vr 103, vi 59]) (st' := []) (ls0 := [vr 103, vi 59]) f_267_288 (by decide) rfl rfl (Nat.le_of_ble_eq_true rfl) (Nat.le_of_ble_eq_true rfl) ⟨_, _, rfl, rfl⟩ rfl (k10 c1)

theorem g_M_talkStep_291 {Q : PQ} {h : HP} {x1 : Int} {x2 : Int} {x3 : Int} {x4 : Int} {x5 : Int} {s0 : Int} 
    (o1 : s0 = 0 ∨ s0 = 1)
    (k2 : Q (some (vi s0)) h) :
    Wp true i_M_talkStep 291 [vr 103, vi x1, vi x2, vi x3, vi x4, vi x5] [vi s0] h Q := by
  exact r_retz f_267_291 rfl o1 k2

theorem g_M_talks_0 {Q : PQ} {h : HP} {x1 : Int} 
    (k1 : Wp true i_M_begins 0 [vr 103, vi x1, vi 300, vr 9999] [] h (fun r h' => Wp true i_M_talks 8 [vr 103, vi x1, vr 9999, vr 9999] (r.toList ++ []) h' Q)) :
    Wp true i_M_talks 0 [vr 103, vi x1, vr 9999, vr 9999] [] h Q := by
  refine r_aload_n (v := 103) f_268_0 rfl (by decide) ?_
  refine r_iload_n (v := x1) f_268_1 rfl ?_
  refine r_sipush f_268_2 (by decide) ?_
  exact r_callv (as := [vr 103, vi x1, vi 300]) (st' := []) (ls0 := [vr 103, vi x1, vi 300, vr 9999]) f_268_5 (by decide) rfl rfl (Nat.le_of_ble_eq_true rfl) (Nat.le_of_ble_eq_true rfl) ⟨_, _, rfl, rfl⟩ rfl k1

theorem g_M_talks_8 {Q : PQ} {h : HP} {x1 : Int} {s0 : Int} 
    (k1 : ¬ s0 = 0 → Wp true i_M_talks 38 [vr 103, vi x1, vi 1, vr 9999] [] (hs (hs (hs h 104 2007 0) 103 22 0) 103 23 0) Q)
    (k2 : s0 = 0 → Q (some (vi (-1))) (hs h 103 2 1)) :
    Wp true i_M_talks 8 [vr 103, vi x1, vr 9999, vr 9999] [vi s0] h Q := by
  refine r_br (t := 17) f_268_8 rfl cb_ne (fun c1 => ?_) (fun c1 => ?_)
  · refine r_aload_n (v := 103) f_268_17 rfl (by decide) ?_
    refine r_getr (q := 104) f_268_18 rfl (by decide) (Or.inl rfl) rfl ?_
    refine r_sipush f_268_21 (by decide) ?_
    refine r_iconst f_268_24 (by decide) ?_
    refine r_iastore (n := 3000) f_268_25 ⟨rfl, rfl⟩ (by decide) ?_
    refine r_aload_n (v := 103) f_268_26 rfl (by decide) ?_
    refine r_iconst f_268_27 (by decide) ?_
    refine r_puti f_268_28 rfl (by decide) ?_
    refine r_aload_n (v := 103) f_268_31 rfl (by decide) ?_
    refine r_iconst f_268_32 (by decide) ?_
    refine r_puti f_268_33 rfl (by decide) ?_
    refine r_iconst f_268_36 (by decide) ?_
    refine r_istore_n (ls' := [vr 103, vi x1, vi 1, vr 9999]) f_268_37 (Nat.le_of_ble_eq_true rfl) rfl ?_
    exact (k1 c1)
  · have c1 := Decidable.not_not.mp c1
    refine r_aload_n (v := 103) f_268_11 rfl (by decide) ?_
    refine r_iconst f_268_12 (by decide) ?_
    refine r_callv (as := [vr 103, vi 1]) (st' := []) (ls0 := [vr 103, vi 1]) f_268_13 (by decide) rfl rfl (Nat.le_of_ble_eq_true rfl) (Nat.le_of_ble_eq_true rfl) ⟨_, _, rfl, rfl⟩ rfl ?_
    refine c_M_refuse  ?_
    show Wp true i_M_talks 16 [vr 103, vi x1, vr 9999, vr 9999] [vi (-1)] (hs h 103 2 1) Q
    exact r_reti f_268_16 rfl (k2 c1)

theorem g_M_talks_38 {Q : PQ} {h : HP} {x1 : Int} {x2 : Int} 
    (k1 : x2 = 0 → Wp true i_M_talks 57 [vr 103, vi x1, vi x2, vr 9999] [] h Q)
    (k2 : ¬ x2 = 0 → h 103 12 = 0 → Wp true i_M_talks 57 [vr 103, vi x1, vi x2, vr 9999] [] h Q)
    (k3 : ¬ x2 = 0 → ¬ h 103 12 = 0 → Wp true i_M_talkStep 0 [vr 103, vr 9999, vr 9999, vr 9999, vr 9999, vr 9999] [] h (fun r h' => Wp true i_M_talks 53 [vr 103, vi x1, vi x2, vr 9999] (r.toList ++ []) h' Q)) :
    Wp true i_M_talks 38 [vr 103, vi x1, vi x2, vr 9999] [] h Q := by
  refine r_iload_n (v := x2) f_268_38 rfl ?_
  refine r_br (t := 57) f_268_39 rfl cb_eq (fun c1 => ?_) (fun c1 => ?_)
  · exact (k1 c1)
  · refine r_aload_n (v := 103) f_268_42 rfl (by decide) ?_
    refine r_geti (v := h 103 12) f_268_43 rfl (by decide) rfl ?_
    refine r_br (t := 57) f_268_46 rfl cb_eq (fun c2 => ?_) (fun c2 => ?_)
    · exact (k2 c1 c2)
    · refine r_aload_n (v := 103) f_268_49 rfl (by decide) ?_
      exact r_callv (as := [vr 103]) (st' := []) (ls0 := [vr 103, vr 9999, vr 9999, vr 9999, vr 9999, vr 9999]) f_268_50 (by decide) rfl rfl (Nat.le_of_ble_eq_true rfl) (Nat.le_of_ble_eq_true rfl) ⟨_, _, rfl, rfl⟩ rfl (k3 c1 c2)

theorem g_M_talks_53 {Q : PQ} {h : HP} {x1 : Int} {x2 : Int} {s0 : Int} 
    (k1 : Wp true i_M_talks 38 [vr 103, vi x1, vi s0, vr 9999] [] h Q) :
    Wp true i_M_talks 53 [vr 103, vi x1, vi x2, vr 9999] [vi s0] h Q := by
  refine r_istore_n (ls' := [vr 103, vi x1, vi s0, vr 9999]) f_268_53 (Nat.le_of_ble_eq_true rfl) rfl ?_
  refine r_goto (t := 38) f_268_54 rfl ?_
  exact k1

theorem g_M_talks_57 {Q : PQ} {h : HP} {x1 : Int} {x2 : Int} 
    (k1 : ¬ h 103 18 = 0 → Wp true i_M_talks 77 [vr 103, vi x1, vi x2, vr 9999] [] h Q)
    (k2 : h 103 18 = 0 → h 103 22 ≤ 0 → Wp true i_M_talks 77 [vr 103, vi x1, vi x2, vr 9999] [] h Q)
    (k3 : h 103 18 = 0 → ¬ h 103 22 ≤ 0 → Wp true i_M_fails 0 [vr 103, vi 2] [] h (fun r h' => Wp true i_M_talks 76 [vr 103, vi x1, vi x2, vr 9999] (r.toList ++ []) h' Q)) :
    Wp true i_M_talks 57 [vr 103, vi x1, vi x2, vr 9999] [] h Q := by
  refine r_aload_n (v := 103) f_268_57 rfl (by decide) ?_
  refine r_geti (v := h 103 18) f_268_58 rfl (by decide) rfl ?_
  refine r_br (t := 77) f_268_61 rfl cb_ne (fun c1 => ?_) (fun c1 => ?_)
  · exact (k1 c1)
  · have c1 := Decidable.not_not.mp c1
    refine r_aload_n (v := 103) f_268_64 rfl (by decide) ?_
    refine r_geti (v := h 103 22) f_268_65 rfl (by decide) rfl ?_
    refine r_br (t := 77) f_268_68 rfl cb_le (fun c2 => ?_) (fun c2 => ?_)
    · exact (k2 c1 c2)
    · refine r_aload_n (v := 103) f_268_71 rfl (by decide) ?_
      refine r_iconst f_268_72 (by decide) ?_
      exact r_callv (as := [vr 103, vi 2]) (st' := []) (ls0 := [vr 103, vi 2]) f_268_73 (by decide) rfl rfl (Nat.le_of_ble_eq_true rfl) (Nat.le_of_ble_eq_true rfl) ⟨_, _, rfl, rfl⟩ rfl (k3 c1 c2)

theorem g_M_talks_76 {Q : PQ} {h : HP} {x1 : Int} {x2 : Int} {s0 : Int} 
    (k1 : Wp true i_M_talks 77 [vr 103, vi x1, vi x2, vr 9999] [] h Q) :
    Wp true i_M_talks 76 [vr 103, vi x1, vi x2, vr 9999] [vi s0] h Q := by
  refine r_popi f_268_76 ?_
  exact k1

theorem g_M_talks_77 {Q : PQ} {h : HP} {x1 : Int} {x2 : Int} 
    (k1 : ¬ h 103 18 = 0 → Wp true i_M_taken 0 [vr 103, vi (h 103 23)] [] h (fun r h' => Wp true i_M_talks 139 [vr 103, vi x1, vi x2, vr 9999] (r.toList ++ []) h' Q))
    (k2 : h 103 18 = 0 → Wp true i_M_talks 102 [vr 103, vi x1, vi x2, vi 75] [] (hs h 104 7 (h 104 2007)) Q) :
    Wp true i_M_talks 77 [vr 103, vi x1, vi x2, vr 9999] [] h Q := by
  refine r_aload_n (v := 103) f_268_77 rfl (by decide) ?_
  refine r_geti (v := h 103 18) f_268_78 rfl (by decide) rfl ?_
  refine r_br (t := 131) f_268_81 rfl cb_ne (fun c1 => ?_) (fun c1 => ?_)
  · refine r_aload_n (v := 103) f_268_131 rfl (by decide) ?_
    refine r_aload_n (v := 103) f_268_132 rfl (by decide) ?_
    refine r_geti (v := h 103 23) f_268_133 rfl (by decide) rfl ?_
    exact r_callv (as := [vr 103, vi (h 103 23)]) (st' := []) (ls0 := [vr 103, vi (h 103 23)]) f_268_136 (by decide) rfl rfl (Nat.le_of_ble_eq_true rfl) (Nat.le_of_ble_eq_true rfl) ⟨_, _, rfl, rfl⟩ rfl (k1 c1)
  · have c1 := Decidable.not_not.mp c1
    refine r_aload_n (v := 103) f_268_84 rfl (by decide) ?_
    refine r_getr (q := 104) f_268_85 rfl (by decide) (Or.inl rfl) rfl ?_
    refine r_bipush f_268_88 (by decide) ?_
    refine r_aload_n (v := 103) f_268_90 rfl (by decide) ?_
    refine r_getr (q := 104) f_268_91 rfl (by decide) (Or.inl rfl) rfl ?_
    refine r_sipush f_268_94 (by decide) ?_
    refine r_iaload (n := 3000) (v := h 104 2007) f_268_97 ⟨rfl, rfl⟩ (by decide) rfl ?_
    refine r_iastore (n := 3000) f_268_98 ⟨rfl, rfl⟩ (by decide) ?_
    refine r_bipush f_268_99 (by decide) ?_
    refine r_istore_n (ls' := [vr 103, vi x1, vi x2, vi 75]) f_268_101 (Nat.le_of_ble_eq_true rfl) rfl ?_
    exact (k2 c1)

theorem g_M_talks_102 {Q : PQ} {h : HP} {x1 : Int} {x2 : Int} {x3 : Int} 
    (k1 : 500 ≤ x3 → Wp true i_M_taken 0 [vr 103, vi (h 103 23)] [] h (fun r h' => Wp true i_M_talks 139 [vr 103, vi x1, vi x2, vi x3] (r.toList ++ []) h' Q))
    (o2 : ¬ 500 ≤ x3 → -2147483648 ≤ 2000 + x3 ∧ 2000 + x3 ≤ 2147483647)
    (o3 : ¬ 500 ≤ x3 → 0 ≤ 2000 + x3 ∧ 2000 + x3 < 3000)
    (o4 : ¬ 500 ≤ x3 → 0 ≤ x3 ∧ x3 < 3000)
    (o5 : ¬ 500 ≤ x3 → -2147483648 ≤ x3 + 1 ∧ x3 + 1 ≤ 2147483647)
    (k6 : ¬ 500 ≤ x3 → Wp true i_M_talks 102 [vr 103, vi x1, vi x2, vi (x3 + 1)] [] (hs h 104 x3.toNat (h 104 (2000 + x3).toNat)) Q) :
    Wp true i_M_talks 102 [vr 103, vi x1, vi x2, vi x3] [] h Q := by
  refine r_iload_n (v := x3) f_268_102 rfl ?_
  refine r_sipush f_268_103 (by decide) ?_
  refine r_br2 (t := 131) f_268_106 rfl cb_ge (fun c1 => ?_) (fun c1 => ?_)
  · refine r_aload_n (v := 103) f_268_131 rfl (by decide) ?_
    refine r_aload_n (v := 103) f_268_132 rfl (by decide) ?_
    refine r_geti (v := h 103 23) f_268_133 rfl (by decide) rfl ?_
    exact r_callv (as := [vr 103, vi (h 103 23)]) (st' := []) (ls0 := [vr 103, vi (h 103 23)]) f_268_136 (by decide) rfl rfl (Nat.le_of_ble_eq_true rfl) (Nat.le_of_ble_eq_true rfl) ⟨_, _, rfl, rfl⟩ rfl (k1 c1)
  · refine r_aload_n (v := 103) f_268_109 rfl (by decide) ?_
    refine r_getr (q := 104) f_268_110 rfl (by decide) (Or.inl rfl) rfl ?_
    refine r_iload_n (v := x3) f_268_113 rfl ?_
    refine r_aload_n (v := 103) f_268_114 rfl (by decide) ?_
    refine r_getr (q := 104) f_268_115 rfl (by decide) (Or.inl rfl) rfl ?_
    refine r_sipush f_268_118 (by decide) ?_
    refine r_iload_n (v := x3) f_268_121 rfl ?_
    refine r_iadd (u := 2000 + x3) f_268_122 rfl (o2 c1) ?_
    refine r_iaload (n := 3000) (v := h 104 (2000 + x3).toNat) f_268_123 ⟨rfl, rfl⟩ (o3 c1) rfl ?_
    refine r_iastore (n := 3000) f_268_124 ⟨rfl, rfl⟩ (o4 c1) ?_
    refine r_iinc (v := x3) (w := x3 + 1) (ls' := [vr 103, vi x1, vi x2, vi (x3 + 1)]) f_268_125 rfl rfl (o5 c1) rfl ?_
    refine r_goto (t := 102) f_268_128 rfl ?_
    exact (k6 c1)

theorem g_M_talks_139 {Q : PQ} {h : HP} {x1 : Int} {x2 : Int} {j3 : AV} {s0 : Int} 
    (k1 : Q (some (vi s0)) h) :
    Wp true i_M_talks 139 [vr 103, vi x1, vi x2, j3] [vi s0] h Q := by
  exact r_reti f_268_139 rfl k1

/-! ===== the reference reads TALKS ===== -/
def Opd (P : Nat → Int) : List Nat → Prop
  | [] => True
  | o :: st => P st.length = o ∧ Opd P st
theorem Opd_c {P P' : Nat → Int} : ∀ st : List Nat, (∀ i, i < st.length → P' i = P i) → Opd P st → Opd P' st
  | [], _, _ => trivial
  | o :: st, e, h => ⟨by rw [e st.length (by rw [List.length_cons]; omega)]; exact h.1, Opd_c st (fun i hi => e i (by rw [List.length_cons]; omega)) h.2⟩
def TMr (X T : HP) (m c : Nat) (st : List Nat) : Prop := X 104 2007 = m ∧ X 103 22 = st.length ∧ X 103 23 = c ∧ Opd (X 111) st ∧ ∀ k e, k < 6 → e < m → X 104 (2075 + 7 * e + k) = T k e
/-- the room that the reference has -/
def RM (H R : HP) (N : NT) : Prop := H 104 0 = R 0 0 ∧ H 104 1 = R 0 1 ∧ H 104 2 = R 0 3 ∧ ∀ i : Nat, (i : Int) < R 0 3 → H 105 i = nm256 (N i) ∧ ∀ c ∈ N i, 1 ≤ c ∧ c ≤ 26
/-- X with a new entry x behind its m ones -/
def EY (Y X : HP) (m : Nat) (x : EN) (c' : Int) : Prop :=
  (∀ k, k ≠ 103 → k ≠ 104 → Y k = X k) ∧ (∀ i, i ≠ 23 → Y 103 i = X 103 i) ∧ Y 103 23 = c' ∧ Y 104 2007 = (m : Int) + 1 ∧ (∀ i, i ≠ 2007 → ¬ (2075 + 7 * m ≤ i ∧ i ≤ 2075 + 7 * m + 6) → Y 104 i = X 104 i) ∧
  Y 104 (2075 + 7 * m) = x.1 ∧ Y 104 (2075 + 7 * m + 1) = x.2.1 ∧ Y 104 (2075 + 7 * m + 2) = x.2.2.1 ∧ Y 104 (2075 + 7 * m + 3) = x.2.2.2.1 ∧ Y 104 (2075 + 7 * m + 4) = 0 ∧ Y 104 (2075 + 7 * m + 5) = x.2.2.2.2
theorem EY_w {Y X : HP} {m j : Nat} {x y : EN} {c' v : Int} (E : EY Y X m x c') (hj : j = 0 ∨ j = 1 ∨ j = 2 ∨ j = 3 ∨ j = 5) (hy : y = (if j = 0 then v else x.1, if j = 1 then v else x.2.1, if j = 2 then v else x.2.2.1, if j = 3 then v else x.2.2.2.1, if j = 5 then v else x.2.2.2.2)) : EY (hs Y 104 (2075 + 7 * m + j) v) X m y c' := by
  subst hy
  obtain ⟨e1, e2, e3, e4, e5, e6, e7, e8, e9, e10, e11⟩ := E
  have g : ∀ i w, i ≤ 6 → Y 104 (2075 + 7 * m + i) = w → (hs Y 104 (2075 + 7 * m + j) v) 104 (2075 + 7 * m + i) = if j = i then v else w := by
    intro i w hi hw
    by_cases z : j = i
    · rw [if_pos z, z, hs_s]
    · rw [if_neg z, hs_o (Or.inr (by omega))]; exact hw
  refine ⟨fun k k1 k2 => by rw [hs_ne k2]; exact e1 k k1 k2, fun i hi => by rw [hs_ne (by decide)]; exact e2 i hi, by rw [hs_ne (by decide)]; exact e3, by rw [hs_o (Or.inr (by omega))]; exact e4, fun i i1 i2 => by rw [hs_o (Or.inr (by omega))]; exact e5 i i1 i2, g 0 _ (by decide) e6, g 1 _ (by decide) e7, g 2 _ (by decide) e8, g 3 _ (by decide) e9, ?_, g 5 _ (by decide) e11⟩
  rw [g 4 _ (by decide) e10, if_neg (by omega)]
section
variable {Q : PQ} {h H X Z R T : HP} {B : Bt} {n s m c : Nat} {N : NT} {st : List Nat} {c' : Int}
theorem RM_g {g Y : HP} (C : RM H R N) (r3 : R 0 3 ≤ 10) (F : FXM H Y) (e : EM Y g) : RM g R N := by
  have a : ∀ i, i < 2000 → g 104 i = H 104 i := fun i hi => by rw [e.1 104 (by decide)]; exact F.1.2.1 i hi
  have b : ∀ i, i < 40 → g 105 i = H 105 i := fun i hi => by rw [e.1 105 (by decide)]; exact F.1.2.2.1 i hi
  refine ⟨(a 0 (by decide)).trans C.1, (a 1 (by decide)).trans C.2.1, (a 2 (by decide)).trans C.2.2.1, fun i hi => ⟨?_, (C.2.2.2 i hi).2⟩⟩
  rw [b i (by omega)]; exact (C.2.2.2 i hi).1
theorem c3_name {x1 : Int} {i : Nat} (F : FXM H X) (C : RM H R N) (r3 : 0 ≤ R 0 3 ∧ R 0 3 ≤ 10) (S : SMo B n s X h) (ex : x1 = i) (h2 : 2000 ≤ i) (h3 : i < 3000) (k : hd (sName B n s R N) (fun fk fp => ∀ g, FaM H g fk fp → Q (some (vi 0)) g) (fun a => ∀ g, SMo B n a.2 (hs X 104 i a.1) g → Q (some (vi 1)) g)) : Wp true i_M_thingTo 0 [vr 103, vi x1] [] h Q := by
  subst ex
  have Ch := RM_g C r3.2 F S.1
  obtain ⟨cc, ec⟩ : ∃ cc : Nat, R 0 3 = cc := ⟨(R 0 3).toNat, by omega⟩
  unfold sName at k
  refine g_M_thingTo_0 (c_M_isName S.2 (fun nm => ?_) (fun nn => ?_))
  · rw [if_pos nm, ec, Int.toNat_natCast] at k
    refine g_M_thingTo_6 (fun _ => ?_) (fun z => absurd z (by decide))
    rw [Ch.2.2.1, ec]
    refine c_M_findHere (b := 0) (m := cc) (N := N) S.2 nm (by omega) (fun j hj => ?_) ?_
    · rw [Nat.zero_add]; exact Ch.2.2.2 j (by omega)
    · have S1 : ∀ v, SMo B n s (hs X 104 i v) (hs h 104 i v) := fun v => SMo_w S (by decide) (by decide)
      have F1 : ∀ v, FXM H (hs X 104 i v) := fun v => FXM_4 F h2
      by_cases z : fnd (fun i => N i = tL B n s) cc 0 = -1
      · rw [if_pos z] at k
        refine g_M_thingTo_31 (by omega) (by omega) (fun y => ?_) (fun _ => ?_)
        · rw [Int.toNat_natCast, hs_s] at y; exact absurd z y
        · rw [Int.toNat_natCast]
          exact c3_fail (F1 _) (S1 _) (hd_m k (fun fk fp q g f => g_M_thingTo_47 (Or.inl rfl) (q g f)) (fun _ q => q))
      · rw [if_neg z] at k
        refine g_M_thingTo_31 (by omega) (by omega) (fun _ => ?_) (fun y => ?_)
        · rw [Int.toNat_natCast]
          exact c3_next (S1 _) (fun g S' => g_M_thingTo_52 (k g S'))
        · rw [Int.toNat_natCast, hs_s] at y; exact absurd y z
  · rw [if_neg nn] at k
    exact g_M_thingTo_6 (fun z => absurd rfl z) (fun _ => c3_fail F S (hd_m k (fun fk fp q g f => g_M_thingTo_14 (Or.inl rfl) (q g f)) (fun _ q => q)))
theorem c3_row {x1 : Int} {i : Nat} (F : FXM H X) (C : RM H R N) (W : WR R) (S : SMo B n s X h) (ex : x1 = i) (h3 : i < 3000) (k : hd (sNum B n s 0 (R 0 1 - 1)) (fun fk fp => ∀ g, FaM H g fk fp → Q (some (vi 0)) g) (fun a => 0 ≤ a.1 → a.1 ≤ R 0 1 - 1 → ∀ g, SMo B n a.2 (hs X 104 i a.1) g → Q (some (vi 1)) g)) : Wp true i_M_rowTo 0 [vr 103, vi x1] [] h Q := by
  have w := W.1
  have Ch := RM_g C (by omega) F S.1
  refine g_M_rowTo_0 (by rw [Ch.2.1]; omega) ?_
  rw [Ch.2.1]
  exact c3_num F S ex h3 (hd_m k (fun fk fp q g f => g_M_rowTo_14 (Or.inl rfl) (q g f)) (fun a q l1 l2 g S' => g_M_rowTo_14 (Or.inr rfl) (q l1 l2 g S')))
theorem c_M_test {w0 : Int} (F : FXM H Z) (C : RM H R N) (W : WR R) (S : SMo B n s Z h) (E : EY Z X m (w0, 0, 0, 0, 0) c') (hm : m < 60) (k : hd (sTest B n s R N) (fun fk fp => ∀ g, FaM H g fk fp → Q (some (vi 0)) g) (fun a => ∀ Y g, FXM H Y → SMo B n a.1 Y g → EY Y X m a.2 c' → Q (some (vi 1)) g)) : Wp true i_M_test 0 [vr 103, vi (2075 + 7 * (m : Int)), vr 9999] [] h Q := by
  have w := W.1
  have rg := wm_rg (B := B) (n := n) (s := s)
  have m16 : wm (tW B n s) = 19 ↔ tW B n s = 16 := wm_eq (B := B) (n := n) (s := s) (j := 16) (by decide)
  have m17 : wm (tW B n s) = 20 ↔ tW B n s = 17 := wm_eq (B := B) (n := n) (s := s) (j := 17) (by decide)
  have m18 : wm (tW B n s) = 21 ↔ tW B n s = 18 := wm_eq (B := B) (n := n) (s := s) (j := 18) (by decide)
  unfold sTest at k
  refine g_M_test_0 (c_M_inWords S.2 ?_)
  by_cases cw' : 16 ≤ tW B n s ∧ tW B n s ≤ 18
  · rw [if_pos cw'] at k
    have ew : wm (tW B n s) = tW B n s + 3 := by
      rcases (show tW B n s = 16 ∨ tW B n s = 17 ∨ tW B n s = 18 by omega) with z | z | z
      · rw [m16.mpr z, z]; rfl
      · rw [m17.mpr z, z]; rfl
      · rw [m18.mpr z, z]; rfl
    rw [ew]
    have tr : (2075 + 7 * (m : Int)).toNat = 2075 + 7 * m + 0 := by omega
    refine g_M_test_6 (fun _ => by omega) (fun _ => by omega) (fun _ => ?_) (fun z => by omega)
    rw [tr]
    have E1 := EY_w (j := 0) (v := 1500 + (tW B n s + 3)) E (Or.inl rfl) rfl
    have F1 := FXM_4 (i := 2075 + 7 * m + 0) (v := 1500 + (tW B n s + 3)) F (by omega)
    refine c3_next (SMo_w S (by decide) (by decide)) (fun g1 S1 => g_M_test_34 (by omega) (c3_num (i := 2075 + 7 * m + 1) F1 S1 (by omega) (by omega) (hd_m (hd_bd.mp k) (fun fk fp q g f => g_M_test_43 (fun z => absurd rfl z) (fun z => absurd rfl z) (fun z => absurd rfl z) (fun _ => q g f)) (fun l q l1 l2 g2 S2 => ?_))))
    have E2 := EY_w (j := 1) (v := l.1) E1 (Or.inr (Or.inl rfl)) rfl
    have F2 := FXM_4 (i := 2075 + 7 * m + 1) (v := l.1) F1 (by omega)
    by_cases w18 : tW B n s = 18
    · rw [if_pos w18] at q
      refine g_M_test_43 (fun _ z => by omega) (fun _ _ => by omega) (fun _ _ => ?_) (fun z => absurd z (by decide))
      refine c3_name (i := 2075 + 7 * m + 2) F2 C (by omega) S2 (by omega) (by omega) (by omega) (hd_m (hd_bd.mp q) (fun fk fp q g f => g_M_test_61 (Or.inl rfl) (q g f)) (fun t q g3 S3 => g_M_test_61 (Or.inr rfl) (q _ g3 (FXM_4 F2 (by omega)) S3 (EY_w (j := 2) (v := t.1) E2 (Or.inr (Or.inr (Or.inl rfl))) ?_))))
      rw [w18]; rfl
    · rw [if_neg w18] at q
      unfold sCmp at q
      refine g_M_test_43 (fun _ _ => ?_) (fun _ z => by omega) (fun _ z => by omega) (fun z => absurd z (by decide))
      have e15 : tK B n l.2 = 3 → g2 103 15 = B l.2 := S2.2.2.2.2.2.2.2
      have ye : tK B n l.2 = 3 → ¬ B l.2 = 59 → Wp true i_M_test 95 [vr 103, vi (2075 + 7 * (m : Int)), vi (tW B n s + 3)] [] g2 Q := by
        intro t3 y
        rw [if_pos ⟨t3, y⟩] at q
        refine g_M_test_95 (by omega) (by omega) ?_
        rw [e15 t3, show (2075 + 7 * (m : Int) + 5).toNat = 2075 + 7 * m + 5 by omega]
        have E3 := EY_w (j := 5) (v := B l.2) E2 (Or.inr (Or.inr (Or.inr (Or.inr rfl)))) rfl
        have F3 := FXM_4 (i := 2075 + 7 * m + 5) (v := B l.2) F2 (by omega)
        refine c3_next (SMo_w S2 (by decide) (by decide)) (fun g3 S3 => ?_)
        have fin : ∀ hi : Int, hi = (if tW B n s = 16 then 99 else 999) → Wp true i_M_number 0 [vr 103, vi (2075 + 7 * (m : Int) + 2), vi 0, vi hi] [] g3 (fun r h' => Wp true i_M_test 133 [vr 103, vi (2075 + 7 * (m : Int)), vi (tW B n s + 3)] (r.toList ++ []) h' Q) := by
          intro hi ehi
          subst ehi
          refine c3_num (i := 2075 + 7 * m + 2) F3 S3 (by omega) (by omega) (hd_m (hd_bd.mp q) (fun fk fp q g f => g_M_test_133 (Or.inl rfl) (q g f)) (fun v q _ _ g4 S4 => g_M_test_133 (Or.inr rfl) (q _ g4 (FXM_4 F3 (by omega)) S4 (EY_w (j := 2) (v := v.1) E3 (Or.inr (Or.inr (Or.inl rfl))) ?_))))
          show (1503 + tW B n s, l.1, v.1, (0 : Int), B l.2) = (1500 + (tW B n s + 3), l.1, v.1, (0 : Int), B l.2)
          rw [show 1500 + (tW B n s + 3) = 1503 + tW B n s by omega]
        exact g_M_test_111 (by omega) (fun z => fin 99 (by rw [if_pos (by omega)])) (fun z => fin 999 (by rw [if_neg (by omega)]))
      have no : ¬ (tK B n l.2 = 3 ∧ ¬ B l.2 = 59) → Wp true i_M_test 86 [vr 103, vi (2075 + 7 * (m : Int)), vi (tW B n s + 3)] [vi 0] g2 Q := by
        intro y
        rw [if_neg y] at q
        exact g_M_test_86 (fun z => absurd rfl z) (fun _ => c3_fail F2 S2 (hd_m q (fun fk fp q g f => g_M_test_94 (Or.inl rfl) (q g f)) (fun _ q => q)))
      have sg := sgn_rg (B := B) (n := n) (s := l.2)
      refine c_M_isSign S2.2 (fun t3 y => g_M_test_68 (fun _ => ye t3 (by omega)) (fun z => absurd z (by decide))) (fun y1 => g_M_test_68 (fun z => absurd rfl z) (fun _ => c_M_isSign S2.2 (fun t3 y => g_M_test_77 (fun _ => ye t3 (by omega)) (fun z => absurd z (by decide))) (fun y2 => g_M_test_77 (fun z => absurd rfl z) (fun _ => c_M_isSign S2.2 (fun t3 y => g_M_test_86 (fun _ => ye t3 (by omega)) (fun z => absurd z (by decide))) (fun y3 => no (fun y4 => ?_))))))
      have := sg y4.1
      have a1 : ¬ B l.2 = 60 := fun z => y1 ⟨y4.1, z⟩
      have a2 : ¬ B l.2 = 62 := fun z => y2 ⟨y4.1, z⟩
      have a3 : ¬ B l.2 = 61 := fun z => y3 ⟨y4.1, z⟩
      omega
  · rw [if_neg cw'] at k
    have nw : ¬ 19 ≤ wm (tW B n s) := by
      intro z
      rcases (show wm (tW B n s) = 19 ∨ wm (tW B n s) = 20 ∨ wm (tW B n s) = 21 by omega) with y | y | y
      · have := m16.mp y; omega
      · have := m17.mp y; omega
      · have := m18.mp y; omega
    exact g_M_test_6 (fun z => absurd z nw) (fun z => absurd z nw) (fun z => absurd z nw) (fun _ => c3_fail F S (hd_m k (fun fk fp q g f => g_M_test_18 (Or.inl rfl) (q g f)) (fun _ q => q)))
theorem c_M_talkOrder {w : Int} (hw : bgS w) (F : FXM H Z) (C : RM H R N) (W : WR R) (S : SMo B n s Z h) (E : EY Z X m (wm w, 0, 0, 0, 0) c') (hm : m < 60) (k : hd (sOrd B n w s R N) (fun fk fp => ∀ g, FaM H g fk fp → Q (some (vi 0)) g) (fun a => ∀ Y g, FXM H Y → SMo B n a.1 Y g → EY Y X m a.2 c' → Q (some (vi 1)) g)) : Wp true i_M_talkOrder 0 [vr 103, vi (wm w), vi (2075 + 7 * (m : Int))] [] h Q := by
  have r := W.1
  unfold sOrd at k
  have zz : ∀ (x : Int), x = 0 ∨ x = 1 → True := fun _ _ => trivial
  rcases hw with w' | w' | w' | w' | w' | w' | w' | w'
  · subst w'
    rw [if_pos rfl] at k
    refine g_M_talkOrder_0 (fun _ => by omega) (fun _ => ?_) (fun z => absurd z (by decide)) (fun z => absurd z (by decide)) (fun z => absurd z (by decide)) (fun z => absurd z (by decide)) (fun z => absurd z (by decide)) (fun z => absurd z (by decide)) (fun z => absurd z (by decide)) (fun z => absurd z (by decide)) (fun z => absurd z (by decide)) (fun z => absurd z (by decide)) (fun z => absurd z (by decide)) (fun z => absurd rfl z)
    refine c3_num (i := 2075 + 7 * m + 1) F S (by omega) (by omega) (hd_m (hd_bd.mp k) (fun fk fp q g f => g_M_talkOrder_57 (fun _ => q g f) (fun z => absurd rfl z) (fun z => absurd rfl z)) (fun a q l1 l2 g1 S1 => ?_))
    have F1 := FXM_4 (i := 2075 + 7 * m + 1) (v := a.1) F (by omega)
    refine g_M_talkOrder_57 (fun z => absurd z (by decide)) (fun _ => by omega) (fun _ => c3_row (i := 2075 + 7 * m + 2) F1 C W S1 (by omega) (by omega) (hd_m (hd_bd.mp q) (fun fk fp q g f => g_M_talkOrder_67 (fun _ => q g f) (fun z => absurd rfl z) (fun z => absurd rfl z)) (fun b q l3 l4 g2 S2 => ?_)))
    have F2 := FXM_4 (i := 2075 + 7 * m + 2) (v := b.1) F1 (by omega)
    refine g_M_talkOrder_67 (fun z => absurd z (by decide)) (fun _ => by omega) (fun _ => c3_num (i := 2075 + 7 * m + 3) F2 S2 (by omega) (by omega) (hd_m (hd_bd.mp q) (fun fk fp q g f => g_M_talkOrder_80 (fun _ => q g f) (fun z => absurd rfl z)) (fun d q l5 l6 g3 S3 => ?_)))
    refine g_M_talkOrder_80 (fun z => absurd z (by decide)) (fun _ => q _ g3 (FXM_4 F2 (by omega)) S3 (EY_w (j := 3) (v := d.1) (EY_w (j := 2) (v := b.1) (EY_w (j := 1) (v := a.1) E (Or.inr (Or.inl rfl)) rfl) (Or.inr (Or.inr (Or.inl rfl))) rfl) (Or.inr (Or.inr (Or.inr (Or.inl rfl)))) rfl))
  · subst w'
    rw [if_neg (by decide), if_neg (by decide), if_neg (by decide), if_neg (by decide), if_neg (by decide), if_neg (by decide)] at k
    exact g_M_talkOrder_0 (fun z => absurd z (by decide)) (fun z => absurd z (by decide)) (fun z => absurd z (by decide)) (fun z => absurd z (by decide)) (fun z => absurd z (by decide)) (fun z => absurd z (by decide)) (fun z => absurd z (by decide)) (fun z => absurd z (by decide)) (fun z => absurd z (by decide)) (fun z => absurd z (by decide)) (fun z => absurd z (by decide)) (fun _ => k Z h F S E) (fun z => absurd z (by decide)) (fun _ _ _ _ _ _ z => absurd rfl z)
  · subst w'
    rw [if_neg (by decide), if_pos rfl] at k
    refine g_M_talkOrder_0 (fun z => absurd z (by decide)) (fun z => absurd z (by decide)) (fun _ => by omega) (fun _ => ?_) (fun z => absurd z (by decide)) (fun z => absurd z (by decide)) (fun z => absurd z (by decide)) (fun z => absurd z (by decide)) (fun z => absurd z (by decide)) (fun z => absurd z (by decide)) (fun z => absurd z (by decide)) (fun z => absurd z (by decide)) (fun z => absurd z (by decide)) (fun _ z => absurd rfl z)
    exact c3_row (i := 2075 + 7 * m + 1) F C W S (by omega) (by omega) (hd_m (hd_bd.mp k) (fun fk fp q g f => g_M_talkOrder_96 (Or.inl rfl) (q g f)) (fun a q l1 l2 g1 S1 => g_M_talkOrder_96 (Or.inr rfl) (q _ g1 (FXM_4 F (by omega)) S1 (EY_w (j := 1) (v := a.1) E (Or.inr (Or.inl rfl)) rfl))))
  · subst w'
    rw [if_neg (by decide), if_neg (by decide), if_pos rfl] at k
    refine g_M_talkOrder_0 (fun z => absurd z (by decide)) (fun z => absurd z (by decide)) (fun z => absurd z (by decide)) (fun z => absurd z (by decide)) (fun _ => by omega) (fun _ => ?_) (fun z => absurd z (by decide)) (fun z => absurd z (by decide)) (fun z => absurd z (by decide)) (fun z => absurd z (by decide)) (fun z => absurd z (by decide)) (fun z => absurd z (by decide)) (fun z => absurd z (by decide)) (fun _ _ z => absurd rfl z)
    refine c3_name (i := 2075 + 7 * m + 1) F C (by omega) S (by omega) (by omega) (by omega) (hd_m (hd_bd.mp k) (fun fk fp q g f => g_M_talkOrder_104 (fun _ => q g f) (fun z => absurd rfl z)) (fun t q g1 S1 => ?_))
    have F1 := FXM_4 (i := 2075 + 7 * m + 1) (v := t.1) F (by omega)
    refine g_M_talkOrder_104 (fun z => absurd z (by decide)) (fun _ => c3_word (j := 13) F1 S1 (by decide) rfl (hd_m (hd_bd.mp q) (fun fk fp q g f => g_M_talkOrder_115 (fun _ => q g f) (fun z => absurd rfl z) (fun z => absurd rfl z) (fun z => absurd rfl z)) (fun s2 q g2 S2 => ?_)))
    have C2 := RM_g C (by omega) F1 S2.1
    refine g_M_talkOrder_115 (fun z => absurd z (by decide)) (fun _ => by omega) (fun _ => by rw [C2.1]; omega) (fun _ => ?_)
    rw [C2.1]
    refine c3_num (i := 2075 + 7 * m + 2) F1 S2 (by omega) (by omega) (hd_m (hd_bd.mp q) (fun fk fp q g f => g_M_talkOrder_134 (fun _ => q g f) (fun z => absurd rfl z) (fun z => absurd rfl z)) (fun b q l3 l4 g3 S3 => ?_))
    have F3 := FXM_4 (i := 2075 + 7 * m + 2) (v := b.1) F1 (by omega)
    refine g_M_talkOrder_134 (fun z => absurd z (by decide)) (fun _ => by omega) (fun _ => c3_row (i := 2075 + 7 * m + 3) F3 C W S3 (by omega) (by omega) (hd_m (hd_bd.mp q) (fun fk fp q g f => g_M_talkOrder_144 (fun _ => q g f) (fun z => absurd rfl z)) (fun d q l5 l6 g4 S4 => ?_)))
    exact g_M_talkOrder_144 (fun z => absurd z (by decide)) (fun _ => q _ g4 (FXM_4 F3 (by omega)) S4 (EY_w (j := 3) (v := d.1) (EY_w (j := 2) (v := b.1) (EY_w (j := 1) (v := t.1) E (Or.inr (Or.inl rfl)) rfl) (Or.inr (Or.inr (Or.inl rfl))) rfl) (Or.inr (Or.inr (Or.inr (Or.inl rfl)))) rfl))
  · subst w'
    rw [if_neg (by decide), if_neg (by decide), if_neg (by decide), if_pos rfl] at k
    refine g_M_talkOrder_0 (fun z => absurd z (by decide)) (fun z => absurd z (by decide)) (fun z => absurd z (by decide)) (fun z => absurd z (by decide)) (fun z => absurd z (by decide)) (fun z => absurd z (by decide)) (fun _ => by omega) (fun _ => ?_) (fun z => absurd z (by decide)) (fun z => absurd z (by decide)) (fun z => absurd z (by decide)) (fun z => absurd z (by decide)) (fun z => absurd z (by decide)) (fun _ _ _ z => absurd rfl z)
    exact c3_num (i := 2075 + 7 * m + 1) F S (by omega) (by omega) (hd_m (hd_bd.mp k) (fun fk fp q g f => g_M_talkOrder_162 (Or.inl rfl) (q g f)) (fun a q l1 l2 g1 S1 => g_M_talkOrder_162 (Or.inr rfl) (q _ g1 (FXM_4 F (by omega)) S1 (EY_w (j := 1) (v := a.1) E (Or.inr (Or.inl rfl)) rfl))))
  · subst w'
    rw [if_neg (by decide), if_neg (by decide), if_neg (by decide), if_neg (by decide), if_pos rfl] at k
    refine g_M_talkOrder_0 (fun z => absurd z (by decide)) (fun z => absurd z (by decide)) (fun z => absurd z (by decide)) (fun z => absurd z (by decide)) (fun z => absurd z (by decide)) (fun z => absurd z (by decide)) (fun z => absurd z (by decide)) (fun z => absurd z (by decide)) (fun _ => ?_) (fun z => absurd z (by decide)) (fun z => absurd z (by decide)) (fun z => absurd z (by decide)) (fun z => absurd z (by decide)) (fun _ _ _ _ z => absurd rfl z)
    exact c_M_test F C W S E hm (hd_m k (fun fk fp q g f => g_M_talkOrder_168 (Or.inl rfl) (q g f)) (fun a q Y g FY SY EY' => g_M_talkOrder_168 (Or.inr rfl) (q Y g FY SY EY')))
  · subst w'
    rw [if_neg (by decide), if_neg (by decide), if_neg (by decide), if_neg (by decide), if_neg (by decide), if_pos rfl] at k
    refine g_M_talkOrder_0 (fun z => absurd z (by decide)) (fun z => absurd z (by decide)) (fun z => absurd z (by decide)) (fun z => absurd z (by decide)) (fun z => absurd z (by decide)) (fun z => absurd z (by decide)) (fun z => absurd z (by decide)) (fun z => absurd z (by decide)) (fun z => absurd z (by decide)) (fun _ => by omega) (fun _ => ?_) (fun z => absurd z (by decide)) (fun z => absurd z (by decide)) (fun _ _ _ _ _ z => absurd rfl z)
    exact c3_num (i := 2075 + 7 * m + 1) F S (by omega) (by omega) (hd_m (hd_bd.mp k) (fun fk fp q g f => g_M_talkOrder_179 (Or.inl rfl) (q g f)) (fun a q l1 l2 g1 S1 => g_M_talkOrder_179 (Or.inr rfl) (q _ g1 (FXM_4 F (by omega)) S1 (EY_w (j := 1) (v := a.1) E (Or.inr (Or.inl rfl)) rfl))))
  · subst w'
    rw [if_neg (by decide), if_neg (by decide), if_neg (by decide), if_neg (by decide), if_neg (by decide), if_neg (by decide)] at k
    exact g_M_talkOrder_0 (fun z => absurd z (by decide)) (fun z => absurd z (by decide)) (fun z => absurd z (by decide)) (fun z => absurd z (by decide)) (fun z => absurd z (by decide)) (fun z => absurd z (by decide)) (fun z => absurd z (by decide)) (fun z => absurd z (by decide)) (fun z => absurd z (by decide)) (fun z => absurd z (by decide)) (fun z => absurd z (by decide)) (fun z => absurd z (by decide)) (fun z => absurd z (by decide)) (fun _ _ _ _ _ _ _ _ => k Z h F S E)
end
