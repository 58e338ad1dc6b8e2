theorem g_Is_cheapestOpen_0 {Q : PQ} {h : HP}  
    (k1 : Wp true i_Is_cheapestOpen 7 [vr 82, vi (-1), vi 1000000, vi 0] [] h Q) :
    Wp true i_Is_cheapestOpen 0 [vr 82, vr 9999, vr 9999, vr 9999] [] h Q := by
  refine r_iconst f_81_0 (by decide) ?_
  refine r_istore_n (ls' := [vr 82, vi (-1), vr 9999, vr 9999]) f_81_1 (Nat.le_of_ble_eq_true rfl) rfl ?_
  refine r_ldc f_81_2 (by decide) ?_
  refine r_istore_n (ls' := [vr 82, vi (-1), vi 1000000, vr 9999]) f_81_4 (Nat.le_of_ble_eq_true rfl) rfl ?_
  refine r_iconst f_81_5 (by decide) ?_
  refine r_istore_n (ls' := [vr 82, vi (-1), vi 1000000, vi 0]) f_81_6 (Nat.le_of_ble_eq_true rfl) rfl ?_
  exact k1

theorem g_Is_cheapestOpen_7 {Q : PQ} {h : HP} {x1 : Int} {x2 : Int} {x3 : Int} 
    (k1 : 63 ≤ x3 → Q (some (vi x1)) h)
    (o2 : ¬ 63 ≤ x3 → 0 ≤ x3 ∧ x3 < 63)
    (o3 : ¬ 63 ≤ x3 → x2 ≤ h 88 x3.toNat → -2147483648 ≤ x3 + 1 ∧ x3 + 1 ≤ 2147483647)
    (k4 : ¬ 63 ≤ x3 → x2 ≤ h 88 x3.toNat → Wp true i_Is_cheapestOpen 7 [vr 82, vi x1, vi x2, vi (x3 + 1)] [] h Q)
    (o5 : ¬ 63 ≤ x3 → ¬ x2 ≤ h 88 x3.toNat → ¬ (o_land (o_lshr (h 82 8) x3) 1 = 0) → -2147483648 ≤ x3 + 1 ∧ x3 + 1 ≤ 2147483647)
    (k6 : ¬ 63 ≤ x3 → ¬ x2 ≤ h 88 x3.toNat → ¬ (o_land (o_lshr (h 82 8) x3) 1 = 0) → Wp true i_Is_cheapestOpen 7 [vr 82, vi x1, vi x2, vi (x3 + 1)] [] h Q)
    (o7 : ¬ 63 ≤ x3 → ¬ x2 ≤ h 88 x3.toNat → (o_land (o_lshr (h 82 8) x3) 1 = 0) → -2147483648 ≤ x3 + 1 ∧ x3 + 1 ≤ 2147483647)
    (k8 : ¬ 63 ≤ x3 → ¬ x2 ≤ h 88 x3.toNat → (o_land (o_lshr (h 82 8) x3) 1 = 0) → Wp true i_Is_cheapestOpen 7 [vr 82, vi x3, vi (h 88 x3.toNat), vi (x3 + 1)] [] h Q) :
    Wp true i_Is_cheapestOpen 7 [vr 82, vi x1, vi x2, vi x3] [] h Q := by
  refine r_iload_n (v := x3) f_81_7 rfl ?_
  refine r_bipush f_81_8 (by decide) ?_
  refine r_br2 (t := 46) f_81_10 rfl cb_ge (fun c1 => ?_) (fun c1 => ?_)
  · refine r_iload_n (v := x1) f_81_46 rfl ?_
    exact r_reti f_81_47 rfl (k1 c1)
  · refine r_aload_n (v := 82) f_81_13 rfl (by decide) ?_
    refine r_getr (q := 88) f_81_14 rfl (by decide) (Or.inl rfl) rfl ?_
    refine r_iload_n (v := x3) f_81_17 rfl ?_
    refine r_iaload (n := 63) (v := h 88 x3.toNat) f_81_18 ⟨rfl, rfl⟩ (o2 c1) rfl ?_
    refine r_iload_n (v := x2) f_81_19 rfl ?_
    refine r_br2 (t := 40) f_81_20 rfl cb_ge (fun c2 => ?_) (fun c2 => ?_)
    · refine r_iinc (v := x3) (w := x3 + 1) (ls' := [vr 82, vi x1, vi x2, vi (x3 + 1)]) f_81_40 rfl rfl (o3 c1 c2) rfl ?_
      refine r_goto (t := 7) f_81_43 rfl ?_
      exact (k4 c1 c2)
    · refine r_aload_n (v := 82) f_81_23 rfl (by decide) ?_
      refine r_iload_n (v := x3) f_81_24 rfl ?_
      refine r_callv (as := [vr 82, vi x3]) (st' := []) (ls0 := [vr 82, vi x3]) f_81_25 (by decide) rfl rfl (Nat.le_of_ble_eq_true rfl) (Nat.le_of_ble_eq_true rfl) ⟨_, _, rfl, rfl⟩ rfl ?_
      refine c_Is_isOpen  ?_
      show Wp true i_Is_cheapestOpen 28 [vr 82, vi x1, vi x2, vi x3] [vi (bi (o_land (o_lshr (h 82 8) x3) 1 = 0))] h Q
      refine r_br (t := 40) f_81_28 rfl cb_bf (fun c3 => ?_) (fun c3 => ?_)
      · refine r_iinc (v := x3) (w := x3 + 1) (ls' := [vr 82, vi x1, vi x2, vi (x3 + 1)]) f_81_40 rfl rfl (o5 c1 c2 c3) rfl ?_
        refine r_goto (t := 7) f_81_43 rfl ?_
        exact (k6 c1 c2 c3)
      · have c3 := Decidable.not_not.mp c3
        refine r_iload_n (v := x3) f_81_31 rfl ?_
        refine r_istore_n (ls' := [vr 82, vi x3, vi x2, vi x3]) f_81_32 (Nat.le_of_ble_eq_true rfl) rfl ?_
        refine r_aload_n (v := 82) f_81_33 rfl (by decide) ?_
        refine r_getr (q := 88) f_81_34 rfl (by decide) (Or.inl rfl) rfl ?_
        refine r_iload_n (v := x3) f_81_37 rfl ?_
        refine r_iaload (n := 63) (v := h 88 x3.toNat) f_81_38 ⟨rfl, rfl⟩ (o2 c1) rfl ?_
        refine r_istore_n (ls' := [vr 82, vi x3, vi (h 88 x3.toNat), vi x3]) f_81_39 (Nat.le_of_ble_eq_true rfl) rfl ?_
        refine r_iinc (v := x3) (w := x3 + 1) (ls' := [vr 82, vi x3, vi (h 88 x3.toNat), vi (x3 + 1)]) f_81_40 rfl rfl (o7 c1 c2 c3) rfl ?_
        refine r_goto (t := 7) f_81_43 rfl ?_
        exact (k8 c1 c2 c3)

theorem g_Is_stepFrom_0 {Q : PQ} {h : HP} {x2 : Int} {x3 : Int} {f1 : Nat} (h_f1 : isF f1)
    (k1 : Wp true i_Is_stepFrom 3 [vr 82, vr f1, vi x2, vi x3, vi 0, vr 9999, vr 9999] [] h Q) :
    Wp true i_Is_stepFrom 0 [vr 82, vr f1, vi x2, vi x3, vr 9999, vr 9999, vr 9999] [] h Q := by
  refine r_iconst f_82_0 (by decide) ?_
  refine r_istore (ls' := [vr 82, vr f1, vi x2, vi x3, vi 0, vr 9999, vr 9999]) f_82_1 (Nat.le_of_ble_eq_true rfl) rfl ?_
  exact k1

theorem g_Is_stepFrom_3 {Q : PQ} {h : HP} {x2 : Int} {x3 : Int} {x4 : Int} {j5 : AV} {j6 : AV} {f1 : Nat} (h_f1 : isF f1)
    (k1 : 4 ≤ x4 → Q none h)
    (o2 : ¬ 4 ≤ x4 → 0 ≤ x3 ∧ x3 < 63)
    (o3 : ¬ 4 ≤ x4 → 0 ≤ x4 ∧ x4 < 4)
    (o4 : ¬ 4 ≤ x4 → bs (rmC h f1) x3 x4 < 0 → -2147483648 ≤ x4 + 1 ∧ x4 + 1 ≤ 2147483647)
    (k5 : ¬ 4 ≤ x4 → bs (rmC h f1) x3 x4 < 0 → Wp true i_Is_stepFrom 3 [vr 82, vr f1, vi x2, vi x3, vi (x4 + 1), vi (bs (rmC h f1) x3 x4), j6] [] h Q)
    (o6 : ¬ 4 ≤ x4 → ¬ bs (rmC h f1) x3 x4 < 0 → ¬ (o_land (o_lshr (h 82 8) (bs (rmC h f1) x3 x4)) 1 = 0) → -2147483648 ≤ x4 + 1 ∧ x4 + 1 ≤ 2147483647)
    (k7 : ¬ 4 ≤ x4 → ¬ bs (rmC h f1) x3 x4 < 0 → ¬ (o_land (o_lshr (h 82 8) (bs (rmC h f1) x3 x4)) 1 = 0) → Wp true i_Is_stepFrom 3 [vr 82, vr f1, vi x2, vi x3, vi (x4 + 1), vi (bs (rmC h f1) x3 x4), j6] [] h Q)
    (o8 : ¬ 4 ≤ x4 → ¬ bs (rmC h f1) x3 x4 < 0 → (o_land (o_lshr (h 82 8) (bs (rmC h f1) x3 x4)) 1 = 0) → -2147483648 ≤ (h 88 x3.toNat) + 1 ∧ (h 88 x3.toNat) + 1 ≤ 2147483647)
    (o9 : ¬ 4 ≤ x4 → ¬ bs (rmC h f1) x3 x4 < 0 → (o_land (o_lshr (h 82 8) (bs (rmC h f1) x3 x4)) 1 = 0) → 0 ≤ bs (rmC h f1) x3 x4 ∧ bs (rmC h f1) x3 x4 < 63)
    (k10 : ¬ 4 ≤ x4 → ¬ bs (rmC h f1) x3 x4 < 0 → (o_land (o_lshr (h 82 8) (bs (rmC h f1) x3 x4)) 1 = 0) → ¬ h 83 (bs (rmC h f1) x3 x4).toNat = x2 → Wp true i_Is_stepFrom 57 [vr 82, vr f1, vi x2, vi x3, vi x4, vi (bs (rmC h f1) x3 x4), j6] [vi 100, vi ((h 88 x3.toNat) + 1)] h Q)
    (k11 : ¬ 4 ≤ x4 → ¬ bs (rmC h f1) x3 x4 < 0 → (o_land (o_lshr (h 82 8) (bs (rmC h f1) x3 x4)) 1 = 0) → h 83 (bs (rmC h f1) x3 x4).toNat = x2 → Wp true i_Is_stepFrom 57 [vr 82, vr f1, vi x2, vi x3, vi x4, vi (bs (rmC h f1) x3 x4), j6] [vi 0, vi ((h 88 x3.toNat) + 1)] h Q) :
    Wp true i_Is_stepFrom 3 [vr 82, vr f1, vi x2, vi x3, vi x4, j5, j6] [] h Q := by
  refine r_iload (v := x4) f_82_3 rfl ?_
  refine r_iconst f_82_5 (by decide) ?_
  refine r_br2 (t := 85) f_82_6 rfl cb_ge (fun c1 => ?_) (fun c1 => ?_)
  · exact r_retv f_82_85 rfl (k1 c1)
  · refine r_aload_n (v := f1) f_82_9 rfl (F_n h_f1) ?_
    refine r_iload_n (v := x3) f_82_10 rfl ?_
    refine r_iload (v := x4) f_82_11 rfl ?_
    refine r_calls (as := [vr f1, vi x3, vi x4]) (st' := []) (ls0 := [vr f1, vi x3, vi x4, vr 9999, vr 9999]) f_82_13 (by decide) (by decide) rfl rfl (Nat.le_of_ble_eq_true rfl) (Nat.le_of_ble_eq_true rfl) rfl ?_
    refine c_Is_beside h_f1 (o2 c1) (o3 c1) ?_
    show Wp true i_Is_stepFrom 16 [vr 82, vr f1, vi x2, vi x3, vi x4, j5, j6] [vi (bs (rmC h f1) x3 x4)] h Q
    refine r_istore (ls' := [vr 82, vr f1, vi x2, vi x3, vi x4, vi (bs (rmC h f1) x3 x4), j6]) f_82_16 (Nat.le_of_ble_eq_true rfl) rfl ?_
    refine r_iload (v := bs (rmC h f1) x3 x4) f_82_18 rfl ?_
    refine r_br (t := 79) f_82_20 rfl cb_lt (fun c2 => ?_) (fun c2 => ?_)
    · refine r_iinc (v := x4) (w := x4 + 1) (ls' := [vr 82, vr f1, vi x2, vi x3, vi (x4 + 1), vi (bs (rmC h f1) x3 x4), j6]) f_82_79 rfl rfl (o4 c1 c2) rfl ?_
      refine r_goto (t := 3) f_82_82 rfl ?_
      exact (k5 c1 c2)
    · refine r_aload_n (v := 82) f_82_23 rfl (by decide) ?_
      refine r_iload (v := bs (rmC h f1) x3 x4) f_82_24 rfl ?_
      refine r_callv (as := [vr 82, vi (bs (rmC h f1) x3 x4)]) (st' := []) (ls0 := [vr 82, vi (bs (rmC h f1) x3 x4)]) f_82_26 (by decide) rfl rfl (Nat.le_of_ble_eq_true rfl) (Nat.le_of_ble_eq_true rfl) ⟨_, _, rfl, rfl⟩ rfl ?_
      refine c_Is_isOpen  ?_
      show Wp true i_Is_stepFrom 29 [vr 82, vr f1, vi x2, vi x3, vi x4, vi (bs (rmC h f1) x3 x4), j6] [vi (bi (o_land (o_lshr (h 82 8) (bs (rmC h f1) x3 x4)) 1 = 0))] h Q
      refine r_br (t := 79) f_82_29 rfl cb_bf (fun c3 => ?_) (fun c3 => ?_)
      · refine r_iinc (v := x4) (w := x4 + 1) (ls' := [vr 82, vr f1, vi x2, vi x3, vi (x4 + 1), vi (bs (rmC h f1) x3 x4), j6]) f_82_79 rfl rfl (o6 c1 c2 c3) rfl ?_
        refine r_goto (t := 3) f_82_82 rfl ?_
        exact (k7 c1 c2 c3)
      · have c3 := Decidable.not_not.mp c3
        refine r_aload_n (v := 82) f_82_32 rfl (by decide) ?_
        refine r_getr (q := 88) f_82_33 rfl (by decide) (Or.inl rfl) rfl ?_
        refine r_iload_n (v := x3) f_82_36 rfl ?_
        refine r_iaload (n := 63) (v := h 88 x3.toNat) f_82_37 ⟨rfl, rfl⟩ (o2 c1) rfl ?_
        refine r_iconst f_82_38 (by decide) ?_
        refine r_iadd (u := (h 88 x3.toNat) + 1) f_82_39 rfl (o8 c1 c2 c3) ?_
        refine r_aload_n (v := 82) f_82_40 rfl (by decide) ?_
        refine r_getr (q := 83) f_82_41 rfl (by decide) (Or.inl rfl) rfl ?_
        refine r_iload (v := bs (rmC h f1) x3 x4) f_82_44 rfl ?_
        refine r_iaload (n := 63) (v := h 83 (bs (rmC h f1) x3 x4).toNat) f_82_46 ⟨rfl, rfl⟩ (o9 c1 c2 c3) rfl ?_
        refine r_iload_n (v := x2) f_82_47 rfl ?_
        refine r_br2 (t := 55) f_82_48 rfl cb_ne (fun c4 => ?_) (fun c4 => ?_)
        · refine r_bipush f_82_55 (by decide) ?_
          exact (k10 c1 c2 c3 c4)
        · have c4 := Decidable.not_not.mp c4
          refine r_iconst f_82_51 (by decide) ?_
          refine r_goto (t := 57) f_82_52 rfl ?_
          exact (k11 c1 c2 c3 c4)

theorem g_Is_stepFrom_57 {Q : PQ} {h : HP} {x2 : Int} {x3 : Int} {x4 : Int} {x5 : Int} {j6 : AV} {s0 : Int} {s1 : Int} {f1 : Nat} (h_f1 : isF f1)
    (o1 : -2147483648 ≤ s0 + s1 ∧ s0 + s1 ≤ 2147483647)
    (o2 : 0 ≤ x5 ∧ x5 < 63)
    (o3 : -2147483648 ≤ x4 + 1 ∧ x4 + 1 ≤ 2147483647)
    (k4 : Wp true i_Is_stepFrom 3 [vr 82, vr f1, vi x2, vi x3, vi (x4 + 1), vi x5, vi (s0 + s1)] [] (hs h 88 x5.toNat (min (h 88 x5.toNat) (s0 + s1))) Q) :
    Wp true i_Is_stepFrom 57 [vr 82, vr f1, vi x2, vi x3, vi x4, vi x5, j6] [vi s1, vi s0] h Q := by
  refine r_iadd (u := s0 + s1) f_82_57 rfl o1 ?_
  refine r_istore (ls' := [vr 82, vr f1, vi x2, vi x3, vi x4, vi x5, vi (s0 + s1)]) f_82_58 (Nat.le_of_ble_eq_true rfl) rfl ?_
  refine r_aload_n (v := 82) f_82_60 rfl (by decide) ?_
  refine r_getr (q := 88) f_82_61 rfl (by decide) (Or.inl rfl) rfl ?_
  refine r_iload (v := x5) f_82_64 rfl ?_
  refine r_aload_n (v := 82) f_82_66 rfl (by decide) ?_
  refine r_getr (q := 88) f_82_67 rfl (by decide) (Or.inl rfl) rfl ?_
  refine r_iload (v := x5) f_82_70 rfl ?_
  refine r_iaload (n := 63) (v := h 88 x5.toNat) f_82_72 ⟨rfl, rfl⟩ o2 rfl ?_
  refine r_iload (v := s0 + s1) f_82_73 rfl ?_
  refine r_calls (as := [vi (h 88 x5.toNat), vi (s0 + s1)]) (st' := [vi x5, vr 88]) (ls0 := [vi (h 88 x5.toNat), vi (s0 + s1)]) f_82_75 (by decide) (by decide) rfl rfl (Nat.le_of_ble_eq_true rfl) (Nat.le_of_ble_eq_true rfl) rfl ?_
  refine c_Ma_min  ?_
  show Wp true i_Is_stepFrom 78 [vr 82, vr f1, vi x2, vi x3, vi x4, vi x5, vi (s0 + s1)] [vi (min (h 88 x5.toNat) (s0 + s1)), vi x5, vr 88] h Q
  refine r_iastore (n := 63) f_82_78 ⟨rfl, rfl⟩ o2 ?_
  refine r_iinc (v := x4) (w := x4 + 1) (ls' := [vr 82, vr f1, vi x2, vi x3, vi (x4 + 1), vi x5, vi (s0 + s1)]) f_82_79 rfl rfl o3 rfl ?_
  refine r_goto (t := 3) f_82_82 rfl ?_
  exact k4

theorem g_Is_wayCost_0 {Q : PQ} {h : HP} {x2 : Int} {x3 : Int} {x4 : Int} {f1 : Nat} (h_f1 : isF f1)
    (k1 : Wp true i_Is_findKeepers 0 [vr 82, vr f1, vr 9999, vr 9999] [] h (fun r h' => Wp true i_Is_wayCost 5 [vr 82, vr f1, vi x2, vi x3, vi x4, vr 9999, vr 9999, vr 9999, vr 9999] (r.toList ++ []) h' Q)) :
    Wp true i_Is_wayCost 0 [vr 82, vr f1, vi x2, vi x3, vi x4, vr 9999, vr 9999, vr 9999, vr 9999] [] h Q := by
  refine r_aload_n (v := 82) f_78_0 rfl (by decide) ?_
  refine r_aload_n (v := f1) f_78_1 rfl (F_n h_f1) ?_
  exact r_callv (as := [vr 82, vr f1]) (st' := []) (ls0 := [vr 82, vr f1, vr 9999, vr 9999]) f_78_2 (by decide) rfl rfl (Nat.le_of_ble_eq_true rfl) (Nat.le_of_ble_eq_true rfl) ⟨_, _, rfl, rfl⟩ rfl k1

theorem g_Is_wayCost_5 {Q : PQ} {h : HP} {x2 : Int} {x3 : Int} {x4 : Int} {f1 : Nat} (h_f1 : isF f1)
    (k1 : Wp true i_Ar_fillI 0 [vr 88, vi 1000000, vr 9999, vr 9999] [] h (fun r h' => Wp true i_Is_wayCost 14 [vr 82, vr f1, vi x2, vi x3, vi x4, vr 9999, vr 9999, vr 9999, vr 9999] (r.toList ++ []) h' Q)) :
    Wp true i_Is_wayCost 5 [vr 82, vr f1, vi x2, vi x3, vi x4, vr 9999, vr 9999, vr 9999, vr 9999] [] h Q := by
  refine r_aload_n (v := 82) f_78_5 rfl (by decide) ?_
  refine r_getr (q := 88) f_78_6 rfl (by decide) (Or.inl rfl) rfl ?_
  refine r_ldc f_78_9 (by decide) ?_
  exact r_calls (as := [vr 88, vi 1000000]) (st' := []) (ls0 := [vr 88, vi 1000000, vr 9999, vr 9999]) f_78_11 (by decide) (by decide) rfl rfl (Nat.le_of_ble_eq_true rfl) (Nat.le_of_ble_eq_true rfl) rfl k1

theorem g_Is_wayCost_14 {Q : PQ} {h : HP} {x2 : Int} {x3 : Int} {x4 : Int} {f1 : Nat} (h_f1 : isF f1)
    (k1 : Wp true i_Is_wayCost 22 [vr 82, vr f1, vi x2, vi x3, vi x4, vi 0, vr 9999, vr 9999, vr 9999] [] (hs h 82 8 0) Q) :
    Wp true i_Is_wayCost 14 [vr 82, vr f1, vi x2, vi x3, vi x4, vr 9999, vr 9999, vr 9999, vr 9999] [] h Q := by
  refine r_aload_n (v := 82) f_78_14 rfl (by decide) ?_
  refine r_lconst (v := 0) f_78_15 rfl ?_
  refine r_putj f_78_16 rfl (by decide) ?_
  refine r_iconst f_78_19 (by decide) ?_
  refine r_istore (ls' := [vr 82, vr f1, vi x2, vi x3, vi x4, vi 0, vr 9999, vr 9999, vr 9999]) f_78_20 (Nat.le_of_ble_eq_true rfl) rfl ?_
  exact k1

theorem g_Is_wayCost_22 {Q : PQ} {h : HP} {x2 : Int} {x3 : Int} {x4 : Int} {x5 : Int} {f1 : Nat} (h_f1 : isF f1)
    (o1 : h f1 3 ≤ x5 → WR (rmC h f1))
    (o2 : h f1 3 ≤ x5 → 0 ≤ x4 ∧ x4 < h f1 3)
    (o3 : h f1 3 ≤ x5 → 0 ≤ x3 ∧ x3 < h f1 3)
    (o4 : h f1 3 ≤ x5 → 0 ≤ rmC h f1 3 x3.toNat * 9 + rmC h f1 2 x3.toNat ∧ rmC h f1 3 x3.toNat * 9 + rmC h f1 2 x3.toNat < 63)
    (k5 : h f1 3 ≤ x5 → ¬ h 83 (rmC h f1 3 x3.toNat * 9 + rmC h f1 2 x3.toNat).toNat = x2 → Wp true i_Is_wayCost 111 [vr 82, vr f1, vi x2, vi x3, vi x4, vi (rmC h f1 3 x4.toNat * 9 + rmC h f1 2 x4.toNat), vi (rmC h f1 3 x3.toNat * 9 + rmC h f1 2 x3.toNat), vi 0, vr 9999] [] (hs h 88 (rmC h f1 3 x3.toNat * 9 + rmC h f1 2 x3.toNat).toNat 100) Q)
    (k6 : h f1 3 ≤ x5 → h 83 (rmC h f1 3 x3.toNat * 9 + rmC h f1 2 x3.toNat).toNat = x2 → Wp true i_Is_wayCost 111 [vr 82, vr f1, vi x2, vi x3, vi x4, vi (rmC h f1 3 x4.toNat * 9 + rmC h f1 2 x4.toNat), vi (rmC h f1 3 x3.toNat * 9 + rmC h f1 2 x3.toNat), vi 0, vr 9999] [] (hs h 88 (rmC h f1 3 x3.toNat * 9 + rmC h f1 2 x3.toNat).toNat 0) Q)
    (o7 : ¬ h f1 3 ≤ x5 → ¬ (o_and (o_shr (h f1 12) x5) 1 = 1) → -2147483648 ≤ x5 + 1 ∧ x5 + 1 ≤ 2147483647)
    (k8 : ¬ h f1 3 ≤ x5 → ¬ (o_and (o_shr (h f1 12) x5) 1 = 1) → Wp true i_Is_wayCost 22 [vr 82, vr f1, vi x2, vi x3, vi x4, vi (x5 + 1), vr 9999, vr 9999, vr 9999] [] h Q)
    (o9 : ¬ h f1 3 ≤ x5 → (o_and (o_shr (h f1 12) x5) 1 = 1) → x5 = x3 → -2147483648 ≤ x5 + 1 ∧ x5 + 1 ≤ 2147483647)
    (k10 : ¬ h f1 3 ≤ x5 → (o_and (o_shr (h f1 12) x5) 1 = 1) → x5 = x3 → Wp true i_Is_wayCost 22 [vr 82, vr f1, vi x2, vi x3, vi x4, vi (x5 + 1), vr 9999, vr 9999, vr 9999] [] h Q)
    (o11 : ¬ h f1 3 ≤ x5 → (o_and (o_shr (h f1 12) x5) 1 = 1) → ¬ x5 = x3 → x5 = x4 → -2147483648 ≤ x5 + 1 ∧ x5 + 1 ≤ 2147483647)
    (k12 : ¬ h f1 3 ≤ x5 → (o_and (o_shr (h f1 12) x5) 1 = 1) → ¬ x5 = x3 → x5 = x4 → Wp true i_Is_wayCost 22 [vr 82, vr f1, vi x2, vi x3, vi x4, vi (x5 + 1), vr 9999, vr 9999, vr 9999] [] h Q)
    (o13 : ¬ h f1 3 ≤ x5 → (o_and (o_shr (h f1 12) x5) 1 = 1) → ¬ x5 = x3 → ¬ x5 = x4 → WR (rmC h f1))
    (o14 : ¬ h f1 3 ≤ x5 → (o_and (o_shr (h f1 12) x5) 1 = 1) → ¬ x5 = x3 → ¬ x5 = x4 → 0 ≤ x5 ∧ x5 < h f1 3)
    (o15 : ¬ h f1 3 ≤ x5 → (o_and (o_shr (h f1 12) x5) 1 = 1) → ¬ x5 = x3 → ¬ x5 = x4 → -2147483648 ≤ x5 + 1 ∧ x5 + 1 ≤ 2147483647)
    (k16 : ¬ h f1 3 ≤ x5 → (o_and (o_shr (h f1 12) x5) 1 = 1) → ¬ x5 = x3 → ¬ x5 = x4 → Wp true i_Is_wayCost 22 [vr 82, vr f1, vi x2, vi x3, vi x4, vi (x5 + 1), vr 9999, vr 9999, vr 9999] [] (hs h 82 8 (o_lor (h 82 8) (o_lshl 1 (rmC h f1 3 x5.toNat * 9 + rmC h f1 2 x5.toNat)))) Q) :
    Wp true i_Is_wayCost 22 [vr 82, vr f1, vi x2, vi x3, vi x4, vi x5, vr 9999, vr 9999, vr 9999] [] h Q := by
  refine r_iload (v := x5) f_78_22 rfl ?_
  refine r_aload_n (v := f1) f_78_24 rfl (F_n h_f1) ?_
  refine r_geti (v := h f1 3) f_78_25 (F_k h_f1) (by decide) rfl ?_
  refine r_br2 (t := 69) f_78_28 rfl cb_ge (fun c1 => ?_) (fun c1 => ?_)
  · refine r_aload_n (v := f1) f_78_69 rfl (F_n h_f1) ?_
    refine r_iload (v := x4) f_78_70 rfl ?_
    refine r_calls (as := [vr f1, vi x4]) (st' := []) (ls0 := [vr f1, vi x4]) f_78_72 (by decide) (by decide) rfl rfl (Nat.le_of_ble_eq_true rfl) (Nat.le_of_ble_eq_true rfl) rfl ?_
    refine c_Is_boardOf h_f1 (o1 c1) (o2 c1) ?_
    show Wp true i_Is_wayCost 75 [vr 82, vr f1, vi x2, vi x3, vi x4, vi x5, vr 9999, vr 9999, vr 9999] [vi (rmC h f1 3 x4.toNat * 9 + rmC h f1 2 x4.toNat)] h Q
    refine r_istore (ls' := [vr 82, vr f1, vi x2, vi x3, vi x4, vi (rmC h f1 3 x4.toNat * 9 + rmC h f1 2 x4.toNat), vr 9999, vr 9999, vr 9999]) f_78_75 (Nat.le_of_ble_eq_true rfl) rfl ?_
    refine r_aload_n (v := f1) f_78_77 rfl (F_n h_f1) ?_
    refine r_iload_n (v := x3) f_78_78 rfl ?_
    refine r_calls (as := [vr f1, vi x3]) (st' := []) (ls0 := [vr f1, vi x3]) f_78_79 (by decide) (by decide) rfl rfl (Nat.le_of_ble_eq_true rfl) (Nat.le_of_ble_eq_true rfl) rfl ?_
    refine c_Is_boardOf h_f1 (o1 c1) (o3 c1) ?_
    show Wp true i_Is_wayCost 82 [vr 82, vr f1, vi x2, vi x3, vi x4, vi (rmC h f1 3 x4.toNat * 9 + rmC h f1 2 x4.toNat), vr 9999, vr 9999, vr 9999] [vi (rmC h f1 3 x3.toNat * 9 + rmC h f1 2 x3.toNat)] h Q
    refine r_istore (ls' := [vr 82, vr f1, vi x2, vi x3, vi x4, vi (rmC h f1 3 x4.toNat * 9 + rmC h f1 2 x4.toNat), vi (rmC h f1 3 x3.toNat * 9 + rmC h f1 2 x3.toNat), vr 9999, vr 9999]) f_78_82 (Nat.le_of_ble_eq_true rfl) rfl ?_
    refine r_aload_n (v := 82) f_78_84 rfl (by decide) ?_
    refine r_getr (q := 88) f_78_85 rfl (by decide) (Or.inl rfl) rfl ?_
    refine r_iload (v := rmC h f1 3 x3.toNat * 9 + rmC h f1 2 x3.toNat) f_78_88 rfl ?_
    refine r_aload_n (v := 82) f_78_90 rfl (by decide) ?_
    refine r_getr (q := 83) f_78_91 rfl (by decide) (Or.inl rfl) rfl ?_
    refine r_iload (v := rmC h f1 3 x3.toNat * 9 + rmC h f1 2 x3.toNat) f_78_94 rfl ?_
    refine r_iaload (n := 63) (v := h 83 (rmC h f1 3 x3.toNat * 9 + rmC h f1 2 x3.toNat).toNat) f_78_96 ⟨rfl, rfl⟩ (o4 c1) rfl ?_
    refine r_iload_n (v := x2) f_78_97 rfl ?_
    refine r_br2 (t := 105) f_78_98 rfl cb_ne (fun c2 => ?_) (fun c2 => ?_)
    · refine r_bipush f_78_105 (by decide) ?_
      refine r_iastore (n := 63) f_78_107 ⟨rfl, rfl⟩ (o4 c1) ?_
      refine r_iconst f_78_108 (by decide) ?_
      refine r_istore (ls' := [vr 82, vr f1, vi x2, vi x3, vi x4, vi (rmC h f1 3 x4.toNat * 9 + rmC h f1 2 x4.toNat), vi (rmC h f1 3 x3.toNat * 9 + rmC h f1 2 x3.toNat), vi 0, vr 9999]) f_78_109 (Nat.le_of_ble_eq_true rfl) rfl ?_
      exact (k5 c1 c2)
    · have c2 := Decidable.not_not.mp c2
      refine r_iconst f_78_101 (by decide) ?_
      refine r_goto (t := 107) f_78_102 rfl ?_
      refine r_iastore (n := 63) f_78_107 ⟨rfl, rfl⟩ (o4 c1) ?_
      refine r_iconst f_78_108 (by decide) ?_
      refine r_istore (ls' := [vr 82, vr f1, vi x2, vi x3, vi x4, vi (rmC h f1 3 x4.toNat * 9 + rmC h f1 2 x4.toNat), vi (rmC h f1 3 x3.toNat * 9 + rmC h f1 2 x3.toNat), vi 0, vr 9999]) f_78_109 (Nat.le_of_ble_eq_true rfl) rfl ?_
      exact (k6 c1 c2)
  · refine r_aload_n (v := f1) f_78_31 rfl (F_n h_f1) ?_
    refine r_iload (v := x5) f_78_32 rfl ?_
    refine r_callv (as := [vr f1, vi x5]) (st' := []) (ls0 := [vr f1, vi x5]) f_78_34 (by decide) rfl rfl (Nat.le_of_ble_eq_true rfl) (Nat.le_of_ble_eq_true rfl) ⟨_, _, rfl, (F_k h_f1)⟩ rfl ?_
    refine c_Fl_isBig h_f1 ?_
    show Wp true i_Is_wayCost 37 [vr 82, vr f1, vi x2, vi x3, vi x4, vi x5, vr 9999, vr 9999, vr 9999] [vi (bi (o_and (o_shr (h f1 12) x5) 1 = 1))] h Q
    refine r_br (t := 63) f_78_37 rfl cb_bf (fun c2 => ?_) (fun c2 => ?_)
    · refine r_iinc (v := x5) (w := x5 + 1) (ls' := [vr 82, vr f1, vi x2, vi x3, vi x4, vi (x5 + 1), vr 9999, vr 9999, vr 9999]) f_78_63 rfl rfl (o7 c1 c2) rfl ?_
      refine r_goto (t := 22) f_78_66 rfl ?_
      exact (k8 c1 c2)
    · have c2 := Decidable.not_not.mp c2
      refine r_iload (v := x5) f_78_40 rfl ?_
      refine r_iload_n (v := x3) f_78_42 rfl ?_
      refine r_br2 (t := 63) f_78_43 rfl cb_eq (fun c3 => ?_) (fun c3 => ?_)
      · refine r_iinc (v := x5) (w := x5 + 1) (ls' := [vr 82, vr f1, vi x2, vi x3, vi x4, vi (x5 + 1), vr 9999, vr 9999, vr 9999]) f_78_63 rfl rfl (o9 c1 c2 c3) rfl ?_
        refine r_goto (t := 22) f_78_66 rfl ?_
        exact (k10 c1 c2 c3)
      · refine r_iload (v := x5) f_78_46 rfl ?_
        refine r_iload (v := x4) f_78_48 rfl ?_
        refine r_br2 (t := 63) f_78_50 rfl cb_eq (fun c4 => ?_) (fun c4 => ?_)
        · refine r_iinc (v := x5) (w := x5 + 1) (ls' := [vr 82, vr f1, vi x2, vi x3, vi x4, vi (x5 + 1), vr 9999, vr 9999, vr 9999]) f_78_63 rfl rfl (o11 c1 c2 c3 c4) rfl ?_
          refine r_goto (t := 22) f_78_66 rfl ?_
          exact (k12 c1 c2 c3 c4)
        · refine r_aload_n (v := 82) f_78_53 rfl (by decide) ?_
          refine r_aload_n (v := f1) f_78_54 rfl (F_n h_f1) ?_
          refine r_iload (v := x5) f_78_55 rfl ?_
          refine r_calls (as := [vr f1, vi x5]) (st' := [vr 82]) (ls0 := [vr f1, vi x5]) f_78_57 (by decide) (by decide) rfl rfl (Nat.le_of_ble_eq_true rfl) (Nat.le_of_ble_eq_true rfl) rfl ?_
          refine c_Is_boardOf h_f1 (o13 c1 c2 c3 c4) (o14 c1 c2 c3 c4) ?_
          show Wp true i_Is_wayCost 60 [vr 82, vr f1, vi x2, vi x3, vi x4, vi x5, vr 9999, vr 9999, vr 9999] [vi (rmC h f1 3 x5.toNat * 9 + rmC h f1 2 x5.toNat), vr 82] h Q
          refine r_callv (as := [vr 82, vi (rmC h f1 3 x5.toNat * 9 + rmC h f1 2 x5.toNat)]) (st' := []) (ls0 := [vr 82, vi (rmC h f1 3 x5.toNat * 9 + rmC h f1 2 x5.toNat)]) f_78_60 (by decide) rfl rfl (Nat.le_of_ble_eq_true rfl) (Nat.le_of_ble_eq_true rfl) ⟨_, _, rfl, rfl⟩ rfl ?_
          refine c_Is_close  ?_
          show Wp true i_Is_wayCost 63 [vr 82, vr f1, vi x2, vi x3, vi x4, vi x5, vr 9999, vr 9999, vr 9999] [] (hs h 82 8 (o_lor (h 82 8) (o_lshl 1 (rmC h f1 3 x5.toNat * 9 + rmC h f1 2 x5.toNat)))) Q
          refine r_iinc (v := x5) (w := x5 + 1) (ls' := [vr 82, vr f1, vi x2, vi x3, vi x4, vi (x5 + 1), vr 9999, vr 9999, vr 9999]) f_78_63 rfl rfl (o15 c1 c2 c3 c4) rfl ?_
          refine r_goto (t := 22) f_78_66 rfl ?_
          exact (k16 c1 c2 c3 c4)

theorem g_Is_wayCost_111 {Q : PQ} {h : HP} {x2 : Int} {x3 : Int} {x4 : Int} {x5 : Int} {x6 : Int} {x7 : Int} {j8 : AV} {f1 : Nat} (h_f1 : isF f1)
    (k1 : 63 ≤ x7 → Wp true i_Is_wayCost 159 [vr 82, vr f1, vi x2, vi x3, vi x4, vi x5, vi x6, vi x7, j8] [] h Q)
    (k2 : ¬ 63 ≤ x7 → Wp true i_Is_cheapestOpen 0 [vr 82, vr 9999, vr 9999, vr 9999] [] h (fun r h' => Wp true i_Is_wayCost 122 [vr 82, vr f1, vi x2, vi x3, vi x4, vi x5, vi x6, vi x7, j8] (r.toList ++ []) h' Q)) :
    Wp true i_Is_wayCost 111 [vr 82, vr f1, vi x2, vi x3, vi x4, vi x5, vi x6, vi x7, j8] [] h Q := by
  refine r_iload (v := x7) f_78_111 rfl ?_
  refine r_bipush f_78_113 (by decide) ?_
  refine r_br2 (t := 159) f_78_115 rfl cb_ge (fun c1 => ?_) (fun c1 => ?_)
  · exact (k1 c1)
  · refine r_aload_n (v := 82) f_78_118 rfl (by decide) ?_
    exact r_callv (as := [vr 82]) (st' := []) (ls0 := [vr 82, vr 9999, vr 9999, vr 9999]) f_78_119 (by decide) rfl rfl (Nat.le_of_ble_eq_true rfl) (Nat.le_of_ble_eq_true rfl) ⟨_, _, rfl, rfl⟩ rfl (k2 c1)

theorem g_Is_wayCost_122 {Q : PQ} {h : HP} {x2 : Int} {x3 : Int} {x4 : Int} {x5 : Int} {x6 : Int} {x7 : Int} {j8 : AV} {s0 : Int} {f1 : Nat} (h_f1 : isF f1)
    (k1 : s0 < 0 → Wp true i_Is_wayCost 159 [vr 82, vr f1, vi x2, vi x3, vi x4, vi x5, vi x6, vi x7, vi s0] [] h Q)
    (k2 : ¬ s0 < 0 → ¬ s0 = x5 → Wp true i_Is_stepFrom 0 [vr 82, vr f1, vi x2, vi s0, vr 9999, vr 9999, vr 9999] [] (hs h 82 8 (o_lor (h 82 8) (o_lshl 1 s0))) (fun r h' => Wp true i_Is_wayCost 153 [vr 82, vr f1, vi x2, vi x3, vi x4, vi x5, vi x6, vi x7, vi s0] (r.toList ++ []) h' Q))
    (k3 : ¬ s0 < 0 → s0 = x5 → Wp true i_Is_wayCost 159 [vr 82, vr f1, vi x2, vi x3, vi x4, vi x5, vi x6, vi x7, vi s0] [] h Q) :
    Wp true i_Is_wayCost 122 [vr 82, vr f1, vi x2, vi x3, vi x4, vi x5, vi x6, vi x7, j8] [vi s0] h Q := by
  refine r_istore (ls' := [vr 82, vr f1, vi x2, vi x3, vi x4, vi x5, vi x6, vi x7, vi s0]) f_78_122 (Nat.le_of_ble_eq_true rfl) rfl ?_
  refine r_iload (v := s0) f_78_124 rfl ?_
  refine r_br (t := 159) f_78_126 rfl cb_lt (fun c1 => ?_) (fun c1 => ?_)
  · exact (k1 c1)
  · refine r_iload (v := s0) f_78_129 rfl ?_
    refine r_iload (v := x5) f_78_131 rfl ?_
    refine r_br2 (t := 139) f_78_133 rfl cb_ne (fun c2 => ?_) (fun c2 => ?_)
    · refine r_aload_n (v := 82) f_78_139 rfl (by decide) ?_
      refine r_iload (v := s0) f_78_140 rfl ?_
      refine r_callv (as := [vr 82, vi s0]) (st' := []) (ls0 := [vr 82, vi s0]) f_78_142 (by decide) rfl rfl (Nat.le_of_ble_eq_true rfl) (Nat.le_of_ble_eq_true rfl) ⟨_, _, rfl, rfl⟩ rfl ?_
      refine c_Is_close  ?_
      show Wp true i_Is_wayCost 145 [vr 82, vr f1, vi x2, vi x3, vi x4, vi x5, vi x6, vi x7, vi s0] [] (hs h 82 8 (o_lor (h 82 8) (o_lshl 1 s0))) Q
      refine r_aload_n (v := 82) f_78_145 rfl (by decide) ?_
      refine r_aload_n (v := f1) f_78_146 rfl (F_n h_f1) ?_
      refine r_iload_n (v := x2) f_78_147 rfl ?_
      refine r_iload (v := s0) f_78_148 rfl ?_
      exact r_callv (as := [vr 82, vr f1, vi x2, vi s0]) (st' := []) (ls0 := [vr 82, vr f1, vi x2, vi s0, vr 9999, vr 9999, vr 9999]) f_78_150 (by decide) rfl rfl (Nat.le_of_ble_eq_true rfl) (Nat.le_of_ble_eq_true rfl) ⟨_, _, rfl, rfl⟩ rfl (k2 c1 c2)
    · have c2 := Decidable.not_not.mp c2
      refine r_goto (t := 159) f_78_136 rfl ?_
      exact (k3 c1 c2)

theorem g_Is_wayCost_153 {Q : PQ} {h : HP} {x2 : Int} {x3 : Int} {x4 : Int} {x5 : Int} {x6 : Int} {x7 : Int} {x8 : Int} {f1 : Nat} (h_f1 : isF f1)
    (o1 : -2147483648 ≤ x7 + 1 ∧ x7 + 1 ≤ 2147483647)
    (k2 : Wp true i_Is_wayCost 111 [vr 82, vr f1, vi x2, vi x3, vi x4, vi x5, vi x6, vi (x7 + 1), vi x8] [] h Q) :
    Wp true i_Is_wayCost 153 [vr 82, vr f1, vi x2, vi x3, vi x4, vi x5, vi x6, vi x7, vi x8] [] h Q := by
  refine r_iinc (v := x7) (w := x7 + 1) (ls' := [vr 82, vr f1, vi x2, vi x3, vi x4, vi x5, vi x6, vi (x7 + 1), vi x8]) f_78_153 rfl rfl o1 rfl ?_
  refine r_goto (t := 111) f_78_156 rfl ?_
  exact k2

theorem g_Is_wayCost_159 {Q : PQ} {h : HP} {x2 : Int} {x3 : Int} {x4 : Int} {x5 : Int} {x6 : Int} {x7 : Int} {j8 : AV} {f1 : Nat} (h_f1 : isF f1)
    (o1 : 0 ≤ x5 ∧ x5 < 63)
    (k2 : 1000000 ≤ h 88 x5.toNat → Q (some (vi (-1))) h)
    (k3 : ¬ 1000000 ≤ h 88 x5.toNat → Q (some (vi (h 88 x5.toNat))) h) :
    Wp true i_Is_wayCost 159 [vr 82, vr f1, vi x2, vi x3, vi x4, vi x5, vi x6, vi x7, j8] [] h Q := by
  refine r_aload_n (v := 82) f_78_159 rfl (by decide) ?_
  refine r_getr (q := 88) f_78_160 rfl (by decide) (Or.inl rfl) rfl ?_
  refine r_iload (v := x5) f_78_163 rfl ?_
  refine r_iaload (n := 63) (v := h 88 x5.toNat) f_78_165 ⟨rfl, rfl⟩ o1 rfl ?_
  refine r_ldc f_78_166 (by decide) ?_
  refine r_br2 (t := 181) f_78_168 rfl cb_ge (fun c1 => ?_) (fun c1 => ?_)
  · refine r_iconst f_78_181 (by decide) ?_
    exact r_reti f_78_182 rfl (k2 c1)
  · refine r_aload_n (v := 82) f_78_171 rfl (by decide) ?_
    refine r_getr (q := 88) f_78_172 rfl (by decide) (Or.inl rfl) rfl ?_
    refine r_iload (v := x5) f_78_175 rfl ?_
    refine r_iaload (n := 63) (v := h 88 x5.toNat) f_78_177 ⟨rfl, rfl⟩ o1 rfl ?_
    refine r_goto (t := 182) f_78_178 rfl ?_
    exact r_reti f_78_182 rfl (k3 c1)

def bigAt (R : HP) (c r : Nat) : Prop := 0 ≤ rOn R c r ∧ R 7 (rOn R c r).toNat = 1
def wF0 (R : HP) (l : Int) (cs rs c r : Nat) : Int := if c = cs ∧ r = rs then (if rLand R cs rs = l then 0 else 100) else 1000000
def wLv (R : HP) (cs rs c r : Nat) : Prop := (c = cs ∧ r = rs) ∨ ¬ bigAt R c r
noncomputable def wayD (R : HP) (l : Int) (cs rs c r : Nat) : Int := mnV (fun d => Pth R l 1 (wF0 R l cs rs) (wLv R cs rs) c r d)
theorem wF0_s {R : HP} {l : Int} {cs rs : Nat} : wF0 R l cs rs cs rs = if rLand R cs rs = l then 0 else 100 := if_pos ⟨rfl, rfl⟩
theorem wF0_o {R : HP} {l : Int} {cs rs c r : Nat} (h : ¬ (c = cs ∧ r = rs)) : wF0 R l cs rs c r = 1000000 := if_neg h
theorem wF0_rg {R : HP} {l : Int} {cs rs : Nat} : 0 ≤ wF0 R l cs rs cs rs ∧ wF0 R l cs rs cs rs ≤ 100 := by
  rw [wF0_s]; split <;> omega
theorem tb {R : HP} (W : WR R) {t : Int} (ht : 0 ≤ t ∧ t < R 0 3) : ∃ c r : Nat, R 2 t.toNat = c ∧ R 3 t.toNat = r ∧ isB R c r ∧ rOn R c r = t := by
  obtain ⟨v1, v2, -⟩ := W.2.2.1 t.toNat (by omega)
  have o := rOn_self W (t := t.toNat) (by omega)
  refine ⟨(R 2 t.toNat).toNat, (R 3 t.toNat).toNat, by omega, by omega, ⟨by omega, by omega⟩, ?_⟩
  rw [show (((R 2 t.toNat).toNat : Nat) : Int) = R 2 t.toNat by omega, show (((R 3 t.toNat).toNat : Nat) : Int) = R 3 t.toNat by omega, o]
  omega
theorem c_M_wayOf {Q : PQ} {h R : HP} {x1 x2 x3 : Int} {cs rs ct rt : Nat} (eM : rmM h 0 = R) (W : WR R) (h2 : 0 ≤ x2 ∧ x2 < R 0 3) (h3 : 0 ≤ x3 ∧ x3 < R 0 3) (e2 : R 2 x2.toNat = cs ∧ R 3 x2.toNat = rs ∧ isB R cs rs) (e3 : R 2 x3.toNat = ct ∧ R 3 x3.toNat = rt ∧ isB R ct rt)
    (k : ∀ h', (∀ k, k ≠ 113 → h' k = h k) → (wayD R x1 cs rs ct rt = 1000000 ∨ (0 ≤ wayD R x1 cs rs ct rt ∧ wayD R x1 cs rs ct rt ≤ 999999)) → Q (some (vi (wayD R x1 cs rs ct rt))) h') : Wp true i_M_wayOf 0 [vr 103, vi x1, vi x2, vi x3, vr 9999, vr 9999] [] h Q := by
  have w := W.1
  have d0 := mdim eM
  have b1 := e2.2.2.1
  have b2 := e2.2.2.2
  have b3 := e3.2.2.1
  have b4 := e3.2.2.2
  have es : 10 * rmM h 0 3 x2.toNat + rmM h 0 2 x2.toNat = ((10 * rs + cs : Nat) : Int) := by rw [eM, e2.1, e2.2.1]; omega
  have en : (((10 * rs + cs : Nat) : Int)).toNat = 10 * rs + cs := Int.toNat_natCast _
  refine g_M_wayOf_0 (by rw [eM]; exact W) (by omega) ?_
  rw [es]
  have fin : ∀ v : Int, v = wF0 R x1 cs rs cs rs → ∀ x5 : Int, Wp true i_M_spreads 0 [vr 103, vi x1, vi 1, vi 0, vi ((10 * rs + cs : Nat) : Int), vr 9999, vr 9999, vr 9999, vr 9999, vr 9999] [] (hs (wr h 113 0 70 (fun _ => 1000000)) 113 (10 * rs + cs) v) (fun r h' => Wp true i_M_wayOf 65 [vr 103, vi x1, vi x2, vi x3, vi ((10 * rs + cs : Nat) : Int), vi x5] (r.toList ++ []) h' Q) := by
    intro v ev x5
    have vr := wF0_rg (R := R) (l := x1) (cs := cs) (rs := rs)
    rw [← ev] at vr
    have F : ∀ k, k ≠ 113 → hs (wr h 113 0 70 (fun _ => 1000000)) 113 (10 * rs + cs) v k = h k := fun k hk => by rw [hs_ne hk, wr_ne hk]
    have A : ∀ m, m < 70 → hs (wr h 113 0 70 (fun _ => 1000000)) 113 (10 * rs + cs) v 113 m = if m = 10 * rs + cs then v else 1000000 := fun m hm => by
      by_cases z : m = 10 * rs + cs
      · rw [if_pos z, z, hs_s]
      · rw [if_neg z, hs_o (Or.inr z), wr_in (by omega)]
    have eM1 : rmM (hs (wr h 113 0 70 (fun _ => 1000000)) 113 (10 * rs + cs) v) 0 = R := (rmM_congr (F 104 (by decide))).trans eM
    have lt : ∀ c r, isB R c r → 10 * r + c < 70 := fun c r q => by have := q.1; have := q.2; omega
    have AF : ∀ c r, isB R c r → hs (wr h 113 0 70 (fun _ => 1000000)) 113 (10 * rs + cs) v 113 (10 * r + c) = wF0 R x1 cs rs c r := by
      intro c r q
      rw [A _ (lt c r q)]
      have := q.1
      by_cases z : c = cs ∧ r = rs
      · obtain ⟨rfl, rfl⟩ := z
        rw [if_pos rfl]; exact ev
      · rw [if_neg (by omega), wF0_o z]
    have c1 : cnt R (fun c r => ¬ hs (wr h 113 0 70 (fun _ => 1000000)) 113 (10 * rs + cs) v 113 (10 * r + c) = 1000000) = 1 := by
      apply cnt_one e2.2.2
      intro c r q
      rw [AF c r q]
      constructor
      · intro z
        by_cases y : c = cs ∧ r = rs
        · exact y
        · exact absurd (wF0_o y) z
      · intro z
        rw [z.1, z.2, ← ev]
        omega
    refine c_M_spreads (F0 := wF0 R x1 cs rs) (Lv := wLv R cs rs) eM1 W (by omega) ⟨fun _ _ => rfl, fun c r q => ?_, fun c r q => by rw [AF c r q]; exact Int.le_refl _, fun m hm q => ?_⟩ (fun m hm q => ?_) (fun h' f1 f2 Fa => ?_)
    · rw [c1, AF c r q]
      by_cases z : c = cs ∧ r = rs
      · obtain ⟨rfl, rfl⟩ := z
        right
        rw [← ev]
        exact ⟨vr.1, by omega, by rw [ev]; exact Pth_0 q (by rw [← ev]; omega)⟩
      · left; exact wF0_o z
    · rw [A m hm, if_neg]
      intro z
      rw [z, show (10 * rs + cs) % 10 = cs by omega, show (10 * rs + cs) / 10 = rs by omega] at q
      exact q e2.2.2
    · have q1 := q.1
      rw [show ((m : Int) % 10) = ((m % 10 : Nat) : Int) by omega, show ((m : Int) / 10) = ((m / 10 : Nat) : Int) by omega]
      unfold wLv bigAt
      constructor
      · intro z
        rcases z with z | z
        · right; left; omega
        · right; right; exact z
      · intro z
        rcases z with z | z | z
        · exact absurd rfl z
        · left; omega
        · right; exact z
    · have eM2 : rmM h' 0 = R := (rmM_congr (f1 104 (by decide))).trans eM1
      have d2 := mdim eM2
      have et : 10 * rmM h' 0 3 x3.toNat + rmM h' 0 2 x3.toNat = ((10 * rt + ct : Nat) : Int) := by rw [eM2, e3.1, e3.2.1]; omega
      refine g_M_wayOf_65 (by rw [eM2]; exact W) (by omega) (by rw [et]; omega) ?_
      rw [et, Int.toNat_natCast]
      have := Far_mn (by omega) (fun c r q => by
        by_cases z : c = cs ∧ r = rs
        · obtain ⟨rfl, rfl⟩ := z
          rw [← ev]; omega
        · rw [wF0_o z]; exact Int.le_refl _) Fa e3.2.2
      have this : h' 113 (10 * rt + ct) = wayD R x1 cs rs ct rt := this
      have rg : h' 113 (10 * rt + ct) = 1000000 ∨ (0 ≤ h' 113 (10 * rt + ct) ∧ h' 113 (10 * rt + ct) ≤ 6363 ∧ _) := Fa.1 ct rt e3.2.2
      rw [this]
      exact k h' (fun k hk => (f1 k hk).trans (F k hk)) (by rw [← this]; omega)
  have key : ∀ (d i : Nat), i + d = 70 → Wp true i_M_wayOf 10 [vr 103, vi x1, vi x2, vi x3, vi ((10 * rs + cs : Nat) : Int), vi (i : Int)] [] (wr h 113 0 i (fun _ => 1000000)) Q := by
    intro d
    induction d with
    | zero =>
      intro i e
      have : i = 70 := by omega
      subst this
      have eM1 : rmM (wr h 113 0 70 (fun _ => 1000000)) 0 = R := (rmM_congr (wr_ne (by decide))).trans eM
      have bo := bo_iff (m := 10 * rs + cs) (l := x1) eM1
      rw [show (10 * rs + cs) % 10 = cs by omega, show (10 * rs + cs) / 10 = rs by omega] at bo
      refine g_M_wayOf_10 ?_ ?_ ?_ ?_ ?_ ?_ ?_
      · intro c1; (try simp only [Int.toNat_natCast] at c1); first | omega | (exfalso; omega) | exact ⟨by omega, by omega⟩ | ((rw [eM1]; exact W)) | exact absurd trivial ‹¬ True›
      · intro c1; (try simp only [Int.toNat_natCast] at c1); first | omega | (exfalso; omega) | exact ⟨by omega, by omega⟩ | ((rw [eM1]; exact W)) | exact absurd trivial ‹¬ True›
      · intro c1 c2; (try simp only [Int.toNat_natCast] at c1 c2)
        rw [en]
        exact fin 100 (by rw [wF0_s, if_neg (fun q => c2 (bo.mpr ⟨e2.2.2, q⟩))]) _
      · intro c1 c2; (try simp only [Int.toNat_natCast] at c1 c2)
        rw [en]
        exact fin 0 (by rw [wF0_s, if_pos (bo.mp c2).2]) _
      · intro c1; (try simp only [Int.toNat_natCast] at c1); first | omega | (exfalso; omega) | exact ⟨by omega, by omega⟩ | ((rw [eM1]; exact W)) | exact absurd trivial ‹¬ True›
      · intro c1; (try simp only [Int.toNat_natCast] at c1); first | omega | (exfalso; omega) | exact ⟨by omega, by omega⟩ | ((rw [eM1]; exact W)) | exact absurd trivial ‹¬ True›
      · intro c1; (try simp only [Int.toNat_natCast] at c1); first | (exfalso; omega) | exact absurd trivial ‹¬ True› | (skip)
    | succ d ih =>
      intro i e
      have st := wr_s (h := h) (k := 113) (a := 0) (n := i) (T := fun _ => 1000000)
      rw [Nat.zero_add] at st
      have nx := ih (i + 1) (by omega)
      rw [← st] at nx
      refine g_M_wayOf_10 ?_ ?_ ?_ ?_ ?_ ?_ ?_
      · intro c1; (try simp only [Int.toNat_natCast] at c1); first | omega | (exfalso; omega) | exact ⟨by omega, by omega⟩ | (omega) | exact absurd trivial ‹¬ True›
      · intro c1; (try simp only [Int.toNat_natCast] at c1); first | omega | (exfalso; omega) | exact ⟨by omega, by omega⟩ | (omega) | exact absurd trivial ‹¬ True›
      · intro c1 c2; (try simp only [Int.toNat_natCast] at c1 c2); first | (exfalso; omega) | exact absurd trivial ‹¬ True› | (skip)
      · intro c1 c2; (try simp only [Int.toNat_natCast] at c1 c2); first | (exfalso; omega) | exact absurd trivial ‹¬ True› | (skip)
      · intro c1; (try simp only [Int.toNat_natCast] at c1); first | omega | (exfalso; omega) | exact ⟨by omega, by omega⟩ | (omega) | exact absurd trivial ‹¬ True›
      · intro c1; (try simp only [Int.toNat_natCast] at c1); first | omega | (exfalso; omega) | exact ⟨by omega, by omega⟩ | (omega) | exact absurd trivial ‹¬ True›
      · intro c1; (try simp only [Int.toNat_natCast] at c1); first | (exfalso; omega) | exact absurd trivial ‹¬ True› | (rw [Int.toNat_natCast]; exact nx)
  have := key 70 0 rfl
  rw [wr_0] at this
  exact this
theorem c_Is_cheapestOpen {Q : PQ} {h : HP} (kN : (∀ b, b < 63 → btL (h 82 8) b = false → 1000000 ≤ h 88 b) → Q (some (vi (-1))) h)
    (kS : ∀ b, b < 63 → btL (h 82 8) b = false → h 88 b < 1000000 → (∀ b', b' < 63 → btL (h 82 8) b' = false → h 88 b ≤ h 88 b') → Q (some (vi (b : Int))) h) : Wp true i_Is_cheapestOpen 0 [vr 82, vr 9999, vr 9999, vr 9999] [] h Q := by
  have key : ∀ (d i : Nat) (x1 x2 : Int), i + d = 63 → ((x1 = -1 ∧ x2 = 1000000 ∧ ∀ b, b < i → btL (h 82 8) b = false → 1000000 ≤ h 88 b) ∨ (∃ b : Nat, b < i ∧ x1 = b ∧ x2 = h 88 b ∧ btL (h 82 8) b = false ∧ h 88 b < 1000000 ∧ ∀ b', b' < i → btL (h 82 8) b' = false → h 88 b ≤ h 88 b')) → Wp true i_Is_cheapestOpen 7 [vr 82, vi x1, vi x2, vi (i : Int)] [] h Q := by
    intro d
    induction d with
    | zero =>
      intro i x1 x2 e I
      have : i = 63 := by omega
      subst this
      have fin : Q (some (vi x1)) h := by
        rcases I with ⟨a, b, c⟩ | ⟨b, a1, a2, a3, a4, a5, a6⟩
        · rw [a]; exact kN c
        · rw [a2]; exact kS b a1 a4 a5 a6
      refine g_Is_cheapestOpen_7 ?_ ?_ ?_ ?_ ?_ ?_ ?_ ?_
      · intro c1; (try simp only [Int.toNat_natCast] at c1); first | (exfalso; omega) | exact absurd trivial ‹¬ True› | (exact fin)
      · intro c1; (try simp only [Int.toNat_natCast] at c1); first | omega | (exfalso; omega) | exact ⟨by omega, by omega⟩ | (omega) | exact absurd trivial ‹¬ True›
      · intro c1 c2; (try simp only [Int.toNat_natCast] at c1 c2); first | omega | (exfalso; omega) | exact ⟨by omega, by omega⟩ | (omega) | exact absurd trivial ‹¬ True›
      · intro c1 c2; (try simp only [Int.toNat_natCast] at c1 c2); first | (exfalso; omega) | exact absurd trivial ‹¬ True› | (skip)
      · intro c1 c2 c3; (try simp only [Int.toNat_natCast] at c1 c2 c3); first | omega | (exfalso; omega) | exact ⟨by omega, by omega⟩ | (omega) | exact absurd trivial ‹¬ True›
      · intro c1 c2 c3; (try simp only [Int.toNat_natCast] at c1 c2 c3); first | (exfalso; omega) | exact absurd trivial ‹¬ True› | (skip)
      · intro c1 c2 c3; (try simp only [Int.toNat_natCast] at c1 c2 c3); first | omega | (exfalso; omega) | exact ⟨by omega, by omega⟩ | (omega) | exact absurd trivial ‹¬ True›
      · intro c1 c2 c3; (try simp only [Int.toNat_natCast] at c1 c2 c3); first | (exfalso; omega) | exact absurd trivial ‹¬ True› | (skip)
    | succ d ih =>
      intro i x1 x2 e I
      have ei : ((i : Int)).toNat = i := Int.toNat_natCast i
      refine g_Is_cheapestOpen_7 ?_ ?_ ?_ ?_ ?_ ?_ ?_ ?_
      · intro c1; (try simp only [Int.toNat_natCast] at c1); first | (exfalso; omega) | exact absurd trivial ‹¬ True› | (skip)
      · intro c1; (try simp only [Int.toNat_natCast] at c1); first | omega | (exfalso; omega) | exact ⟨by omega, by omega⟩ | (omega) | exact absurd trivial ‹¬ True›
      · intro c1 c2; (try simp only [Int.toNat_natCast] at c1 c2); first | omega | (exfalso; omega) | exact ⟨by omega, by omega⟩ | (omega) | exact absurd trivial ‹¬ True›
      · intro c1 c2; (try simp only [Int.toNat_natCast] at c1 c2)
        refine ih (i + 1) x1 x2 (by omega) ?_
        rcases I with ⟨a, b, c⟩ | ⟨b, a1, a2, a3, a4, a5, a6⟩
        · left
          refine ⟨a, b, fun j hj hc => ?_⟩
          by_cases z : j = i
          · subst z; omega
          · exact c j (by omega) hc
        · right
          refine ⟨b, by omega, a2, a3, a4, a5, fun j hj hc => ?_⟩
          by_cases z : j = i
          · subst z; omega
          · exact a6 j (by omega) hc
      · intro c1 c2 c3; (try simp only [Int.toNat_natCast] at c1 c2 c3); first | omega | (exfalso; omega) | exact ⟨by omega, by omega⟩ | (omega) | exact absurd trivial ‹¬ True›
      · intro c1 c2 c3; (try simp only [Int.toNat_natCast] at c1 c2 c3)
        rw [bL_shr0 (by omega)] at c3
        refine ih (i + 1) x1 x2 (by omega) ?_
        rcases I with ⟨a, b, c⟩ | ⟨b, a1, a2, a3, a4, a5, a6⟩
        · left
          refine ⟨a, b, fun j hj hc => ?_⟩
          by_cases z : j = i
          · subst z; exact absurd hc c3
          · exact c j (by omega) hc
        · right
          refine ⟨b, by omega, a2, a3, a4, a5, fun j hj hc => ?_⟩
          by_cases z : j = i
          · subst z; exact absurd hc c3
          · exact a6 j (by omega) hc
      · intro c1 c2 c3; (try simp only [Int.toNat_natCast] at c1 c2 c3); first | omega | (exfalso; omega) | exact ⟨by omega, by omega⟩ | (omega) | exact absurd trivial ‹¬ True›
      · intro c1 c2 c3; (try simp only [Int.toNat_natCast] at c1 c2 c3)
        rw [bL_shr0 (by omega)] at c3
        rw [ei]
        refine ih (i + 1) (i : Int) (h 88 i) (by omega) ?_
        right
        refine ⟨i, by omega, rfl, rfl, c3, ?_, fun j hj hc => ?_⟩
        · rcases I with ⟨a, b, c⟩ | ⟨b, a1, a2, a3, a4, a5, a6⟩
          · omega
          · omega
        · by_cases z : j = i
          · subst z; exact Int.le_refl _
          · rcases I with ⟨a, b, c⟩ | ⟨b, a1, a2, a3, a4, a5, a6⟩
            · have := c j (by omega) hc
              omega
            · have := a6 j (by omega) hc
              omega
  exact g_Is_cheapestOpen_0 (key 63 0 (-1) 1000000 rfl (Or.inl ⟨rfl, rfl, fun b hb => by omega⟩))
/-- the boards around one that is settled -/
def StF (R : HP) (l : Int) (h h1 : HP) (a b : Nat) : Prop :=
  (∀ k, k ≠ 88 → h1 k = h k) ∧ (∀ j, h1 88 j = h 88 j ∨ ∃ c r, j = 9 * r + c ∧ isB R c r ∧ nb a b c r ∧ btL (h 82 8) j = false ∧ h1 88 j = h 88 (9 * b + a) + wtW R l 1 c r ∧ h1 88 j ≤ h 88 j)
theorem c_Is_stepFrom {Q : PQ} {h R : HP} {x2 x3 : Int} {f1 a b : Nat} (h_f1 : isF f1) (eR : rmC h f1 = R) (W : WR R) (hk : ∀ c r, isB R c r → h 83 (9 * r + c) = rLand R c r) (hb : isB R a b) (hx : x3 = ((9 * b + a : Nat) : Int)) (hc : 0 ≤ h 88 (9 * b + a) ∧ h 88 (9 * b + a) ≤ 1000000)
    (k : ∀ h', StF R x2 h h' a b → (∀ c r, isB R c r → nb a b c r → btL (h 82 8) (9 * r + c) = false → h' 88 (9 * r + c) ≤ h 88 (9 * b + a) + wtW R x2 1 c r) → Q none h') : Wp true i_Is_stepFrom 0 [vr 82, vr f1, vi x2, vi x3, vr 9999, vr 9999, vr 9999] [] h Q := by
  subst hx
  have w := W.1
  have b1 := hb.1
  have b2 := hb.2
  have key : ∀ (d : Nat) (s : Int) (h1 : HP) (j5 j6 : AV), 0 ≤ s → s + d = 4 → StF R x2 h h1 a b → (∀ s', 0 ≤ s' → s' < s → ∀ c r, isB R c r → bs R ((9 * b + a : Nat) : Int) s' = ((9 * r + c : Nat) : Int) → btL (h 82 8) (9 * r + c) = false → h1 88 (9 * r + c) ≤ h 88 (9 * b + a) + wtW R x2 1 c r) → Wp true i_Is_stepFrom 3 [vr 82, vr f1, vi x2, vi ((9 * b + a : Nat) : Int), vi s, j5, j6] [] h1 Q := by
    intro d
    induction d with
    | zero =>
      intro s h1 j5 j6 s0 e F pr
      have fin : Q none h1 := by
        refine k h1 F (fun c r q1 q2 q3 => ?_)
        obtain ⟨s', s1, s2⟩ := nb_bs W hb q1 q2
        exact pr s' s1.1 (by omega) c r q1 s2 q3
      refine g_Is_stepFrom_3 h_f1 ?_ ?_ ?_ ?_ ?_ ?_ ?_ ?_ ?_ ?_ ?_
      · intro c1; (try simp only [Int.toNat_natCast] at c1); first | (exfalso; omega) | exact absurd trivial ‹¬ True› | (exact fin)
      · intro c1; (try simp only [Int.toNat_natCast] at c1); first | omega | (exfalso; omega) | exact ⟨by omega, by omega⟩ | (omega) | exact absurd trivial ‹¬ True›
      · intro c1; (try simp only [Int.toNat_natCast] at c1); first | omega | (exfalso; omega) | exact ⟨by omega, by omega⟩ | (omega) | exact absurd trivial ‹¬ True›
      · intro c1 c2; (try simp only [Int.toNat_natCast] at c1 c2); first | omega | (exfalso; omega) | exact ⟨by omega, by omega⟩ | (omega) | exact absurd trivial ‹¬ True›
      · intro c1 c2; (try simp only [Int.toNat_natCast] at c1 c2); first | (exfalso; omega) | exact absurd trivial ‹¬ True› | (skip)
      · intro c1 c2 c3; (try simp only [Int.toNat_natCast] at c1 c2 c3); first | omega | (exfalso; omega) | exact ⟨by omega, by omega⟩ | (omega) | exact absurd trivial ‹¬ True›
      · intro c1 c2 c3; (try simp only [Int.toNat_natCast] at c1 c2 c3); first | (exfalso; omega) | exact absurd trivial ‹¬ True› | (skip)
      · intro c1 c2 c3; (try simp only [Int.toNat_natCast] at c1 c2 c3); first | omega | (exfalso; omega) | exact ⟨by omega, by omega⟩ | (omega) | exact absurd trivial ‹¬ True›
      · intro c1 c2 c3; (try simp only [Int.toNat_natCast] at c1 c2 c3); first | omega | (exfalso; omega) | exact ⟨by omega, by omega⟩ | (omega) | exact absurd trivial ‹¬ True›
      · intro c1 c2 c3 c4; (try simp only [Int.toNat_natCast] at c1 c2 c3 c4); first | (exfalso; omega) | exact absurd trivial ‹¬ True› | (skip)
      · intro c1 c2 c3 c4; (try simp only [Int.toNat_natCast] at c1 c2 c3 c4); first | (exfalso; omega) | exact absurd trivial ‹¬ True› | (skip)
    | succ d ih =>
      intro s h1 j5 j6 s0 e F pr
      have e1 : rmC h1 f1 = R := (rC_frame h_f1 (fun k hk => F.1 k (by omega))).trans eR
      have e82 : h1 82 = h 82 := F.1 82 (by decide)
      have e83 : h1 83 = h 83 := F.1 83 (by decide)
      have self : h1 88 (9 * b + a) = h 88 (9 * b + a) := by
        rcases F.2 (9 * b + a) with z | ⟨c, r, z1, z2, z3, z4⟩
        · exact z
        · have := z2.1
          unfold nb at z3
          omega
      have en0 : (((9 * b + a : Nat) : Int)).toNat = 9 * b + a := Int.toNat_natCast _
      have next : ∀ (j5 j6 : AV), (∀ c r, isB R c r → bs R ((9 * b + a : Nat) : Int) s = ((9 * r + c : Nat) : Int) → btL (h 82 8) (9 * r + c) = false → h1 88 (9 * r + c) ≤ h 88 (9 * b + a) + wtW R x2 1 c r) → Wp true i_Is_stepFrom 3 [vr 82, vr f1, vi x2, vi ((9 * b + a : Nat) : Int), vi (s + 1), j5, j6] [] h1 Q := by
        intro j5 j6 hq
        refine ih (s + 1) h1 j5 j6 (by omega) (by omega) F (fun s' s1 s2 c r q1 q2 q3 => ?_)
        by_cases z : s' < s
        · exact pr s' s1 z c r q1 q2 q3
        · have z : s' = s := by omega
          rw [z] at q2
          exact hq c r q1 q2 q3
      rcases bs_nb W hb (s := s) (by omega) with z | ⟨cc, rr, n1, n2, n3⟩
      · have z' : bs (rmC h1 f1) ((9 * b + a : Nat) : Int) s = -1 := by rw [e1]; exact z
        have nx := fun j5 j6 => next j5 j6 (fun c r q1 q2 q3 => by rw [z] at q2; omega)
        refine g_Is_stepFrom_3 h_f1 ?_ ?_ ?_ ?_ ?_ ?_ ?_ ?_ ?_ ?_ ?_
        · intro c1; (try simp only [Int.toNat_natCast] at c1); first | (exfalso; omega) | exact absurd trivial ‹¬ True› | (skip)
        · intro c1; (try simp only [Int.toNat_natCast] at c1); first | omega | (exfalso; omega) | exact ⟨by omega, by omega⟩ | (omega) | exact absurd trivial ‹¬ True›
        · intro c1; (try simp only [Int.toNat_natCast] at c1); first | omega | (exfalso; omega) | exact ⟨by omega, by omega⟩ | (omega) | exact absurd trivial ‹¬ True›
        · intro c1 c2; (try simp only [Int.toNat_natCast] at c1 c2); first | omega | (exfalso; omega) | exact ⟨by omega, by omega⟩ | (omega) | exact absurd trivial ‹¬ True›
        · intro c1 c2; (try simp only [Int.toNat_natCast] at c1 c2); first | (exfalso; omega) | exact absurd trivial ‹¬ True› | (exact nx _ _)
        · intro c1 c2 c3; (try simp only [Int.toNat_natCast] at c1 c2 c3); first | omega | (exfalso; omega) | exact ⟨by omega, by omega⟩ | (omega) | exact absurd trivial ‹¬ True›
        · intro c1 c2 c3; (try simp only [Int.toNat_natCast] at c1 c2 c3); first | (exfalso; omega) | exact absurd trivial ‹¬ True› | (skip)
        · intro c1 c2 c3; (try simp only [Int.toNat_natCast] at c1 c2 c3); first | omega | (exfalso; omega) | exact ⟨by omega, by omega⟩ | (omega) | exact absurd trivial ‹¬ True›
        · intro c1 c2 c3; (try simp only [Int.toNat_natCast] at c1 c2 c3); first | omega | (exfalso; omega) | exact ⟨by omega, by omega⟩ | (omega) | exact absurd trivial ‹¬ True›
        · intro c1 c2 c3 c4; (try simp only [Int.toNat_natCast] at c1 c2 c3 c4); first | (exfalso; omega) | exact absurd trivial ‹¬ True› | (skip)
        · intro c1 c2 c3 c4; (try simp only [Int.toNat_natCast] at c1 c2 c3 c4); first | (exfalso; omega) | exact absurd trivial ‹¬ True› | (skip)
      · have n21 := n2.1
        have n22 := n2.2
        have z' : bs (rmC h1 f1) ((9 * b + a : Nat) : Int) s = ((9 * rr + cc : Nat) : Int) := by rw [e1]; exact n3
        have en : (((9 * rr + cc : Nat) : Int)).toNat = 9 * rr + cc := Int.toNat_natCast _
        have wr := wtW_rg (R := R) (l := x2) (st := 1) (c := cc) (r := rr) (by omega)
        have kc := hk cc rr n2
        have p57 : btL (h 82 8) (9 * rr + cc) = false → ∀ s1 : Int, 1 + s1 = wtW R x2 1 cc rr → ∀ j6, Wp true i_Is_stepFrom 57 [vr 82, vr f1, vi x2, vi ((9 * b + a : Nat) : Int), vi s, vi ((9 * rr + cc : Nat) : Int), j6] [vi s1, vi (h1 88 (9 * b + a) + 1)] h1 Q := by
          intro op s1 es j6
          refine g_Is_stepFrom_57 h_f1 (by omega) (by omega) (by omega) ?_
          rw [en, show h1 88 (9 * b + a) + 1 + s1 = h 88 (9 * b + a) + wtW R x2 1 cc rr by omega]
          have A : ∀ j, hs h1 88 (9 * rr + cc) (min (h1 88 (9 * rr + cc)) (h 88 (9 * b + a) + wtW R x2 1 cc rr)) 88 j = if j = 9 * rr + cc then min (h1 88 (9 * rr + cc)) (h 88 (9 * b + a) + wtW R x2 1 cc rr) else h1 88 j := fun j => by
            by_cases y : j = 9 * rr + cc
            · rw [if_pos y, y, hs_s]
            · rw [if_neg y, hs_o (Or.inr y)]
          refine ih (s + 1) _ _ _ (by omega) (by omega) ⟨fun k hk => (hs_ne hk).trans (F.1 k hk), fun j => ?_⟩ (fun s' s1 s2 c r q1 q2 q3 => ?_)
          · rw [A]
            by_cases y : j = 9 * rr + cc
            · subst y
              rw [if_pos rfl]
              rcases Int.le_total (h1 88 (9 * rr + cc)) (h 88 (9 * b + a) + wtW R x2 1 cc rr) with u | u
              · rw [Int.min_eq_left u]; exact F.2 _
              · rw [Int.min_eq_right u]
                right
                refine ⟨cc, rr, rfl, n2, n1, op, rfl, ?_⟩
                rcases F.2 (9 * rr + cc) with v | ⟨c, r, v1, v2, v3, v4, v5, v6⟩ <;> omega
            · rw [if_neg y]; exact F.2 j
          · rw [A]
            by_cases y : 9 * r + c = 9 * rr + cc
            · have := q1.1
              obtain ⟨rfl, rfl⟩ : c = cc ∧ r = rr := by omega
              rw [if_pos rfl]
              exact Int.min_le_right _ _
            · rw [if_neg y]
              by_cases u : s' < s
              · exact pr s' s1 u c r q1 q2 q3
              · have u : s' = s := by omega
                rw [u, n3] at q2
                omega
        have cost0 : h1 88 (((9 * b + a : Nat) : Int)).toNat = h1 88 (9 * b + a) := by rw [en0]
        refine g_Is_stepFrom_3 h_f1 ?_ ?_ ?_ ?_ ?_ ?_ ?_ ?_ ?_ ?_ ?_
        · intro c1; (try simp only [Int.toNat_natCast] at c1); first | (exfalso; omega) | exact absurd trivial ‹¬ True› | (skip)
        · intro c1; (try simp only [Int.toNat_natCast] at c1); first | omega | (exfalso; omega) | exact ⟨by omega, by omega⟩ | (omega) | exact absurd trivial ‹¬ True›
        · intro c1; (try simp only [Int.toNat_natCast] at c1); first | omega | (exfalso; omega) | exact ⟨by omega, by omega⟩ | (omega) | exact absurd trivial ‹¬ True›
        · intro c1 c2; (try simp only [Int.toNat_natCast] at c1 c2); first | omega | (exfalso; omega) | exact ⟨by omega, by omega⟩ | (omega) | exact absurd trivial ‹¬ True›
        · intro c1 c2; (try simp only [Int.toNat_natCast] at c1 c2); first | (exfalso; omega) | exact absurd trivial ‹¬ True› | (skip)
        · intro c1 c2 c3; (try simp only [Int.toNat_natCast] at c1 c2 c3); first | omega | (exfalso; omega) | exact ⟨by omega, by omega⟩ | (omega) | exact absurd trivial ‹¬ True›
        · intro c1 c2 c3; (try simp only [Int.toNat_natCast] at c1 c2 c3)
          rw [z', e82, bL_shr0 (by omega)] at c3
          refine next _ _ (fun c r q1 q2 q3 => ?_)
          rw [n3] at q2
          have := q1.1
          obtain ⟨rfl, rfl⟩ : c = cc ∧ r = rr := by omega
          exact absurd q3 c3
        · intro c1 c2 c3; (try simp only [Int.toNat_natCast] at c1 c2 c3); first | omega | (exfalso; omega) | exact ⟨by omega, by omega⟩ | (omega) | exact absurd trivial ‹¬ True›
        · intro c1 c2 c3; (try simp only [Int.toNat_natCast] at c1 c2 c3); first | omega | (exfalso; omega) | exact ⟨by omega, by omega⟩ | (omega) | exact absurd trivial ‹¬ True›
        · intro c1 c2 c3 c4; (try simp only [Int.toNat_natCast] at c1 c2 c3 c4)
          rw [z', e82, bL_shr0 (by omega)] at c3
          rw [z', en, e83, kc] at c4
          rw [z', cost0]
          exact p57 c3 100 (by unfold wtW; rw [if_neg c4]) _
        · intro c1 c2 c3 c4; (try simp only [Int.toNat_natCast] at c1 c2 c3 c4)
          rw [z', e82, bL_shr0 (by omega)] at c3
          rw [z', en, e83, kc] at c4
          rw [z', cost0]
          exact p57 c3 0 (by unfold wtW; rw [if_pos c4]) _
  exact g_Is_stepFrom_0 h_f1 (key 4 0 h _ _ (by omega) (by omega) ⟨fun _ _ => rfl, fun _ => Or.inl rfl⟩ (fun s' s1 s2 => by omega))
