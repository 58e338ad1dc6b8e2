theorem g_Bo_partsSets_0 {Q : PQ} {h : HP} {x1 : Int} {x2 : Int} {x3 : Int} {x4 : Int} {f0 : Nat} (h_f0 : isF f0)
    (k1 : Wp true i_Bo_partsSets 3 [vr f0, vi x1, vi x2, vi x3, vi x4, vi 0, vr 9999] [] h Q) :
    Wp true i_Bo_partsSets 0 [vr f0, vi x1, vi x2, vi x3, vi x4, vr 9999, vr 9999] [] h Q := by
  refine r_iconst f_10_0 (by decide) ?_
  refine r_istore (ls' := [vr f0, vi x1, vi x2, vi x3, vi x4, vi 0, vr 9999]) f_10_1 (Nat.le_of_ble_eq_true rfl) rfl ?_
  exact k1

theorem g_Bo_partsSets_3 {Q : PQ} {h : HP} {x1 : Int} {x2 : Int} {x3 : Int} {x4 : Int} {x5 : Int} {j6 : AV} {f0 : Nat} (h_f0 : isF f0)
    (k1 : h f0 3 ≤ x5 → Q (some (vi 1)) h)
    (o2 : ¬ h f0 3 ≤ x5 → 0 ≤ x5 ∧ x5 < 10)
    (o3 : ¬ h f0 3 ≤ x5 → ¬ h (f0 + 5) x5.toNat = x3 → -2147483648 ≤ x5 + 1 ∧ x5 + 1 ≤ 2147483647)
    (k4 : ¬ h f0 3 ≤ x5 → ¬ h (f0 + 5) x5.toNat = x3 → Wp true i_Bo_partsSets 3 [vr f0, vi x1, vi x2, vi x3, vi x4, vi (x5 + 1), j6] [] h Q)
    (k5 : ¬ h f0 3 ≤ x5 → h (f0 + 5) x5.toNat = x3 → x4 ≤ h (f0 + 4) x5.toNat → Wp true i_Bo_partsSets 40 [vr f0, vi x1, vi x2, vi x3, vi x4, vi x5, j6] [vi 0] h Q)
    (k6 : ¬ h f0 3 ≤ x5 → h (f0 + 5) x5.toNat = x3 → ¬ x4 ≤ h (f0 + 4) x5.toNat → Wp true i_Bo_partsSets 40 [vr f0, vi x1, vi x2, vi x3, vi x4, vi x5, j6] [vi 1] h Q) :
    Wp true i_Bo_partsSets 3 [vr f0, vi x1, vi x2, vi x3, vi x4, vi x5, j6] [] h Q := by
  refine r_iload (v := x5) f_10_3 rfl ?_
  refine r_aload_n (v := f0) f_10_5 rfl (F_n h_f0) ?_
  refine r_geti (v := h f0 3) f_10_6 (F_k h_f0) (by decide) rfl ?_
  refine r_br2 (t := 80) f_10_9 rfl cb_ge (fun c1 => ?_) (fun c1 => ?_)
  · refine r_iconst f_10_80 (by decide) ?_
    exact r_retz f_10_81 rfl (by decide) (k1 c1)
  · refine r_aload_n (v := f0) f_10_12 rfl (F_n h_f0) ?_
    refine r_getr (q := (f0 + 5)) f_10_13 (F_k h_f0) (by decide) (Or.inl rfl) rfl ?_
    refine r_iload (v := x5) f_10_16 rfl ?_
    refine r_iaload (n := 10) (v := h (f0 + 5) x5.toNat) f_10_18 (F_5 h_f0) (o2 c1) rfl ?_
    refine r_iload_n (v := x3) f_10_19 rfl ?_
    refine r_br2 (t := 74) f_10_20 rfl cb_ne (fun c2 => ?_) (fun c2 => ?_)
    · refine r_iinc (v := x5) (w := x5 + 1) (ls' := [vr f0, vi x1, vi x2, vi x3, vi x4, vi (x5 + 1), j6]) f_10_74 rfl rfl (o3 c1 c2) rfl ?_
      refine r_goto (t := 3) f_10_77 rfl ?_
      exact (k4 c1 c2)
    · have c2 := Decidable.not_not.mp c2
      refine r_aload_n (v := f0) f_10_23 rfl (F_n h_f0) ?_
      refine r_getr (q := (f0 + 4)) f_10_24 (F_k h_f0) (by decide) (Or.inl rfl) rfl ?_
      refine r_iload (v := x5) f_10_27 rfl ?_
      refine r_iaload (n := 10) (v := h (f0 + 4) x5.toNat) f_10_29 (F_4 h_f0) (o2 c1) rfl ?_
      refine r_iload (v := x4) f_10_30 rfl ?_
      refine r_br2 (t := 39) f_10_32 rfl cb_ge (fun c3 => ?_) (fun c3 => ?_)
      · refine r_iconst f_10_39 (by decide) ?_
        exact (k5 c1 c2 c3)
      · refine r_iconst f_10_35 (by decide) ?_
        refine r_goto (t := 40) f_10_36 rfl ?_
        exact (k6 c1 c2 c3)

theorem g_Bo_partsSets_40 {Q : PQ} {h : HP} {x1 : Int} {x2 : Int} {x3 : Int} {x4 : Int} {x5 : Int} {j6 : AV} {s0 : Int} {f0 : Nat} (h_f0 : isF f0)
    (k1 : ¬ o_and (o_shr x1 x5) 1 = 1 → Wp true i_Bo_partsSets 57 [vr f0, vi x1, vi x2, vi x3, vi x4, vi x5, vi s0] [] h Q)
    (k2 : o_and (o_shr x1 x5) 1 = 1 → s0 = 0 → Q (some (vi 0)) h)
    (k3 : o_and (o_shr x1 x5) 1 = 1 → ¬ s0 = 0 → Wp true i_Bo_partsSets 57 [vr f0, vi x1, vi x2, vi x3, vi x4, vi x5, vi s0] [] h Q) :
    Wp true i_Bo_partsSets 40 [vr f0, vi x1, vi x2, vi x3, vi x4, vi x5, j6] [vi s0] h Q := by
  refine r_istore (ls' := [vr f0, vi x1, vi x2, vi x3, vi x4, vi x5, vi s0]) f_10_40 (Nat.le_of_ble_eq_true rfl) rfl ?_
  refine r_iload_n (v := x1) f_10_42 rfl ?_
  refine r_iload (v := x5) f_10_43 rfl ?_
  refine r_ishr f_10_45 ?_
  refine r_iconst f_10_46 (by decide) ?_
  refine r_iand f_10_47 ?_
  refine r_iconst f_10_48 (by decide) ?_
  refine r_br2 (t := 57) f_10_49 rfl cb_ne (fun c1 => ?_) (fun c1 => ?_)
  · exact (k1 c1)
  · have c1 := Decidable.not_not.mp c1
    refine r_iload (v := s0) f_10_52 rfl ?_
    refine r_br (t := 72) f_10_54 rfl cb_eq (fun c2 => ?_) (fun c2 => ?_)
    · refine r_iconst f_10_72 (by decide) ?_
      exact r_retz f_10_73 rfl (by decide) (k2 c1 c2)
    · exact (k3 c1 c2)

theorem g_Bo_partsSets_57 {Q : PQ} {h : HP} {x1 : Int} {x2 : Int} {x3 : Int} {x4 : Int} {x5 : Int} {x6 : Int} {f0 : Nat} (h_f0 : isF f0)
    (o1 : ¬ o_and (o_shr x2 x5) 1 = 1 → -2147483648 ≤ x5 + 1 ∧ x5 + 1 ≤ 2147483647)
    (k2 : ¬ o_and (o_shr x2 x5) 1 = 1 → Wp true i_Bo_partsSets 3 [vr f0, vi x1, vi x2, vi x3, vi x4, vi (x5 + 1), vi x6] [] h Q)
    (o3 : o_and (o_shr x2 x5) 1 = 1 → x6 = 0 → -2147483648 ≤ x5 + 1 ∧ x5 + 1 ≤ 2147483647)
    (k4 : o_and (o_shr x2 x5) 1 = 1 → x6 = 0 → Wp true i_Bo_partsSets 3 [vr f0, vi x1, vi x2, vi x3, vi x4, vi (x5 + 1), vi x6] [] h Q)
    (k5 : o_and (o_shr x2 x5) 1 = 1 → ¬ x6 = 0 → Q (some (vi 0)) h) :
    Wp true i_Bo_partsSets 57 [vr f0, vi x1, vi x2, vi x3, vi x4, vi x5, vi x6] [] h Q := by
  refine r_iload_n (v := x2) f_10_57 rfl ?_
  refine r_iload (v := x5) f_10_58 rfl ?_
  refine r_ishr f_10_60 ?_
  refine r_iconst f_10_61 (by decide) ?_
  refine r_iand f_10_62 ?_
  refine r_iconst f_10_63 (by decide) ?_
  refine r_br2 (t := 74) f_10_64 rfl cb_ne (fun c1 => ?_) (fun c1 => ?_)
  · refine r_iinc (v := x5) (w := x5 + 1) (ls' := [vr f0, vi x1, vi x2, vi x3, vi x4, vi (x5 + 1), vi x6]) f_10_74 rfl rfl (o1 c1) rfl ?_
    refine r_goto (t := 3) f_10_77 rfl ?_
    exact (k2 c1)
  · have c1 := Decidable.not_not.mp c1
    refine r_iload (v := x6) f_10_67 rfl ?_
    refine r_br (t := 74) f_10_69 rfl cb_eq (fun c2 => ?_) (fun c2 => ?_)
    · refine r_iinc (v := x5) (w := x5 + 1) (ls' := [vr f0, vi x1, vi x2, vi x3, vi x4, vi (x5 + 1), vi x6]) f_10_74 rfl rfl (o3 c1 c2) rfl ?_
      refine r_goto (t := 3) f_10_77 rfl ?_
      exact (k4 c1 c2)
    · refine r_iconst f_10_72 (by decide) ?_
      exact r_retz f_10_73 rfl (by decide) (k5 c1 c2)

theorem g_Bo_bendingFrom_0 {Q : PQ} {h : HP} {x2 : Int} {x3 : Int} {f1 : Nat} (h_f1 : isF f1)
    (o1 : -2147483648 ≤ x2 + 1 ∧ x2 + 1 ≤ 2147483647)
    (o2 : x2 + 1 < h f1 1 → -2147483648 ≤ x3 - (h f1 2) ∧ x3 - (h f1 2) ≤ 2147483647)
    (o3 : x2 + 1 < h f1 1 → -2147483648 ≤ x3 + (h f1 2) ∧ x3 + (h f1 2) ≤ 2147483647)
    (k4 : x2 + 1 < h f1 1 → Wp true i_Bo_bendingFrom 47 [vr 92, vr f1, vi x2, vi x3, vi (max 0 (x3 - (h f1 2))), vi (min (h f1 0) (x3 + (h f1 2))), vi 1000000, vi (max 0 (x3 - (h f1 2)))] [] h Q)
    (k5 : ¬ x2 + 1 < h f1 1 → Q (some (vi 0)) h) :
    Wp true i_Bo_bendingFrom 0 [vr 92, vr f1, vi x2, vi x3, vr 9999, vr 9999, vr 9999, vr 9999] [] h Q := by
  refine r_iload_n (v := x2) f_11_0 rfl ?_
  refine r_iconst f_11_1 (by decide) ?_
  refine r_iadd (u := x2 + 1) f_11_2 rfl o1 ?_
  refine r_aload_n (v := f1) f_11_3 rfl (F_n h_f1) ?_
  refine r_geti (v := h f1 1) f_11_4 (F_k h_f1) (by decide) rfl ?_
  refine r_br2 (t := 12) f_11_7 rfl cb_lt (fun c1 => ?_) (fun c1 => ?_)
  · refine r_iconst f_11_12 (by decide) ?_
    refine r_iload_n (v := x3) f_11_13 rfl ?_
    refine r_aload_n (v := f1) f_11_14 rfl (F_n h_f1) ?_
    refine r_geti (v := h f1 2) f_11_15 (F_k h_f1) (by decide) rfl ?_
    refine r_isub (u := x3 - (h f1 2)) f_11_18 rfl (o2 c1) ?_
    refine r_calls (as := [vi 0, vi (x3 - (h f1 2))]) (st' := []) (ls0 := [vi 0, vi (x3 - (h f1 2))]) f_11_19 (by decide) (by decide) rfl rfl (Nat.le_of_ble_eq_true rfl) (Nat.le_of_ble_eq_true rfl) rfl ?_
    refine c_Ma_max  ?_
    show Wp true i_Bo_bendingFrom 22 [vr 92, vr f1, vi x2, vi x3, vr 9999, vr 9999, vr 9999, vr 9999] [vi (max 0 (x3 - (h f1 2)))] h Q
    refine r_istore (ls' := [vr 92, vr f1, vi x2, vi x3, vi (max 0 (x3 - (h f1 2))), vr 9999, vr 9999, vr 9999]) f_11_22 (Nat.le_of_ble_eq_true rfl) rfl ?_
    refine r_aload_n (v := f1) f_11_24 rfl (F_n h_f1) ?_
    refine r_geti (v := h f1 0) f_11_25 (F_k h_f1) (by decide) rfl ?_
    refine r_iload_n (v := x3) f_11_28 rfl ?_
    refine r_aload_n (v := f1) f_11_29 rfl (F_n h_f1) ?_
    refine r_geti (v := h f1 2) f_11_30 (F_k h_f1) (by decide) rfl ?_
    refine r_iadd (u := x3 + (h f1 2)) f_11_33 rfl (o3 c1) ?_
    refine r_calls (as := [vi (h f1 0), vi (x3 + (h f1 2))]) (st' := []) (ls0 := [vi (h f1 0), vi (x3 + (h f1 2))]) f_11_34 (by decide) (by decide) rfl rfl (Nat.le_of_ble_eq_true rfl) (Nat.le_of_ble_eq_true rfl) rfl ?_
    refine c_Ma_min  ?_
    show Wp true i_Bo_bendingFrom 37 [vr 92, vr f1, vi x2, vi x3, vi (max 0 (x3 - (h f1 2))), vr 9999, vr 9999, vr 9999] [vi (min (h f1 0) (x3 + (h f1 2)))] h Q
    refine r_istore (ls' := [vr 92, vr f1, vi x2, vi x3, vi (max 0 (x3 - (h f1 2))), vi (min (h f1 0) (x3 + (h f1 2))), vr 9999, vr 9999]) f_11_37 (Nat.le_of_ble_eq_true rfl) rfl ?_
    refine r_ldc f_11_39 (by decide) ?_
    refine r_istore (ls' := [vr 92, vr f1, vi x2, vi x3, vi (max 0 (x3 - (h f1 2))), vi (min (h f1 0) (x3 + (h f1 2))), vi 1000000, vr 9999]) f_11_41 (Nat.le_of_ble_eq_true rfl) rfl ?_
    refine r_iload (v := max 0 (x3 - (h f1 2))) f_11_43 rfl ?_
    refine r_istore (ls' := [vr 92, vr f1, vi x2, vi x3, vi (max 0 (x3 - (h f1 2))), vi (min (h f1 0) (x3 + (h f1 2))), vi 1000000, vi (max 0 (x3 - (h f1 2)))]) f_11_45 (Nat.le_of_ble_eq_true rfl) rfl ?_
    exact (k4 c1)
  · refine r_iconst f_11_10 (by decide) ?_
    exact r_reti f_11_11 rfl (k5 c1)

theorem g_Bo_bendingFrom_47 {Q : PQ} {h : HP} {x2 : Int} {x3 : Int} {x4 : Int} {x5 : Int} {x6 : Int} {x7 : Int} {f1 : Nat} (h_f1 : isF f1)
    (k1 : x5 < x7 → Q (some (vi x6)) h)
    (o2 : ¬ x5 < x7 → -2147483648 ≤ x7 - x3 ∧ x7 - x3 ≤ 2147483647)
    (o3 : ¬ x5 < x7 → -2147483647 ≤ (x7 - x3) ∧ (x7 - x3) ≤ 2147483647)
    (o4 : ¬ x5 < x7 → -2147483648 ≤ x2 + 1 ∧ x2 + 1 ≤ 2147483647)
    (o5 : ¬ x5 < x7 → -2147483648 ≤ (x2 + 1) * 10 ∧ (x2 + 1) * 10 ≤ 2147483647)
    (o6 : ¬ x5 < x7 → -2147483648 ≤ ((x2 + 1) * 10) + x7 ∧ ((x2 + 1) * 10) + x7 ≤ 2147483647)
    (o7 : ¬ x5 < x7 → 0 ≤ ((x2 + 1) * 10) + x7 ∧ ((x2 + 1) * 10) + x7 < 70)
    (o8 : ¬ x5 < x7 → -2147483648 ≤ ((x7 - x3).natAbs : Int) + (h 93 (((x2 + 1) * 10) + x7).toNat) ∧ ((x7 - x3).natAbs : Int) + (h 93 (((x2 + 1) * 10) + x7).toNat) ≤ 2147483647)
    (o9 : ¬ x5 < x7 → -2147483648 ≤ x7 + 1 ∧ x7 + 1 ≤ 2147483647)
    (k10 : ¬ x5 < x7 → Wp true i_Bo_bendingFrom 47 [vr 92, vr f1, vi x2, vi x3, vi x4, vi x5, vi (min x6 (((x7 - x3).natAbs : Int) + (h 93 (((x2 + 1) * 10) + x7).toNat))), vi (x7 + 1)] [] h Q) :
    Wp true i_Bo_bendingFrom 47 [vr 92, vr f1, vi x2, vi x3, vi x4, vi x5, vi x6, vi x7] [] h Q := by
  refine r_iload (v := x7) f_11_47 rfl ?_
  refine r_iload (v := x5) f_11_49 rfl ?_
  refine r_br2 (t := 89) f_11_51 rfl cb_gt (fun c1 => ?_) (fun c1 => ?_)
  · refine r_iload (v := x6) f_11_89 rfl ?_
    exact r_reti f_11_91 rfl (k1 c1)
  · refine r_iload (v := x6) f_11_54 rfl ?_
    refine r_iload (v := x7) f_11_56 rfl ?_
    refine r_iload_n (v := x3) f_11_58 rfl ?_
    refine r_isub (u := x7 - x3) f_11_59 rfl (o2 c1) ?_
    refine r_calls (as := [vi (x7 - x3)]) (st' := [vi x6]) (ls0 := [vi (x7 - x3)]) f_11_60 (by decide) (by decide) rfl rfl (Nat.le_of_ble_eq_true rfl) (Nat.le_of_ble_eq_true rfl) rfl ?_
    refine c_Ma_abs (o3 c1) ?_
    show Wp true i_Bo_bendingFrom 63 [vr 92, vr f1, vi x2, vi x3, vi x4, vi x5, vi x6, vi x7] [vi ((x7 - x3).natAbs : Int), vi x6] h Q
    refine r_aload_n (v := 92) f_11_63 rfl (by decide) ?_
    refine r_getr (q := 93) f_11_64 rfl (by decide) (Or.inl rfl) rfl ?_
    refine r_iload_n (v := x2) f_11_67 rfl ?_
    refine r_iconst f_11_68 (by decide) ?_
    refine r_iadd (u := x2 + 1) f_11_69 rfl (o4 c1) ?_
    refine r_bipush f_11_70 (by decide) ?_
    refine r_imul (u := (x2 + 1) * 10) f_11_72 rfl (o5 c1) ?_
    refine r_iload (v := x7) f_11_73 rfl ?_
    refine r_iadd (u := ((x2 + 1) * 10) + x7) f_11_75 rfl (o6 c1) ?_
    refine r_iaload (n := 70) (v := h 93 (((x2 + 1) * 10) + x7).toNat) f_11_76 ⟨rfl, rfl⟩ (o7 c1) rfl ?_
    refine r_iadd (u := ((x7 - x3).natAbs : Int) + (h 93 (((x2 + 1) * 10) + x7).toNat)) f_11_77 rfl (o8 c1) ?_
    refine r_calls (as := [vi x6, vi (((x7 - x3).natAbs : Int) + (h 93 (((x2 + 1) * 10) + x7).toNat))]) (st' := []) (ls0 := [vi x6, vi (((x7 - x3).natAbs : Int) + (h 93 (((x2 + 1) * 10) + x7).toNat))]) f_11_78 (by decide) (by decide) rfl rfl (Nat.le_of_ble_eq_true rfl) (Nat.le_of_ble_eq_true rfl) rfl ?_
    refine c_Ma_min  ?_
    show Wp true i_Bo_bendingFrom 81 [vr 92, vr f1, vi x2, vi x3, vi x4, vi x5, vi x6, vi x7] [vi (min x6 (((x7 - x3).natAbs : Int) + (h 93 (((x2 + 1) * 10) + x7).toNat)))] h Q
    refine r_istore (ls' := [vr 92, vr f1, vi x2, vi x3, vi x4, vi x5, vi (min x6 (((x7 - x3).natAbs : Int) + (h 93 (((x2 + 1) * 10) + x7).toNat))), vi x7]) f_11_81 (Nat.le_of_ble_eq_true rfl) rfl ?_
    refine r_iinc (v := x7) (w := x7 + 1) (ls' := [vr 92, vr f1, vi x2, vi x3, vi x4, vi x5, vi (min x6 (((x7 - x3).natAbs : Int) + (h 93 (((x2 + 1) * 10) + x7).toNat))), vi (x7 + 1)]) f_11_83 rfl rfl (o9 c1) rfl ?_
    refine r_goto (t := 47) f_11_86 rfl ?_
    exact (k10 c1)

theorem g_Bo_leastChalk_0 {Q : PQ} {h : HP} {x2 : Int} {x3 : Int} {f1 : Nat} (h_f1 : isF f1)
    (o1 : 0 < h f1 1 → -2147483648 ≤ (h f1 1) - 1 ∧ (h f1 1) - 1 ≤ 2147483647)
    (k2 : 0 < h f1 1 → Wp true i_Bo_leastChalk 17 [vr 92, vr f1, vi x2, vi x3, vi ((h f1 1) - 1), vr 9999, vr 9999] [] h Q)
    (k3 : ¬ 0 < h f1 1 → Q (some (vi (-1))) h) :
    Wp true i_Bo_leastChalk 0 [vr 92, vr f1, vi x2, vi x3, vr 9999, vr 9999, vr 9999] [] h Q := by
  refine r_aload_n (v := f1) f_9_0 rfl (F_n h_f1) ?_
  refine r_geti (v := h f1 1) f_9_1 (F_k h_f1) (by decide) rfl ?_
  refine r_br (t := 9) f_9_4 rfl cb_gt (fun c1 => ?_) (fun c1 => ?_)
  · refine r_aload_n (v := f1) f_9_9 rfl (F_n h_f1) ?_
    refine r_geti (v := h f1 1) f_9_10 (F_k h_f1) (by decide) rfl ?_
    refine r_iconst f_9_13 (by decide) ?_
    refine r_isub (u := (h f1 1) - 1) f_9_14 rfl (o1 c1) ?_
    refine r_istore (ls' := [vr 92, vr f1, vi x2, vi x3, vi ((h f1 1) - 1), vr 9999, vr 9999]) f_9_15 (Nat.le_of_ble_eq_true rfl) rfl ?_
    exact (k2 c1)
  · refine r_iconst f_9_7 (by decide) ?_
    exact r_reti f_9_8 rfl (k3 c1)

theorem g_Bo_leastChalk_17 {Q : PQ} {h : HP} {x2 : Int} {x3 : Int} {x4 : Int} {j5 : AV} {j6 : AV} {f1 : Nat} (h_f1 : isF f1)
    (k1 : x4 < 0 → Wp true i_Bo_leastChalk 97 [vr 92, vr f1, vi x2, vi x3, vi 1000000, vi 0, j6] [] h Q)
    (k2 : ¬ x4 < 0 → Wp true i_Bo_leastChalk 25 [vr 92, vr f1, vi x2, vi x3, vi x4, vi 0, j6] [] h Q) :
    Wp true i_Bo_leastChalk 17 [vr 92, vr f1, vi x2, vi x3, vi x4, j5, j6] [] h Q := by
  refine r_iload (v := x4) f_9_17 rfl ?_
  refine r_br (t := 90) f_9_19 rfl cb_lt (fun c1 => ?_) (fun c1 => ?_)
  · refine r_ldc f_9_90 (by decide) ?_
    refine r_istore (ls' := [vr 92, vr f1, vi x2, vi x3, vi 1000000, j5, j6]) f_9_92 (Nat.le_of_ble_eq_true rfl) rfl ?_
    refine r_iconst f_9_94 (by decide) ?_
    refine r_istore (ls' := [vr 92, vr f1, vi x2, vi x3, vi 1000000, vi 0, j6]) f_9_95 (Nat.le_of_ble_eq_true rfl) rfl ?_
    exact (k1 c1)
  · refine r_iconst f_9_22 (by decide) ?_
    refine r_istore (ls' := [vr 92, vr f1, vi x2, vi x3, vi x4, vi 0, j6]) f_9_23 (Nat.le_of_ble_eq_true rfl) rfl ?_
    exact (k2 c1)

theorem g_Bo_leastChalk_25 {Q : PQ} {h : HP} {x2 : Int} {x3 : Int} {x4 : Int} {x5 : Int} {j6 : AV} {f1 : Nat} (h_f1 : isF f1)
    (o1 : h f1 0 < x5 → -2147483648 ≤ x4 - 1 ∧ x4 - 1 ≤ 2147483647)
    (k2 : h f1 0 < x5 → Wp true i_Bo_leastChalk 17 [vr 92, vr f1, vi x2, vi x3, vi (x4 - 1), vi x5, j6] [] h Q)
    (k3 : ¬ h f1 0 < x5 → Wp true i_Bo_partsSets 0 [vr f1, vi x2, vi x3, vi x4, vi x5, vr 9999, vr 9999] [] h (fun r h' => Wp true i_Bo_leastChalk 44 [vr 92, vr f1, vi x2, vi x3, vi x4, vi x5, j6] (r.toList ++ []) h' Q)) :
    Wp true i_Bo_leastChalk 25 [vr 92, vr f1, vi x2, vi x3, vi x4, vi x5, j6] [] h Q := by
  refine r_iload (v := x5) f_9_25 rfl ?_
  refine r_aload_n (v := f1) f_9_27 rfl (F_n h_f1) ?_
  refine r_geti (v := h f1 0) f_9_28 (F_k h_f1) (by decide) rfl ?_
  refine r_br2 (t := 84) f_9_31 rfl cb_gt (fun c1 => ?_) (fun c1 => ?_)
  · refine r_iinc (v := x4) (w := x4 - 1) (ls' := [vr 92, vr f1, vi x2, vi x3, vi (x4 - 1), vi x5, j6]) f_9_84 rfl (by omega) (o1 c1) rfl ?_
    refine r_goto (t := 17) f_9_87 rfl ?_
    exact (k2 c1)
  · refine r_aload_n (v := f1) f_9_34 rfl (F_n h_f1) ?_
    refine r_iload_n (v := x2) f_9_35 rfl ?_
    refine r_iload_n (v := x3) f_9_36 rfl ?_
    refine r_iload (v := x4) f_9_37 rfl ?_
    refine r_iload (v := x5) f_9_39 rfl ?_
    exact r_calls (as := [vr f1, vi x2, vi x3, vi x4, vi x5]) (st' := []) (ls0 := [vr f1, vi x2, vi x3, vi x4, vi x5, vr 9999, vr 9999]) f_9_41 (by decide) (by decide) rfl rfl (Nat.le_of_ble_eq_true rfl) (Nat.le_of_ble_eq_true rfl) rfl (k3 c1)

theorem g_Bo_leastChalk_44 {Q : PQ} {h : HP} {x2 : Int} {x3 : Int} {x4 : Int} {x5 : Int} {j6 : AV} {s0 : Int} {f1 : Nat} (h_f1 : isF f1)
    (o1 : -2147483648 ≤ x4 * 10 ∧ x4 * 10 ≤ 2147483647)
    (o2 : -2147483648 ≤ (x4 * 10) + x5 ∧ (x4 * 10) + x5 ≤ 2147483647)
    (o3 : s0 = 0 → 0 ≤ (x4 * 10) + x5 ∧ (x4 * 10) + x5 < 70)
    (o4 : s0 = 0 → -2147483648 ≤ x5 + 1 ∧ x5 + 1 ≤ 2147483647)
    (k5 : s0 = 0 → Wp true i_Bo_leastChalk 25 [vr 92, vr f1, vi x2, vi x3, vi x4, vi (x5 + 1), vi s0] [] (hs h 93 ((x4 * 10) + x5).toNat 1000000) Q)
    (k6 : ¬ s0 = 0 → Wp true i_Bo_bendingFrom 0 [vr 92, vr f1, vi x4, vi x5, vr 9999, vr 9999, vr 9999, vr 9999] [] h (fun r h' => Wp true i_Bo_leastChalk 72 [vr 92, vr f1, vi x2, vi x3, vi x4, vi x5, vi s0] (r.toList ++ [vi ((x4 * 10) + x5), vr 93]) h' Q)) :
    Wp true i_Bo_leastChalk 44 [vr 92, vr f1, vi x2, vi x3, vi x4, vi x5, j6] [vi s0] h Q := by
  refine r_istore (ls' := [vr 92, vr f1, vi x2, vi x3, vi x4, vi x5, vi s0]) f_9_44 (Nat.le_of_ble_eq_true rfl) rfl ?_
  refine r_aload_n (v := 92) f_9_46 rfl (by decide) ?_
  refine r_getr (q := 93) f_9_47 rfl (by decide) (Or.inl rfl) rfl ?_
  refine r_iload (v := x4) f_9_50 rfl ?_
  refine r_bipush f_9_52 (by decide) ?_
  refine r_imul (u := x4 * 10) f_9_54 rfl o1 ?_
  refine r_iload (v := x5) f_9_55 rfl ?_
  refine r_iadd (u := (x4 * 10) + x5) f_9_57 rfl o2 ?_
  refine r_iload (v := s0) f_9_58 rfl ?_
  refine r_br (t := 75) f_9_60 rfl cb_eq (fun c1 => ?_) (fun c1 => ?_)
  · refine r_ldc f_9_75 (by decide) ?_
    refine r_iastore (n := 70) f_9_77 ⟨rfl, rfl⟩ (o3 c1) ?_
    refine r_iinc (v := x5) (w := x5 + 1) (ls' := [vr 92, vr f1, vi x2, vi x3, vi x4, vi (x5 + 1), vi s0]) f_9_78 rfl rfl (o4 c1) rfl ?_
    refine r_goto (t := 25) f_9_81 rfl ?_
    exact (k5 c1)
  · refine r_aload_n (v := 92) f_9_63 rfl (by decide) ?_
    refine r_aload_n (v := f1) f_9_64 rfl (F_n h_f1) ?_
    refine r_iload (v := x4) f_9_65 rfl ?_
    refine r_iload (v := x5) f_9_67 rfl ?_
    exact r_callv (as := [vr 92, vr f1, vi x4, vi x5]) (st' := [vi ((x4 * 10) + x5), vr 93]) (ls0 := [vr 92, vr f1, vi x4, vi x5, vr 9999, vr 9999, vr 9999, vr 9999]) f_9_69 (by decide) rfl rfl (Nat.le_of_ble_eq_true rfl) (Nat.le_of_ble_eq_true rfl) ⟨_, _, rfl, rfl⟩ rfl (k6 c1)

theorem g_Bo_leastChalk_72 {Q : PQ} {h : HP} {x2 : Int} {x3 : Int} {x4 : Int} {x5 : Int} {x6 : Int} {s1 : Int} {s2 : Int} {f1 : Nat} (h_f1 : isF f1)
    (o1 : 0 ≤ s1 ∧ s1 < 70)
    (o2 : -2147483648 ≤ x5 + 1 ∧ x5 + 1 ≤ 2147483647)
    (k3 : Wp true i_Bo_leastChalk 25 [vr 92, vr f1, vi x2, vi x3, vi x4, vi (x5 + 1), vi x6] [] (hs h 93 s1.toNat s2) Q) :
    Wp true i_Bo_leastChalk 72 [vr 92, vr f1, vi x2, vi x3, vi x4, vi x5, vi x6] [vi s2, vi s1, vr 93] h Q := by
  refine r_goto (t := 77) f_9_72 rfl ?_
  refine r_iastore (n := 70) f_9_77 ⟨rfl, rfl⟩ o1 ?_
  refine r_iinc (v := x5) (w := x5 + 1) (ls' := [vr 92, vr f1, vi x2, vi x3, vi x4, vi (x5 + 1), vi x6]) f_9_78 rfl rfl o2 rfl ?_
  refine r_goto (t := 25) f_9_81 rfl ?_
  exact k3

theorem g_Bo_leastChalk_97 {Q : PQ} {h : HP} {x2 : Int} {x3 : Int} {x4 : Int} {x5 : Int} {j6 : AV} {f1 : Nat} (h_f1 : isF f1)
    (k1 : h f1 0 < x5 → 1000000 ≤ x4 → Q (some (vi (-1))) h)
    (o2 : h f1 0 < x5 → ¬ 1000000 ≤ x4 → -2147483648 ≤ (h f1 1) + x4 ∧ (h f1 1) + x4 ≤ 2147483647)
    (k3 : h f1 0 < x5 → ¬ 1000000 ≤ x4 → Q (some (vi ((h f1 1) + x4))) h)
    (o4 : ¬ h f1 0 < x5 → 0 ≤ x5 ∧ x5 < 70)
    (o5 : ¬ h f1 0 < x5 → -2147483648 ≤ x5 + 1 ∧ x5 + 1 ≤ 2147483647)
    (k6 : ¬ h f1 0 < x5 → Wp true i_Bo_leastChalk 97 [vr 92, vr f1, vi x2, vi x3, vi (min x4 (h 93 x5.toNat)), vi (x5 + 1), j6] [] h Q) :
    Wp true i_Bo_leastChalk 97 [vr 92, vr f1, vi x2, vi x3, vi x4, vi x5, j6] [] h Q := by
  refine r_iload (v := x5) f_9_97 rfl ?_
  refine r_aload_n (v := f1) f_9_99 rfl (F_n h_f1) ?_
  refine r_geti (v := h f1 0) f_9_100 (F_k h_f1) (by decide) rfl ?_
  refine r_br2 (t := 126) f_9_103 rfl cb_gt (fun c1 => ?_) (fun c1 => ?_)
  · refine r_iload (v := x4) f_9_126 rfl ?_
    refine r_ldc f_9_128 (by decide) ?_
    refine r_br2 (t := 143) f_9_130 rfl cb_ge (fun c2 => ?_) (fun c2 => ?_)
    · refine r_iconst f_9_143 (by decide) ?_
      exact r_reti f_9_144 rfl (k1 c1 c2)
    · refine r_aload_n (v := f1) f_9_133 rfl (F_n h_f1) ?_
      refine r_geti (v := h f1 1) f_9_134 (F_k h_f1) (by decide) rfl ?_
      refine r_iload (v := x4) f_9_137 rfl ?_
      refine r_iadd (u := (h f1 1) + x4) f_9_139 rfl (o2 c1 c2) ?_
      refine r_goto (t := 144) f_9_140 rfl ?_
      exact r_reti f_9_144 rfl (k3 c1 c2)
  · refine r_iload (v := x4) f_9_106 rfl ?_
    refine r_aload_n (v := 92) f_9_108 rfl (by decide) ?_
    refine r_getr (q := 93) f_9_109 rfl (by decide) (Or.inl rfl) rfl ?_
    refine r_iload (v := x5) f_9_112 rfl ?_
    refine r_iaload (n := 70) (v := h 93 x5.toNat) f_9_114 ⟨rfl, rfl⟩ (o4 c1) rfl ?_
    refine r_calls (as := [vi x4, vi (h 93 x5.toNat)]) (st' := []) (ls0 := [vi x4, vi (h 93 x5.toNat)]) f_9_115 (by decide) (by decide) rfl rfl (Nat.le_of_ble_eq_true rfl) (Nat.le_of_ble_eq_true rfl) rfl ?_
    refine c_Ma_min  ?_
    show Wp true i_Bo_leastChalk 118 [vr 92, vr f1, vi x2, vi x3, vi x4, vi x5, j6] [vi (min x4 (h 93 x5.toNat))] h Q
    refine r_istore (ls' := [vr 92, vr f1, vi x2, vi x3, vi (min x4 (h 93 x5.toNat)), vi x5, j6]) f_9_118 (Nat.le_of_ble_eq_true rfl) rfl ?_
    refine r_iinc (v := x5) (w := x5 + 1) (ls' := [vr 92, vr f1, vi x2, vi x3, vi (min x4 (h 93 x5.toNat)), vi (x5 + 1), j6]) f_9_120 rfl rfl (o5 c1) rfl ?_
    refine r_goto (t := 97) f_9_123 rfl ?_
    exact (k6 c1)

theorem g_Bo_peaceCut_0 {Q : PQ} {h : HP} {x2 : Int} {f1 : Nat} (h_f1 : isF f1)
    (k1 : Wp true i_Bo_peaceCut 5 [vr 92, vr f1, vi x2, vi 0, vi 1] [] h Q) :
    Wp true i_Bo_peaceCut 0 [vr 92, vr f1, vi x2, vr 9999, vr 9999] [] h Q := by
  refine r_iconst f_12_0 (by decide) ?_
  refine r_istore_n (ls' := [vr 92, vr f1, vi x2, vi 0, vr 9999]) f_12_1 (Nat.le_of_ble_eq_true rfl) rfl ?_
  refine r_iconst f_12_2 (by decide) ?_
  refine r_istore (ls' := [vr 92, vr f1, vi x2, vi 0, vi 1]) f_12_3 (Nat.le_of_ble_eq_true rfl) rfl ?_
  exact k1

theorem g_Bo_peaceCut_5 {Q : PQ} {h : HP} {x2 : Int} {x3 : Int} {x4 : Int} {f1 : Nat} (h_f1 : isF f1)
    (k1 : h f1 0 < x4 → Wp true i_Bo_peaceCut 42 [vr 92, vr f1, vi x2, vi x3, vi 1] [] h Q)
    (o2 : ¬ h f1 0 < x4 → 0 ≤ x4 ∧ x4 < 70)
    (o3 : ¬ h f1 0 < x4 → 0 ≤ x3 ∧ x3 < 70)
    (o4 : ¬ h f1 0 < x4 → h 93 x3.toNat ≤ h 93 x4.toNat → -2147483648 ≤ x4 + 1 ∧ x4 + 1 ≤ 2147483647)
    (k5 : ¬ h f1 0 < x4 → h 93 x3.toNat ≤ h 93 x4.toNat → Wp true i_Bo_peaceCut 5 [vr 92, vr f1, vi x2, vi x3, vi (x4 + 1)] [] h Q)
    (o6 : ¬ h f1 0 < x4 → ¬ h 93 x3.toNat ≤ h 93 x4.toNat → -2147483648 ≤ x4 + 1 ∧ x4 + 1 ≤ 2147483647)
    (k7 : ¬ h f1 0 < x4 → ¬ h 93 x3.toNat ≤ h 93 x4.toNat → Wp true i_Bo_peaceCut 5 [vr 92, vr f1, vi x2, vi x4, vi (x4 + 1)] [] h Q) :
    Wp true i_Bo_peaceCut 5 [vr 92, vr f1, vi x2, vi x3, vi x4] [] h Q := by
  refine r_iload (v := x4) f_12_5 rfl ?_
  refine r_aload_n (v := f1) f_12_7 rfl (F_n h_f1) ?_
  refine r_geti (v := h f1 0) f_12_8 (F_k h_f1) (by decide) rfl ?_
  refine r_br2 (t := 39) f_12_11 rfl cb_gt (fun c1 => ?_) (fun c1 => ?_)
  · refine r_iconst f_12_39 (by decide) ?_
    refine r_istore (ls' := [vr 92, vr f1, vi x2, vi x3, vi 1]) f_12_40 (Nat.le_of_ble_eq_true rfl) rfl ?_
    exact (k1 c1)
  · refine r_aload_n (v := 92) f_12_14 rfl (by decide) ?_
    refine r_getr (q := 93) f_12_15 rfl (by decide) (Or.inl rfl) rfl ?_
    refine r_iload (v := x4) f_12_18 rfl ?_
    refine r_iaload (n := 70) (v := h 93 x4.toNat) f_12_20 ⟨rfl, rfl⟩ (o2 c1) rfl ?_
    refine r_aload_n (v := 92) f_12_21 rfl (by decide) ?_
    refine r_getr (q := 93) f_12_22 rfl (by decide) (Or.inl rfl) rfl ?_
    refine r_iload_n (v := x3) f_12_25 rfl ?_
    refine r_iaload (n := 70) (v := h 93 x3.toNat) f_12_26 ⟨rfl, rfl⟩ (o3 c1) rfl ?_
    refine r_br2 (t := 33) f_12_27 rfl cb_ge (fun c2 => ?_) (fun c2 => ?_)
    · refine r_iinc (v := x4) (w := x4 + 1) (ls' := [vr 92, vr f1, vi x2, vi x3, vi (x4 + 1)]) f_12_33 rfl rfl (o4 c1 c2) rfl ?_
      refine r_goto (t := 5) f_12_36 rfl ?_
      exact (k5 c1 c2)
    · refine r_iload (v := x4) f_12_30 rfl ?_
      refine r_istore_n (ls' := [vr 92, vr f1, vi x2, vi x4, vi x4]) f_12_32 (Nat.le_of_ble_eq_true rfl) rfl ?_
      refine r_iinc (v := x4) (w := x4 + 1) (ls' := [vr 92, vr f1, vi x2, vi x4, vi (x4 + 1)]) f_12_33 rfl rfl (o6 c1 c2) rfl ?_
      refine r_goto (t := 5) f_12_36 rfl ?_
      exact (k7 c1 c2)

theorem g_Bo_peaceCut_42 {Q : PQ} {h : HP} {x2 : Int} {x3 : Int} {x4 : Int} {f1 : Nat} (h_f1 : isF f1)
    (k1 : x2 < x4 → Q (some (vi x3)) h)
    (k2 : ¬ x2 < x4 → Wp true i_Bo_peaceCutBehind 0 [vr 92, vr f1, vi x4, vi x3, vr 9999, vr 9999, vr 9999, vr 9999, vr 9999] [] h (fun r h' => Wp true i_Bo_peaceCut 56 [vr 92, vr f1, vi x2, vi x3, vi x4] (r.toList ++ []) h' Q)) :
    Wp true i_Bo_peaceCut 42 [vr 92, vr f1, vi x2, vi x3, vi x4] [] h Q := by
  refine r_iload (v := x4) f_12_42 rfl ?_
  refine r_iload_n (v := x2) f_12_44 rfl ?_
  refine r_br2 (t := 63) f_12_45 rfl cb_gt (fun c1 => ?_) (fun c1 => ?_)
  · refine r_iload_n (v := x3) f_12_63 rfl ?_
    exact r_reti f_12_64 rfl (k1 c1)
  · refine r_aload_n (v := 92) f_12_48 rfl (by decide) ?_
    refine r_aload_n (v := f1) f_12_49 rfl (F_n h_f1) ?_
    refine r_iload (v := x4) f_12_50 rfl ?_
    refine r_iload_n (v := x3) f_12_52 rfl ?_
    exact r_callv (as := [vr 92, vr f1, vi x4, vi x3]) (st' := []) (ls0 := [vr 92, vr f1, vi x4, vi x3, vr 9999, vr 9999, vr 9999, vr 9999, vr 9999]) f_12_53 (by decide) rfl rfl (Nat.le_of_ble_eq_true rfl) (Nat.le_of_ble_eq_true rfl) ⟨_, _, rfl, rfl⟩ rfl (k2 c1)

theorem g_Bo_peaceCut_56 {Q : PQ} {h : HP} {x2 : Int} {x3 : Int} {x4 : Int} {s0 : Int} {f1 : Nat} (h_f1 : isF f1)
    (o1 : -2147483648 ≤ x4 + 1 ∧ x4 + 1 ≤ 2147483647)
    (k2 : Wp true i_Bo_peaceCut 42 [vr 92, vr f1, vi x2, vi s0, vi (x4 + 1)] [] h Q) :
    Wp true i_Bo_peaceCut 56 [vr 92, vr f1, vi x2, vi x3, vi x4] [vi s0] h Q := by
  refine r_istore_n (ls' := [vr 92, vr f1, vi x2, vi s0, vi x4]) f_12_56 (Nat.le_of_ble_eq_true rfl) rfl ?_
  refine r_iinc (v := x4) (w := x4 + 1) (ls' := [vr 92, vr f1, vi x2, vi s0, vi (x4 + 1)]) f_12_57 rfl rfl o1 rfl ?_
  refine r_goto (t := 42) f_12_60 rfl ?_
  exact k2

theorem g_Bo_peaceCutBehind_0 {Q : PQ} {h : HP} {x2 : Int} {x3 : Int} {f1 : Nat} (h_f1 : isF f1)
    (o1 : -2147483648 ≤ x3 + (h f1 2) ∧ x3 + (h f1 2) ≤ 2147483647)
    (o2 : -2147483648 ≤ x3 - (h f1 2) ∧ x3 - (h f1 2) ≤ 2147483647)
    (o3 : -2147483648 ≤ (max 0 (x3 - (h f1 2))) - x3 ∧ (max 0 (x3 - (h f1 2))) - x3 ≤ 2147483647)
    (o4 : -2147483647 ≤ ((max 0 (x3 - (h f1 2))) - x3) ∧ ((max 0 (x3 - (h f1 2))) - x3) ≤ 2147483647)
    (o5 : -2147483648 ≤ x2 * 10 ∧ x2 * 10 ≤ 2147483647)
    (o6 : -2147483648 ≤ (x2 * 10) + (max 0 (x3 - (h f1 2))) ∧ (x2 * 10) + (max 0 (x3 - (h f1 2))) ≤ 2147483647)
    (o7 : 0 ≤ (x2 * 10) + (max 0 (x3 - (h f1 2))) ∧ (x2 * 10) + (max 0 (x3 - (h f1 2))) < 70)
    (o8 : -2147483648 ≤ (((max 0 (x3 - (h f1 2))) - x3).natAbs : Int) + (h 93 ((x2 * 10) + (max 0 (x3 - (h f1 2)))).toNat) ∧ (((max 0 (x3 - (h f1 2))) - x3).natAbs : Int) + (h 93 ((x2 * 10) + (max 0 (x3 - (h f1 2)))).toNat) ≤ 2147483647)
    (o9 : -2147483648 ≤ (max 0 (x3 - (h f1 2))) + 1 ∧ (max 0 (x3 - (h f1 2))) + 1 ≤ 2147483647)
    (k10 : Wp true i_Bo_peaceCutBehind 55 [vr 92, vr f1, vi x2, vi x3, vi (min (h f1 0) (x3 + (h f1 2))), vi (max 0 (x3 - (h f1 2))), vi ((((max 0 (x3 - (h f1 2))) - x3).natAbs : Int) + (h 93 ((x2 * 10) + (max 0 (x3 - (h f1 2)))).toNat)), vi ((max 0 (x3 - (h f1 2))) + 1), vr 9999] [] h Q) :
    Wp true i_Bo_peaceCutBehind 0 [vr 92, vr f1, vi x2, vi x3, vr 9999, vr 9999, vr 9999, vr 9999, vr 9999] [] h Q := by
  refine r_aload_n (v := f1) f_13_0 rfl (F_n h_f1) ?_
  refine r_geti (v := h f1 0) f_13_1 (F_k h_f1) (by decide) rfl ?_
  refine r_iload_n (v := x3) f_13_4 rfl ?_
  refine r_aload_n (v := f1) f_13_5 rfl (F_n h_f1) ?_
  refine r_geti (v := h f1 2) f_13_6 (F_k h_f1) (by decide) rfl ?_
  refine r_iadd (u := x3 + (h f1 2)) f_13_9 rfl o1 ?_
  refine r_calls (as := [vi (h f1 0), vi (x3 + (h f1 2))]) (st' := []) (ls0 := [vi (h f1 0), vi (x3 + (h f1 2))]) f_13_10 (by decide) (by decide) rfl rfl (Nat.le_of_ble_eq_true rfl) (Nat.le_of_ble_eq_true rfl) rfl ?_
  refine c_Ma_min  ?_
  show Wp true i_Bo_peaceCutBehind 13 [vr 92, vr f1, vi x2, vi x3, vr 9999, vr 9999, vr 9999, vr 9999, vr 9999] [vi (min (h f1 0) (x3 + (h f1 2)))] h Q
  refine r_istore (ls' := [vr 92, vr f1, vi x2, vi x3, vi (min (h f1 0) (x3 + (h f1 2))), vr 9999, vr 9999, vr 9999, vr 9999]) f_13_13 (Nat.le_of_ble_eq_true rfl) rfl ?_
  refine r_iconst f_13_15 (by decide) ?_
  refine r_iload_n (v := x3) f_13_16 rfl ?_
  refine r_aload_n (v := f1) f_13_17 rfl (F_n h_f1) ?_
  refine r_geti (v := h f1 2) f_13_18 (F_k h_f1) (by decide) rfl ?_
  refine r_isub (u := x3 - (h f1 2)) f_13_21 rfl o2 ?_
  refine r_calls (as := [vi 0, vi (x3 - (h f1 2))]) (st' := []) (ls0 := [vi 0, vi (x3 - (h f1 2))]) f_13_22 (by decide) (by decide) rfl rfl (Nat.le_of_ble_eq_true rfl) (Nat.le_of_ble_eq_true rfl) rfl ?_
  refine c_Ma_max  ?_
  show Wp true i_Bo_peaceCutBehind 25 [vr 92, vr f1, vi x2, vi x3, vi (min (h f1 0) (x3 + (h f1 2))), vr 9999, vr 9999, vr 9999, vr 9999] [vi (max 0 (x3 - (h f1 2)))] h Q
  refine r_istore (ls' := [vr 92, vr f1, vi x2, vi x3, vi (min (h f1 0) (x3 + (h f1 2))), vi (max 0 (x3 - (h f1 2))), vr 9999, vr 9999, vr 9999]) f_13_25 (Nat.le_of_ble_eq_true rfl) rfl ?_
  refine r_iload (v := max 0 (x3 - (h f1 2))) f_13_27 rfl ?_
  refine r_iload_n (v := x3) f_13_29 rfl ?_
  refine r_isub (u := (max 0 (x3 - (h f1 2))) - x3) f_13_30 rfl o3 ?_
  refine r_calls (as := [vi ((max 0 (x3 - (h f1 2))) - x3)]) (st' := []) (ls0 := [vi ((max 0 (x3 - (h f1 2))) - x3)]) f_13_31 (by decide) (by decide) rfl rfl (Nat.le_of_ble_eq_true rfl) (Nat.le_of_ble_eq_true rfl) rfl ?_
  refine c_Ma_abs o4 ?_
  show Wp true i_Bo_peaceCutBehind 34 [vr 92, vr f1, vi x2, vi x3, vi (min (h f1 0) (x3 + (h f1 2))), vi (max 0 (x3 - (h f1 2))), vr 9999, vr 9999, vr 9999] [vi (((max 0 (x3 - (h f1 2))) - x3).natAbs : Int)] h Q
  refine r_aload_n (v := 92) f_13_34 rfl (by decide) ?_
  refine r_getr (q := 93) f_13_35 rfl (by decide) (Or.inl rfl) rfl ?_
  refine r_iload_n (v := x2) f_13_38 rfl ?_
  refine r_bipush f_13_39 (by decide) ?_
  refine r_imul (u := x2 * 10) f_13_41 rfl o5 ?_
  refine r_iload (v := max 0 (x3 - (h f1 2))) f_13_42 rfl ?_
  refine r_iadd (u := (x2 * 10) + (max 0 (x3 - (h f1 2)))) f_13_44 rfl o6 ?_
  refine r_iaload (n := 70) (v := h 93 ((x2 * 10) + (max 0 (x3 - (h f1 2)))).toNat) f_13_45 ⟨rfl, rfl⟩ o7 rfl ?_
  refine r_iadd (u := (((max 0 (x3 - (h f1 2))) - x3).natAbs : Int) + (h 93 ((x2 * 10) + (max 0 (x3 - (h f1 2)))).toNat)) f_13_46 rfl o8 ?_
  refine r_istore (ls' := [vr 92, vr f1, vi x2, vi x3, vi (min (h f1 0) (x3 + (h f1 2))), vi (max 0 (x3 - (h f1 2))), vi ((((max 0 (x3 - (h f1 2))) - x3).natAbs : Int) + (h 93 ((x2 * 10) + (max 0 (x3 - (h f1 2)))).toNat)), vr 9999, vr 9999]) f_13_47 (Nat.le_of_ble_eq_true rfl) rfl ?_
  refine r_iload (v := max 0 (x3 - (h f1 2))) f_13_49 rfl ?_
  refine r_iconst f_13_51 (by decide) ?_
  refine r_iadd (u := (max 0 (x3 - (h f1 2))) + 1) f_13_52 rfl o9 ?_
  refine r_istore (ls' := [vr 92, vr f1, vi x2, vi x3, vi (min (h f1 0) (x3 + (h f1 2))), vi (max 0 (x3 - (h f1 2))), vi ((((max 0 (x3 - (h f1 2))) - x3).natAbs : Int) + (h 93 ((x2 * 10) + (max 0 (x3 - (h f1 2)))).toNat)), vi ((max 0 (x3 - (h f1 2))) + 1), vr 9999]) f_13_53 (Nat.le_of_ble_eq_true rfl) rfl ?_
  exact k10

theorem g_Bo_peaceCutBehind_55 {Q : PQ} {h : HP} {x2 : Int} {x3 : Int} {x4 : Int} {x5 : Int} {x6 : Int} {x7 : Int} {j8 : AV} {f1 : Nat} (h_f1 : isF f1)
    (k1 : x4 < x7 → Q (some (vi x5)) h)
    (o2 : ¬ x4 < x7 → -2147483648 ≤ x7 - x3 ∧ x7 - x3 ≤ 2147483647)
    (o3 : ¬ x4 < x7 → -2147483647 ≤ (x7 - x3) ∧ (x7 - x3) ≤ 2147483647)
    (o4 : ¬ x4 < x7 → -2147483648 ≤ x2 * 10 ∧ x2 * 10 ≤ 2147483647)
    (o5 : ¬ x4 < x7 → -2147483648 ≤ (x2 * 10) + x7 ∧ (x2 * 10) + x7 ≤ 2147483647)
    (o6 : ¬ x4 < x7 → 0 ≤ (x2 * 10) + x7 ∧ (x2 * 10) + x7 < 70)
    (o7 : ¬ x4 < x7 → -2147483648 ≤ ((x7 - x3).natAbs : Int) + (h 93 ((x2 * 10) + x7).toNat) ∧ ((x7 - x3).natAbs : Int) + (h 93 ((x2 * 10) + x7).toNat) ≤ 2147483647)
    (o8 : ¬ x4 < x7 → x6 ≤ ((x7 - x3).natAbs : Int) + (h 93 ((x2 * 10) + x7).toNat) → -2147483648 ≤ x7 + 1 ∧ x7 + 1 ≤ 2147483647)
    (k9 : ¬ x4 < x7 → x6 ≤ ((x7 - x3).natAbs : Int) + (h 93 ((x2 * 10) + x7).toNat) → Wp true i_Bo_peaceCutBehind 55 [vr 92, vr f1, vi x2, vi x3, vi x4, vi x5, vi x6, vi (x7 + 1), vi (((x7 - x3).natAbs : Int) + (h 93 ((x2 * 10) + x7).toNat))] [] h Q)
    (o10 : ¬ x4 < x7 → ¬ x6 ≤ ((x7 - x3).natAbs : Int) + (h 93 ((x2 * 10) + x7).toNat) → -2147483648 ≤ x7 + 1 ∧ x7 + 1 ≤ 2147483647)
    (k11 : ¬ x4 < x7 → ¬ x6 ≤ ((x7 - x3).natAbs : Int) + (h 93 ((x2 * 10) + x7).toNat) → Wp true i_Bo_peaceCutBehind 55 [vr 92, vr f1, vi x2, vi x3, vi x4, vi x7, vi (((x7 - x3).natAbs : Int) + (h 93 ((x2 * 10) + x7).toNat)), vi (x7 + 1), vi (((x7 - x3).natAbs : Int) + (h 93 ((x2 * 10) + x7).toNat))] [] h Q) :
    Wp true i_Bo_peaceCutBehind 55 [vr 92, vr f1, vi x2, vi x3, vi x4, vi x5, vi x6, vi x7, j8] [] h Q := by
  refine r_iload (v := x7) f_13_55 rfl ?_
  refine r_iload (v := x4) f_13_57 rfl ?_
  refine r_br2 (t := 105) f_13_59 rfl cb_gt (fun c1 => ?_) (fun c1 => ?_)
  · refine r_iload (v := x5) f_13_105 rfl ?_
    exact r_reti f_13_107 rfl (k1 c1)
  · refine r_iload (v := x7) f_13_62 rfl ?_
    refine r_iload_n (v := x3) f_13_64 rfl ?_
    refine r_isub (u := x7 - x3) f_13_65 rfl (o2 c1) ?_
    refine r_calls (as := [vi (x7 - x3)]) (st' := []) (ls0 := [vi (x7 - x3)]) f_13_66 (by decide) (by decide) rfl rfl (Nat.le_of_ble_eq_true rfl) (Nat.le_of_ble_eq_true rfl) rfl ?_
    refine c_Ma_abs (o3 c1) ?_
    show Wp true i_Bo_peaceCutBehind 69 [vr 92, vr f1, vi x2, vi x3, vi x4, vi x5, vi x6, vi x7, j8] [vi ((x7 - x3).natAbs : Int)] h Q
    refine r_aload_n (v := 92) f_13_69 rfl (by decide) ?_
    refine r_getr (q := 93) f_13_70 rfl (by decide) (Or.inl rfl) rfl ?_
    refine r_iload_n (v := x2) f_13_73 rfl ?_
    refine r_bipush f_13_74 (by decide) ?_
    refine r_imul (u := x2 * 10) f_13_76 rfl (o4 c1) ?_
    refine r_iload (v := x7) f_13_77 rfl ?_
    refine r_iadd (u := (x2 * 10) + x7) f_13_79 rfl (o5 c1) ?_
    refine r_iaload (n := 70) (v := h 93 ((x2 * 10) + x7).toNat) f_13_80 ⟨rfl, rfl⟩ (o6 c1) rfl ?_
    refine r_iadd (u := ((x7 - x3).natAbs : Int) + (h 93 ((x2 * 10) + x7).toNat)) f_13_81 rfl (o7 c1) ?_
    refine r_istore (ls' := [vr 92, vr f1, vi x2, vi x3, vi x4, vi x5, vi x6, vi x7, vi (((x7 - x3).natAbs : Int) + (h 93 ((x2 * 10) + x7).toNat))]) f_13_82 (Nat.le_of_ble_eq_true rfl) rfl ?_
    refine r_iload (v := ((x7 - x3).natAbs : Int) + (h 93 ((x2 * 10) + x7).toNat)) f_13_84 rfl ?_
    refine r_iload (v := x6) f_13_86 rfl ?_
    refine r_br2 (t := 99) f_13_88 rfl cb_ge (fun c2 => ?_) (fun c2 => ?_)
    · refine r_iinc (v := x7) (w := x7 + 1) (ls' := [vr 92, vr f1, vi x2, vi x3, vi x4, vi x5, vi x6, vi (x7 + 1), vi (((x7 - x3).natAbs : Int) + (h 93 ((x2 * 10) + x7).toNat))]) f_13_99 rfl rfl (o8 c1 c2) rfl ?_
      refine r_goto (t := 55) f_13_102 rfl ?_
      exact (k9 c1 c2)
    · refine r_iload (v := ((x7 - x3).natAbs : Int) + (h 93 ((x2 * 10) + x7).toNat)) f_13_91 rfl ?_
      refine r_istore (ls' := [vr 92, vr f1, vi x2, vi x3, vi x4, vi x5, vi (((x7 - x3).natAbs : Int) + (h 93 ((x2 * 10) + x7).toNat)), vi x7, vi (((x7 - x3).natAbs : Int) + (h 93 ((x2 * 10) + x7).toNat))]) f_13_93 (Nat.le_of_ble_eq_true rfl) rfl ?_
      refine r_iload (v := x7) f_13_95 rfl ?_
      refine r_istore (ls' := [vr 92, vr f1, vi x2, vi x3, vi x4, vi x7, vi (((x7 - x3).natAbs : Int) + (h 93 ((x2 * 10) + x7).toNat)), vi x7, vi (((x7 - x3).natAbs : Int) + (h 93 ((x2 * 10) + x7).toNat))]) f_13_97 (Nat.le_of_ble_eq_true rfl) rfl ?_
      refine r_iinc (v := x7) (w := x7 + 1) (ls' := [vr 92, vr f1, vi x2, vi x3, vi x4, vi x7, vi (((x7 - x3).natAbs : Int) + (h 93 ((x2 * 10) + x7).toNat)), vi (x7 + 1), vi (((x7 - x3).natAbs : Int) + (h 93 ((x2 * 10) + x7).toNat))]) f_13_99 rfl rfl (o10 c1 c2) rfl ?_
      refine r_goto (t := 55) f_13_102 rfl ?_
      exact (k11 c1 c2)

theorem g_M_isPeace_0 {Q : PQ} {h : HP} {x1 : Int} {x2 : Int} {x3 : Int} {x4 : Int} 
    (k1 : Wp true i_M_isPeace 3 [vr 103, vi x1, vi x2, vi x3, vi x4, vi 0] [] h Q) :
    Wp true i_M_isPeace 0 [vr 103, vi x1, vi x2, vi x3, vi x4, vr 9999] [] h Q := by
  refine r_iconst f_346_0 (by decide) ?_
  refine r_istore (ls' := [vr 103, vi x1, vi x2, vi x3, vi x4, vi 0]) f_346_1 (Nat.le_of_ble_eq_true rfl) rfl ?_
  exact k1

theorem g_M_isPeace_3 {Q : PQ} {h : HP} {x1 : Int} {x2 : Int} {x3 : Int} {x4 : Int} {x5 : Int} 
    (k1 : h 104 2 ≤ x5 → Q (some (vi 1)) h)
    (o2 : ¬ h 104 2 ≤ x5 → 0 ≤ x5 ∧ x5 < 100)
    (o3 : ¬ h 104 2 ≤ x5 → -2147483648 ≤ (15 + 6 * x5) + 1 ∧ (15 + 6 * x5) + 1 ≤ 2147483647)
    (o4 : ¬ h 104 2 ≤ x5 → 0 ≤ (15 + 6 * x5) + 1 ∧ (15 + 6 * x5) + 1 < 3000)
    (k5 : ¬ h 104 2 ≤ x5 → h 104 ((15 + 6 * x5) + 1).toNat = x3 → ¬ (o_and (o_shr x1 x5) 1 = 1) → Wp true i_M_isPeace 58 [vr 103, vi x1, vi x2, vi x3, vi x4, vi x5] [] h Q)
    (o6 : ¬ h 104 2 ≤ x5 → h 104 ((15 + 6 * x5) + 1).toNat = x3 → (o_and (o_shr x1 x5) 1 = 1) → 0 ≤ 15 + 6 * x5 ∧ 15 + 6 * x5 < 3000)
    (k7 : ¬ h 104 2 ≤ x5 → h 104 ((15 + 6 * x5) + 1).toNat = x3 → (o_and (o_shr x1 x5) 1 = 1) → x4 ≤ h 104 (15 + 6 * x5).toNat → Q (some (vi 0)) h)
    (k8 : ¬ h 104 2 ≤ x5 → h 104 ((15 + 6 * x5) + 1).toNat = x3 → (o_and (o_shr x1 x5) 1 = 1) → ¬ x4 ≤ h 104 (15 + 6 * x5).toNat → Wp true i_M_isPeace 58 [vr 103, vi x1, vi x2, vi x3, vi x4, vi x5] [] h Q)
    (o9 : ¬ h 104 2 ≤ x5 → ¬ h 104 ((15 + 6 * x5) + 1).toNat = x3 → -2147483648 ≤ x5 + 1 ∧ x5 + 1 ≤ 2147483647)
    (k10 : ¬ h 104 2 ≤ x5 → ¬ h 104 ((15 + 6 * x5) + 1).toNat = x3 → Wp true i_M_isPeace 3 [vr 103, vi x1, vi x2, vi x3, vi x4, vi (x5 + 1)] [] h Q) :
    Wp true i_M_isPeace 3 [vr 103, vi x1, vi x2, vi x3, vi x4, vi x5] [] h Q := by
  refine r_iload (v := x5) f_346_3 rfl ?_
  refine r_aload_n (v := 103) f_346_5 rfl (by decide) ?_
  refine r_getr (q := 104) f_346_6 rfl (by decide) (Or.inl rfl) rfl ?_
  refine r_iconst f_346_9 (by decide) ?_
  refine r_iaload (n := 3000) (v := h 104 2) f_346_10 ⟨rfl, rfl⟩ (by decide) rfl ?_
  refine r_br2 (t := 91) f_346_11 rfl cb_ge (fun c1 => ?_) (fun c1 => ?_)
  · refine r_iconst f_346_91 (by decide) ?_
    exact r_retz f_346_92 rfl (by decide) (k1 c1)
  · refine r_aload_n (v := 103) f_346_14 rfl (by decide) ?_
    refine r_getr (q := 104) f_346_15 rfl (by decide) (Or.inl rfl) rfl ?_
    refine r_iload (v := x5) f_346_18 rfl ?_
    refine r_calls (as := [vi x5]) (st' := [vr 104]) (ls0 := [vi x5]) f_346_20 (by decide) (by decide) rfl rfl (Nat.le_of_ble_eq_true rfl) (Nat.le_of_ble_eq_true rfl) rfl ?_
    refine c_M_thingRow (o2 c1) ?_
    show Wp true i_M_isPeace 23 [vr 103, vi x1, vi x2, vi x3, vi x4, vi x5] [vi (15 + 6 * x5), vr 104] h Q
    refine r_iconst f_346_23 (by decide) ?_
    refine r_iadd (u := (15 + 6 * x5) + 1) f_346_24 rfl (o3 c1) ?_
    refine r_iaload (n := 3000) (v := h 104 ((15 + 6 * x5) + 1).toNat) f_346_25 ⟨rfl, rfl⟩ (o4 c1) rfl ?_
    refine r_iload_n (v := x3) f_346_26 rfl ?_
    refine r_br2 (t := 33) f_346_27 rfl cb_eq (fun c2 => ?_) (fun c2 => ?_)
    · refine r_aload_n (v := 103) f_346_33 rfl (by decide) ?_
      refine r_iload_n (v := x1) f_346_34 rfl ?_
      refine r_iload (v := x5) f_346_35 rfl ?_
      refine r_callv (as := [vr 103, vi x1, vi x5]) (st' := []) (ls0 := [vr 103, vi x1, vi x5]) f_346_37 (by decide) rfl rfl (Nat.le_of_ble_eq_true rfl) (Nat.le_of_ble_eq_true rfl) ⟨_, _, rfl, rfl⟩ rfl ?_
      refine c_M_isIn  ?_
      show Wp true i_M_isPeace 40 [vr 103, vi x1, vi x2, vi x3, vi x4, vi x5] [vi (bi (o_and (o_shr x1 x5) 1 = 1))] h Q
      refine r_br (t := 58) f_346_40 rfl cb_bf (fun c3 => ?_) (fun c3 => ?_)
      · exact (k5 c1 c2 c3)
      · have c3 := Decidable.not_not.mp c3
        refine r_aload_n (v := 103) f_346_43 rfl (by decide) ?_
        refine r_getr (q := 104) f_346_44 rfl (by decide) (Or.inl rfl) rfl ?_
        refine r_iload (v := x5) f_346_47 rfl ?_
        refine r_calls (as := [vi x5]) (st' := [vr 104]) (ls0 := [vi x5]) f_346_49 (by decide) (by decide) rfl rfl (Nat.le_of_ble_eq_true rfl) (Nat.le_of_ble_eq_true rfl) rfl ?_
        refine c_M_thingRow (o2 c1) ?_
        show Wp true i_M_isPeace 52 [vr 103, vi x1, vi x2, vi x3, vi x4, vi x5] [vi (15 + 6 * x5), vr 104] h Q
        refine r_iaload (n := 3000) (v := h 104 (15 + 6 * x5).toNat) f_346_52 ⟨rfl, rfl⟩ (o6 c1 c2 c3) rfl ?_
        refine r_iload (v := x4) f_346_53 rfl ?_
        refine r_br2 (t := 83) f_346_55 rfl cb_ge (fun c4 => ?_) (fun c4 => ?_)
        · refine r_iconst f_346_83 (by decide) ?_
          exact r_retz f_346_84 rfl (by decide) (k7 c1 c2 c3 c4)
        · exact (k8 c1 c2 c3 c4)
    · refine r_goto (t := 85) f_346_30 rfl ?_
      refine r_iinc (v := x5) (w := x5 + 1) (ls' := [vr 103, vi x1, vi x2, vi x3, vi x4, vi (x5 + 1)]) f_346_85 rfl rfl (o9 c1 c2) rfl ?_
      refine r_goto (t := 3) f_346_88 rfl ?_
      exact (k10 c1 c2)

theorem g_M_isPeace_58 {Q : PQ} {h : HP} {x1 : Int} {x2 : Int} {x3 : Int} {x4 : Int} {x5 : Int} 
    (o1 : ¬ (o_and (o_shr x2 x5) 1 = 1) → -2147483648 ≤ x5 + 1 ∧ x5 + 1 ≤ 2147483647)
    (k2 : ¬ (o_and (o_shr x2 x5) 1 = 1) → Wp true i_M_isPeace 3 [vr 103, vi x1, vi x2, vi x3, vi x4, vi (x5 + 1)] [] h Q)
    (o3 : (o_and (o_shr x2 x5) 1 = 1) → 0 ≤ x5 ∧ x5 < 100)
    (o4 : (o_and (o_shr x2 x5) 1 = 1) → 0 ≤ 15 + 6 * x5 ∧ 15 + 6 * x5 < 3000)
    (o5 : (o_and (o_shr x2 x5) 1 = 1) → x4 ≤ h 104 (15 + 6 * x5).toNat → -2147483648 ≤ x5 + 1 ∧ x5 + 1 ≤ 2147483647)
    (k6 : (o_and (o_shr x2 x5) 1 = 1) → x4 ≤ h 104 (15 + 6 * x5).toNat → Wp true i_M_isPeace 3 [vr 103, vi x1, vi x2, vi x3, vi x4, vi (x5 + 1)] [] h Q)
    (k7 : (o_and (o_shr x2 x5) 1 = 1) → ¬ x4 ≤ h 104 (15 + 6 * x5).toNat → Q (some (vi 0)) h) :
    Wp true i_M_isPeace 58 [vr 103, vi x1, vi x2, vi x3, vi x4, vi x5] [] h Q := by
  refine r_aload_n (v := 103) f_346_58 rfl (by decide) ?_
  refine r_iload_n (v := x2) f_346_59 rfl ?_
  refine r_iload (v := x5) f_346_60 rfl ?_
  refine r_callv (as := [vr 103, vi x2, vi x5]) (st' := []) (ls0 := [vr 103, vi x2, vi x5]) f_346_62 (by decide) rfl rfl (Nat.le_of_ble_eq_true rfl) (Nat.le_of_ble_eq_true rfl) ⟨_, _, rfl, rfl⟩ rfl ?_
  refine c_M_isIn  ?_
  show Wp true i_M_isPeace 65 [vr 103, vi x1, vi x2, vi x3, vi x4, vi x5] [vi (bi (o_and (o_shr x2 x5) 1 = 1))] h Q
  refine r_br (t := 85) f_346_65 rfl cb_bf (fun c1 => ?_) (fun c1 => ?_)
  · refine r_iinc (v := x5) (w := x5 + 1) (ls' := [vr 103, vi x1, vi x2, vi x3, vi x4, vi (x5 + 1)]) f_346_85 rfl rfl (o1 c1) rfl ?_
    refine r_goto (t := 3) f_346_88 rfl ?_
    exact (k2 c1)
  · have c1 := Decidable.not_not.mp c1
    refine r_aload_n (v := 103) f_346_68 rfl (by decide) ?_
    refine r_getr (q := 104) f_346_69 rfl (by decide) (Or.inl rfl) rfl ?_
    refine r_iload (v := x5) f_346_72 rfl ?_
    refine r_calls (as := [vi x5]) (st' := [vr 104]) (ls0 := [vi x5]) f_346_74 (by decide) (by decide) rfl rfl (Nat.le_of_ble_eq_true rfl) (Nat.le_of_ble_eq_true rfl) rfl ?_
    refine c_M_thingRow (o3 c1) ?_
    show Wp true i_M_isPeace 77 [vr 103, vi x1, vi x2, vi x3, vi x4, vi x5] [vi (15 + 6 * x5), vr 104] h Q
    refine r_iaload (n := 3000) (v := h 104 (15 + 6 * x5).toNat) f_346_77 ⟨rfl, rfl⟩ (o4 c1) rfl ?_
    refine r_iload (v := x4) f_346_78 rfl ?_
    refine r_br2 (t := 85) f_346_80 rfl cb_ge (fun c2 => ?_) (fun c2 => ?_)
    · refine r_iinc (v := x5) (w := x5 + 1) (ls' := [vr 103, vi x1, vi x2, vi x3, vi x4, vi (x5 + 1)]) f_346_85 rfl rfl (o5 c1 c2) rfl ?_
      refine r_goto (t := 3) f_346_88 rfl ?_
      exact (k6 c1 c2)
    · refine r_iconst f_346_83 (by decide) ?_
      exact r_retz f_346_84 rfl (by decide) (k7 c1 c2)

theorem g_M_laysPeace_0 {Q : PQ} {h : HP} {x1 : Int} {x2 : Int} 
    (o1 : -2147483648 ≤ (h 104 1) - 1 ∧ (h 104 1) - 1 ≤ 2147483647)
    (k2 : Wp true i_M_laysPeace 14 [vr 103, vi x1, vi x2, vi 1000000, vi ((h 104 1) - 1), vr 9999, vr 9999, vr 9999] [] h Q) :
    Wp true i_M_laysPeace 0 [vr 103, vi x1, vi x2, vr 9999, vr 9999, vr 9999, vr 9999, vr 9999] [] h Q := by
  refine r_ldc_w f_347_0 (by decide) ?_
  refine r_istore_n (ls' := [vr 103, vi x1, vi x2, vi 1000000, vr 9999, vr 9999, vr 9999, vr 9999]) f_347_3 (Nat.le_of_ble_eq_true rfl) rfl ?_
  refine r_aload_n (v := 103) f_347_4 rfl (by decide) ?_
  refine r_getr (q := 104) f_347_5 rfl (by decide) (Or.inl rfl) rfl ?_
  refine r_iconst f_347_8 (by decide) ?_
  refine r_iaload (n := 3000) (v := h 104 1) f_347_9 ⟨rfl, rfl⟩ (by decide) rfl ?_
  refine r_iconst f_347_10 (by decide) ?_
  refine r_isub (u := (h 104 1) - 1) f_347_11 rfl o1 ?_
  refine r_istore (ls' := [vr 103, vi x1, vi x2, vi 1000000, vi ((h 104 1) - 1), vr 9999, vr 9999, vr 9999]) f_347_12 (Nat.le_of_ble_eq_true rfl) rfl ?_
  exact k2

theorem g_M_laysPeace_14 {Q : PQ} {h : HP} {x1 : Int} {x2 : Int} {x3 : Int} {x4 : Int} {j5 : AV} {j6 : AV} {j7 : AV} 
    (k1 : x4 < 0 → Q (some (vi x3)) h)
    (k2 : ¬ x4 < 0 → Wp true i_M_laysPeace 22 [vr 103, vi x1, vi x2, vi x3, vi x4, vi 0, j6, j7] [] h Q) :
    Wp true i_M_laysPeace 14 [vr 103, vi x1, vi x2, vi x3, vi x4, j5, j6, j7] [] h Q := by
  refine r_iload (v := x4) f_347_14 rfl ?_
  refine r_br (t := 199) f_347_16 rfl cb_lt (fun c1 => ?_) (fun c1 => ?_)
  · refine r_iload_n (v := x3) f_347_199 rfl ?_
    exact r_reti f_347_200 rfl (k1 c1)
  · refine r_iconst f_347_19 (by decide) ?_
    refine r_istore (ls' := [vr 103, vi x1, vi x2, vi x3, vi x4, vi 0, j6, j7]) f_347_20 (Nat.le_of_ble_eq_true rfl) rfl ?_
    exact (k2 c1)

theorem g_M_laysPeace_22 {Q : PQ} {h : HP} {x1 : Int} {x2 : Int} {x3 : Int} {x4 : Int} {x5 : Int} {j6 : AV} {j7 : AV} 
    (o1 : h 104 0 < x5 → -2147483648 ≤ x4 - 1 ∧ x4 - 1 ≤ 2147483647)
    (k2 : h 104 0 < x5 → Wp true i_M_laysPeace 14 [vr 103, vi x1, vi x2, vi x3, vi (x4 - 1), vi x5, j6, j7] [] h Q)
    (o3 : ¬ h 104 0 < x5 → -2147483648 ≤ (h 104 1) - 1 ∧ (h 104 1) - 1 ≤ 2147483647)
    (k4 : ¬ h 104 0 < x5 → ¬ x4 = (h 104 1) - 1 → Wp true i_M_laysPeace 58 [vr 103, vi x1, vi x2, vi x3, vi x4, vi x5, vi 1000000, vi 0] [] h Q)
    (k5 : ¬ h 104 0 < x5 → x4 = (h 104 1) - 1 → Wp true i_M_laysPeace 58 [vr 103, vi x1, vi x2, vi x3, vi x4, vi x5, vi 0, vi 0] [] h Q) :
    Wp true i_M_laysPeace 22 [vr 103, vi x1, vi x2, vi x3, vi x4, vi x5, j6, j7] [] h Q := by
  refine r_iload (v := x5) f_347_22 rfl ?_
  refine r_aload_n (v := 103) f_347_24 rfl (by decide) ?_
  refine r_getr (q := 104) f_347_25 rfl (by decide) (Or.inl rfl) rfl ?_
  refine r_iconst f_347_28 (by decide) ?_
  refine r_iaload (n := 3000) (v := h 104 0) f_347_29 ⟨rfl, rfl⟩ (by decide) rfl ?_
  refine r_br2 (t := 193) f_347_30 rfl cb_gt (fun c1 => ?_) (fun c1 => ?_)
  · refine r_iinc (v := x4) (w := x4 - 1) (ls' := [vr 103, vi x1, vi x2, vi x3, vi (x4 - 1), vi x5, j6, j7]) f_347_193 rfl (by omega) (o1 c1) rfl ?_
    refine r_goto (t := 14) f_347_196 rfl ?_
    exact (k2 c1)
  · refine r_iload (v := x4) f_347_33 rfl ?_
    refine r_aload_n (v := 103) f_347_35 rfl (by decide) ?_
    refine r_getr (q := 104) f_347_36 rfl (by decide) (Or.inl rfl) rfl ?_
    refine r_iconst f_347_39 (by decide) ?_
    refine r_iaload (n := 3000) (v := h 104 1) f_347_40 ⟨rfl, rfl⟩ (by decide) rfl ?_
    refine r_iconst f_347_41 (by decide) ?_
    refine r_isub (u := (h 104 1) - 1) f_347_42 rfl (o3 c1) ?_
    refine r_br2 (t := 50) f_347_43 rfl cb_ne (fun c2 => ?_) (fun c2 => ?_)
    · refine r_ldc_w f_347_50 (by decide) ?_
      refine r_istore (ls' := [vr 103, vi x1, vi x2, vi x3, vi x4, vi x5, vi 1000000, j7]) f_347_53 (Nat.le_of_ble_eq_true rfl) rfl ?_
      refine r_iconst f_347_55 (by decide) ?_
      refine r_istore (ls' := [vr 103, vi x1, vi x2, vi x3, vi x4, vi x5, vi 1000000, vi 0]) f_347_56 (Nat.le_of_ble_eq_true rfl) rfl ?_
      exact (k4 c1 c2)
    · have c2 := Decidable.not_not.mp c2
      refine r_iconst f_347_46 (by decide) ?_
      refine r_goto (t := 53) f_347_47 rfl ?_
      refine r_istore (ls' := [vr 103, vi x1, vi x2, vi x3, vi x4, vi x5, vi 0, j7]) f_347_53 (Nat.le_of_ble_eq_true rfl) rfl ?_
      refine r_iconst f_347_55 (by decide) ?_
      refine r_istore (ls' := [vr 103, vi x1, vi x2, vi x3, vi x4, vi x5, vi 0, vi 0]) f_347_56 (Nat.le_of_ble_eq_true rfl) rfl ?_
      exact (k5 c1 c2)

theorem g_M_laysPeace_58 {Q : PQ} {h : HP} {x1 : Int} {x2 : Int} {x3 : Int} {x4 : Int} {x5 : Int} {x6 : Int} {x7 : Int} 
    (k1 : h 104 0 < x7 → Wp true i_M_laysPeace 136 [vr 103, vi x1, vi x2, vi x3, vi x4, vi x5, vi x6, vi x7] [] h Q)
    (o2 : ¬ h 104 0 < x7 → -2147483648 ≤ (h 104 1) - 1 ∧ (h 104 1) - 1 ≤ 2147483647)
    (k3 : ¬ h 104 0 < x7 → (h 104 1) - 1 ≤ x4 → Wp true i_M_laysPeace 136 [vr 103, vi x1, vi x2, vi x3, vi x4, vi x5, vi x6, vi x7] [] h Q)
    (o4 : ¬ h 104 0 < x7 → ¬ (h 104 1) - 1 ≤ x4 → -2147483648 ≤ x7 - x5 ∧ x7 - x5 ≤ 2147483647)
    (o5 : ¬ h 104 0 < x7 → ¬ (h 104 1) - 1 ≤ x4 → -2147483647 ≤ (x7 - x5) ∧ (x7 - x5) ≤ 2147483647)
    (o6 : ¬ h 104 0 < x7 → ¬ (h 104 1) - 1 ≤ x4 → h 104 3 < ((x7 - x5).natAbs : Int) → -2147483648 ≤ x7 + 1 ∧ x7 + 1 ≤ 2147483647)
    (k7 : ¬ h 104 0 < x7 → ¬ (h 104 1) - 1 ≤ x4 → h 104 3 < ((x7 - x5).natAbs : Int) → Wp true i_M_laysPeace 58 [vr 103, vi x1, vi x2, vi x3, vi x4, vi x5, vi x6, vi (x7 + 1)] [] h Q)
    (o8 : ¬ h 104 0 < x7 → ¬ (h 104 1) - 1 ≤ x4 → ¬ h 104 3 < ((x7 - x5).natAbs : Int) → -2147483648 ≤ x4 + 1 ∧ x4 + 1 ≤ 2147483647)
    (o9 : ¬ h 104 0 < x7 → ¬ (h 104 1) - 1 ≤ x4 → ¬ h 104 3 < ((x7 - x5).natAbs : Int) → -2147483648 ≤ 10 * (x4 + 1) ∧ 10 * (x4 + 1) ≤ 2147483647)
    (o10 : ¬ h 104 0 < x7 → ¬ (h 104 1) - 1 ≤ x4 → ¬ h 104 3 < ((x7 - x5).natAbs : Int) → -2147483648 ≤ (10 * (x4 + 1)) + x7 ∧ (10 * (x4 + 1)) + x7 ≤ 2147483647)
    (o11 : ¬ h 104 0 < x7 → ¬ (h 104 1) - 1 ≤ x4 → ¬ h 104 3 < ((x7 - x5).natAbs : Int) → 0 ≤ (10 * (x4 + 1)) + x7 ∧ (10 * (x4 + 1)) + x7 < 80)
    (o12 : ¬ h 104 0 < x7 → ¬ (h 104 1) - 1 ≤ x4 → ¬ h 104 3 < ((x7 - x5).natAbs : Int) → -2147483648 ≤ (h 115 ((10 * (x4 + 1)) + x7).toNat) + ((x7 - x5).natAbs : Int) ∧ (h 115 ((10 * (x4 + 1)) + x7).toNat) + ((x7 - x5).natAbs : Int) ≤ 2147483647)
    (o13 : ¬ h 104 0 < x7 → ¬ (h 104 1) - 1 ≤ x4 → ¬ h 104 3 < ((x7 - x5).natAbs : Int) → -2147483648 ≤ x7 + 1 ∧ x7 + 1 ≤ 2147483647)
    (k14 : ¬ h 104 0 < x7 → ¬ (h 104 1) - 1 ≤ x4 → ¬ h 104 3 < ((x7 - x5).natAbs : Int) → Wp true i_M_laysPeace 58 [vr 103, vi x1, vi x2, vi x3, vi x4, vi x5, vi (min x6 ((h 115 ((10 * (x4 + 1)) + x7).toNat) + ((x7 - x5).natAbs : Int))), vi (x7 + 1)] [] h Q) :
    Wp true i_M_laysPeace 58 [vr 103, vi x1, vi x2, vi x3, vi x4, vi x5, vi x6, vi x7] [] h Q := by
  refine r_iload (v := x7) f_347_58 rfl ?_
  refine r_aload_n (v := 103) f_347_60 rfl (by decide) ?_
  refine r_getr (q := 104) f_347_61 rfl (by decide) (Or.inl rfl) rfl ?_
  refine r_iconst f_347_64 (by decide) ?_
  refine r_iaload (n := 3000) (v := h 104 0) f_347_65 ⟨rfl, rfl⟩ (by decide) rfl ?_
  refine r_br2 (t := 136) f_347_66 rfl cb_gt (fun c1 => ?_) (fun c1 => ?_)
  · exact (k1 c1)
  · refine r_iload (v := x4) f_347_69 rfl ?_
    refine r_aload_n (v := 103) f_347_71 rfl (by decide) ?_
    refine r_getr (q := 104) f_347_72 rfl (by decide) (Or.inl rfl) rfl ?_
    refine r_iconst f_347_75 (by decide) ?_
    refine r_iaload (n := 3000) (v := h 104 1) f_347_76 ⟨rfl, rfl⟩ (by decide) rfl ?_
    refine r_iconst f_347_77 (by decide) ?_
    refine r_isub (u := (h 104 1) - 1) f_347_78 rfl (o2 c1) ?_
    refine r_br2 (t := 136) f_347_79 rfl cb_ge (fun c2 => ?_) (fun c2 => ?_)
    · exact (k3 c1 c2)
    · refine r_iload (v := x7) f_347_82 rfl ?_
      refine r_iload (v := x5) f_347_84 rfl ?_
      refine r_isub (u := x7 - x5) f_347_86 rfl (o4 c1 c2) ?_
      refine r_calls (as := [vi (x7 - x5)]) (st' := []) (ls0 := [vi (x7 - x5)]) f_347_87 (by decide) (by decide) rfl rfl (Nat.le_of_ble_eq_true rfl) (Nat.le_of_ble_eq_true rfl) rfl ?_
      refine c_Ma_abs (o5 c1 c2) ?_
      show Wp true i_M_laysPeace 90 [vr 103, vi x1, vi x2, vi x3, vi x4, vi x5, vi x6, vi x7] [vi ((x7 - x5).natAbs : Int)] h Q
      refine r_aload_n (v := 103) f_347_90 rfl (by decide) ?_
      refine r_getr (q := 104) f_347_91 rfl (by decide) (Or.inl rfl) rfl ?_
      refine r_iconst f_347_94 (by decide) ?_
      refine r_iaload (n := 3000) (v := h 104 3) f_347_95 ⟨rfl, rfl⟩ (by decide) rfl ?_
      refine r_br2 (t := 130) f_347_96 rfl cb_gt (fun c3 => ?_) (fun c3 => ?_)
      · refine r_iinc (v := x7) (w := x7 + 1) (ls' := [vr 103, vi x1, vi x2, vi x3, vi x4, vi x5, vi x6, vi (x7 + 1)]) f_347_130 rfl rfl (o6 c1 c2 c3) rfl ?_
        refine r_goto (t := 58) f_347_133 rfl ?_
        exact (k7 c1 c2 c3)
      · refine r_iload (v := x6) f_347_99 rfl ?_
        refine r_aload_n (v := 103) f_347_101 rfl (by decide) ?_
        refine r_getr (q := 115) f_347_102 rfl (by decide) (Or.inl rfl) rfl ?_
        refine r_bipush f_347_105 (by decide) ?_
        refine r_iload (v := x4) f_347_107 rfl ?_
        refine r_iconst f_347_109 (by decide) ?_
        refine r_iadd (u := x4 + 1) f_347_110 rfl (o8 c1 c2 c3) ?_
        refine r_imul (u := 10 * (x4 + 1)) f_347_111 rfl (o9 c1 c2 c3) ?_
        refine r_iload (v := x7) f_347_112 rfl ?_
        refine r_iadd (u := (10 * (x4 + 1)) + x7) f_347_114 rfl (o10 c1 c2 c3) ?_
        refine r_iaload (n := 80) (v := h 115 ((10 * (x4 + 1)) + x7).toNat) f_347_115 ⟨rfl, rfl⟩ (o11 c1 c2 c3) rfl ?_
        refine r_iload (v := x7) f_347_116 rfl ?_
        refine r_iload (v := x5) f_347_118 rfl ?_
        refine r_isub (u := x7 - x5) f_347_120 rfl (o4 c1 c2) ?_
        refine r_calls (as := [vi (x7 - x5)]) (st' := [vi (h 115 ((10 * (x4 + 1)) + x7).toNat), vi x6]) (ls0 := [vi (x7 - x5)]) f_347_121 (by decide) (by decide) rfl rfl (Nat.le_of_ble_eq_true rfl) (Nat.le_of_ble_eq_true rfl) rfl ?_
        refine c_Ma_abs (o5 c1 c2) ?_
        show Wp true i_M_laysPeace 124 [vr 103, vi x1, vi x2, vi x3, vi x4, vi x5, vi x6, vi x7] [vi ((x7 - x5).natAbs : Int), vi (h 115 ((10 * (x4 + 1)) + x7).toNat), vi x6] h Q
        refine r_iadd (u := (h 115 ((10 * (x4 + 1)) + x7).toNat) + ((x7 - x5).natAbs : Int)) f_347_124 rfl (o12 c1 c2 c3) ?_
        refine r_calls (as := [vi x6, vi ((h 115 ((10 * (x4 + 1)) + x7).toNat) + ((x7 - x5).natAbs : Int))]) (st' := []) (ls0 := [vi x6, vi ((h 115 ((10 * (x4 + 1)) + x7).toNat) + ((x7 - x5).natAbs : Int))]) f_347_125 (by decide) (by decide) rfl rfl (Nat.le_of_ble_eq_true rfl) (Nat.le_of_ble_eq_true rfl) rfl ?_
        refine c_Ma_min  ?_
        show Wp true i_M_laysPeace 128 [vr 103, vi x1, vi x2, vi x3, vi x4, vi x5, vi x6, vi x7] [vi (min x6 ((h 115 ((10 * (x4 + 1)) + x7).toNat) + ((x7 - x5).natAbs : Int)))] h Q
        refine r_istore (ls' := [vr 103, vi x1, vi x2, vi x3, vi x4, vi x5, vi (min x6 ((h 115 ((10 * (x4 + 1)) + x7).toNat) + ((x7 - x5).natAbs : Int))), vi x7]) f_347_128 (Nat.le_of_ble_eq_true rfl) rfl ?_
        refine r_iinc (v := x7) (w := x7 + 1) (ls' := [vr 103, vi x1, vi x2, vi x3, vi x4, vi x5, vi (min x6 ((h 115 ((10 * (x4 + 1)) + x7).toNat) + ((x7 - x5).natAbs : Int))), vi (x7 + 1)]) f_347_130 rfl rfl (o13 c1 c2 c3) rfl ?_
        refine r_goto (t := 58) f_347_133 rfl ?_
        exact (k14 c1 c2 c3)

theorem g_M_laysPeace_136 {Q : PQ} {h : HP} {x1 : Int} {x2 : Int} {x3 : Int} {x4 : Int} {x5 : Int} {x6 : Int} {x7 : Int} 
    (o1 : -2147483648 ≤ 10 * x4 ∧ 10 * x4 ≤ 2147483647)
    (o2 : -2147483648 ≤ (10 * x4) + x5 ∧ (10 * x4) + x5 ≤ 2147483647)
    (k3 : Wp true i_M_isPeace 0 [vr 103, vi x1, vi x2, vi x4, vi x5, vr 9999] [] h (fun r h' => Wp true i_M_laysPeace 158 [vr 103, vi x1, vi x2, vi x3, vi x4, vi x5, vi x6, vi x7] (r.toList ++ [vi ((10 * x4) + x5), vr 115]) h' Q)) :
    Wp true i_M_laysPeace 136 [vr 103, vi x1, vi x2, vi x3, vi x4, vi x5, vi x6, vi x7] [] h Q := by
  refine r_aload_n (v := 103) f_347_136 rfl (by decide) ?_
  refine r_getr (q := 115) f_347_137 rfl (by decide) (Or.inl rfl) rfl ?_
  refine r_bipush f_347_140 (by decide) ?_
  refine r_iload (v := x4) f_347_142 rfl ?_
  refine r_imul (u := 10 * x4) f_347_144 rfl o1 ?_
  refine r_iload (v := x5) f_347_145 rfl ?_
  refine r_iadd (u := (10 * x4) + x5) f_347_147 rfl o2 ?_
  refine r_aload_n (v := 103) f_347_148 rfl (by decide) ?_
  refine r_iload_n (v := x1) f_347_149 rfl ?_
  refine r_iload_n (v := x2) f_347_150 rfl ?_
  refine r_iload (v := x4) f_347_151 rfl ?_
  refine r_iload (v := x5) f_347_153 rfl ?_
  exact r_callv (as := [vr 103, vi x1, vi x2, vi x4, vi x5]) (st' := [vi ((10 * x4) + x5), vr 115]) (ls0 := [vr 103, vi x1, vi x2, vi x4, vi x5, vr 9999]) f_347_155 (by decide) rfl rfl (Nat.le_of_ble_eq_true rfl) (Nat.le_of_ble_eq_true rfl) ⟨_, _, rfl, rfl⟩ rfl k3

theorem g_M_laysPeace_158 {Q : PQ} {h : HP} {x1 : Int} {x2 : Int} {x3 : Int} {x4 : Int} {x5 : Int} {x6 : Int} {x7 : Int} {s1 : Int} {s2 : Int} 
    (k1 : s2 = 0 → Wp true i_M_laysPeace 169 [vr 103, vi x1, vi x2, vi x3, vi x4, vi x5, vi x6, vi x7] [vi 1000000, vi s1, vr 115] h Q)
    (k2 : ¬ s2 = 0 → Wp true i_M_laysPeace 169 [vr 103, vi x1, vi x2, vi x3, vi x4, vi x5, vi x6, vi x7] [vi x6, vi s1, vr 115] h Q) :
    Wp true i_M_laysPeace 158 [vr 103, vi x1, vi x2, vi x3, vi x4, vi x5, vi x6, vi x7] [vi s2, vi s1, vr 115] h Q := by
  refine r_br (t := 166) f_347_158 rfl cb_eq (fun c1 => ?_) (fun c1 => ?_)
  · refine r_ldc_w f_347_166 (by decide) ?_
    exact (k1 c1)
  · refine r_iload (v := x6) f_347_161 rfl ?_
    refine r_goto (t := 169) f_347_163 rfl ?_
    exact (k2 c1)

theorem g_M_laysPeace_169 {Q : PQ} {h : HP} {x1 : Int} {x2 : Int} {x3 : Int} {x4 : Int} {x5 : Int} {x6 : Int} {x7 : Int} {s1 : Int} {s2 : Int} 
    (o1 : 0 ≤ s1 ∧ s1 < 80)
    (o2 : ¬ x4 = 0 → -2147483648 ≤ x5 + 1 ∧ x5 + 1 ≤ 2147483647)
    (k3 : ¬ x4 = 0 → Wp true i_M_laysPeace 22 [vr 103, vi x1, vi x2, vi x3, vi x4, vi (x5 + 1), vi x6, vi x7] [] (hs h 115 s1.toNat s2) Q)
    (o4 : x4 = 0 → 0 ≤ x5 ∧ x5 < 80)
    (o5 : x4 = 0 → -2147483648 ≤ x5 + 1 ∧ x5 + 1 ≤ 2147483647)
    (k6 : x4 = 0 → Wp true i_M_laysPeace 22 [vr 103, vi x1, vi x2, vi (min x3 ((hs h 115 s1.toNat s2) 115 x5.toNat)), vi x4, vi (x5 + 1), vi x6, vi x7] [] (hs h 115 s1.toNat s2) Q) :
    Wp true i_M_laysPeace 169 [vr 103, vi x1, vi x2, vi x3, vi x4, vi x5, vi x6, vi x7] [vi s2, vi s1, vr 115] h Q := by
  refine r_iastore (n := 80) f_347_169 ⟨rfl, rfl⟩ o1 ?_
  refine r_iload (v := x4) f_347_170 rfl ?_
  refine r_br (t := 187) f_347_172 rfl cb_ne (fun c1 => ?_) (fun c1 => ?_)
  · refine r_iinc (v := x5) (w := x5 + 1) (ls' := [vr 103, vi x1, vi x2, vi x3, vi x4, vi (x5 + 1), vi x6, vi x7]) f_347_187 rfl rfl (o2 c1) rfl ?_
    refine r_goto (t := 22) f_347_190 rfl ?_
    exact (k3 c1)
  · have c1 := Decidable.not_not.mp c1
    refine r_iload_n (v := x3) f_347_175 rfl ?_
    refine r_aload_n (v := 103) f_347_176 rfl (by decide) ?_
    refine r_getr (q := 115) f_347_177 rfl (by decide) (Or.inl rfl) rfl ?_
    refine r_iload (v := x5) f_347_180 rfl ?_
    refine r_iaload (n := 80) (v := (hs h 115 s1.toNat s2) 115 x5.toNat) f_347_182 ⟨rfl, rfl⟩ (o4 c1) rfl ?_
    refine r_calls (as := [vi x3, vi ((hs h 115 s1.toNat s2) 115 x5.toNat)]) (st' := []) (ls0 := [vi x3, vi ((hs h 115 s1.toNat s2) 115 x5.toNat)]) f_347_183 (by decide) (by decide) rfl rfl (Nat.le_of_ble_eq_true rfl) (Nat.le_of_ble_eq_true rfl) rfl ?_
    refine c_Ma_min  ?_
    show Wp true i_M_laysPeace 186 [vr 103, vi x1, vi x2, vi x3, vi x4, vi x5, vi x6, vi x7] [vi (min x3 ((hs h 115 s1.toNat s2) 115 x5.toNat))] (hs h 115 s1.toNat s2) Q
    refine r_istore_n (ls' := [vr 103, vi x1, vi x2, vi (min x3 ((hs h 115 s1.toNat s2) 115 x5.toNat)), vi x4, vi x5, vi x6, vi x7]) f_347_186 (Nat.le_of_ble_eq_true rfl) rfl ?_
    refine r_iinc (v := x5) (w := x5 + 1) (ls' := [vr 103, vi x1, vi x2, vi (min x3 ((hs h 115 s1.toNat s2) 115 x5.toNat)), vi x4, vi (x5 + 1), vi x6, vi x7]) f_347_187 rfl rfl (o5 c1) rfl ?_
    refine r_goto (t := 22) f_347_190 rfl ?_
    exact (k6 c1)

theorem g_M_areSets_0 {Q : PQ} {h : HP} {x1 : Int} {x2 : Int} 
    (k1 : x1 < 0 → Q (some (vi 0)) h)
    (k2 : ¬ x1 < 0 → x2 < 0 → Q (some (vi 0)) h)
    (k3 : ¬ x1 < 0 → ¬ x2 < 0 → o_shl 1 (h 104 2) ≤ x1 → Q (some (vi 0)) h)
    (k4 : ¬ x1 < 0 → ¬ x2 < 0 → ¬ o_shl 1 (h 104 2) ≤ x1 → o_shl 1 (h 104 2) ≤ x2 → Q (some (vi 0)) h)
    (k5 : ¬ x1 < 0 → ¬ x2 < 0 → ¬ o_shl 1 (h 104 2) ≤ x1 → ¬ o_shl 1 (h 104 2) ≤ x2 → Q (some (vi 1)) h) :
    Wp true i_M_areSets 0 [vr 103, vi x1, vi x2] [] h Q := by
  refine r_iload_n (v := x1) f_348_0 rfl ?_
  refine r_br (t := 36) f_348_1 rfl cb_lt (fun c1 => ?_) (fun c1 => ?_)
  · refine r_iconst f_348_36 (by decide) ?_
    exact r_retz f_348_37 rfl (by decide) (k1 c1)
  · refine r_iload_n (v := x2) f_348_4 rfl ?_
    refine r_br (t := 36) f_348_5 rfl cb_lt (fun c2 => ?_) (fun c2 => ?_)
    · refine r_iconst f_348_36 (by decide) ?_
      exact r_retz f_348_37 rfl (by decide) (k2 c1 c2)
    · refine r_iload_n (v := x1) f_348_8 rfl ?_
      refine r_iconst f_348_9 (by decide) ?_
      refine r_aload_n (v := 103) f_348_10 rfl (by decide) ?_
      refine r_getr (q := 104) f_348_11 rfl (by decide) (Or.inl rfl) rfl ?_
      refine r_iconst f_348_14 (by decide) ?_
      refine r_iaload (n := 3000) (v := h 104 2) f_348_15 ⟨rfl, rfl⟩ (by decide) rfl ?_
      refine r_ishl f_348_16 ?_
      refine r_br2 (t := 36) f_348_17 rfl cb_ge (fun c3 => ?_) (fun c3 => ?_)
      · refine r_iconst f_348_36 (by decide) ?_
        exact r_retz f_348_37 rfl (by decide) (k3 c1 c2 c3)
      · refine r_iload_n (v := x2) f_348_20 rfl ?_
        refine r_iconst f_348_21 (by decide) ?_
        refine r_aload_n (v := 103) f_348_22 rfl (by decide) ?_
        refine r_getr (q := 104) f_348_23 rfl (by decide) (Or.inl rfl) rfl ?_
        refine r_iconst f_348_26 (by decide) ?_
        refine r_iaload (n := 3000) (v := h 104 2) f_348_27 ⟨rfl, rfl⟩ (by decide) rfl ?_
        refine r_ishl f_348_28 ?_
        refine r_br2 (t := 36) f_348_29 rfl cb_ge (fun c4 => ?_) (fun c4 => ?_)
        · refine r_iconst f_348_36 (by decide) ?_
          exact r_retz f_348_37 rfl (by decide) (k4 c1 c2 c3 c4)
        · refine r_iconst f_348_32 (by decide) ?_
          refine r_goto (t := 37) f_348_33 rfl ?_
          exact r_retz f_348_37 rfl (by decide) (k5 c1 c2 c3 c4)

theorem g_C_peace_0 {Q : PQ} {h : HP} {x1 : Int} {x2 : Int} 
    (k1 : ¬ (0 ≤ x1 ∧ x1 < o_shl 1 (h 10 3)) → Q (some (vi (-1))) (hs h 0 0 1))
    (k2 : (0 ≤ x1 ∧ x1 < o_shl 1 (h 10 3)) → (0 ≤ x2 ∧ x2 < o_shl 1 (h 10 3)) → Wp true i_Bo_leastChalk 0 [vr 92, vr 10, vi x1, vi x2, vr 9999, vr 9999, vr 9999] [] h (fun r h' => Wp true i_C_peace 42 [vr 0, vi x1, vi x2] (r.toList ++ [vr 0]) h' Q))
    (k3 : (0 ≤ x1 ∧ x1 < o_shl 1 (h 10 3)) → ¬ (0 ≤ x2 ∧ x2 < o_shl 1 (h 10 3)) → Q (some (vi (-1))) (hs h 0 0 1)) :
    Wp true i_C_peace 0 [vr 0, vi x1, vi x2] [] h Q := by
  refine r_aload_n (v := 0) f_193_0 rfl (by decide) ?_
  refine r_getr (q := 10) f_193_1 rfl (by decide) (Or.inl rfl) rfl ?_
  refine r_iload_n (v := x1) f_193_4 rfl ?_
  refine r_callv (as := [vr 10, vi x1]) (st' := []) (ls0 := [vr 10, vi x1]) f_193_5 (by decide) rfl rfl (Nat.le_of_ble_eq_true rfl) (Nat.le_of_ble_eq_true rfl) ⟨_, _, rfl, rfl⟩ rfl ?_
  refine c_Fl_isSet isF_10 ?_
  show Wp true i_C_peace 8 [vr 0, vi x1, vi x2] [vi (bi (0 ≤ x1 ∧ x1 < o_shl 1 (h 10 3)))] h Q
  refine r_br (t := 22) f_193_8 rfl cb_bf (fun c1 => ?_) (fun c1 => ?_)
  · refine r_aload_n (v := 0) f_193_22 rfl (by decide) ?_
    refine r_iconst f_193_23 (by decide) ?_
    refine r_callv (as := [vr 0, vi 1]) (st' := []) (ls0 := [vr 0, vi 1]) f_193_24 (by decide) rfl rfl (Nat.le_of_ble_eq_true rfl) (Nat.le_of_ble_eq_true rfl) ⟨_, _, rfl, rfl⟩ rfl ?_
    refine c_C_refuse  ?_
    show Wp true i_C_peace 27 [vr 0, vi x1, vi x2] [vi (-1)] (hs h 0 0 1) Q
    exact r_reti f_193_27 rfl (k1 c1)
  · have c1 := Decidable.not_not.mp c1
    refine r_aload_n (v := 0) f_193_11 rfl (by decide) ?_
    refine r_getr (q := 10) f_193_12 rfl (by decide) (Or.inl rfl) rfl ?_
    refine r_iload_n (v := x2) f_193_15 rfl ?_
    refine r_callv (as := [vr 10, vi x2]) (st' := []) (ls0 := [vr 10, vi x2]) f_193_16 (by decide) rfl rfl (Nat.le_of_ble_eq_true rfl) (Nat.le_of_ble_eq_true rfl) ⟨_, _, rfl, rfl⟩ rfl ?_
    refine c_Fl_isSet isF_10 ?_
    show Wp true i_C_peace 19 [vr 0, vi x1, vi x2] [vi (bi (0 ≤ x2 ∧ x2 < o_shl 1 (h 10 3)))] h Q
    refine r_br (t := 28) f_193_19 rfl cb_bt (fun c2 => ?_) (fun c2 => ?_)
    · refine r_aload_n (v := 0) f_193_28 rfl (by decide) ?_
      refine r_aload_n (v := 0) f_193_29 rfl (by decide) ?_
      refine r_getr (q := 92) f_193_30 rfl (by decide) (Or.inl rfl) rfl ?_
      refine r_aload_n (v := 0) f_193_33 rfl (by decide) ?_
      refine r_getr (q := 10) f_193_34 rfl (by decide) (Or.inl rfl) rfl ?_
      refine r_iload_n (v := x1) f_193_37 rfl ?_
      refine r_iload_n (v := x2) f_193_38 rfl ?_
      exact r_callv (as := [vr 92, vr 10, vi x1, vi x2]) (st' := [vr 0]) (ls0 := [vr 92, vr 10, vi x1, vi x2, vr 9999, vr 9999, vr 9999]) f_193_39 (by decide) rfl rfl (Nat.le_of_ble_eq_true rfl) (Nat.le_of_ble_eq_true rfl) ⟨_, _, rfl, rfl⟩ rfl (k2 c1 c2)
    · refine r_aload_n (v := 0) f_193_22 rfl (by decide) ?_
      refine r_iconst f_193_23 (by decide) ?_
      refine r_callv (as := [vr 0, vi 1]) (st' := []) (ls0 := [vr 0, vi 1]) f_193_24 (by decide) rfl rfl (Nat.le_of_ble_eq_true rfl) (Nat.le_of_ble_eq_true rfl) ⟨_, _, rfl, rfl⟩ rfl ?_
      refine c_C_refuse  ?_
      show Wp true i_C_peace 27 [vr 0, vi x1, vi x2] [vi (-1)] (hs h 0 0 1) Q
      exact r_reti f_193_27 rfl (k3 c1 c2)

theorem g_C_peace_42 {Q : PQ} {h : HP} {x1 : Int} {x2 : Int} {s1 : Int} 
    (o1 : -1 ≤ s1)
    (k2 : Q (some (vi s1)) (hs h 0 0 (if s1 < 0 then 6 else 0))) :
    Wp true i_C_peace 42 [vr 0, vi x1, vi x2] [vi s1, vr 0] h Q := by
  refine r_callv (as := [vr 0, vi s1]) (st' := []) (ls0 := [vr 0, vi s1]) f_193_42 (by decide) rfl rfl (Nat.le_of_ble_eq_true rfl) (Nat.le_of_ble_eq_true rfl) ⟨_, _, rfl, rfl⟩ rfl ?_
  refine c_C_answerOrNone o1 ?_
  show Wp true i_C_peace 45 [vr 0, vi x1, vi x2] [vi s1] (hs h 0 0 (if s1 < 0 then 6 else 0)) Q
  exact r_reti f_193_45 rfl k2

theorem g_C_peaceIn_0 {Q : PQ} {h : HP} {x1 : Int} {x2 : Int} {x3 : Int} 
    (k1 : ¬ (0 ≤ x1 ∧ x1 < o_shl 1 (h 10 3)) → Q (some (vi (-1))) (hs h 0 0 1))
    (k2 : (0 ≤ x1 ∧ x1 < o_shl 1 (h 10 3)) → ¬ (0 ≤ x2 ∧ x2 < o_shl 1 (h 10 3)) → Q (some (vi (-1))) (hs h 0 0 1))
    (k3 : (0 ≤ x1 ∧ x1 < o_shl 1 (h 10 3)) → (0 ≤ x2 ∧ x2 < o_shl 1 (h 10 3)) → (0 ≤ x3 ∧ x3 < h 10 1) → Wp true i_Bo_leastChalk 0 [vr 92, vr 10, vi x1, vi x2, vr 9999, vr 9999, vr 9999] [] h (fun r h' => Wp true i_C_peaceIn 52 [vr 0, vi x1, vi x2, vi x3] (r.toList ++ []) h' Q))
    (k4 : (0 ≤ x1 ∧ x1 < o_shl 1 (h 10 3)) → (0 ≤ x2 ∧ x2 < o_shl 1 (h 10 3)) → ¬ (0 ≤ x3 ∧ x3 < h 10 1) → Q (some (vi (-1))) (hs h 0 0 1)) :
    Wp true i_C_peaceIn 0 [vr 0, vi x1, vi x2, vi x3] [] h Q := by
  refine r_aload_n (v := 0) f_194_0 rfl (by decide) ?_
  refine r_getr (q := 10) f_194_1 rfl (by decide) (Or.inl rfl) rfl ?_
  refine r_iload_n (v := x1) f_194_4 rfl ?_
  refine r_callv (as := [vr 10, vi x1]) (st' := []) (ls0 := [vr 10, vi x1]) f_194_5 (by decide) rfl rfl (Nat.le_of_ble_eq_true rfl) (Nat.le_of_ble_eq_true rfl) ⟨_, _, rfl, rfl⟩ rfl ?_
  refine c_Fl_isSet isF_10 ?_
  show Wp true i_C_peaceIn 8 [vr 0, vi x1, vi x2, vi x3] [vi (bi (0 ≤ x1 ∧ x1 < o_shl 1 (h 10 3)))] h Q
  refine r_br (t := 33) f_194_8 rfl cb_bf (fun c1 => ?_) (fun c1 => ?_)
  · refine r_aload_n (v := 0) f_194_33 rfl (by decide) ?_
    refine r_iconst f_194_34 (by decide) ?_
    refine r_callv (as := [vr 0, vi 1]) (st' := []) (ls0 := [vr 0, vi 1]) f_194_35 (by decide) rfl rfl (Nat.le_of_ble_eq_true rfl) (Nat.le_of_ble_eq_true rfl) ⟨_, _, rfl, rfl⟩ rfl ?_
    refine c_C_refuse  ?_
    show Wp true i_C_peaceIn 38 [vr 0, vi x1, vi x2, vi x3] [vi (-1)] (hs h 0 0 1) Q
    exact r_reti f_194_38 rfl (k1 c1)
  · have c1 := Decidable.not_not.mp c1
    refine r_aload_n (v := 0) f_194_11 rfl (by decide) ?_
    refine r_getr (q := 10) f_194_12 rfl (by decide) (Or.inl rfl) rfl ?_
    refine r_iload_n (v := x2) f_194_15 rfl ?_
    refine r_callv (as := [vr 10, vi x2]) (st' := []) (ls0 := [vr 10, vi x2]) f_194_16 (by decide) rfl rfl (Nat.le_of_ble_eq_true rfl) (Nat.le_of_ble_eq_true rfl) ⟨_, _, rfl, rfl⟩ rfl ?_
    refine c_Fl_isSet isF_10 ?_
    show Wp true i_C_peaceIn 19 [vr 0, vi x1, vi x2, vi x3] [vi (bi (0 ≤ x2 ∧ x2 < o_shl 1 (h 10 3)))] h Q
    refine r_br (t := 33) f_194_19 rfl cb_bf (fun c2 => ?_) (fun c2 => ?_)
    · refine r_aload_n (v := 0) f_194_33 rfl (by decide) ?_
      refine r_iconst f_194_34 (by decide) ?_
      refine r_callv (as := [vr 0, vi 1]) (st' := []) (ls0 := [vr 0, vi 1]) f_194_35 (by decide) rfl rfl (Nat.le_of_ble_eq_true rfl) (Nat.le_of_ble_eq_true rfl) ⟨_, _, rfl, rfl⟩ rfl ?_
      refine c_C_refuse  ?_
      show Wp true i_C_peaceIn 38 [vr 0, vi x1, vi x2, vi x3] [vi (-1)] (hs h 0 0 1) Q
      exact r_reti f_194_38 rfl (k2 c1 c2)
    · have c2 := Decidable.not_not.mp c2
      refine r_aload_n (v := 0) f_194_22 rfl (by decide) ?_
      refine r_getr (q := 10) f_194_23 rfl (by decide) (Or.inl rfl) rfl ?_
      refine r_iload_n (v := x3) f_194_26 rfl ?_
      refine r_callv (as := [vr 10, vi x3]) (st' := []) (ls0 := [vr 10, vi x3]) f_194_27 (by decide) rfl rfl (Nat.le_of_ble_eq_true rfl) (Nat.le_of_ble_eq_true rfl) ⟨_, _, rfl, rfl⟩ rfl ?_
      refine c_Fl_hasRow isF_10 ?_
      show Wp true i_C_peaceIn 30 [vr 0, vi x1, vi x2, vi x3] [vi (bi (0 ≤ x3 ∧ x3 < h 10 1))] h Q
      refine r_br (t := 39) f_194_30 rfl cb_bt (fun c3 => ?_) (fun c3 => ?_)
      · refine r_aload_n (v := 0) f_194_39 rfl (by decide) ?_
        refine r_getr (q := 92) f_194_40 rfl (by decide) (Or.inl rfl) rfl ?_
        refine r_aload_n (v := 0) f_194_43 rfl (by decide) ?_
        refine r_getr (q := 10) f_194_44 rfl (by decide) (Or.inl rfl) rfl ?_
        refine r_iload_n (v := x1) f_194_47 rfl ?_
        refine r_iload_n (v := x2) f_194_48 rfl ?_
        exact r_callv (as := [vr 92, vr 10, vi x1, vi x2]) (st' := []) (ls0 := [vr 92, vr 10, vi x1, vi x2, vr 9999, vr 9999, vr 9999]) f_194_49 (by decide) rfl rfl (Nat.le_of_ble_eq_true rfl) (Nat.le_of_ble_eq_true rfl) ⟨_, _, rfl, rfl⟩ rfl (k3 c1 c2 c3)
      · refine r_aload_n (v := 0) f_194_33 rfl (by decide) ?_
        refine r_iconst f_194_34 (by decide) ?_
        refine r_callv (as := [vr 0, vi 1]) (st' := []) (ls0 := [vr 0, vi 1]) f_194_35 (by decide) rfl rfl (Nat.le_of_ble_eq_true rfl) (Nat.le_of_ble_eq_true rfl) ⟨_, _, rfl, rfl⟩ rfl ?_
        refine c_C_refuse  ?_
        show Wp true i_C_peaceIn 38 [vr 0, vi x1, vi x2, vi x3] [vi (-1)] (hs h 0 0 1) Q
        exact r_reti f_194_38 rfl (k4 c1 c2 c3)

theorem g_C_peaceIn_52 {Q : PQ} {h : HP} {x1 : Int} {x2 : Int} {x3 : Int} {s0 : Int} 
    (k1 : 0 ≤ s0 → Wp true i_Bo_peaceCut 0 [vr 92, vr 10, vi x3, vr 9999, vr 9999] [] h (fun r h' => Wp true i_C_peaceIn 75 [vr 0, vi x1, vi x2, vi x3] (r.toList ++ [vr 0]) h' Q))
    (k2 : ¬ 0 ≤ s0 → Q (some (vi (-1))) (hs h 0 0 6)) :
    Wp true i_C_peaceIn 52 [vr 0, vi x1, vi x2, vi x3] [vi s0] h Q := by
  refine r_br (t := 62) f_194_52 rfl cb_ge (fun c1 => ?_) (fun c1 => ?_)
  · refine r_aload_n (v := 0) f_194_62 rfl (by decide) ?_
    refine r_aload_n (v := 0) f_194_63 rfl (by decide) ?_
    refine r_getr (q := 92) f_194_64 rfl (by decide) (Or.inl rfl) rfl ?_
    refine r_aload_n (v := 0) f_194_67 rfl (by decide) ?_
    refine r_getr (q := 10) f_194_68 rfl (by decide) (Or.inl rfl) rfl ?_
    refine r_iload_n (v := x3) f_194_71 rfl ?_
    exact r_callv (as := [vr 92, vr 10, vi x3]) (st' := [vr 0]) (ls0 := [vr 92, vr 10, vi x3, vr 9999, vr 9999]) f_194_72 (by decide) rfl rfl (Nat.le_of_ble_eq_true rfl) (Nat.le_of_ble_eq_true rfl) ⟨_, _, rfl, rfl⟩ rfl (k1 c1)
  · refine r_aload_n (v := 0) f_194_55 rfl (by decide) ?_
    refine r_bipush f_194_56 (by decide) ?_
    refine r_callv (as := [vr 0, vi 6]) (st' := []) (ls0 := [vr 0, vi 6]) f_194_58 (by decide) rfl rfl (Nat.le_of_ble_eq_true rfl) (Nat.le_of_ble_eq_true rfl) ⟨_, _, rfl, rfl⟩ rfl ?_
    refine c_C_refuse  ?_
    show Wp true i_C_peaceIn 61 [vr 0, vi x1, vi x2, vi x3] [vi (-1)] (hs h 0 0 6) Q
    exact r_reti f_194_61 rfl (k2 c1)

theorem g_C_peaceIn_75 {Q : PQ} {h : HP} {x1 : Int} {x2 : Int} {x3 : Int} {s1 : Int} 
    (k1 : Q (some (vi s1)) (hs h 0 0 0)) :
    Wp true i_C_peaceIn 75 [vr 0, vi x1, vi x2, vi x3] [vi s1, vr 0] h Q := by
  refine r_callv (as := [vr 0, vi s1]) (st' := []) (ls0 := [vr 0, vi s1]) f_194_75 (by decide) rfl rfl (Nat.le_of_ble_eq_true rfl) (Nat.le_of_ble_eq_true rfl) ⟨_, _, rfl, rfl⟩ rfl ?_
  refine c_C_answer  ?_
  show Wp true i_C_peaceIn 78 [vr 0, vi x1, vi x2, vi x3] [vi s1] (hs h 0 0 0) Q
  exact r_reti f_194_78 rfl k1

theorem g_M_peace_0 {Q : PQ} {h : HP} {x1 : Int} {x2 : Int} 
    (k1 : Wp true i_M_areSets 0 [vr 103, vi x1, vi x2] [] h (fun r h' => Wp true i_M_peace 6 [vr 103, vi x1, vi x2, vr 9999] (r.toList ++ []) h' Q)) :
    Wp true i_M_peace 0 [vr 103, vi x1, vi x2, vr 9999] [] h Q := by
  refine r_aload_n (v := 103) f_349_0 rfl (by decide) ?_
  refine r_iload_n (v := x1) f_349_1 rfl ?_
  refine r_iload_n (v := x2) f_349_2 rfl ?_
  exact r_callv (as := [vr 103, vi x1, vi x2]) (st' := []) (ls0 := [vr 103, vi x1, vi x2]) f_349_3 (by decide) rfl rfl (Nat.le_of_ble_eq_true rfl) (Nat.le_of_ble_eq_true rfl) ⟨_, _, rfl, rfl⟩ rfl k1

theorem g_M_peace_6 {Q : PQ} {h : HP} {x1 : Int} {x2 : Int} {s0 : Int} 
    (k1 : ¬ s0 = 0 → Wp true i_M_laysPeace 0 [vr 103, vi x1, vi x2, vr 9999, vr 9999, vr 9999, vr 9999, vr 9999] [] h (fun r h' => Wp true i_M_peace 21 [vr 103, vi x1, vi x2, vr 9999] (r.toList ++ []) h' Q))
    (k2 : s0 = 0 → Q (some (vi (-1))) (hs h 103 2 1)) :
    Wp true i_M_peace 6 [vr 103, vi x1, vi x2, vr 9999] [vi s0] h Q := by
  refine r_br (t := 15) f_349_6 rfl cb_ne (fun c1 => ?_) (fun c1 => ?_)
  · refine r_aload_n (v := 103) f_349_15 rfl (by decide) ?_
    refine r_iload_n (v := x1) f_349_16 rfl ?_
    refine r_iload_n (v := x2) f_349_17 rfl ?_
    exact r_callv (as := [vr 103, vi x1, vi x2]) (st' := []) (ls0 := [vr 103, vi x1, vi x2, vr 9999, vr 9999, vr 9999, vr 9999, vr 9999]) f_349_18 (by decide) rfl rfl (Nat.le_of_ble_eq_true rfl) (Nat.le_of_ble_eq_true rfl) ⟨_, _, rfl, rfl⟩ rfl (k1 c1)
  · have c1 := Decidable.not_not.mp c1
    refine r_aload_n (v := 103) f_349_9 rfl (by decide) ?_
    refine r_iconst f_349_10 (by decide) ?_
    refine r_callv (as := [vr 103, vi 1]) (st' := []) (ls0 := [vr 103, vi 1]) f_349_11 (by decide) rfl rfl (Nat.le_of_ble_eq_true rfl) (Nat.le_of_ble_eq_true rfl) ⟨_, _, rfl, rfl⟩ rfl ?_
    refine c_M_refuse  ?_
    show Wp true i_M_peace 14 [vr 103, vi x1, vi x2, vr 9999] [vi (-1)] (hs h 103 2 1) Q
    exact r_reti f_349_14 rfl (k2 c1)

theorem g_M_peace_21 {Q : PQ} {h : HP} {x1 : Int} {x2 : Int} {s0 : Int} 
    (o1 : s0 < 1000000 → -2147483648 ≤ s0 + (h 104 1) ∧ s0 + (h 104 1) ≤ 2147483647)
    (k2 : s0 < 1000000 → Q (some (vi (s0 + (h 104 1)))) (hs h 103 2 0))
    (k3 : ¬ s0 < 1000000 → Q (some (vi (-1))) (hs h 103 2 6)) :
    Wp true i_M_peace 21 [vr 103, vi x1, vi x2, vr 9999] [vi s0] h Q := by
  refine r_istore_n (ls' := [vr 103, vi x1, vi x2, vi s0]) f_349_21 (Nat.le_of_ble_eq_true rfl) rfl ?_
  refine r_iload_n (v := s0) f_349_22 rfl ?_
  refine r_ldc_w f_349_23 (by decide) ?_
  refine r_br2 (t := 38) f_349_26 rfl cb_lt (fun c1 => ?_) (fun c1 => ?_)
  · refine r_aload_n (v := 103) f_349_38 rfl (by decide) ?_
    refine r_iload_n (v := s0) f_349_39 rfl ?_
    refine r_aload_n (v := 103) f_349_40 rfl (by decide) ?_
    refine r_getr (q := 104) f_349_41 rfl (by decide) (Or.inl rfl) rfl ?_
    refine r_iconst f_349_44 (by decide) ?_
    refine r_iaload (n := 3000) (v := h 104 1) f_349_45 ⟨rfl, rfl⟩ (by decide) rfl ?_
    refine r_iadd (u := s0 + (h 104 1)) f_349_46 rfl (o1 c1) ?_
    refine r_callv (as := [vr 103, vi (s0 + (h 104 1))]) (st' := []) (ls0 := [vr 103, vi (s0 + (h 104 1))]) f_349_47 (by decide) rfl rfl (Nat.le_of_ble_eq_true rfl) (Nat.le_of_ble_eq_true rfl) ⟨_, _, rfl, rfl⟩ rfl ?_
    refine c_M_gives  ?_
    show Wp true i_M_peace 50 [vr 103, vi x1, vi x2, vi s0] [vi (s0 + (h 104 1))] (hs h 103 2 0) Q
    exact r_reti f_349_50 rfl (k2 c1)
  · refine r_aload_n (v := 103) f_349_29 rfl (by decide) ?_
    refine r_bipush f_349_30 (by decide) ?_
    refine r_callv (as := [vr 103, vi 6]) (st' := []) (ls0 := [vr 103, vi 6]) f_349_32 (by decide) rfl rfl (Nat.le_of_ble_eq_true rfl) (Nat.le_of_ble_eq_true rfl) ⟨_, _, rfl, rfl⟩ rfl ?_
    refine c_M_refuse  ?_
    show Wp true i_M_peace 35 [vr 103, vi x1, vi x2, vi s0] [vi (-1)] (hs h 103 2 6) Q
    refine r_goto (t := 50) f_349_35 rfl ?_
    exact r_reti f_349_50 rfl (k3 c1)

theorem g_M_peaceIn_0 {Q : PQ} {h : HP} {x1 : Int} {x2 : Int} {x3 : Int} 
    (k1 : Wp true i_M_areSets 0 [vr 103, vi x1, vi x2] [] h (fun r h' => Wp true i_M_peaceIn 6 [vr 103, vi x1, vi x2, vi x3, vr 9999, vr 9999, vr 9999, vr 9999] (r.toList ++ []) h' Q)) :
    Wp true i_M_peaceIn 0 [vr 103, vi x1, vi x2, vi x3, vr 9999, vr 9999, vr 9999, vr 9999] [] h Q := by
  refine r_aload_n (v := 103) f_350_0 rfl (by decide) ?_
  refine r_iload_n (v := x1) f_350_1 rfl ?_
  refine r_iload_n (v := x2) f_350_2 rfl ?_
  exact r_callv (as := [vr 103, vi x1, vi x2]) (st' := []) (ls0 := [vr 103, vi x1, vi x2]) f_350_3 (by decide) rfl rfl (Nat.le_of_ble_eq_true rfl) (Nat.le_of_ble_eq_true rfl) ⟨_, _, rfl, rfl⟩ rfl k1

theorem g_M_peaceIn_6 {Q : PQ} {h : HP} {x1 : Int} {x2 : Int} {x3 : Int} {s0 : Int} 
    (k1 : s0 = 0 → Q (some (vi (-1))) (hs h 103 2 1))
    (k2 : ¬ s0 = 0 → (0 ≤ x3 ∧ x3 < h 104 1) → Wp true i_M_laysPeace 0 [vr 103, vi x1, vi x2, vr 9999, vr 9999, vr 9999, vr 9999, vr 9999] [] h (fun r h' => Wp true i_M_peaceIn 29 [vr 103, vi x1, vi x2, vi x3, vr 9999, vr 9999, vr 9999, vr 9999] (r.toList ++ []) h' Q))
    (k3 : ¬ s0 = 0 → ¬ (0 ≤ x3 ∧ x3 < h 104 1) → Q (some (vi (-1))) (hs h 103 2 1)) :
    Wp true i_M_peaceIn 6 [vr 103, vi x1, vi x2, vi x3, vr 9999, vr 9999, vr 9999, vr 9999] [vi s0] h Q := by
  refine r_br (t := 17) f_350_6 rfl cb_eq (fun c1 => ?_) (fun c1 => ?_)
  · refine r_aload_n (v := 103) f_350_17 rfl (by decide) ?_
    refine r_iconst f_350_18 (by decide) ?_
    refine r_callv (as := [vr 103, vi 1]) (st' := []) (ls0 := [vr 103, vi 1]) f_350_19 (by decide) rfl rfl (Nat.le_of_ble_eq_true rfl) (Nat.le_of_ble_eq_true rfl) ⟨_, _, rfl, rfl⟩ rfl ?_
    refine c_M_refuse  ?_
    show Wp true i_M_peaceIn 22 [vr 103, vi x1, vi x2, vi x3, vr 9999, vr 9999, vr 9999, vr 9999] [vi (-1)] (hs h 103 2 1) Q
    exact r_reti f_350_22 rfl (k1 c1)
  · refine r_aload_n (v := 103) f_350_9 rfl (by decide) ?_
    refine r_iload_n (v := x3) f_350_10 rfl ?_
    refine r_callv (as := [vr 103, vi x3]) (st' := []) (ls0 := [vr 103, vi x3]) f_350_11 (by decide) rfl rfl (Nat.le_of_ble_eq_true rfl) (Nat.le_of_ble_eq_true rfl) ⟨_, _, rfl, rfl⟩ rfl ?_
    refine c_M_isRow  ?_
    show Wp true i_M_peaceIn 14 [vr 103, vi x1, vi x2, vi x3, vr 9999, vr 9999, vr 9999, vr 9999] [vi (bi (0 ≤ x3 ∧ x3 < h 104 1))] h Q
    refine r_br (t := 23) f_350_14 rfl cb_bt (fun c2 => ?_) (fun c2 => ?_)
    · refine r_aload_n (v := 103) f_350_23 rfl (by decide) ?_
      refine r_iload_n (v := x1) f_350_24 rfl ?_
      refine r_iload_n (v := x2) f_350_25 rfl ?_
      exact r_callv (as := [vr 103, vi x1, vi x2]) (st' := []) (ls0 := [vr 103, vi x1, vi x2, vr 9999, vr 9999, vr 9999, vr 9999, vr 9999]) f_350_26 (by decide) rfl rfl (Nat.le_of_ble_eq_true rfl) (Nat.le_of_ble_eq_true rfl) ⟨_, _, rfl, rfl⟩ rfl (k2 c1 c2)
    · refine r_aload_n (v := 103) f_350_17 rfl (by decide) ?_
      refine r_iconst f_350_18 (by decide) ?_
      refine r_callv (as := [vr 103, vi 1]) (st' := []) (ls0 := [vr 103, vi 1]) f_350_19 (by decide) rfl rfl (Nat.le_of_ble_eq_true rfl) (Nat.le_of_ble_eq_true rfl) ⟨_, _, rfl, rfl⟩ rfl ?_
      refine c_M_refuse  ?_
      show Wp true i_M_peaceIn 22 [vr 103, vi x1, vi x2, vi x3, vr 9999, vr 9999, vr 9999, vr 9999] [vi (-1)] (hs h 103 2 1) Q
      exact r_reti f_350_22 rfl (k3 c1 c2)

theorem g_M_peaceIn_29 {Q : PQ} {h : HP} {x1 : Int} {x2 : Int} {x3 : Int} {s0 : Int} 
    (k1 : s0 < 1000000 → Wp true i_M_peaceIn 49 [vr 103, vi x1, vi x2, vi x3, vi s0, vi 0, vr 9999, vr 9999] [] h Q)
    (k2 : ¬ s0 < 1000000 → Q (some (vi (-1))) (hs h 103 2 6)) :
    Wp true i_M_peaceIn 29 [vr 103, vi x1, vi x2, vi x3, vr 9999, vr 9999, vr 9999, vr 9999] [vi s0] h Q := by
  refine r_istore (ls' := [vr 103, vi x1, vi x2, vi x3, vi s0, vr 9999, vr 9999, vr 9999]) f_350_29 (Nat.le_of_ble_eq_true rfl) rfl ?_
  refine r_iload (v := s0) f_350_31 rfl ?_
  refine r_ldc_w f_350_33 (by decide) ?_
  refine r_br2 (t := 46) f_350_36 rfl cb_lt (fun c1 => ?_) (fun c1 => ?_)
  · refine r_iconst f_350_46 (by decide) ?_
    refine r_istore (ls' := [vr 103, vi x1, vi x2, vi x3, vi s0, vi 0, vr 9999, vr 9999]) f_350_47 (Nat.le_of_ble_eq_true rfl) rfl ?_
    exact (k1 c1)
  · refine r_aload_n (v := 103) f_350_39 rfl (by decide) ?_
    refine r_bipush f_350_40 (by decide) ?_
    refine r_callv (as := [vr 103, vi 6]) (st' := []) (ls0 := [vr 103, vi 6]) f_350_42 (by decide) rfl rfl (Nat.le_of_ble_eq_true rfl) (Nat.le_of_ble_eq_true rfl) ⟨_, _, rfl, rfl⟩ rfl ?_
    refine c_M_refuse  ?_
    show Wp true i_M_peaceIn 45 [vr 103, vi x1, vi x2, vi x3, vi s0, vr 9999, vr 9999, vr 9999] [vi (-1)] (hs h 103 2 6) Q
    exact r_reti f_350_45 rfl (k2 c1)

theorem g_M_peaceIn_49 {Q : PQ} {h : HP} {x1 : Int} {x2 : Int} {x3 : Int} {x4 : Int} {x5 : Int} 
    (o1 : 0 ≤ x5 ∧ x5 < 80)
    (k2 : h 115 x5.toNat = x4 → Wp true i_M_peaceIn 70 [vr 103, vi x1, vi x2, vi x3, vi x4, vi x5, vi 1, vr 9999] [] h Q)
    (o3 : ¬ h 115 x5.toNat = x4 → -2147483648 ≤ x5 + 1 ∧ x5 + 1 ≤ 2147483647)
    (k4 : ¬ h 115 x5.toNat = x4 → Wp true i_M_peaceIn 49 [vr 103, vi x1, vi x2, vi x3, vi x4, vi (x5 + 1), vr 9999, vr 9999] [] h Q) :
    Wp true i_M_peaceIn 49 [vr 103, vi x1, vi x2, vi x3, vi x4, vi x5, vr 9999, vr 9999] [] h Q := by
  refine r_aload_n (v := 103) f_350_49 rfl (by decide) ?_
  refine r_getr (q := 115) f_350_50 rfl (by decide) (Or.inl rfl) rfl ?_
  refine r_iload (v := x5) f_350_53 rfl ?_
  refine r_iaload (n := 80) (v := h 115 x5.toNat) f_350_55 ⟨rfl, rfl⟩ o1 rfl ?_
  refine r_iload (v := x4) f_350_56 rfl ?_
  refine r_br2 (t := 67) f_350_58 rfl cb_eq (fun c1 => ?_) (fun c1 => ?_)
  · refine r_iconst f_350_67 (by decide) ?_
    refine r_istore (ls' := [vr 103, vi x1, vi x2, vi x3, vi x4, vi x5, vi 1, vr 9999]) f_350_68 (Nat.le_of_ble_eq_true rfl) rfl ?_
    exact (k2 c1)
  · refine r_iinc (v := x5) (w := x5 + 1) (ls' := [vr 103, vi x1, vi x2, vi x3, vi x4, vi (x5 + 1), vr 9999, vr 9999]) f_350_61 rfl rfl (o3 c1) rfl ?_
    refine r_goto (t := 49) f_350_64 rfl ?_
    exact (k4 c1)

theorem g_M_peaceIn_70 {Q : PQ} {h : HP} {x1 : Int} {x2 : Int} {x3 : Int} {x4 : Int} {x5 : Int} {x6 : Int} {j7 : AV} 
    (k1 : x3 < x6 → Q (some (vi x5)) (hs h 103 2 0))
    (k2 : ¬ x3 < x6 → Wp true i_M_peaceIn 79 [vr 103, vi x1, vi x2, vi x3, vi x4, vi x5, vi x6, vi 0] [] h Q) :
    Wp true i_M_peaceIn 70 [vr 103, vi x1, vi x2, vi x3, vi x4, vi x5, vi x6, j7] [] h Q := by
  refine r_iload (v := x6) f_350_70 rfl ?_
  refine r_iload_n (v := x3) f_350_72 rfl ?_
  refine r_br2 (t := 152) f_350_73 rfl cb_gt (fun c1 => ?_) (fun c1 => ?_)
  · refine r_aload_n (v := 103) f_350_152 rfl (by decide) ?_
    refine r_iload (v := x5) f_350_153 rfl ?_
    refine r_callv (as := [vr 103, vi x5]) (st' := []) (ls0 := [vr 103, vi x5]) f_350_155 (by decide) rfl rfl (Nat.le_of_ble_eq_true rfl) (Nat.le_of_ble_eq_true rfl) ⟨_, _, rfl, rfl⟩ rfl ?_
    refine c_M_gives  ?_
    show Wp true i_M_peaceIn 158 [vr 103, vi x1, vi x2, vi x3, vi x4, vi x5, vi x6, j7] [vi x5] (hs h 103 2 0) Q
    exact r_reti f_350_158 rfl (k1 c1)
  · refine r_iconst f_350_76 (by decide) ?_
    refine r_istore (ls' := [vr 103, vi x1, vi x2, vi x3, vi x4, vi x5, vi x6, vi 0]) f_350_77 (Nat.le_of_ble_eq_true rfl) rfl ?_
    exact (k2 c1)

theorem g_M_peaceIn_79 {Q : PQ} {h : HP} {x1 : Int} {x2 : Int} {x3 : Int} {x4 : Int} {x5 : Int} {x6 : Int} {x7 : Int} 
    (o1 : -2147483648 ≤ x7 - x5 ∧ x7 - x5 ≤ 2147483647)
    (o2 : -2147483647 ≤ (x7 - x5) ∧ (x7 - x5) ≤ 2147483647)
    (o3 : h 104 3 < ((x7 - x5).natAbs : Int) → -2147483648 ≤ x7 + 1 ∧ x7 + 1 ≤ 2147483647)
    (k4 : h 104 3 < ((x7 - x5).natAbs : Int) → Wp true i_M_peaceIn 79 [vr 103, vi x1, vi x2, vi x3, vi x4, vi x5, vi x6, vi (x7 + 1)] [] h Q)
    (o5 : ¬ h 104 3 < ((x7 - x5).natAbs : Int) → -2147483648 ≤ 10 * x6 ∧ 10 * x6 ≤ 2147483647)
    (o6 : ¬ h 104 3 < ((x7 - x5).natAbs : Int) → -2147483648 ≤ (10 * x6) + x7 ∧ (10 * x6) + x7 ≤ 2147483647)
    (o7 : ¬ h 104 3 < ((x7 - x5).natAbs : Int) → 0 ≤ (10 * x6) + x7 ∧ (10 * x6) + x7 < 80)
    (o8 : ¬ h 104 3 < ((x7 - x5).natAbs : Int) → -2147483648 ≤ (h 115 ((10 * x6) + x7).toNat) + ((x7 - x5).natAbs : Int) ∧ (h 115 ((10 * x6) + x7).toNat) + ((x7 - x5).natAbs : Int) ≤ 2147483647)
    (o9 : ¬ h 104 3 < ((x7 - x5).natAbs : Int) → -2147483648 ≤ x6 - 1 ∧ x6 - 1 ≤ 2147483647)
    (o10 : ¬ h 104 3 < ((x7 - x5).natAbs : Int) → -2147483648 ≤ 10 * (x6 - 1) ∧ 10 * (x6 - 1) ≤ 2147483647)
    (o11 : ¬ h 104 3 < ((x7 - x5).natAbs : Int) → -2147483648 ≤ (10 * (x6 - 1)) + x5 ∧ (10 * (x6 - 1)) + x5 ≤ 2147483647)
    (o12 : ¬ h 104 3 < ((x7 - x5).natAbs : Int) → 0 ≤ (10 * (x6 - 1)) + x5 ∧ (10 * (x6 - 1)) + x5 < 80)
    (o13 : ¬ h 104 3 < ((x7 - x5).natAbs : Int) → (h 115 ((10 * x6) + x7).toNat) + ((x7 - x5).natAbs : Int) = h 115 ((10 * (x6 - 1)) + x5).toNat → -2147483648 ≤ x6 + 1 ∧ x6 + 1 ≤ 2147483647)
    (k14 : ¬ h 104 3 < ((x7 - x5).natAbs : Int) → (h 115 ((10 * x6) + x7).toNat) + ((x7 - x5).natAbs : Int) = h 115 ((10 * (x6 - 1)) + x5).toNat → Wp true i_M_peaceIn 70 [vr 103, vi x1, vi x2, vi x3, vi x4, vi x7, vi (x6 + 1), vi x7] [] h Q)
    (o15 : ¬ h 104 3 < ((x7 - x5).natAbs : Int) → ¬ (h 115 ((10 * x6) + x7).toNat) + ((x7 - x5).natAbs : Int) = h 115 ((10 * (x6 - 1)) + x5).toNat → -2147483648 ≤ x7 + 1 ∧ x7 + 1 ≤ 2147483647)
    (k16 : ¬ h 104 3 < ((x7 - x5).natAbs : Int) → ¬ (h 115 ((10 * x6) + x7).toNat) + ((x7 - x5).natAbs : Int) = h 115 ((10 * (x6 - 1)) + x5).toNat → Wp true i_M_peaceIn 79 [vr 103, vi x1, vi x2, vi x3, vi x4, vi x5, vi x6, vi (x7 + 1)] [] h Q) :
    Wp true i_M_peaceIn 79 [vr 103, vi x1, vi x2, vi x3, vi x4, vi x5, vi x6, vi x7] [] h Q := by
  refine r_iload (v := x7) f_350_79 rfl ?_
  refine r_iload (v := x5) f_350_81 rfl ?_
  refine r_isub (u := x7 - x5) f_350_83 rfl o1 ?_
  refine r_calls (as := [vi (x7 - x5)]) (st' := []) (ls0 := [vi (x7 - x5)]) f_350_84 (by decide) (by decide) rfl rfl (Nat.le_of_ble_eq_true rfl) (Nat.le_of_ble_eq_true rfl) rfl ?_
  refine c_Ma_abs o2 ?_
  show Wp true i_M_peaceIn 87 [vr 103, vi x1, vi x2, vi x3, vi x4, vi x5, vi x6, vi x7] [vi ((x7 - x5).natAbs : Int)] h Q
  refine r_aload_n (v := 103) f_350_87 rfl (by decide) ?_
  refine r_getr (q := 104) f_350_88 rfl (by decide) (Or.inl rfl) rfl ?_
  refine r_iconst f_350_91 (by decide) ?_
  refine r_iaload (n := 3000) (v := h 104 3) f_350_92 ⟨rfl, rfl⟩ (by decide) rfl ?_
  refine r_br2 (t := 136) f_350_93 rfl cb_gt (fun c1 => ?_) (fun c1 => ?_)
  · refine r_iinc (v := x7) (w := x7 + 1) (ls' := [vr 103, vi x1, vi x2, vi x3, vi x4, vi x5, vi x6, vi (x7 + 1)]) f_350_136 rfl rfl (o3 c1) rfl ?_
    refine r_goto (t := 79) f_350_139 rfl ?_
    exact (k4 c1)
  · refine r_aload_n (v := 103) f_350_96 rfl (by decide) ?_
    refine r_getr (q := 115) f_350_97 rfl (by decide) (Or.inl rfl) rfl ?_
    refine r_bipush f_350_100 (by decide) ?_
    refine r_iload (v := x6) f_350_102 rfl ?_
    refine r_imul (u := 10 * x6) f_350_104 rfl (o5 c1) ?_
    refine r_iload (v := x7) f_350_105 rfl ?_
    refine r_iadd (u := (10 * x6) + x7) f_350_107 rfl (o6 c1) ?_
    refine r_iaload (n := 80) (v := h 115 ((10 * x6) + x7).toNat) f_350_108 ⟨rfl, rfl⟩ (o7 c1) rfl ?_
    refine r_iload (v := x7) f_350_109 rfl ?_
    refine r_iload (v := x5) f_350_111 rfl ?_
    refine r_isub (u := x7 - x5) f_350_113 rfl o1 ?_
    refine r_calls (as := [vi (x7 - x5)]) (st' := [vi (h 115 ((10 * x6) + x7).toNat)]) (ls0 := [vi (x7 - x5)]) f_350_114 (by decide) (by decide) rfl rfl (Nat.le_of_ble_eq_true rfl) (Nat.le_of_ble_eq_true rfl) rfl ?_
    refine c_Ma_abs o2 ?_
    show Wp true i_M_peaceIn 117 [vr 103, vi x1, vi x2, vi x3, vi x4, vi x5, vi x6, vi x7] [vi ((x7 - x5).natAbs : Int), vi (h 115 ((10 * x6) + x7).toNat)] h Q
    refine r_iadd (u := (h 115 ((10 * x6) + x7).toNat) + ((x7 - x5).natAbs : Int)) f_350_117 rfl (o8 c1) ?_
    refine r_aload_n (v := 103) f_350_118 rfl (by decide) ?_
    refine r_getr (q := 115) f_350_119 rfl (by decide) (Or.inl rfl) rfl ?_
    refine r_bipush f_350_122 (by decide) ?_
    refine r_iload (v := x6) f_350_124 rfl ?_
    refine r_iconst f_350_126 (by decide) ?_
    refine r_isub (u := x6 - 1) f_350_127 rfl (o9 c1) ?_
    refine r_imul (u := 10 * (x6 - 1)) f_350_128 rfl (o10 c1) ?_
    refine r_iload (v := x5) f_350_129 rfl ?_
    refine r_iadd (u := (10 * (x6 - 1)) + x5) f_350_131 rfl (o11 c1) ?_
    refine r_iaload (n := 80) (v := h 115 ((10 * (x6 - 1)) + x5).toNat) f_350_132 ⟨rfl, rfl⟩ (o12 c1) rfl ?_
    refine r_br2 (t := 142) f_350_133 rfl cb_eq (fun c2 => ?_) (fun c2 => ?_)
    · refine r_iload (v := x7) f_350_142 rfl ?_
      refine r_istore (ls' := [vr 103, vi x1, vi x2, vi x3, vi x4, vi x7, vi x6, vi x7]) f_350_144 (Nat.le_of_ble_eq_true rfl) rfl ?_
      refine r_iinc (v := x6) (w := x6 + 1) (ls' := [vr 103, vi x1, vi x2, vi x3, vi x4, vi x7, vi (x6 + 1), vi x7]) f_350_146 rfl rfl (o13 c1 c2) rfl ?_
      refine r_goto (t := 70) f_350_149 rfl ?_
      exact (k14 c1 c2)
    · refine r_iinc (v := x7) (w := x7 + 1) (ls' := [vr 103, vi x1, vi x2, vi x3, vi x4, vi x5, vi x6, vi (x7 + 1)]) f_350_136 rfl rfl (o15 c1 c2) rfl ?_
      refine r_goto (t := 79) f_350_139 rfl ?_
      exact (k16 c1 c2)

/-! ===== PEACE ===== -/
theorem cth {h R : HP} {f t : Nat} (e : rmC h f = R) (ht : (t : Int) < R 0 3) : h (f + 4) t = R 2 t ∧ h (f + 5) t = R 3 t := by
  have d := cdim e
  have q : (t : Int) < h f 3 := by omega
  subst e
  constructor <;> simp [rmC, q]
theorem mth {h R : HP} {t : Nat} (e : rmM h 0 = R) (ht : (t : Int) < R 0 3) : h 104 (15 + 6 * (t : Int)).toNat = R 2 t ∧ h 104 (15 + 6 * (t : Int) + 1).toNat = R 3 t := by
  have d := mdim e
  have q : (t : Int) < h 104 2 := by omega
  have e0 : (15 + 6 * (t : Int)).toNat = 15 + 6 * t := by omega
  have e1 : (15 + 6 * (t : Int) + 1).toNat = 15 + 6 * t + 1 := by omega
  subst e
  rw [e0, e1]
  constructor <;> simp [rmM, q]
def okT (R : HP) (a b r l : Int) (t : Nat) : Prop := R 3 t = r → ¬ (o_and (o_shr a t) 1 = 1 ∧ l ≤ R 2 t) ∧ ¬ (o_and (o_shr b t) 1 = 1 ∧ ¬ l ≤ R 2 t)
def okP (R : HP) (a b r l : Int) : Prop := ∀ t : Nat, (t : Int) < R 0 3 → okT R a b r l t
theorem c_Bo_partsSets {Q : PQ} {h R : HP} {x1 x2 x3 x4 : Int} {f0 : Nat} (h_f0 : isF f0) (eR : rmC h f0 = R) (W : WR R)
    (k1 : okP R x1 x2 x3 x4 → Q (some (vi 1)) h) (k0 : ¬ okP R x1 x2 x3 x4 → Q (some (vi 0)) h) : Wp true i_Bo_partsSets 0 [vr f0, vi x1, vi x2, vi x3, vi x4, vr 9999, vr 9999] [] h Q := by
  have w := W.1
  have dd := cdim eR
  have key : ∀ (d t : Nat) (j6 : AV), (t : Int) + d = R 0 3 → (∀ t' : Nat, t' < t → okT R x1 x2 x3 x4 t') → Wp true i_Bo_partsSets 3 [vr f0, vi x1, vi x2, vi x3, vi x4, vi (t : Int), j6] [] h Q := by
    intro d
    induction d with
    | zero =>
      intro t j6 e pr
      have fin := k1 (fun t' ht => pr t' (by omega))
      exact g_Bo_partsSets_3 h_f0 (fun _ => fin) (fun q => by omega) (fun q => by omega) (fun q => by omega) (fun q => by omega) (fun q => by omega)
    | succ d ih =>
      intro t j6 e pr
      have ct := cth (t := t) eR (by omega)
      have en : ((t : Int)).toNat = t := Int.toNat_natCast _
      have nx : okT R x1 x2 x3 x4 t → ∀ j6, Wp true i_Bo_partsSets 3 [vr f0, vi x1, vi x2, vi x3, vi x4, vi ((t : Int) + 1), j6] [] h Q := fun q j6 => ih (t + 1) j6 (by omega) (fun t' ht => by
        by_cases z : t' = t
        · subst z; exact q
        · exact pr t' (by omega))
      have ng : ¬ okT R x1 x2 x3 x4 t → Q (some (vi 0)) h := fun q => k0 (fun z => q (z t (by omega)))
      have b57 : ∀ s : Int, (s = 0 ↔ x4 ≤ R 2 t) → R 3 t = x3 → ¬ (o_and (o_shr x1 t) 1 = 1 ∧ x4 ≤ R 2 t) → Wp true i_Bo_partsSets 57 [vr f0, vi x1, vi x2, vi x3, vi x4, vi (t : Int), vi s] [] h Q := by
        intro s hz hr h1
        exact g_Bo_partsSets_57 h_f0 (fun _ => by omega) (fun q => nx (fun _ => ⟨h1, fun z => q z.1⟩) _) (fun _ _ => by omega) (fun q1 q2 => nx (fun _ => ⟨h1, fun z => z.2 (hz.1 q2)⟩) _) (fun q1 q2 => ng (fun z => (z hr).2 ⟨q1, fun y => q2 (hz.2 y)⟩))
      have b40 : ∀ s : Int, (s = 0 ↔ x4 ≤ R 2 t) → R 3 t = x3 → ∀ j6, Wp true i_Bo_partsSets 40 [vr f0, vi x1, vi x2, vi x3, vi x4, vi (t : Int), j6] [vi s] h Q := by
        intro s hz hr j6
        exact g_Bo_partsSets_40 h_f0 (fun q => b57 s hz hr (fun z => q z.1)) (fun q1 q2 => ng (fun z => (z hr).1 ⟨q1, hz.1 q2⟩)) (fun q1 q2 => b57 s hz hr (fun z => q2 (hz.2 z.2)))
      refine g_Bo_partsSets_3 h_f0 (fun q => by omega) (fun _ => by omega) (fun _ _ => by omega) (fun _ q => ?_) (fun _ q1 q2 => ?_) (fun _ q1 q2 => ?_)
      · rw [en, ct.2] at q; exact nx (fun z => absurd z q) _
      · rw [en, ct.2] at q1; rw [en, ct.1] at q2; exact b40 0 ⟨fun _ => q2, fun _ => rfl⟩ q1 _
      · rw [en, ct.2] at q1; rw [en, ct.1] at q2; exact b40 1 ⟨fun z => absurd z (by decide), fun z => absurd z q2⟩ q1 _
  exact g_Bo_partsSets_0 h_f0 (key (R 0 3).toNat 0 _ (by omega) (fun t' z => absurd z (by omega)))
theorem c_M_isPeace {Q : PQ} {h R : HP} {x1 x2 x3 x4 : Int} (eR : rmM h 0 = R) (W : WR R)
    (k1 : okP R x1 x2 x3 x4 → Q (some (vi 1)) h) (k0 : ¬ okP R x1 x2 x3 x4 → Q (some (vi 0)) h) : Wp true i_M_isPeace 0 [vr 103, vi x1, vi x2, vi x3, vi x4, vr 9999] [] h Q := by
  have w := W.1
  have dd := mdim eR
  have key : ∀ (d t : Nat), (t : Int) + d = R 0 3 → (∀ t' : Nat, t' < t → okT R x1 x2 x3 x4 t') → Wp true i_M_isPeace 3 [vr 103, vi x1, vi x2, vi x3, vi x4, vi (t : Int)] [] h Q := by
    intro d
    induction d with
    | zero =>
      intro t e pr
      have fin := k1 (fun t' ht => pr t' (by omega))
      exact g_M_isPeace_3 (fun _ => fin) (fun q => by omega) (fun q => by omega) (fun q => by omega) (fun q => by omega) (fun q => by omega) (fun q => by omega) (fun q => by omega) (fun q => by omega) (fun q => by omega)
    | succ d ih =>
      intro t e pr
      have ct := mth (t := t) eR (by omega)
      have nx : okT R x1 x2 x3 x4 t → Wp true i_M_isPeace 3 [vr 103, vi x1, vi x2, vi x3, vi x4, vi ((t : Int) + 1)] [] h Q := fun q => ih (t + 1) (by omega) (fun t' ht => by
        by_cases z : t' = t
        · subst z; exact q
        · exact pr t' (by omega))
      have ng : ¬ okT R x1 x2 x3 x4 t → Q (some (vi 0)) h := fun q => k0 (fun z => q (z t (by omega)))
      have b58 : R 3 t = x3 → ¬ (o_and (o_shr x1 t) 1 = 1 ∧ x4 ≤ R 2 t) → Wp true i_M_isPeace 58 [vr 103, vi x1, vi x2, vi x3, vi x4, vi (t : Int)] [] h Q := by
        intro hr h1
        refine g_M_isPeace_58 (fun _ => by omega) (fun q => nx (fun _ => ⟨h1, fun z => q z.1⟩)) (fun _ => by omega) (fun _ => by omega) (fun _ _ => by omega) (fun q1 q2 => ?_) (fun q1 q2 => ?_)
        · rw [ct.1] at q2; exact nx (fun _ => ⟨h1, fun z => z.2 q2⟩)
        · rw [ct.1] at q2; exact ng (fun z => (z hr).2 ⟨q1, q2⟩)
      refine g_M_isPeace_3 (fun q => by omega) (fun _ => by omega) (fun _ => by omega) (fun _ => by omega) (fun _ q1 q2 => ?_) (fun _ _ _ => by omega) (fun _ q1 q2 q3 => ?_) (fun _ q1 q2 q3 => ?_) (fun _ _ => by omega) (fun _ q => ?_)
      · rw [ct.2] at q1; exact b58 q1 (fun z => q2 z.1)
      · rw [ct.2] at q1; rw [ct.1] at q3; exact ng (fun z => (z q1).1 ⟨q2, q3⟩)
      · rw [ct.2] at q1; rw [ct.1] at q3; exact b58 q1 (fun z => q3 z.2)
      · rw [ct.2] at q; exact nx (fun z => absurd z q)
  exact g_M_isPeace_0 (key (R 0 3).toNat 0 (by omega) (fun t' z => absurd z (by omega)))
/-! minima -/
noncomputable def mnK (p : Nat → Prop) (f : Nat → Int) : Nat → Int
  | 0 => 1000000
  | n + 1 => cho (p n) (min (mnK p f n) (f n)) (mnK p f n)
theorem mnK_le {p : Nat → Prop} {f : Nat → Int} : ∀ {n k : Nat}, k < n → p k → mnK p f n ≤ f k := by
  intro n
  induction n with
  | zero => intro k hk; omega
  | succ n ih =>
    intro k hk pk
    by_cases z : k = n
    · subst z; simp only [mnK]; rw [cho_t pk]; omega
    · have := ih (k := k) (by omega) pk
      simp only [mnK]
      by_cases y : p n
      · rw [cho_t y]; omega
      · rw [cho_f y]; exact this
theorem mnK_far {p : Nat → Prop} {f : Nat → Int} : ∀ (n : Nat), mnK p f n ≤ 1000000 := by
  intro n
  induction n with
  | zero => exact Int.le_refl _
  | succ n ih =>
    simp only [mnK]
    by_cases y : p n
    · rw [cho_t y]; omega
    · rw [cho_f y]; exact ih
theorem mnK_pos {p : Nat → Prop} {f : Nat → Int} : ∀ (n : Nat), (∀ k, k < n → 0 ≤ f k) → 0 ≤ mnK p f n := by
  intro n
  induction n with
  | zero => intro _; simp only [mnK]; omega
  | succ n ih =>
    intro hf
    have a := ih (fun k hk => hf k (by omega))
    have b := hf n (by omega)
    simp only [mnK]
    by_cases y : p n
    · rw [cho_t y]; omega
    · rw [cho_f y]; exact a
theorem mnK_at {p : Nat → Prop} {f : Nat → Int} : ∀ (n : Nat), mnK p f n < 1000000 → ∃ k, k < n ∧ p k ∧ f k = mnK p f n := by
  intro n
  induction n with
  | zero => intro q; simp only [mnK] at q; omega
  | succ n ih =>
    intro q
    simp only [mnK] at q ⊢
    by_cases y : p n
    · rw [cho_t y] at q ⊢
      by_cases z : f n ≤ mnK p f n
      · exact ⟨n, by omega, y, by omega⟩
      · obtain ⟨k, k1, k2, k3⟩ := ih (by omega)
        exact ⟨k, by omega, k2, by omega⟩
    · rw [cho_f y] at q ⊢
      obtain ⟨k, k1, k2, k3⟩ := ih q
      exact ⟨k, by omega, k2, k3⟩
theorem mnK_skip {p : Nat → Prop} {f : Nat → Int} {a : Nat} : ∀ (d : Nat), (∀ k, a ≤ k → k < a + d → ¬ p k) → mnK p f (a + d) = mnK p f a := by
  intro d
  induction d with
  | zero => intro _; rfl
  | succ d ih =>
    intro q
    show cho (p (a + d)) _ _ = _
    rw [cho_f (q (a + d) (by omega) (by omega))]
    exact ih (fun k k1 k2 => q k k1 (by omega))
theorem mnK_congr {p : Nat → Prop} {f g : Nat → Int} : ∀ (n : Nat), (∀ k, k < n → f k = g k) → mnK p f n = mnK p g n := by
  intro n
  induction n with
  | zero => intro _; rfl
  | succ n ih =>
    intro q
    simp only [mnK]
    rw [ih (fun k hk => q k (by omega)), q n (by omega)]
/-! the first of them -/
def FK (p : Nat → Prop) (f : Nat → Int) (v : Int) (n k : Nat) : Prop := k < n ∧ p k ∧ f k = v ∧ ∀ j, j < k → p j → ¬ f j = v
noncomputable def fK (p : Nat → Prop) (f : Nat → Int) (v : Int) (n : Nat) : Nat := Classical.epsilon (FK p f v n)
theorem FK_un {p : Nat → Prop} {f : Nat → Int} {v : Int} {n k k' : Nat} (a : FK p f v n k) (b : FK p f v n k') : k = k' := by
  rcases Nat.lt_trichotomy k k' with z | z | z
  · exact absurd a.2.2.1 (b.2.2.2 k z a.2.1)
  · exact z
  · exact absurd b.2.2.1 (a.2.2.2 k' z b.2.1)
theorem FK_eq {p : Nat → Prop} {f : Nat → Int} {v : Int} {n k : Nat} (a : FK p f v n k) : fK p f v n = k :=
  FK_un (Classical.epsilon_spec (p := FK p f v n) ⟨k, a⟩) a
theorem FK_ex {p : Nat → Prop} {f : Nat → Int} {v : Int} {n : Nat} (h : ∃ k, k < n ∧ p k ∧ f k = v) : FK p f v n (fK p f v n) := by
  suffices ∃ k, FK p f v n k from Classical.epsilon_spec (p := FK p f v n) this
  obtain ⟨k, k1, k2, k3⟩ := h
  have : ∀ m j : Nat, j ≤ m → j < n → p j → f j = v → ∃ k, FK p f v n k := by
    intro m
    induction m with
    | zero => exact fun j a b c e => ⟨j, b, c, e, fun i hi => by omega⟩
    | succ m ih =>
      intro j a b c e
      by_cases z : ∃ i, i < j ∧ p i ∧ f i = v
      · obtain ⟨i, i1, i2, i3⟩ := z
        exact ih i (by omega) (by omega) i2 i3
      · exact ⟨j, b, c, e, fun i hi pi ei => z ⟨i, hi, pi, ei⟩⟩
  exact this k k (Nat.le_refl _) k1 k2 k3
/-! the table of both -/
def nearK (R : HP) (l k : Nat) : Prop := (((k : Int) - l).natAbs : Int) ≤ R 0 2
noncomputable def pbd (R : HP) (a b : Int) : Nat → Nat → Int
  | 0, l => cho (okP R a b (R 0 1 - 1) l) 0 1000000
  | d + 1, l => cho (okP R a b (R 0 1 - 1 - ((d + 1 : Nat) : Int)) l) (mnK (nearK R l) (fun k => pbd R a b d k + (((k : Int) - l).natAbs : Int)) ((R 0 0).toNat + 1)) 1000000
noncomputable def pb (R : HP) (a b : Int) (r l : Nat) : Int := pbd R a b ((R 0 1).toNat - 1 - r) l
noncomputable def pbm (R : HP) (a b : Int) (r l : Nat) : Int := mnK (nearK R l) (fun k => pb R a b (r + 1) k + (((k : Int) - l).natAbs : Int)) ((R 0 0).toNat + 1)
theorem pbd_rg {R : HP} {a b : Int} : ∀ (d l : Nat), 0 ≤ pbd R a b d l ∧ pbd R a b d l ≤ 1000000 := by
  intro d
  induction d with
  | zero =>
    intro l
    simp only [pbd]
    by_cases y : okP R a b (R 0 1 - 1) l
    · rw [cho_t y]; omega
    · rw [cho_f y]; omega
  | succ d ih =>
    intro l
    simp only [pbd]
    by_cases y : okP R a b (R 0 1 - 1 - ((d + 1 : Nat) : Int)) l
    · rw [cho_t y]; exact ⟨mnK_pos _ (fun k hk => by have := ih k; omega), mnK_far _⟩
    · rw [cho_f y]; omega
theorem pb_rg {R : HP} {a b : Int} (r l : Nat) : 0 ≤ pb R a b r l ∧ pb R a b r l ≤ 1000000 := pbd_rg _ _
theorem pb_last {R : HP} {a b : Int} {r l : Nat} (hr : (r : Int) + 1 = R 0 1) : pb R a b r l = cho (okP R a b r l) 0 1000000 := by
  unfold pb
  rw [show (R 0 1).toNat - 1 - r = 0 by omega]
  simp only [pbd]
  rw [show R 0 1 - 1 = (r : Int) by omega]
theorem pb_step {R : HP} {a b : Int} {r l : Nat} (hr : (r : Int) + 1 < R 0 1) : pb R a b r l = cho (okP R a b r l) (pbm R a b r l) 1000000 := by
  unfold pbm pb
  rw [show (R 0 1).toNat - 1 - r = ((R 0 1).toNat - 1 - (r + 1)) + 1 by omega]
  simp only [pbd]
  rw [show R 0 1 - 1 - ((((R 0 1).toNat - 1 - (r + 1)) + 1 : Nat) : Int) = (r : Int) by omega]
theorem pbm_rg {R : HP} {a b : Int} (r l : Nat) : 0 ≤ pbm R a b r l ∧ pbm R a b r l ≤ 1000000 :=
  ⟨mnK_pos _ (fun k hk => by have := pb_rg (R := R) (a := a) (b := b) (r + 1) k; omega), mnK_far _⟩
noncomputable def leP (R : HP) (a b : Int) : Int := cho (0 < R 0 1) (mnK (fun _ => True) (pb R a b 0) ((R 0 0).toNat + 1)) 1000000
theorem leP_rg {R : HP} {a b : Int} : 0 ≤ leP R a b ∧ leP R a b ≤ 1000000 := by
  unfold leP
  by_cases y : 0 < R 0 1
  · rw [cho_t y]; exact ⟨mnK_pos _ (fun k hk => (pb_rg 0 k).1), mnK_far _⟩
  · rw [cho_f y]; omega
def JT (R : HP) (a b : Int) (c : Nat) (h : HP) (m : Nat) : Prop := ∀ r l : Nat, m ≤ r → (r : Int) < R 0 1 → (l : Int) ≤ R 0 0 → h c (10 * r + l) = pb R a b r l
theorem c_Bo_bendingFrom {Q : PQ} {h R : HP} {a b : Int} {r l f1 : Nat} (h_f1 : isF f1) (eR : rmC h f1 = R) (W : WR R) (J : JT R a b 93 h (r + 1)) (hr : (r : Int) < R 0 1) (hl : (l : Int) ≤ R 0 0)
    (k : ∀ v, ((r : Int) + 1 < R 0 1 → v = pbm R a b r l) → (¬ (r : Int) + 1 < R 0 1 → v = 0) → Q (some (vi v)) h) : Wp true i_Bo_bendingFrom 0 [vr 92, vr f1, vi (r : Int), vi (l : Int), vr 9999, vr 9999, vr 9999, vr 9999] [] h Q := by
  have w := W.1
  have dd := cdim eR
  by_cases c : (r : Int) + 1 < R 0 1
  · refine g_Bo_bendingFrom_0 h_f1 (by omega) (fun _ => by omega) (fun _ => by omega) (fun _ => ?_) (fun q => by omega)
    obtain ⟨lo, elo⟩ : ∃ lo : Nat, max 0 ((l : Int) - h f1 2) = lo := ⟨(max 0 ((l : Int) - h f1 2)).toNat, by omega⟩
    obtain ⟨hi, ehi⟩ : ∃ hi : Nat, min (h f1 0) ((l : Int) + h f1 2) = hi := ⟨(min (h f1 0) ((l : Int) + h f1 2)).toNat, by omega⟩
    rw [elo, ehi]
    let F : Nat → Int := fun k => pb R a b (r + 1) k + (((k : Int) - l).natAbs : Int)
    have key : ∀ (d i : Nat), i + d = hi + 1 → lo ≤ i → Wp true i_Bo_bendingFrom 47 [vr 92, vr f1, vi (r : Int), vi (l : Int), vi (lo : Int), vi (hi : Int), vi (mnK (nearK R l) F i), vi (i : Int)] [] h Q := by
      intro d
      induction d with
      | zero =>
        intro i e h1
        have fin : mnK (nearK R l) F i = pbm R a b r l := by
          unfold pbm
          rw [show (R 0 0).toNat + 1 = i + ((R 0 0).toNat + 1 - i) by omega]
          exact (mnK_skip _ (fun k k1 k2 => by unfold nearK; omega)).symm
        have k := k _ (fun _ => fin) (fun q => absurd c q)
        exact g_Bo_bendingFrom_47 h_f1 (fun _ => k) (fun q => by omega) (fun q => by omega) (fun q => by omega) (fun q => by omega) (fun q => by omega) (fun q => by omega) (fun q => by omega) (fun q => by omega) (fun q => by omega)
      | succ d ih =>
        intro i e h1
        have ix : (((r : Int) + 1) * 10 + (i : Int)).toNat = 10 * (r + 1) + i := by omega
        have v := J (r + 1) i (Nat.le_refl _) (by omega) (by omega)
        have rg := pb_rg (R := R) (a := a) (b := b) (r + 1) i
        have nx := ih (i + 1) (by omega) (by omega)
        have en : mnK (nearK R l) F (i + 1) = min (mnK (nearK R l) F i) ((((i : Int) - l).natAbs : Int) + h 93 (((r : Int) + 1) * 10 + (i : Int)).toNat) := by
          simp only [mnK]
          rw [cho_t (show nearK R l i by unfold nearK; omega), ix, v, Int.add_comm]
        rw [en] at nx
        exact g_Bo_bendingFrom_47 h_f1 (fun q => by omega) (fun q => by omega) (fun q => by omega) (fun q => by omega) (fun q => by omega) (fun q => by omega) (fun q => by omega) (fun q => by rw [ix, v]; omega) (fun q => by omega) (fun _ => nx)
    have st := key (hi + 1 - lo) lo (by omega) (Nat.le_refl _)
    rw [show mnK (nearK R l) F lo = 1000000 from by
      have := mnK_skip (p := nearK R l) (f := F) (a := 0) lo (fun k k1 k2 => by unfold nearK; omega)
      rw [Nat.zero_add] at this
      exact this] at st
    exact st
  · have k := k 0 (fun q => absurd q c) (fun _ => rfl)
    exact g_Bo_bendingFrom_0 h_f1 (by omega) (fun q => by omega) (fun q => by omega) (fun q => by omega) (fun _ => k)
theorem c_Bo_leastChalk {Q : PQ} {h R : HP} {x2 x3 : Int} {f1 : Nat} (h_f1 : isF f1) (eR : rmC h f1 = R) (W : WR R)
    (k : ∀ h', (∀ k, k ≠ 93 → h' k = h k) → JT R x2 x3 93 h' 0 → Q (some (vi (if leP R x2 x3 < 1000000 then R 0 1 + leP R x2 x3 else -1))) h') : Wp true i_Bo_leastChalk 0 [vr 92, vr f1, vi x2, vi x3, vr 9999, vr 9999, vr 9999] [] h Q := by
  have w := W.1
  have d0 := cdim eR
  have fl : f1 + 8 ≤ 82 := by unfold isF at h_f1; omega
  have fr : ∀ h1 : HP, (∀ k, k ≠ 93 → h1 k = h k) → rmC h1 f1 = R := fun h1 f => (rC_frame h_f1 (fun k hk => f k (by omega))).trans eR
  by_cases c : 0 < R 0 1
  · have el : leP R x2 x3 = mnK (fun _ => True) (pb R x2 x3 0) ((R 0 0).toNat + 1) := cho_t c
    have inner : ∀ (d l r : Nat) (h1 : HP) (j6 : AV), (l : Int) + d = R 0 0 + 1 → (r : Int) < R 0 1 → (∀ k, k ≠ 93 → h1 k = h k) → JT R x2 x3 93 h1 (r + 1) → (∀ l' : Nat, l' < l → h1 93 (10 * r + l') = pb R x2 x3 r l') →
        (∀ (h2 : HP) (j5 j6 : AV), (∀ k, k ≠ 93 → h2 k = h k) → JT R x2 x3 93 h2 r → Wp true i_Bo_leastChalk 17 [vr 92, vr f1, vi x2, vi x3, vi ((r : Int) - 1), j5, j6] [] h2 Q) → Wp true i_Bo_leastChalk 25 [vr 92, vr f1, vi x2, vi x3, vi (r : Int), vi (l : Int), j6] [] h1 Q := by
      intro d
      induction d with
      | zero =>
        intro l r h1 j6 e hr f J pr kk
        have dd := cdim (fr h1 f)
        refine g_Bo_leastChalk_25 h_f1 (fun _ => by omega) (fun _ => kk h1 _ _ f ?_) (fun q => by omega)
        intro r' l' q1 q2 q3
        by_cases z : r' = r
        · subst z; exact pr l' (by omega)
        · exact J r' l' (by omega) q2 q3
      | succ d ih =>
        intro l r h1 j6 e hr f J pr kk
        have dd := cdim (fr h1 f)
        have ix : ((r : Int) * 10 + (l : Int)).toNat = 10 * r + l := by omega
        have nx : ∀ (v : Int) (j6 : AV), v = pb R x2 x3 r l → Wp true i_Bo_leastChalk 25 [vr 92, vr f1, vi x2, vi x3, vi (r : Int), vi ((l : Int) + 1), j6] [] (hs h1 93 ((r : Int) * 10 + (l : Int)).toNat v) Q := by
          intro v j6 hv
          rw [ix]
          refine ih (l + 1) r _ j6 (by omega) hr (fun k hk => (hs_ne hk).trans (f k hk)) (fun r' l' q1 q2 q3 => ?_) (fun l' q => ?_) kk
          · rw [hs_o (Or.inr (by omega))]; exact J r' l' q1 q2 q3
          · by_cases z : l' = l
            · subst z; rw [hs_s]; exact hv
            · rw [hs_o (Or.inr (by omega))]; exact pr l' (by omega)
        refine g_Bo_leastChalk_25 h_f1 (fun q => by omega) (fun q => by omega) (fun _ => ?_)
        refine c_Bo_partsSets h_f1 (fr h1 f) W (fun ok => ?_) (fun ok => ?_)
        · refine g_Bo_leastChalk_44 h_f1 (by omega) (by omega) (fun q => absurd q (by decide)) (fun q => absurd q (by decide)) (fun q => absurd q (by decide)) (fun _ => ?_)
          refine c_Bo_bendingFrom h_f1 (fr h1 f) W J hr (by omega) (fun v v1 v2 => ?_)
          refine g_Bo_leastChalk_72 h_f1 (by omega) (by omega) (nx v _ ?_)
          by_cases z : (r : Int) + 1 < R 0 1
          · rw [pb_step z, cho_t ok]; exact v1 z
          · rw [pb_last (by omega), cho_t ok]; exact v2 z
        · refine g_Bo_leastChalk_44 h_f1 (by omega) (by omega) (fun _ => by omega) (fun _ => by omega) (fun _ => nx _ _ ?_) (fun q => absurd rfl q)
          by_cases z : (r : Int) + 1 < R 0 1
          · rw [pb_step z, cho_f ok]
          · rw [pb_last (by omega), cho_f ok]
    have last : ∀ (d l : Nat) (h1 : HP) (j6 : AV), (l : Int) + d = R 0 0 + 1 → (∀ k, k ≠ 93 → h1 k = h k) → JT R x2 x3 93 h1 0 → Wp true i_Bo_leastChalk 97 [vr 92, vr f1, vi x2, vi x3, vi (mnK (fun _ => True) (pb R x2 x3 0) l), vi (l : Int), j6] [] h1 Q := by
      intro d
      induction d with
      | zero =>
        intro l h1 j6 e f J
        have dd := cdim (fr h1 f)
        have k := k h1 f J
        rw [el] at k
        rw [show (R 0 0).toNat + 1 = l by omega] at k
        have rg := leP_rg (R := R) (a := x2) (b := x3)
        rw [el, show (R 0 0).toNat + 1 = l by omega] at rg
        refine g_Bo_leastChalk_97 h_f1 (fun _ q => ?_) (fun _ q => by omega) (fun _ q => ?_) (fun q => by omega) (fun q => by omega) (fun q => by omega)
        · rw [if_neg (by omega)] at k; exact k
        · rw [if_pos (by omega)] at k; rw [dd.2.1]; exact k
      | succ d ih =>
        intro l h1 j6 e f J
        have dd := cdim (fr h1 f)
        have nx := ih (l + 1) h1 j6 (by omega) f J
        have v := J 0 l (Nat.le_refl _) (by omega) (by omega)
        simp only [mnK] at nx
        rw [cho_t trivial, ← v, show 10 * 0 + l = ((l : Int)).toNat by omega] at nx
        exact g_Bo_leastChalk_97 h_f1 (fun q => by omega) (fun q => by omega) (fun q => by omega) (fun q => by omega) (fun q => by omega) (fun _ => nx)
    have outer : ∀ (m : Nat) (h1 : HP) (j5 j6 : AV), (m : Int) ≤ R 0 1 → (∀ k, k ≠ 93 → h1 k = h k) → JT R x2 x3 93 h1 m → Wp true i_Bo_leastChalk 17 [vr 92, vr f1, vi x2, vi x3, vi ((m : Int) - 1), j5, j6] [] h1 Q := by
      intro m
      induction m with
      | zero =>
        intro h1 j5 j6 hm f J
        exact g_Bo_leastChalk_17 h_f1 (fun _ => last ((R 0 0).toNat + 1) 0 h1 j6 (by omega) f J) (fun q => by omega)
      | succ m ih =>
        intro h1 j5 j6 hm f J
        refine g_Bo_leastChalk_17 h_f1 (fun q => by omega) (fun _ => ?_)
        rw [show (((m + 1 : Nat) : Int) - 1) = (m : Int) by omega]
        exact inner ((R 0 0).toNat + 1) 0 m h1 j6 (by omega) (by omega) f J (fun l' z => absurd z (by omega)) (fun h2 j5 j6 f2 J2 => ih h2 j5 j6 (by omega) f2 J2)
    refine g_Bo_leastChalk_0 h_f1 (fun _ => by omega) (fun _ => ?_) (fun q => by omega)
    have o := outer (R 0 1).toNat h (vr 9999) (vr 9999) (by omega) (fun _ _ => rfl) (fun r l q1 q2 q3 => by omega)
    rw [show (((R 0 1).toNat : Nat) : Int) - 1 = h f1 1 - 1 by omega] at o
    exact o
  · have k := k h (fun _ _ => rfl) (fun r l q1 q2 q3 => by omega)
    have el : leP R x2 x3 = 1000000 := cho_f c
    rw [if_neg (by omega)] at k
    exact g_Bo_leastChalk_0 h_f1 (fun q => by omega) (fun q => by omega) (fun _ => k)
