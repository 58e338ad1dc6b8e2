theorem g_Bo_sumsNear_0 {Q : PQ} {h : HP} {x2 : Int} {x3 : Int} {f1 : Nat} (h_f1 : isF f1)
    (o1 : -2147483648 ≤ x3 + (h f1 2) ∧ x3 + (h f1 2) ≤ 2147483647)
    (o2 : -2147483648 ≤ x3 - (h f1 2) ∧ x3 - (h f1 2) ≤ 2147483647)
    (k3 : Wp true i_Bo_sumsNear 30 [vr 92, vr f1, vi x2, vi x3, vi (min (h f1 0) (x3 + (h f1 2))), vj 0, vr 9999, vi (max 0 (x3 - (h f1 2)))] [] h Q) :
    Wp true i_Bo_sumsNear 0 [vr 92, vr f1, vi x2, vi x3, vr 9999, vr 9999, vr 9999, vr 9999] [] h Q := by
  refine r_aload_n (v := f1) f_19_0 rfl (F_n h_f1) ?_
  refine r_geti (v := h f1 0) f_19_1 (F_k h_f1) (by decide) rfl ?_
  refine r_iload_n (v := x3) f_19_4 rfl ?_
  refine r_aload_n (v := f1) f_19_5 rfl (F_n h_f1) ?_
  refine r_geti (v := h f1 2) f_19_6 (F_k h_f1) (by decide) rfl ?_
  refine r_iadd (u := x3 + (h f1 2)) f_19_9 rfl o1 ?_
  refine r_calls (as := [vi (h f1 0), vi (x3 + (h f1 2))]) (st' := []) (ls0 := [vi (h f1 0), vi (x3 + (h f1 2))]) f_19_10 (by decide) (by decide) rfl rfl (Nat.le_of_ble_eq_true rfl) (Nat.le_of_ble_eq_true rfl) rfl ?_
  refine c_Ma_min  ?_
  show Wp true i_Bo_sumsNear 13 [vr 92, vr f1, vi x2, vi x3, vr 9999, vr 9999, vr 9999, vr 9999] [vi (min (h f1 0) (x3 + (h f1 2)))] h Q
  refine r_istore (ls' := [vr 92, vr f1, vi x2, vi x3, vi (min (h f1 0) (x3 + (h f1 2))), vr 9999, vr 9999, vr 9999]) f_19_13 (Nat.le_of_ble_eq_true rfl) rfl ?_
  refine r_lconst (v := 0) f_19_15 rfl ?_
  refine r_lstore (ls' := [vr 92, vr f1, vi x2, vi x3, vi (min (h f1 0) (x3 + (h f1 2))), vj 0, vr 9999, vr 9999]) f_19_16 (Nat.le_of_ble_eq_true rfl) rfl ?_
  refine r_iconst f_19_18 (by decide) ?_
  refine r_iload_n (v := x3) f_19_19 rfl ?_
  refine r_aload_n (v := f1) f_19_20 rfl (F_n h_f1) ?_
  refine r_geti (v := h f1 2) f_19_21 (F_k h_f1) (by decide) rfl ?_
  refine r_isub (u := x3 - (h f1 2)) f_19_24 rfl o2 ?_
  refine r_calls (as := [vi 0, vi (x3 - (h f1 2))]) (st' := []) (ls0 := [vi 0, vi (x3 - (h f1 2))]) f_19_25 (by decide) (by decide) rfl rfl (Nat.le_of_ble_eq_true rfl) (Nat.le_of_ble_eq_true rfl) rfl ?_
  refine c_Ma_max  ?_
  show Wp true i_Bo_sumsNear 28 [vr 92, vr f1, vi x2, vi x3, vi (min (h f1 0) (x3 + (h f1 2))), vj 0, vr 9999, vr 9999] [vi (max 0 (x3 - (h f1 2)))] h Q
  refine r_istore (ls' := [vr 92, vr f1, vi x2, vi x3, vi (min (h f1 0) (x3 + (h f1 2))), vj 0, vr 9999, vi (max 0 (x3 - (h f1 2)))]) f_19_28 (Nat.le_of_ble_eq_true rfl) rfl ?_
  exact k3

theorem g_Bo_sumsNear_30 {Q : PQ} {h : HP} {x2 : Int} {x3 : Int} {x4 : Int} {y5 : Int} {x7 : Int} {f1 : Nat} (h_f1 : isF f1)
    (k1 : x4 < x7 → Q (some (vj y5)) h)
    (o2 : ¬ x4 < x7 → -2147483648 ≤ x2 * 10 ∧ x2 * 10 ≤ 2147483647)
    (o3 : ¬ x4 < x7 → -2147483648 ≤ (x2 * 10) + x7 ∧ (x2 * 10) + x7 ≤ 2147483647)
    (o4 : ¬ x4 < x7 → 0 ≤ (x2 * 10) + x7 ∧ (x2 * 10) + x7 < 70)
    (o5 : ¬ x4 < x7 → -2147483648 ≤ x7 + 1 ∧ x7 + 1 ≤ 2147483647)
    (k6 : ¬ x4 < x7 → Wp true i_Bo_sumsNear 30 [vr 92, vr f1, vi x2, vi x3, vi x4, vj (o_lor y5 (h 96 ((x2 * 10) + x7).toNat)), vr 9999, vi (x7 + 1)] [] h Q) :
    Wp true i_Bo_sumsNear 30 [vr 92, vr f1, vi x2, vi x3, vi x4, vj y5, vr 9999, vi x7] [] h Q := by
  refine r_iload (v := x7) f_19_30 rfl ?_
  refine r_iload (v := x4) f_19_32 rfl ?_
  refine r_br2 (t := 60) f_19_34 rfl cb_gt (fun c1 => ?_) (fun c1 => ?_)
  · refine r_lload (v := y5) f_19_60 rfl ?_
    exact r_retj f_19_62 rfl (k1 c1)
  · refine r_lload (v := y5) f_19_37 rfl ?_
    refine r_aload_n (v := 92) f_19_39 rfl (by decide) ?_
    refine r_getr (q := 96) f_19_40 rfl (by decide) (Or.inl rfl) rfl ?_
    refine r_iload_n (v := x2) f_19_43 rfl ?_
    refine r_bipush f_19_44 (by decide) ?_
    refine r_imul (u := x2 * 10) f_19_46 rfl (o2 c1) ?_
    refine r_iload (v := x7) f_19_47 rfl ?_
    refine r_iadd (u := (x2 * 10) + x7) f_19_49 rfl (o3 c1) ?_
    refine r_laload (n := 70) (v := h 96 ((x2 * 10) + x7).toNat) f_19_50 ⟨rfl, rfl⟩ (o4 c1) rfl ?_
    refine r_lor f_19_51 ?_
    refine r_lstore (ls' := [vr 92, vr f1, vi x2, vi x3, vi x4, vj (o_lor y5 (h 96 ((x2 * 10) + x7).toNat)), vr 9999, vi x7]) f_19_52 (Nat.le_of_ble_eq_true rfl) rfl ?_
    refine r_iinc (v := x7) (w := x7 + 1) (ls' := [vr 92, vr f1, vi x2, vi x3, vi x4, vj (o_lor y5 (h 96 ((x2 * 10) + x7).toNat)), vr 9999, vi (x7 + 1)]) f_19_54 rfl rfl (o5 c1) rfl ?_
    refine r_goto (t := 30) f_19_57 rfl ?_
    exact (k6 c1)

theorem g_Bo_findSums_0 {Q : PQ} {h : HP}  {f1 : Nat} (h_f1 : isF f1)
    (k1 : Wp true i_Bo_findSums 2 [vr 92, vr f1, vi 0, vr 9999, vr 9999, vr 9999] [] h Q) :
    Wp true i_Bo_findSums 0 [vr 92, vr f1, vr 9999, vr 9999, vr 9999, vr 9999] [] h Q := by
  refine r_iconst f_18_0 (by decide) ?_
  refine r_istore_n (ls' := [vr 92, vr f1, vi 0, vr 9999, vr 9999, vr 9999]) f_18_1 (Nat.le_of_ble_eq_true rfl) rfl ?_
  exact k1

theorem g_Bo_findSums_2 {Q : PQ} {h : HP} {x2 : Int} {j3 : AV} {j4 : AV} {f1 : Nat} (h_f1 : isF f1)
    (k1 : h f1 1 ≤ x2 → Q none h)
    (k2 : ¬ h f1 1 ≤ x2 → Wp true i_Bo_findSums 12 [vr 92, vr f1, vi x2, vi 0, j4, vr 9999] [] h Q) :
    Wp true i_Bo_findSums 2 [vr 92, vr f1, vi x2, j3, j4, vr 9999] [] h Q := by
  refine r_iload_n (v := x2) f_18_2 rfl ?_
  refine r_aload_n (v := f1) f_18_3 rfl (F_n h_f1) ?_
  refine r_geti (v := h f1 1) f_18_4 (F_k h_f1) (by decide) rfl ?_
  refine r_br2 (t := 66) f_18_7 rfl cb_ge (fun c1 => ?_) (fun c1 => ?_)
  · exact r_retv f_18_66 rfl (k1 c1)
  · refine r_iconst f_18_10 (by decide) ?_
    refine r_istore_n (ls' := [vr 92, vr f1, vi x2, vi 0, j4, vr 9999]) f_18_11 (Nat.le_of_ble_eq_true rfl) rfl ?_
    exact (k2 c1)

theorem g_Bo_findSums_12 {Q : PQ} {h : HP} {x2 : Int} {x3 : Int} {j4 : AV} {f1 : Nat} (h_f1 : isF f1)
    (o1 : h f1 0 < x3 → -2147483648 ≤ x2 + 1 ∧ x2 + 1 ≤ 2147483647)
    (k2 : h f1 0 < x3 → Wp true i_Bo_findSums 2 [vr 92, vr f1, vi (x2 + 1), vi x3, j4, vr 9999] [] h Q)
    (o3 : ¬ h f1 0 < x3 → ¬ x2 = 0 → -2147483648 ≤ x2 - 1 ∧ x2 - 1 ≤ 2147483647)
    (k4 : ¬ h f1 0 < x3 → ¬ x2 = 0 → Wp true i_Bo_sumsNear 0 [vr 92, vr f1, vi (x2 - 1), vi x3, vr 9999, vr 9999, vr 9999, vr 9999] [] h (fun r h' => Wp true i_Bo_findSums 37 [vr 92, vr f1, vi x2, vi x3, j4, vr 9999] (r.toList ++ []) h' Q))
    (k5 : ¬ h f1 0 < x3 → x2 = 0 → Wp true i_Bo_findSums 37 [vr 92, vr f1, vi x2, vi x3, j4, vr 9999] [vj 1] h Q) :
    Wp true i_Bo_findSums 12 [vr 92, vr f1, vi x2, vi x3, j4, vr 9999] [] h Q := by
  refine r_iload_n (v := x3) f_18_12 rfl ?_
  refine r_aload_n (v := f1) f_18_13 rfl (F_n h_f1) ?_
  refine r_geti (v := h f1 0) f_18_14 (F_k h_f1) (by decide) rfl ?_
  refine r_br2 (t := 60) f_18_17 rfl cb_gt (fun c1 => ?_) (fun c1 => ?_)
  · refine r_iinc (v := x2) (w := x2 + 1) (ls' := [vr 92, vr f1, vi (x2 + 1), vi x3, j4, vr 9999]) f_18_60 rfl rfl (o1 c1) rfl ?_
    refine r_goto (t := 2) f_18_63 rfl ?_
    exact (k2 c1)
  · refine r_iload_n (v := x2) f_18_20 rfl ?_
    refine r_br (t := 28) f_18_21 rfl cb_ne (fun c2 => ?_) (fun c2 => ?_)
    · refine r_aload_n (v := 92) f_18_28 rfl (by decide) ?_
      refine r_aload_n (v := f1) f_18_29 rfl (F_n h_f1) ?_
      refine r_iload_n (v := x2) f_18_30 rfl ?_
      refine r_iconst f_18_31 (by decide) ?_
      refine r_isub (u := x2 - 1) f_18_32 rfl (o3 c1 c2) ?_
      refine r_iload_n (v := x3) f_18_33 rfl ?_
      exact r_callv (as := [vr 92, vr f1, vi (x2 - 1), vi x3]) (st' := []) (ls0 := [vr 92, vr f1, vi (x2 - 1), vi x3, vr 9999, vr 9999, vr 9999, vr 9999]) f_18_34 (by decide) rfl rfl (Nat.le_of_ble_eq_true rfl) (Nat.le_of_ble_eq_true rfl) ⟨_, _, rfl, rfl⟩ rfl (k4 c1 c2)
    · have c2 := Decidable.not_not.mp c2
      refine r_lconst (v := 1) f_18_24 rfl ?_
      refine r_goto (t := 37) f_18_25 rfl ?_
      exact (k5 c1 c2)

theorem g_Bo_findSums_37 {Q : PQ} {h : HP} {x2 : Int} {x3 : Int} {j4 : AV} {s0 : Int} {f1 : Nat} (h_f1 : isF f1)
    (o1 : -2147483648 ≤ x2 * 10 ∧ x2 * 10 ≤ 2147483647)
    (o2 : -2147483648 ≤ (x2 * 10) + x3 ∧ (x2 * 10) + x3 ≤ 2147483647)
    (o3 : 0 ≤ (x2 * 10) + x3 ∧ (x2 * 10) + x3 < 70)
    (o4 : -2147483648 ≤ x3 + 1 ∧ x3 + 1 ≤ 2147483647)
    (k5 : Wp true i_Bo_findSums 12 [vr 92, vr f1, vi x2, vi (x3 + 1), vj s0, vr 9999] [] (hs h 96 ((x2 * 10) + x3).toNat (o_lshl s0 x3)) Q) :
    Wp true i_Bo_findSums 37 [vr 92, vr f1, vi x2, vi x3, j4, vr 9999] [vj s0] h Q := by
  refine r_lstore (ls' := [vr 92, vr f1, vi x2, vi x3, vj s0, vr 9999]) f_18_37 (Nat.le_of_ble_eq_true rfl) rfl ?_
  refine r_aload_n (v := 92) f_18_39 rfl (by decide) ?_
  refine r_getr (q := 96) f_18_40 rfl (by decide) (Or.inl rfl) rfl ?_
  refine r_iload_n (v := x2) f_18_43 rfl ?_
  refine r_bipush f_18_44 (by decide) ?_
  refine r_imul (u := x2 * 10) f_18_46 rfl o1 ?_
  refine r_iload_n (v := x3) f_18_47 rfl ?_
  refine r_iadd (u := (x2 * 10) + x3) f_18_48 rfl o2 ?_
  refine r_lload (v := s0) f_18_49 rfl ?_
  refine r_iload_n (v := x3) f_18_51 rfl ?_
  refine r_lshl f_18_52 ?_
  refine r_lastore (n := 70) f_18_53 ⟨rfl, rfl⟩ o3 ?_
  refine r_iinc (v := x3) (w := x3 + 1) (ls' := [vr 92, vr f1, vi x2, vi (x3 + 1), vj s0, vr 9999]) f_18_54 rfl rfl o4 rfl ?_
  refine r_goto (t := 12) f_18_57 rfl ?_
  exact k5

theorem g_Bo_canCut_0 {Q : PQ} {h : HP} {x2 : Int} {x3 : Int} {x4 : Int} {f1 : Nat} (h_f1 : isF f1)
    (o1 : -2147483648 ≤ x2 * 10 ∧ x2 * 10 ≤ 2147483647)
    (o2 : -2147483648 ≤ (x2 * 10) + x3 ∧ (x2 * 10) + x3 ≤ 2147483647)
    (o3 : 0 ≤ (x2 * 10) + x3 ∧ (x2 * 10) + x3 < 70)
    (o4 : -2147483648 ≤ (h f1 1) - 1 ∧ (h f1 1) - 1 ≤ 2147483647)
    (o5 : -2147483648 ≤ ((h f1 1) - 1) - x2 ∧ ((h f1 1) - 1) - x2 ≤ 2147483647)
    (o6 : -2147483648 ≤ (((h f1 1) - 1) - x2) * 10 ∧ (((h f1 1) - 1) - x2) * 10 ≤ 2147483647)
    (o7 : -2147483648 ≤ ((((h f1 1) - 1) - x2) * 10) + x3 ∧ ((((h f1 1) - 1) - x2) * 10) + x3 ≤ 2147483647)
    (o8 : 0 ≤ ((((h f1 1) - 1) - x2) * 10) + x3 ∧ ((((h f1 1) - 1) - x2) * 10) + x3 < 70)
    (k9 : Wp true i_Bo_canCut 36 [vr 92, vr f1, vi x2, vi x3, vi x4, vj (h 96 ((x2 * 10) + x3).toNat), vr 9999, vj (h 96 (((((h f1 1) - 1) - x2) * 10) + x3).toNat), vr 9999, vi x3] [] h Q) :
    Wp true i_Bo_canCut 0 [vr 92, vr f1, vi x2, vi x3, vi x4, vr 9999, vr 9999, vr 9999, vr 9999, vr 9999] [] h Q := by
  refine r_aload_n (v := 92) f_21_0 rfl (by decide) ?_
  refine r_getr (q := 96) f_21_1 rfl (by decide) (Or.inl rfl) rfl ?_
  refine r_iload_n (v := x2) f_21_4 rfl ?_
  refine r_bipush f_21_5 (by decide) ?_
  refine r_imul (u := x2 * 10) f_21_7 rfl o1 ?_
  refine r_iload_n (v := x3) f_21_8 rfl ?_
  refine r_iadd (u := (x2 * 10) + x3) f_21_9 rfl o2 ?_
  refine r_laload (n := 70) (v := h 96 ((x2 * 10) + x3).toNat) f_21_10 ⟨rfl, rfl⟩ o3 rfl ?_
  refine r_lstore (ls' := [vr 92, vr f1, vi x2, vi x3, vi x4, vj (h 96 ((x2 * 10) + x3).toNat), vr 9999, vr 9999, vr 9999, vr 9999]) f_21_11 (Nat.le_of_ble_eq_true rfl) rfl ?_
  refine r_aload_n (v := 92) f_21_13 rfl (by decide) ?_
  refine r_getr (q := 96) f_21_14 rfl (by decide) (Or.inl rfl) rfl ?_
  refine r_aload_n (v := f1) f_21_17 rfl (F_n h_f1) ?_
  refine r_geti (v := h f1 1) f_21_18 (F_k h_f1) (by decide) rfl ?_
  refine r_iconst f_21_21 (by decide) ?_
  refine r_isub (u := (h f1 1) - 1) f_21_22 rfl o4 ?_
  refine r_iload_n (v := x2) f_21_23 rfl ?_
  refine r_isub (u := ((h f1 1) - 1) - x2) f_21_24 rfl o5 ?_
  refine r_bipush f_21_25 (by decide) ?_
  refine r_imul (u := (((h f1 1) - 1) - x2) * 10) f_21_27 rfl o6 ?_
  refine r_iload_n (v := x3) f_21_28 rfl ?_
  refine r_iadd (u := ((((h f1 1) - 1) - x2) * 10) + x3) f_21_29 rfl o7 ?_
  refine r_laload (n := 70) (v := h 96 (((((h f1 1) - 1) - x2) * 10) + x3).toNat) f_21_30 ⟨rfl, rfl⟩ o8 rfl ?_
  refine r_lstore (ls' := [vr 92, vr f1, vi x2, vi x3, vi x4, vj (h 96 ((x2 * 10) + x3).toNat), vr 9999, vj (h 96 (((((h f1 1) - 1) - x2) * 10) + x3).toNat), vr 9999, vr 9999]) f_21_31 (Nat.le_of_ble_eq_true rfl) rfl ?_
  refine r_iload_n (v := x3) f_21_33 rfl ?_
  refine r_istore (ls' := [vr 92, vr f1, vi x2, vi x3, vi x4, vj (h 96 ((x2 * 10) + x3).toNat), vr 9999, vj (h 96 (((((h f1 1) - 1) - x2) * 10) + x3).toNat), vr 9999, vi x3]) f_21_34 (Nat.le_of_ble_eq_true rfl) rfl ?_
  exact k9

theorem g_Bo_canCut_36 {Q : PQ} {h : HP} {x2 : Int} {x3 : Int} {x4 : Int} {y5 : Int} {y7 : Int} {x9 : Int} {f1 : Nat} (h_f1 : isF f1)
    (k1 : x4 < x9 → Q (some (vi 0)) h)
    (o2 : ¬ x4 < x9 → ¬ o_land (o_lushr y5 x9) 1 = 1 → -2147483648 ≤ x9 + 1 ∧ x9 + 1 ≤ 2147483647)
    (k3 : ¬ x4 < x9 → ¬ o_land (o_lushr y5 x9) 1 = 1 → Wp true i_Bo_canCut 36 [vr 92, vr f1, vi x2, vi x3, vi x4, vj y5, vr 9999, vj y7, vr 9999, vi (x9 + 1)] [] h Q)
    (o4 : ¬ x4 < x9 → o_land (o_lushr y5 x9) 1 = 1 → -2147483648 ≤ x4 - x9 ∧ x4 - x9 ≤ 2147483647)
    (o5 : ¬ x4 < x9 → o_land (o_lushr y5 x9) 1 = 1 → -2147483648 ≤ (x4 - x9) + x3 ∧ (x4 - x9) + x3 ≤ 2147483647)
    (o6 : ¬ x4 < x9 → o_land (o_lushr y5 x9) 1 = 1 → ¬ o_land (o_lushr y7 ((x4 - x9) + x3)) 1 = 1 → -2147483648 ≤ x9 + 1 ∧ x9 + 1 ≤ 2147483647)
    (k7 : ¬ x4 < x9 → o_land (o_lushr y5 x9) 1 = 1 → ¬ o_land (o_lushr y7 ((x4 - x9) + x3)) 1 = 1 → Wp true i_Bo_canCut 36 [vr 92, vr f1, vi x2, vi x3, vi x4, vj y5, vr 9999, vj y7, vr 9999, vi (x9 + 1)] [] h Q)
    (k8 : ¬ x4 < x9 → o_land (o_lushr y5 x9) 1 = 1 → o_land (o_lushr y7 ((x4 - x9) + x3)) 1 = 1 → Q (some (vi 1)) h) :
    Wp true i_Bo_canCut 36 [vr 92, vr f1, vi x2, vi x3, vi x4, vj y5, vr 9999, vj y7, vr 9999, vi x9] [] h Q := by
  refine r_iload (v := x9) f_21_36 rfl ?_
  refine r_iload (v := x4) f_21_38 rfl ?_
  refine r_br2 (t := 80) f_21_40 rfl cb_gt (fun c1 => ?_) (fun c1 => ?_)
  · refine r_iconst f_21_80 (by decide) ?_
    exact r_retz f_21_81 rfl (by decide) (k1 c1)
  · refine r_lload (v := y5) f_21_43 rfl ?_
    refine r_iload (v := x9) f_21_45 rfl ?_
    refine r_lushr f_21_47 ?_
    refine r_lconst (v := 1) f_21_48 rfl ?_
    refine r_land f_21_49 ?_
    refine r_lconst (v := 1) f_21_50 rfl ?_
    refine r_lcmp f_21_51 ?_
    refine r_br (t := 74) f_21_52 rfl lc_ne (fun c2 => ?_) (fun c2 => ?_)
    · refine r_iinc (v := x9) (w := x9 + 1) (ls' := [vr 92, vr f1, vi x2, vi x3, vi x4, vj y5, vr 9999, vj y7, vr 9999, vi (x9 + 1)]) f_21_74 rfl rfl (o2 c1 c2) rfl ?_
      refine r_goto (t := 36) f_21_77 rfl ?_
      exact (k3 c1 c2)
    · have c2 := Decidable.not_not.mp c2
      refine r_lload (v := y7) f_21_55 rfl ?_
      refine r_iload (v := x4) f_21_57 rfl ?_
      refine r_iload (v := x9) f_21_59 rfl ?_
      refine r_isub (u := x4 - x9) f_21_61 rfl (o4 c1 c2) ?_
      refine r_iload_n (v := x3) f_21_62 rfl ?_
      refine r_iadd (u := (x4 - x9) + x3) f_21_63 rfl (o5 c1 c2) ?_
      refine r_lushr f_21_64 ?_
      refine r_lconst (v := 1) f_21_65 rfl ?_
      refine r_land f_21_66 ?_
      refine r_lconst (v := 1) f_21_67 rfl ?_
      refine r_lcmp f_21_68 ?_
      refine r_br (t := 74) f_21_69 rfl lc_ne (fun c3 => ?_) (fun c3 => ?_)
      · refine r_iinc (v := x9) (w := x9 + 1) (ls' := [vr 92, vr f1, vi x2, vi x3, vi x4, vj y5, vr 9999, vj y7, vr 9999, vi (x9 + 1)]) f_21_74 rfl rfl (o6 c1 c2 c3) rfl ?_
        refine r_goto (t := 36) f_21_77 rfl ?_
        exact (k7 c1 c2 c3)
      · have c3 := Decidable.not_not.mp c3
        refine r_iconst f_21_72 (by decide) ?_
        exact r_retz f_21_73 rfl (by decide) (k8 c1 c2 c3)

theorem g_Bo_leastCut_0 {Q : PQ} {h : HP} {x2 : Int} {x3 : Int} {f1 : Nat} (h_f1 : isF f1)
    (k1 : Wp true i_Bo_leastCut 3 [vr 92, vr f1, vi x2, vi x3, vi 0] [] h Q) :
    Wp true i_Bo_leastCut 0 [vr 92, vr f1, vi x2, vi x3, vr 9999] [] h Q := by
  refine r_iconst f_20_0 (by decide) ?_
  refine r_istore (ls' := [vr 92, vr f1, vi x2, vi x3, vi 0]) f_20_1 (Nat.le_of_ble_eq_true rfl) rfl ?_
  exact k1

theorem g_Bo_leastCut_3 {Q : PQ} {h : HP} {x2 : Int} {x3 : Int} {x4 : Int} {f1 : Nat} (h_f1 : isF f1)
    (k1 : h f1 0 < x4 → Q (some (vi (-1))) h)
    (k2 : ¬ h f1 0 < x4 → Wp true i_Bo_canCut 0 [vr 92, vr f1, vi x2, vi x4, vi x3, vr 9999, vr 9999, vr 9999, vr 9999, vr 9999] [] h (fun r h' => Wp true i_Bo_leastCut 21 [vr 92, vr f1, vi x2, vi x3, vi x4] (r.toList ++ []) h' Q)) :
    Wp true i_Bo_leastCut 3 [vr 92, vr f1, vi x2, vi x3, vi x4] [] h Q := by
  refine r_iload (v := x4) f_20_3 rfl ?_
  refine r_aload_n (v := f1) f_20_5 rfl (F_n h_f1) ?_
  refine r_geti (v := h f1 0) f_20_6 (F_k h_f1) (by decide) rfl ?_
  refine r_br2 (t := 33) f_20_9 rfl cb_gt (fun c1 => ?_) (fun c1 => ?_)
  · refine r_iconst f_20_33 (by decide) ?_
    exact r_reti f_20_34 rfl (k1 c1)
  · refine r_aload_n (v := 92) f_20_12 rfl (by decide) ?_
    refine r_aload_n (v := f1) f_20_13 rfl (F_n h_f1) ?_
    refine r_iload_n (v := x2) f_20_14 rfl ?_
    refine r_iload (v := x4) f_20_15 rfl ?_
    refine r_iload_n (v := x3) f_20_17 rfl ?_
    exact r_callv (as := [vr 92, vr f1, vi x2, vi x4, vi x3]) (st' := []) (ls0 := [vr 92, vr f1, vi x2, vi x4, vi x3, vr 9999, vr 9999, vr 9999, vr 9999, vr 9999]) f_20_18 (by decide) rfl rfl (Nat.le_of_ble_eq_true rfl) (Nat.le_of_ble_eq_true rfl) ⟨_, _, rfl, rfl⟩ rfl (k2 c1)

theorem g_Bo_leastCut_21 {Q : PQ} {h : HP} {x2 : Int} {x3 : Int} {x4 : Int} {s0 : Int} {f1 : Nat} (h_f1 : isF f1)
    (o1 : s0 = 0 → -2147483648 ≤ x4 + 1 ∧ x4 + 1 ≤ 2147483647)
    (k2 : s0 = 0 → Wp true i_Bo_leastCut 3 [vr 92, vr f1, vi x2, vi x3, vi (x4 + 1)] [] h Q)
    (k3 : ¬ s0 = 0 → Q (some (vi x4)) h) :
    Wp true i_Bo_leastCut 21 [vr 92, vr f1, vi x2, vi x3, vi x4] [vi s0] h Q := by
  refine r_br (t := 27) f_20_21 rfl cb_eq (fun c1 => ?_) (fun c1 => ?_)
  · refine r_iinc (v := x4) (w := x4 + 1) (ls' := [vr 92, vr f1, vi x2, vi x3, vi (x4 + 1)]) f_20_27 rfl rfl (o1 c1) rfl ?_
    refine r_goto (t := 3) f_20_30 rfl ?_
    exact (k2 c1)
  · refine r_iload (v := x4) f_20_24 rfl ?_
    exact r_reti f_20_26 rfl (k3 c1)

theorem g_Bo_boardsInAll_0 {Q : PQ} {h : HP} {x2 : Int} {f1 : Nat} (h_f1 : isF f1)
    (k1 : 0 < h f1 1 → Wp true i_Bo_findSums 0 [vr 92, vr f1, vr 9999, vr 9999, vr 9999, vr 9999] [] h (fun r h' => Wp true i_Bo_boardsInAll 22 [vr 92, vr f1, vi x2, vr 9999, vr 9999, vr 9999] (r.toList ++ []) h' Q))
    (k2 : ¬ 0 < h f1 1 → ¬ x2 = 0 → Q (some (vi (-1))) h)
    (k3 : ¬ 0 < h f1 1 → x2 = 0 → Q (some (vi 0)) h) :
    Wp true i_Bo_boardsInAll 0 [vr 92, vr f1, vi x2, vr 9999, vr 9999, vr 9999] [] h Q := by
  refine r_aload_n (v := f1) f_17_0 rfl (F_n h_f1) ?_
  refine r_geti (v := h f1 1) f_17_1 (F_k h_f1) (by decide) rfl ?_
  refine r_br (t := 17) f_17_4 rfl cb_gt (fun c1 => ?_) (fun c1 => ?_)
  · refine r_aload_n (v := 92) f_17_17 rfl (by decide) ?_
    refine r_aload_n (v := f1) f_17_18 rfl (F_n h_f1) ?_
    exact r_callv (as := [vr 92, vr f1]) (st' := []) (ls0 := [vr 92, vr f1, vr 9999, vr 9999, vr 9999, vr 9999]) f_17_19 (by decide) rfl rfl (Nat.le_of_ble_eq_true rfl) (Nat.le_of_ble_eq_true rfl) ⟨_, _, rfl, rfl⟩ rfl (k1 c1)
  · refine r_iload_n (v := x2) f_17_7 rfl ?_
    refine r_br (t := 15) f_17_8 rfl cb_ne (fun c2 => ?_) (fun c2 => ?_)
    · refine r_iconst f_17_15 (by decide) ?_
      exact r_reti f_17_16 rfl (k2 c1 c2)
    · have c2 := Decidable.not_not.mp c2
      refine r_iconst f_17_11 (by decide) ?_
      refine r_goto (t := 16) f_17_12 rfl ?_
      exact r_reti f_17_16 rfl (k3 c1 c2)

theorem g_Bo_boardsInAll_22 {Q : PQ} {h : HP} {x2 : Int} {f1 : Nat} (h_f1 : isF f1)
    (k1 : Wp true i_Bo_boardsInAll 27 [vr 92, vr f1, vi x2, vi 0, vi 0, vr 9999] [] h Q) :
    Wp true i_Bo_boardsInAll 22 [vr 92, vr f1, vi x2, vr 9999, vr 9999, vr 9999] [] h Q := by
  refine r_iconst f_17_22 (by decide) ?_
  refine r_istore_n (ls' := [vr 92, vr f1, vi x2, vi 0, vr 9999, vr 9999]) f_17_23 (Nat.le_of_ble_eq_true rfl) rfl ?_
  refine r_iconst f_17_24 (by decide) ?_
  refine r_istore (ls' := [vr 92, vr f1, vi x2, vi 0, vi 0, vr 9999]) f_17_25 (Nat.le_of_ble_eq_true rfl) rfl ?_
  exact k1

theorem g_Bo_boardsInAll_27 {Q : PQ} {h : HP} {x2 : Int} {x3 : Int} {x4 : Int} {j5 : AV} {f1 : Nat} (h_f1 : isF f1)
    (k1 : h f1 1 ≤ x4 → Q (some (vi x3)) h)
    (k2 : ¬ h f1 1 ≤ x4 → Wp true i_Bo_leastCut 0 [vr 92, vr f1, vi x4, vi x2, vr 9999] [] h (fun r h' => Wp true i_Bo_boardsInAll 44 [vr 92, vr f1, vi x2, vi x3, vi x4, j5] (r.toList ++ []) h' Q)) :
    Wp true i_Bo_boardsInAll 27 [vr 92, vr f1, vi x2, vi x3, vi x4, j5] [] h Q := by
  refine r_iload (v := x4) f_17_27 rfl ?_
  refine r_aload_n (v := f1) f_17_29 rfl (F_n h_f1) ?_
  refine r_geti (v := h f1 1) f_17_30 (F_k h_f1) (by decide) rfl ?_
  refine r_br2 (t := 64) f_17_33 rfl cb_ge (fun c1 => ?_) (fun c1 => ?_)
  · refine r_iload_n (v := x3) f_17_64 rfl ?_
    exact r_reti f_17_65 rfl (k1 c1)
  · refine r_aload_n (v := 92) f_17_36 rfl (by decide) ?_
    refine r_aload_n (v := f1) f_17_37 rfl (F_n h_f1) ?_
    refine r_iload (v := x4) f_17_38 rfl ?_
    refine r_iload_n (v := x2) f_17_40 rfl ?_
    exact r_callv (as := [vr 92, vr f1, vi x4, vi x2]) (st' := []) (ls0 := [vr 92, vr f1, vi x4, vi x2, vr 9999]) f_17_41 (by decide) rfl rfl (Nat.le_of_ble_eq_true rfl) (Nat.le_of_ble_eq_true rfl) ⟨_, _, rfl, rfl⟩ rfl (k2 c1)

theorem g_Bo_boardsInAll_44 {Q : PQ} {h : HP} {x2 : Int} {x3 : Int} {x4 : Int} {j5 : AV} {s0 : Int} {f1 : Nat} (h_f1 : isF f1)
    (o1 : 0 ≤ s0 → -2147483648 ≤ x3 + s0 ∧ x3 + s0 ≤ 2147483647)
    (o2 : 0 ≤ s0 → -2147483648 ≤ x4 + 1 ∧ x4 + 1 ≤ 2147483647)
    (k3 : 0 ≤ s0 → Wp true i_Bo_boardsInAll 27 [vr 92, vr f1, vi x2, vi (x3 + s0), vi (x4 + 1), vi s0] [] h Q)
    (k4 : ¬ 0 ≤ s0 → Q (some (vi (-1))) h) :
    Wp true i_Bo_boardsInAll 44 [vr 92, vr f1, vi x2, vi x3, vi x4, j5] [vi s0] h Q := by
  refine r_istore (ls' := [vr 92, vr f1, vi x2, vi x3, vi x4, vi s0]) f_17_44 (Nat.le_of_ble_eq_true rfl) rfl ?_
  refine r_iload (v := s0) f_17_46 rfl ?_
  refine r_br (t := 53) f_17_48 rfl cb_ge (fun c1 => ?_) (fun c1 => ?_)
  · refine r_iload_n (v := x3) f_17_53 rfl ?_
    refine r_iload (v := s0) f_17_54 rfl ?_
    refine r_iadd (u := x3 + s0) f_17_56 rfl (o1 c1) ?_
    refine r_istore_n (ls' := [vr 92, vr f1, vi x2, vi (x3 + s0), vi x4, vi s0]) f_17_57 (Nat.le_of_ble_eq_true rfl) rfl ?_
    refine r_iinc (v := x4) (w := x4 + 1) (ls' := [vr 92, vr f1, vi x2, vi (x3 + s0), vi (x4 + 1), vi s0]) f_17_58 rfl rfl (o2 c1) rfl ?_
    refine r_goto (t := 27) f_17_61 rfl ?_
    exact (k3 c1)
  · refine r_iconst f_17_51 (by decide) ?_
    exact r_reti f_17_52 rfl (k4 c1)

theorem g_M_isPossible_0 {Q : PQ} {h : HP} {x1 : Int} {x2 : Int} {x3 : Int} 
    (k1 : Wp true i_M_isPossible 3 [vr 103, vi x1, vi x2, vi x3, vi x2] [] h Q) :
    Wp true i_M_isPossible 0 [vr 103, vi x1, vi x2, vi x3, vr 9999] [] h Q := by
  refine r_iload_n (v := x2) f_354_0 rfl ?_
  refine r_istore (ls' := [vr 103, vi x1, vi x2, vi x3, vi x2]) f_354_1 (Nat.le_of_ble_eq_true rfl) rfl ?_
  exact k1

theorem g_M_isPossible_3 {Q : PQ} {h : HP} {x1 : Int} {x2 : Int} {x3 : Int} {x4 : Int} 
    (k1 : x3 < x4 → Q (some (vi 0)) h)
    (o2 : ¬ x3 < x4 → -2147483648 ≤ 640 * x1 ∧ 640 * x1 ≤ 2147483647)
    (o3 : ¬ x3 < x4 → -2147483648 ≤ 64 * x2 ∧ 64 * x2 ≤ 2147483647)
    (o4 : ¬ x3 < x4 → -2147483648 ≤ (640 * x1) + (64 * x2) ∧ (640 * x1) + (64 * x2) ≤ 2147483647)
    (o5 : ¬ x3 < x4 → -2147483648 ≤ ((640 * x1) + (64 * x2)) + x4 ∧ ((640 * x1) + (64 * x2)) + x4 ≤ 2147483647)
    (o6 : ¬ x3 < x4 → 0 ≤ ((640 * x1) + (64 * x2)) + x4 ∧ ((640 * x1) + (64 * x2)) + x4 < 4480)
    (o7 : ¬ x3 < x4 → h 116 (((640 * x1) + (64 * x2)) + x4).toNat ≤ 0 → -2147483648 ≤ x4 + 1 ∧ x4 + 1 ≤ 2147483647)
    (k8 : ¬ x3 < x4 → h 116 (((640 * x1) + (64 * x2)) + x4).toNat ≤ 0 → Wp true i_M_isPossible 3 [vr 103, vi x1, vi x2, vi x3, vi (x4 + 1)] [] h Q)
    (o9 : ¬ x3 < x4 → ¬ h 116 (((640 * x1) + (64 * x2)) + x4).toNat ≤ 0 → -2147483648 ≤ ((640 * x1) + (64 * x2)) + x3 ∧ ((640 * x1) + (64 * x2)) + x3 ≤ 2147483647)
    (o10 : ¬ x3 < x4 → ¬ h 116 (((640 * x1) + (64 * x2)) + x4).toNat ≤ 0 → -2147483648 ≤ (((640 * x1) + (64 * x2)) + x3) - x4 ∧ (((640 * x1) + (64 * x2)) + x3) - x4 ≤ 2147483647)
    (o11 : ¬ x3 < x4 → ¬ h 116 (((640 * x1) + (64 * x2)) + x4).toNat ≤ 0 → -2147483648 ≤ ((((640 * x1) + (64 * x2)) + x3) - x4) + x2 ∧ ((((640 * x1) + (64 * x2)) + x3) - x4) + x2 ≤ 2147483647)
    (o12 : ¬ x3 < x4 → ¬ h 116 (((640 * x1) + (64 * x2)) + x4).toNat ≤ 0 → 0 ≤ ((((640 * x1) + (64 * x2)) + x3) - x4) + x2 ∧ ((((640 * x1) + (64 * x2)) + x3) - x4) + x2 < 4480)
    (o13 : ¬ x3 < x4 → ¬ h 116 (((640 * x1) + (64 * x2)) + x4).toNat ≤ 0 → h 117 (((((640 * x1) + (64 * x2)) + x3) - x4) + x2).toNat ≤ 0 → -2147483648 ≤ x4 + 1 ∧ x4 + 1 ≤ 2147483647)
    (k14 : ¬ x3 < x4 → ¬ h 116 (((640 * x1) + (64 * x2)) + x4).toNat ≤ 0 → h 117 (((((640 * x1) + (64 * x2)) + x3) - x4) + x2).toNat ≤ 0 → Wp true i_M_isPossible 3 [vr 103, vi x1, vi x2, vi x3, vi (x4 + 1)] [] h Q)
    (k15 : ¬ x3 < x4 → ¬ h 116 (((640 * x1) + (64 * x2)) + x4).toNat ≤ 0 → ¬ h 117 (((((640 * x1) + (64 * x2)) + x3) - x4) + x2).toNat ≤ 0 → Q (some (vi 1)) h) :
    Wp true i_M_isPossible 3 [vr 103, vi x1, vi x2, vi x3, vi x4] [] h Q := by
  refine r_iload (v := x4) f_354_3 rfl ?_
  refine r_iload_n (v := x3) f_354_5 rfl ?_
  refine r_br2 (t := 67) f_354_6 rfl cb_gt (fun c1 => ?_) (fun c1 => ?_)
  · refine r_iconst f_354_67 (by decide) ?_
    exact r_retz f_354_68 rfl (by decide) (k1 c1)
  · refine r_aload_n (v := 103) f_354_9 rfl (by decide) ?_
    refine r_getr (q := 116) f_354_10 rfl (by decide) (Or.inl rfl) rfl ?_
    refine r_sipush f_354_13 (by decide) ?_
    refine r_iload_n (v := x1) f_354_16 rfl ?_
    refine r_imul (u := 640 * x1) f_354_17 rfl (o2 c1) ?_
    refine r_bipush f_354_18 (by decide) ?_
    refine r_iload_n (v := x2) f_354_20 rfl ?_
    refine r_imul (u := 64 * x2) f_354_21 rfl (o3 c1) ?_
    refine r_iadd (u := (640 * x1) + (64 * x2)) f_354_22 rfl (o4 c1) ?_
    refine r_iload (v := x4) f_354_23 rfl ?_
    refine r_iadd (u := ((640 * x1) + (64 * x2)) + x4) f_354_25 rfl (o5 c1) ?_
    refine r_laload (n := 4480) (v := h 116 (((640 * x1) + (64 * x2)) + x4).toNat) f_354_26 ⟨rfl, rfl⟩ (o6 c1) rfl ?_
    refine r_lconst (v := 0) f_354_27 rfl ?_
    refine r_lcmp f_354_28 ?_
    refine r_br (t := 61) f_354_29 rfl lc_le (fun c2 => ?_) (fun c2 => ?_)
    · refine r_iinc (v := x4) (w := x4 + 1) (ls' := [vr 103, vi x1, vi x2, vi x3, vi (x4 + 1)]) f_354_61 rfl rfl (o7 c1 c2) rfl ?_
      refine r_goto (t := 3) f_354_64 rfl ?_
      exact (k8 c1 c2)
    · refine r_aload_n (v := 103) f_354_32 rfl (by decide) ?_
      refine r_getr (q := 117) f_354_33 rfl (by decide) (Or.inl rfl) rfl ?_
      refine r_sipush f_354_36 (by decide) ?_
      refine r_iload_n (v := x1) f_354_39 rfl ?_
      refine r_imul (u := 640 * x1) f_354_40 rfl (o2 c1) ?_
      refine r_bipush f_354_41 (by decide) ?_
      refine r_iload_n (v := x2) f_354_43 rfl ?_
      refine r_imul (u := 64 * x2) f_354_44 rfl (o3 c1) ?_
      refine r_iadd (u := (640 * x1) + (64 * x2)) f_354_45 rfl (o4 c1) ?_
      refine r_iload_n (v := x3) f_354_46 rfl ?_
      refine r_iadd (u := ((640 * x1) + (64 * x2)) + x3) f_354_47 rfl (o9 c1 c2) ?_
      refine r_iload (v := x4) f_354_48 rfl ?_
      refine r_isub (u := (((640 * x1) + (64 * x2)) + x3) - x4) f_354_50 rfl (o10 c1 c2) ?_
      refine r_iload_n (v := x2) f_354_51 rfl ?_
      refine r_iadd (u := ((((640 * x1) + (64 * x2)) + x3) - x4) + x2) f_354_52 rfl (o11 c1 c2) ?_
      refine r_laload (n := 4480) (v := h 117 (((((640 * x1) + (64 * x2)) + x3) - x4) + x2).toNat) f_354_53 ⟨rfl, rfl⟩ (o12 c1 c2) rfl ?_
      refine r_lconst (v := 0) f_354_54 rfl ?_
      refine r_lcmp f_354_55 ?_
      refine r_br (t := 61) f_354_56 rfl lc_le (fun c3 => ?_) (fun c3 => ?_)
      · refine r_iinc (v := x4) (w := x4 + 1) (ls' := [vr 103, vi x1, vi x2, vi x3, vi (x4 + 1)]) f_354_61 rfl rfl (o13 c1 c2 c3) rfl ?_
        refine r_goto (t := 3) f_354_64 rfl ?_
        exact (k14 c1 c2 c3)
      · refine r_iconst f_354_59 (by decide) ?_
        exact r_retz f_354_60 rfl (by decide) (k15 c1 c2 c3)

theorem g_C_sure_0 {Q : PQ} {h : HP} {x1 : Int} 
    (k1 : (0 ≤ x1 ∧ x1 ≤ 63) → Wp true i_Bo_boardsInAll 0 [vr 92, vr 10, vi x1, vr 9999, vr 9999, vr 9999] [] h (fun r h' => Wp true i_C_sure 29 [vr 0, vi x1] (r.toList ++ [vr 0]) h' Q))
    (k2 : ¬ (0 ≤ x1 ∧ x1 ≤ 63) → Q (some (vi (-1))) (hs h 0 0 1)) :
    Wp true i_C_sure 0 [vr 0, vi x1] [] h Q := by
  refine r_iload_n (v := x1) f_196_0 rfl ?_
  refine r_iconst f_196_1 (by decide) ?_
  refine r_bipush f_196_2 (by decide) ?_
  refine r_calls (as := [vi x1, vi 0, vi 63]) (st' := []) (ls0 := [vi x1, vi 0, vi 63]) f_196_4 (by decide) (by decide) rfl rfl (Nat.le_of_ble_eq_true rfl) (Nat.le_of_ble_eq_true rfl) rfl ?_
  refine c_C_within  ?_
  show Wp true i_C_sure 7 [vr 0, vi x1] [vi (bi (0 ≤ x1 ∧ x1 ≤ 63))] h Q
  refine r_br (t := 16) f_196_7 rfl cb_bt (fun c1 => ?_) (fun c1 => ?_)
  · refine r_aload_n (v := 0) f_196_16 rfl (by decide) ?_
    refine r_aload_n (v := 0) f_196_17 rfl (by decide) ?_
    refine r_getr (q := 92) f_196_18 rfl (by decide) (Or.inl rfl) rfl ?_
    refine r_aload_n (v := 0) f_196_21 rfl (by decide) ?_
    refine r_getr (q := 10) f_196_22 rfl (by decide) (Or.inl rfl) rfl ?_
    refine r_iload_n (v := x1) f_196_25 rfl ?_
    exact r_callv (as := [vr 92, vr 10, vi x1]) (st' := [vr 0]) (ls0 := [vr 92, vr 10, vi x1, vr 9999, vr 9999, vr 9999]) f_196_26 (by decide) rfl rfl (Nat.le_of_ble_eq_true rfl) (Nat.le_of_ble_eq_true rfl) ⟨_, _, rfl, rfl⟩ rfl (k1 c1)
  · refine r_aload_n (v := 0) f_196_10 rfl (by decide) ?_
    refine r_iconst f_196_11 (by decide) ?_
    refine r_callv (as := [vr 0, vi 1]) (st' := []) (ls0 := [vr 0, vi 1]) f_196_12 (by decide) rfl rfl (Nat.le_of_ble_eq_true rfl) (Nat.le_of_ble_eq_true rfl) ⟨_, _, rfl, rfl⟩ rfl ?_
    refine c_C_refuse  ?_
    show Wp true i_C_sure 15 [vr 0, vi x1] [vi (-1)] (hs h 0 0 1) Q
    exact r_reti f_196_15 rfl (k2 c1)

theorem g_C_sure_29 {Q : PQ} {h : HP} {x1 : Int} {s1 : Int} 
    (o1 : -1 ≤ s1)
    (k2 : Q (some (vi s1)) (hs h 0 0 (if s1 < 0 then 6 else 0))) :
    Wp true i_C_sure 29 [vr 0, vi x1] [vi s1, vr 0] h Q := by
  refine r_callv (as := [vr 0, vi s1]) (st' := []) (ls0 := [vr 0, vi s1]) f_196_29 (by decide) rfl rfl (Nat.le_of_ble_eq_true rfl) (Nat.le_of_ble_eq_true rfl) ⟨_, _, rfl, rfl⟩ rfl ?_
  refine c_C_answerOrNone o1 ?_
  show Wp true i_C_sure 32 [vr 0, vi x1] [vi s1] (hs h 0 0 (if s1 < 0 then 6 else 0)) Q
  exact r_reti f_196_32 rfl k2

theorem g_M_sure_0 {Q : PQ} {h : HP} {x1 : Int} 
    (k1 : (0 ≤ x1 ∧ x1 ≤ 63) → ¬ h 104 1 = 0 → Wp true i_M_laysLines 0 [vr 103, vi x1, vr 9999, vr 9999, vr 9999, vr 9999, vr 9999, vr 9999, vr 9999, vr 9999, vr 9999, vr 9999, vr 9999] [] h (fun r h' => Wp true i_M_sure 51 [vr 103, vi x1, vr 9999, vr 9999, vr 9999] (r.toList ++ []) h' Q))
    (k2 : (0 ≤ x1 ∧ x1 ≤ 63) → h 104 1 = 0 → ¬ x1 = 0 → Q (some (vi (-1))) (hs h 103 2 6))
    (k3 : (0 ≤ x1 ∧ x1 ≤ 63) → h 104 1 = 0 → x1 = 0 → Q (some (vi 0)) (hs h 103 2 0))
    (k4 : ¬ (0 ≤ x1 ∧ x1 ≤ 63) → Q (some (vi (-1))) (hs h 103 2 1)) :
    Wp true i_M_sure 0 [vr 103, vi x1, vr 9999, vr 9999, vr 9999] [] h Q := by
  refine r_iload_n (v := x1) f_353_0 rfl ?_
  refine r_i2l f_353_1 ?_
  refine r_lconst (v := 0) f_353_2 rfl ?_
  refine r_ldc2_w f_353_3 (by decide) ?_
  refine r_calls (as := [vj x1, vj 0, vj 63]) (st' := []) (ls0 := [vj x1, vr 9999, vj 0, vr 9999, vj 63, vr 9999]) f_353_6 (by decide) (by decide) rfl rfl (Nat.le_of_ble_eq_true rfl) (Nat.le_of_ble_eq_true rfl) rfl ?_
  refine c_M_isFrom  ?_
  show Wp true i_M_sure 9 [vr 103, vi x1, vr 9999, vr 9999, vr 9999] [vi (bi (0 ≤ x1 ∧ x1 ≤ 63))] h Q
  refine r_br (t := 18) f_353_9 rfl cb_bt (fun c1 => ?_) (fun c1 => ?_)
  · refine r_aload_n (v := 103) f_353_18 rfl (by decide) ?_
    refine r_getr (q := 104) f_353_19 rfl (by decide) (Or.inl rfl) rfl ?_
    refine r_iconst f_353_22 (by decide) ?_
    refine r_iaload (n := 3000) (v := h 104 1) f_353_23 ⟨rfl, rfl⟩ (by decide) rfl ?_
    refine r_br (t := 46) f_353_24 rfl cb_ne (fun c2 => ?_) (fun c2 => ?_)
    · refine r_aload_n (v := 103) f_353_46 rfl (by decide) ?_
      refine r_iload_n (v := x1) f_353_47 rfl ?_
      exact r_callv (as := [vr 103, vi x1]) (st' := []) (ls0 := [vr 103, vi x1, vr 9999, vr 9999, vr 9999, vr 9999, vr 9999, vr 9999, vr 9999, vr 9999, vr 9999, vr 9999, vr 9999]) f_353_48 (by decide) rfl rfl (Nat.le_of_ble_eq_true rfl) (Nat.le_of_ble_eq_true rfl) ⟨_, _, rfl, rfl⟩ rfl (k1 c1 c2)
    · have c2 := Decidable.not_not.mp c2
      refine r_iload_n (v := x1) f_353_27 rfl ?_
      refine r_br (t := 39) f_353_28 rfl cb_ne (fun c3 => ?_) (fun c3 => ?_)
      · refine r_aload_n (v := 103) f_353_39 rfl (by decide) ?_
        refine r_bipush f_353_40 (by decide) ?_
        refine r_callv (as := [vr 103, vi 6]) (st' := []) (ls0 := [vr 103, vi 6]) f_353_42 (by decide) rfl rfl (Nat.le_of_ble_eq_true rfl) (Nat.le_of_ble_eq_true rfl) ⟨_, _, rfl, rfl⟩ rfl ?_
        refine c_M_refuse  ?_
        show Wp true i_M_sure 45 [vr 103, vi x1, vr 9999, vr 9999, vr 9999] [vi (-1)] (hs h 103 2 6) Q
        exact r_reti f_353_45 rfl (k2 c1 c2 c3)
      · have c3 := Decidable.not_not.mp c3
        refine r_aload_n (v := 103) f_353_31 rfl (by decide) ?_
        refine r_iconst f_353_32 (by decide) ?_
        refine r_callv (as := [vr 103, vi 0]) (st' := []) (ls0 := [vr 103, vi 0]) f_353_33 (by decide) rfl rfl (Nat.le_of_ble_eq_true rfl) (Nat.le_of_ble_eq_true rfl) ⟨_, _, rfl, rfl⟩ rfl ?_
        refine c_M_gives  ?_
        show Wp true i_M_sure 36 [vr 103, vi x1, vr 9999, vr 9999, vr 9999] [vi 0] (hs h 103 2 0) Q
        refine r_goto (t := 45) f_353_36 rfl ?_
        exact r_reti f_353_45 rfl (k3 c1 c2 c3)
  · refine r_aload_n (v := 103) f_353_12 rfl (by decide) ?_
    refine r_iconst f_353_13 (by decide) ?_
    refine r_callv (as := [vr 103, vi 1]) (st' := []) (ls0 := [vr 103, vi 1]) f_353_14 (by decide) rfl rfl (Nat.le_of_ble_eq_true rfl) (Nat.le_of_ble_eq_true rfl) ⟨_, _, rfl, rfl⟩ rfl ?_
    refine c_M_refuse  ?_
    show Wp true i_M_sure 17 [vr 103, vi x1, vr 9999, vr 9999, vr 9999] [vi (-1)] (hs h 103 2 1) Q
    exact r_reti f_353_17 rfl (k4 c1)

theorem g_M_sure_51 {Q : PQ} {h : HP} {x1 : Int} {s0 : Int} 
    (k1 : ¬ s0 = 0 → Wp true i_M_sure 67 [vr 103, vi x1, vi 0, vi 0, vr 9999] [] h Q)
    (k2 : s0 = 0 → Q (some (vi (-1))) (hs h 103 2 6)) :
    Wp true i_M_sure 51 [vr 103, vi x1, vr 9999, vr 9999, vr 9999] [vj s0] h Q := by
  refine r_lconst (v := 0) f_353_51 rfl ?_
  refine r_lcmp f_353_52 ?_
  refine r_br (t := 63) f_353_53 rfl lc_ne (fun c1 => ?_) (fun c1 => ?_)
  · refine r_iconst f_353_63 (by decide) ?_
    refine r_istore_n (ls' := [vr 103, vi x1, vi 0, vr 9999, vr 9999]) f_353_64 (Nat.le_of_ble_eq_true rfl) rfl ?_
    refine r_iconst f_353_65 (by decide) ?_
    refine r_istore_n (ls' := [vr 103, vi x1, vi 0, vi 0, vr 9999]) f_353_66 (Nat.le_of_ble_eq_true rfl) rfl ?_
    exact (k1 c1)
  · have c1 := Decidable.not_not.mp c1
    refine r_aload_n (v := 103) f_353_56 rfl (by decide) ?_
    refine r_bipush f_353_57 (by decide) ?_
    refine r_callv (as := [vr 103, vi 6]) (st' := []) (ls0 := [vr 103, vi 6]) f_353_59 (by decide) rfl rfl (Nat.le_of_ble_eq_true rfl) (Nat.le_of_ble_eq_true rfl) ⟨_, _, rfl, rfl⟩ rfl ?_
    refine c_M_refuse  ?_
    show Wp true i_M_sure 62 [vr 103, vi x1, vr 9999, vr 9999, vr 9999] [vi (-1)] (hs h 103 2 6) Q
    exact r_reti f_353_62 rfl (k2 c1)

theorem g_M_sure_67 {Q : PQ} {h : HP} {x1 : Int} {x2 : Int} {x3 : Int} {j4 : AV} 
    (k1 : h 104 1 ≤ x3 → Q (some (vi x2)) (hs h 103 2 0))
    (k2 : ¬ h 104 1 ≤ x3 → Wp true i_M_sure 80 [vr 103, vi x1, vi x2, vi x3, vi 0] [] h Q) :
    Wp true i_M_sure 67 [vr 103, vi x1, vi x2, vi x3, j4] [] h Q := by
  refine r_iload_n (v := x3) f_353_67 rfl ?_
  refine r_aload_n (v := 103) f_353_68 rfl (by decide) ?_
  refine r_getr (q := 104) f_353_69 rfl (by decide) (Or.inl rfl) rfl ?_
  refine r_iconst f_353_72 (by decide) ?_
  refine r_iaload (n := 3000) (v := h 104 1) f_353_73 ⟨rfl, rfl⟩ (by decide) rfl ?_
  refine r_br2 (t := 108) f_353_74 rfl cb_ge (fun c1 => ?_) (fun c1 => ?_)
  · refine r_aload_n (v := 103) f_353_108 rfl (by decide) ?_
    refine r_iload_n (v := x2) f_353_109 rfl ?_
    refine r_callv (as := [vr 103, vi x2]) (st' := []) (ls0 := [vr 103, vi x2]) f_353_110 (by decide) rfl rfl (Nat.le_of_ble_eq_true rfl) (Nat.le_of_ble_eq_true rfl) ⟨_, _, rfl, rfl⟩ rfl ?_
    refine c_M_gives  ?_
    show Wp true i_M_sure 113 [vr 103, vi x1, vi x2, vi x3, j4] [vi x2] (hs h 103 2 0) Q
    exact r_reti f_353_113 rfl (k1 c1)
  · refine r_iconst f_353_77 (by decide) ?_
    refine r_istore (ls' := [vr 103, vi x1, vi x2, vi x3, vi 0]) f_353_78 (Nat.le_of_ble_eq_true rfl) rfl ?_
    exact (k2 c1)

theorem g_M_sure_80 {Q : PQ} {h : HP} {x1 : Int} {x2 : Int} {x3 : Int} {x4 : Int} 
    (k1 : Wp true i_M_isPossible 0 [vr 103, vi x3, vi x4, vi x1, vr 9999] [] h (fun r h' => Wp true i_M_sure 88 [vr 103, vi x1, vi x2, vi x3, vi x4] (r.toList ++ []) h' Q)) :
    Wp true i_M_sure 80 [vr 103, vi x1, vi x2, vi x3, vi x4] [] h Q := by
  refine r_aload_n (v := 103) f_353_80 rfl (by decide) ?_
  refine r_iload_n (v := x3) f_353_81 rfl ?_
  refine r_iload (v := x4) f_353_82 rfl ?_
  refine r_iload_n (v := x1) f_353_84 rfl ?_
  exact r_callv (as := [vr 103, vi x3, vi x4, vi x1]) (st' := []) (ls0 := [vr 103, vi x3, vi x4, vi x1, vr 9999]) f_353_85 (by decide) rfl rfl (Nat.le_of_ble_eq_true rfl) (Nat.le_of_ble_eq_true rfl) ⟨_, _, rfl, rfl⟩ rfl k1

theorem g_M_sure_88 {Q : PQ} {h : HP} {x1 : Int} {x2 : Int} {x3 : Int} {x4 : Int} {s0 : Int} 
    (o1 : ¬ s0 = 0 → -2147483648 ≤ x2 + x4 ∧ x2 + x4 ≤ 2147483647)
    (o2 : ¬ s0 = 0 → -2147483648 ≤ x3 + 1 ∧ x3 + 1 ≤ 2147483647)
    (k3 : ¬ s0 = 0 → Wp true i_M_sure 67 [vr 103, vi x1, vi (x2 + x4), vi (x3 + 1), vi x4] [] h Q)
    (o4 : s0 = 0 → -2147483648 ≤ x4 + 1 ∧ x4 + 1 ≤ 2147483647)
    (k5 : s0 = 0 → Wp true i_M_sure 80 [vr 103, vi x1, vi x2, vi x3, vi (x4 + 1)] [] h Q) :
    Wp true i_M_sure 88 [vr 103, vi x1, vi x2, vi x3, vi x4] [vi s0] h Q := by
  refine r_br (t := 97) f_353_88 rfl cb_ne (fun c1 => ?_) (fun c1 => ?_)
  · refine r_iload_n (v := x2) f_353_97 rfl ?_
    refine r_iload (v := x4) f_353_98 rfl ?_
    refine r_iadd (u := x2 + x4) f_353_100 rfl (o1 c1) ?_
    refine r_istore_n (ls' := [vr 103, vi x1, vi (x2 + x4), vi x3, vi x4]) f_353_101 (Nat.le_of_ble_eq_true rfl) rfl ?_
    refine r_iinc (v := x3) (w := x3 + 1) (ls' := [vr 103, vi x1, vi (x2 + x4), vi (x3 + 1), vi x4]) f_353_102 rfl rfl (o2 c1) rfl ?_
    refine r_goto (t := 67) f_353_105 rfl ?_
    exact (k3 c1)
  · have c1 := Decidable.not_not.mp c1
    refine r_iinc (v := x4) (w := x4 + 1) (ls' := [vr 103, vi x1, vi x2, vi x3, vi (x4 + 1)]) f_353_91 rfl rfl (o4 c1) rfl ?_
    refine r_goto (t := 80) f_353_94 rfl ?_
    exact (k5 c1)

/-! ===== SURE ===== -/
theorem sumF_pos {f : Nat → Int} : ∀ (d i : Nat), (∀ j, i ≤ j → j < i + d → 0 ≤ f j) → (0 < sumF f d i ↔ ∃ j, i ≤ j ∧ j < i + d ∧ 0 < f j) := by
  intro d
  induction d with
  | zero =>
    intro i _
    simp only [sumF]
    exact ⟨fun q => by omega, fun ⟨j, a, b, _⟩ => by omega⟩
  | succ d ih =>
    intro i h
    have h0 := h i (Nat.le_refl _) (by omega)
    have ih := ih (i + 1) (fun j a b => h j (by omega) (by omega))
    have nn : 0 ≤ sumF f d (i + 1) := by
      by_cases z : 0 < sumF f d (i + 1)
      · omega
      · have := sumF_rng (f := fun j => if 0 ≤ f j then 0 else f j) (a := 0) (b := 0) d (i + 1) (fun j a b => by
          have := h j (by omega) (by omega)
          rw [if_pos this]; omega)
        by_cases y : ∃ j, i + 1 ≤ j ∧ j < i + 1 + d ∧ 0 < f j
        · exact absurd (ih.2 y) z
        · rw [sumF_zero d (i + 1) (fun j a b => by
            have := h j (by omega) (by omega)
            by_cases x : 0 < f j
            · exact absurd ⟨j, a, b, x⟩ y
            · omega)]
          exact Int.le_refl _
    simp only [sumF]
    constructor
    · intro q
      by_cases z : 0 < f i
      · exact ⟨i, Nat.le_refl _, by omega, z⟩
      · obtain ⟨j, a, b, c⟩ := ih.1 (by omega)
        exact ⟨j, by omega, by omega, c⟩
    · rintro ⟨j, a, b, c⟩
      by_cases z : j = i
      · subst z; omega
      · have := ih.2 ⟨j, by omega, by omega, c⟩
        omega
theorem upL_s {R : HP} (W : WR R) {k l n : Nat} : 0 < upL R (k + 1) l n ↔ l ≤ n ∧ ∃ o : Nat, (o : Int) ≤ R 0 0 ∧ nearK R l o ∧ 0 < upL R k o (n - l) := by
  have w := W.1
  simp only [upL]
  by_cases z : l ≤ n
  · rw [if_pos z, sumF_pos _ _ (fun j _ _ => by
      have := upL_rg W k j (n - l)
      by_cases y : nearK R l j
      · rw [cho_t y]; exact this.1
      · rw [cho_f y]; exact Int.le_refl _)]
    constructor
    · rintro ⟨o, _, a, b⟩
      by_cases y : nearK R l o
      · rw [cho_t y] at b; exact ⟨z, o, by omega, y, b⟩
      · rw [cho_f y] at b; omega
    · rintro ⟨_, o, a, y, b⟩
      exact ⟨o, by omega, by omega, by rw [cho_t y]; exact b⟩
  · rw [if_neg z]
    exact ⟨fun q => by omega, fun q => absurd q.1 z⟩
theorem upL_0p {R : HP} {l n : Nat} : 0 < upL R 0 l n ↔ n = l := by
  simp only [upL]
  by_cases z : n = l
  · rw [if_pos z]; exact ⟨fun _ => z, fun _ => by decide⟩
  · rw [if_neg z]; exact ⟨fun q => absurd q (by decide), fun q => absurd q z⟩
theorem upL_le {R : HP} (W : WR R) {k l n : Nat} (h : 0 < upL R k l n) : l ≤ n := by
  cases k with
  | zero => have := upL_0p.1 h; omega
  | succ k => exact ((upL_s W).1 h).1
def posS (R : HP) (b r l : Nat) : Prop := ∃ n : Nat, l ≤ n ∧ n ≤ b ∧ 0 < upL R r l n ∧ 0 < upL R ((R 0 1).toNat - 1 - r) l (b - n + l)
theorem liN_pos {R : HP} (W : WR R) (b : Nat) (hd : 0 < R 0 1) : 0 < liN R b ↔ ∃ l : Nat, (l : Int) ≤ R 0 0 ∧ 0 < upL R ((R 0 1).toNat - 1) l b := by
  have w := W.1
  unfold liN
  rw [if_pos hd, sumF_pos _ _ (fun j _ _ => (upL_rg W _ _ _).1)]
  exact ⟨fun ⟨j, _, a, c⟩ => ⟨j, by omega, c⟩, fun ⟨j, a, c⟩ => ⟨j, by omega, by omega, c⟩⟩
theorem meet {R : HP} (W : WR R) {b : Nat} (hd : 0 < R 0 1) (h : 0 < liN R b) : ∀ d : Nat, (d : Int) < R 0 1 → ∃ l n s : Nat, (l : Int) ≤ R 0 0 ∧ 0 < upL R ((R 0 1).toNat - 1 - d) l n ∧ 0 < upL R d l s ∧ n + s = b + l := by
  intro d
  induction d with
  | zero =>
    intro _
    obtain ⟨l, a, c⟩ := (liN_pos W b hd).1 h
    exact ⟨l, b, l, a, c, upL_0p.2 rfl, rfl⟩
  | succ d ih =>
    intro hd2
    obtain ⟨l, n, s, a, p, q, e⟩ := ih (by omega)
    rw [show (R 0 1).toNat - 1 - d = ((R 0 1).toNat - 1 - (d + 1)) + 1 by omega] at p
    obtain ⟨ln, o, o1, o2, o3⟩ := (upL_s W).1 p
    refine ⟨o, n - l, s + o, o1, o3, (upL_s W).2 ⟨by omega, l, a, by unfold nearK at o2 ⊢; omega, ?_⟩, by omega⟩
    rw [show s + o - o = s by omega]
    exact q
theorem pos_ex {R : HP} (W : WR R) {b r : Nat} (hr : (r : Int) < R 0 1) (h : 0 < liN R b) : ∃ l : Nat, (l : Int) ≤ R 0 0 ∧ posS R b r l := by
  obtain ⟨l, n, s, a, p, q, e⟩ := meet W (by omega) h ((R 0 1).toNat - 1 - r) (by omega)
  rw [show (R 0 1).toNat - 1 - ((R 0 1).toNat - 1 - r) = r by omega] at p
  have h1 := upL_le W p
  have h2 := upL_le W q
  exact ⟨l, a, n, h1, by omega, p, by rw [show b - n + l = s by omega]; exact q⟩
theorem pos_no {R : HP} (W : WR R) {b l : Nat} (hd : 0 < R 0 1) (h : ¬ 0 < liN R b) (hl : (l : Int) ≤ R 0 0) : ¬ posS R b 0 l := by
  rintro ⟨n, n1, n2, n3, n4⟩
  have e := upL_0p.1 n3
  rw [show b - n + l = b by omega, Nat.sub_zero] at n4
  exact h ((liN_pos W b hd).2 ⟨l, hl, n4⟩)
noncomputable def lsC (R : HP) (b r : Nat) : Nat := fK (posS R b r) (fun _ => 0) 0 ((R 0 0).toNat + 1)
theorem lsC_ok {R : HP} (W : WR R) {b r : Nat} (hr : (r : Int) < R 0 1) (h : 0 < liN R b) : (lsC R b r : Int) ≤ R 0 0 ∧ posS R b r (lsC R b r) ∧ ∀ j, j < lsC R b r → ¬ posS R b r j := by
  have w := W.1
  obtain ⟨l, a, c⟩ := pos_ex W hr h
  have F := FK_ex (p := posS R b r) (f := fun _ => 0) (v := 0) (n := (R 0 0).toNat + 1) ⟨l, by omega, c, rfl⟩
  have f1 := F.1
  unfold lsC
  exact ⟨by omega, F.2.1, fun j hj q => F.2.2.2 j hj q rfl⟩
noncomputable def suN (R : HP) (b : Nat) : Int := cho (0 < liN R b) (sumF (fun r => (lsC R b r : Int)) (R 0 1).toNat 0) (-1)
def TB (R : HP) (h : HP) (P : Nat → Nat → Prop) : Prop := ∀ r l n : Nat, (r : Int) < R 0 1 → (l : Int) ≤ R 0 0 → n ≤ 63 → P r l → (btL (h 96 (10 * r + l)) n = true ↔ 0 < upL R r l n)
theorem c_Bo_sumsNear {Q : PQ} {h R : HP} {f1 r l : Nat} (h_f1 : isF f1) (eR : rmC h f1 = R) (W : WR R) (hr : (r : Int) < R 0 1) (hl : (l : Int) ≤ R 0 0) (T : ∀ o n : Nat, (o : Int) ≤ R 0 0 → n ≤ 63 → (btL (h 96 (10 * r + o)) n = true ↔ 0 < upL R r o n))
    (k : ∀ y, (∀ n : Nat, n ≤ 63 → (btL y n = true ↔ ∃ o : Nat, (o : Int) ≤ R 0 0 ∧ nearK R l o ∧ 0 < upL R r o n)) → Q (some (vj y)) h) : Wp true i_Bo_sumsNear 0 [vr 92, vr f1, vi (r : Int), vi (l : Int), vr 9999, vr 9999, vr 9999, vr 9999] [] h Q := by
  have w := W.1
  have dd := cdim eR
  refine g_Bo_sumsNear_0 h_f1 (by omega) (by omega) ?_
  obtain ⟨lo, elo⟩ : ∃ lo : Nat, max 0 ((l : Int) - h f1 2) = lo := ⟨(max 0 ((l : Int) - h f1 2)).toNat, by omega⟩
  obtain ⟨hi, ehi⟩ : ∃ hi : Nat, min (h f1 0) ((l : Int) + h f1 2) = hi := ⟨(min (h f1 0) ((l : Int) + h f1 2)).toNat, by omega⟩
  rw [elo, ehi]
  have key : ∀ (d i : Nat) (y : Int), i + d = hi + 1 → lo ≤ i → (∀ n : Nat, n ≤ 63 → (btL y n = true ↔ ∃ o : Nat, o < i ∧ (o : Int) ≤ R 0 0 ∧ nearK R l o ∧ 0 < upL R r o n)) → Wp true i_Bo_sumsNear 30 [vr 92, vr f1, vi (r : Int), vi (l : Int), vi (hi : Int), vj y, vr 9999, vi (i : Int)] [] h Q := by
    intro d
    induction d with
    | zero =>
      intro i y e h1 I
      have fin := k y (fun n hn => (I n hn).trans ⟨fun ⟨o, _, a⟩ => ⟨o, a⟩, fun ⟨o, a, b, c⟩ => ⟨o, by unfold nearK at b; omega, a, b, c⟩⟩)
      exact g_Bo_sumsNear_30 h_f1 (fun _ => fin) (fun q => by omega) (fun q => by omega) (fun q => by omega) (fun q => by omega) (fun q => by omega)
    | succ d ih =>
      intro i y e h1 I
      refine g_Bo_sumsNear_30 h_f1 (fun q => by omega) (fun _ => by omega) (fun _ => by omega) (fun _ => by omega) (fun _ => by omega) (fun _ => ?_)
      rw [show ((r : Int) * 10 + (i : Int)).toNat = 10 * r + i by omega]
      refine ih (i + 1) _ (by omega) (by omega) (fun n hn => ?_)
      rw [bL_or, Bool.or_eq_true, I n hn, T i n (by omega) hn]
      constructor
      · rintro (⟨o, a, b⟩ | q)
        · exact ⟨o, by omega, b⟩
        · exact ⟨i, by omega, by omega, by unfold nearK; omega, q⟩
      · rintro ⟨o, a, b, c, q⟩
        by_cases z : o = i
        · subst z; exact Or.inr q
        · exact Or.inl ⟨o, by omega, b, c, q⟩
  exact key (hi + 1 - lo) lo 0 (by omega) (Nat.le_refl _) (fun n _ => ⟨fun q => by rw [bL_0] at q; exact absurd q (by decide), fun ⟨o, a, _, c, _⟩ => by unfold nearK at c; omega⟩)
theorem c_Bo_findSums {Q : PQ} {h R : HP} {f1 : Nat} (h_f1 : isF f1) (eR : rmC h f1 = R) (W : WR R)
    (kk : ∀ h', (∀ k, k ≠ 96 → h' k = h k) → TB R h' (fun _ _ => True) → Q none h') : Wp true i_Bo_findSums 0 [vr 92, vr f1, vr 9999, vr 9999, vr 9999, vr 9999] [] h Q := by
  have w := W.1
  have fl : f1 + 8 ≤ 82 := by unfold isF at h_f1; omega
  have fr : ∀ h1 : HP, (∀ k, k ≠ 96 → h1 k = h k) → rmC h1 f1 = R := fun h1 f => (rC_frame h_f1 (fun k hk => f k (by omega))).trans eR
  have inner : ∀ (d l r : Nat) (h1 : HP) (j4 : AV), (l : Int) + d = R 0 0 + 1 → (r : Int) < R 0 1 → (∀ k, k ≠ 96 → h1 k = h k) → TB R h1 (fun r' l' => r' < r ∨ (r' = r ∧ l' < l)) →
      (∀ (h2 : HP) (j3 j4 : AV), (∀ k, k ≠ 96 → h2 k = h k) → TB R h2 (fun r' _ => r' < r + 1) → Wp true i_Bo_findSums 2 [vr 92, vr f1, vi ((r : Int) + 1), j3, j4, vr 9999] [] h2 Q) → Wp true i_Bo_findSums 12 [vr 92, vr f1, vi (r : Int), vi (l : Int), j4, vr 9999] [] h1 Q := by
    intro d
    induction d with
    | zero =>
      intro l r h1 j4 e hr f T nxt
      have dd := cdim (fr h1 f)
      exact g_Bo_findSums_12 h_f1 (fun _ => by omega) (fun _ => nxt h1 _ _ f (fun r' l' n a1 a2 a3 q => T r' l' n a1 a2 a3 (by omega))) (fun q => by omega) (fun q => by omega) (fun q => by omega)
    | succ d ih =>
      intro l r h1 j4 e hr f T nxt
      have dd := cdim (fr h1 f)
      have b37 : ∀ (s : Int) (j4 : AV), (∀ n : Nat, n ≤ 63 → (btL (o_lshl s l) n = true ↔ 0 < upL R r l n)) → Wp true i_Bo_findSums 37 [vr 92, vr f1, vi (r : Int), vi (l : Int), j4, vr 9999] [vj s] h1 Q := by
        intro s j4 hs'
        refine g_Bo_findSums_37 h_f1 (by omega) (by omega) (by omega) (by omega) ?_
        rw [show ((r : Int) * 10 + (l : Int)).toNat = 10 * r + l by omega]
        refine ih (l + 1) r _ _ (by omega) hr (fun k hk => (hs_ne hk).trans (f k hk)) (fun r' l' n a1 a2 a3 q => ?_) nxt
        by_cases z : r' = r ∧ l' = l
        · obtain ⟨rfl, rfl⟩ := z
          rw [hs_s]; exact hs' n a3
        · rw [hs_o (Or.inr (by omega))]
          exact T r' l' n a1 a2 a3 (by omega)
      refine g_Bo_findSums_12 h_f1 (fun q => by omega) (fun q => by omega) (fun _ _ => by omega) (fun _ z => ?_) (fun _ z => ?_)
      · obtain ⟨m, rfl⟩ : ∃ m, r = m + 1 := ⟨r - 1, by omega⟩
        rw [show (((m + 1 : Nat) : Int) - 1) = (m : Int) by omega]
        refine c_Bo_sumsNear h_f1 (fr h1 f) W (by omega) (by omega) (fun o n a b => T m o n (by omega) a b (by omega)) (fun y hy => ?_)
        refine b37 y _ (fun n hn => ?_)
        rw [bL_shl (by omega) (by omega), Bool.and_eq_true, decide_eq_true_iff, hy (n - l) (by omega), upL_s W]
      · have z' : r = 0 := by omega
        subst z'
        refine b37 1 _ (fun n hn => ?_)
        rw [bL_shl (by omega) (by omega), Bool.and_eq_true, decide_eq_true_iff, bL_1 (n - l) (by omega), decide_eq_true_iff, upL_0p]
        omega
  have outer : ∀ (d r : Nat) (h1 : HP) (j3 j4 : AV), (r : Int) + d = R 0 1 → (∀ k, k ≠ 96 → h1 k = h k) → TB R h1 (fun r' _ => r' < r) → Wp true i_Bo_findSums 2 [vr 92, vr f1, vi (r : Int), j3, j4, vr 9999] [] h1 Q := by
    intro d
    induction d with
    | zero =>
      intro r h1 j3 j4 e f T
      have dd := cdim (fr h1 f)
      exact g_Bo_findSums_2 h_f1 (fun _ => kk h1 f (fun r' l' n a1 a2 a3 _ => T r' l' n a1 a2 a3 (by omega))) (fun q => by omega)
    | succ d ih =>
      intro r h1 j3 j4 e f T
      have dd := cdim (fr h1 f)
      refine g_Bo_findSums_2 h_f1 (fun q => by omega) (fun _ => ?_)
      exact inner ((R 0 0).toNat + 1) 0 r h1 j4 (by omega) (by omega) f (fun r' l' n a1 a2 a3 q => T r' l' n a1 a2 a3 (by omega)) (fun h2 j3 j4 f2 T2 => ih (r + 1) h2 j3 j4 (by omega) f2 T2)
  exact g_Bo_findSums_0 h_f1 (outer (R 0 1).toNat 0 h _ _ (by omega) (fun _ _ => rfl) (fun r' l' n a1 a2 a3 q => by omega))
