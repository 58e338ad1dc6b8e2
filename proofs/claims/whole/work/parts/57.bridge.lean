theorem g_Is_islesAround_0 {Q : PQ} {h : HP} {x2 : Int} {x3 : Int} {f1 : Nat} (h_f1 : isF f1)
    (k1 : Wp true i_Is_islesAround 9 [vr 82, vr f1, vi x2, vi x3, vi 0, vj 0, vr 9999, vi 0, vr 9999] [] h Q) :
    Wp true i_Is_islesAround 0 [vr 82, vr f1, vi x2, vi x3, vr 9999, vr 9999, vr 9999, vr 9999, vr 9999] [] h Q := by
  refine r_iconst f_74_0 (by decide) ?_
  refine r_istore (ls' := [vr 82, vr f1, vi x2, vi x3, vi 0, vr 9999, vr 9999, vr 9999, vr 9999]) f_74_1 (Nat.le_of_ble_eq_true rfl) rfl ?_
  refine r_lconst (v := 0) f_74_3 rfl ?_
  refine r_lstore (ls' := [vr 82, vr f1, vi x2, vi x3, vi 0, vj 0, vr 9999, vr 9999, vr 9999]) f_74_4 (Nat.le_of_ble_eq_true rfl) rfl ?_
  refine r_iconst f_74_6 (by decide) ?_
  refine r_istore (ls' := [vr 82, vr f1, vi x2, vi x3, vi 0, vj 0, vr 9999, vi 0, vr 9999]) f_74_7 (Nat.le_of_ble_eq_true rfl) rfl ?_
  exact k1

theorem g_Is_islesAround_9 {Q : PQ} {h : HP} {x2 : Int} {x3 : Int} {x4 : Int} {y5 : Int} {x7 : Int} {j8 : AV} {f1 : Nat} (h_f1 : isF f1)
    (k1 : 4 ≤ x7 → Q (some (vi x4)) h)
    (o2 : ¬ 4 ≤ x7 → 0 ≤ x2 ∧ x2 < 63)
    (o3 : ¬ 4 ≤ x7 → 0 ≤ x7 ∧ x7 < 4)
    (o4 : ¬ 4 ≤ x7 → bs (rmC h f1) x2 x7 < 0 → -2147483648 ≤ x7 + 1 ∧ x7 + 1 ≤ 2147483647)
    (k5 : ¬ 4 ≤ x7 → bs (rmC h f1) x2 x7 < 0 → Wp true i_Is_islesAround 9 [vr 82, vr f1, vi x2, vi x3, vi x4, vj y5, vr 9999, vi (x7 + 1), vi (bs (rmC h f1) x2 x7)] [] h Q)
    (o6 : ¬ 4 ≤ x7 → ¬ bs (rmC h f1) x2 x7 < 0 → 0 ≤ bs (rmC h f1) x2 x7 ∧ bs (rmC h f1) x2 x7 < 63)
    (o7 : ¬ 4 ≤ x7 → ¬ bs (rmC h f1) x2 x7 < 0 → ¬ h 83 (bs (rmC h f1) x2 x7).toNat = x3 → -2147483648 ≤ x7 + 1 ∧ x7 + 1 ≤ 2147483647)
    (k8 : ¬ 4 ≤ x7 → ¬ bs (rmC h f1) x2 x7 < 0 → ¬ h 83 (bs (rmC h f1) x2 x7).toNat = x3 → Wp true i_Is_islesAround 9 [vr 82, vr f1, vi x2, vi x3, vi x4, vj y5, vr 9999, vi (x7 + 1), vi (bs (rmC h f1) x2 x7)] [] h Q)
    (o9 : ¬ 4 ≤ x7 → ¬ bs (rmC h f1) x2 x7 < 0 → h 83 (bs (rmC h f1) x2 x7).toNat = x3 → ¬ o_land (o_lshr y5 (h 84 (bs (rmC h f1) x2 x7).toNat)) 1 = 0 → -2147483648 ≤ x7 + 1 ∧ x7 + 1 ≤ 2147483647)
    (k10 : ¬ 4 ≤ x7 → ¬ bs (rmC h f1) x2 x7 < 0 → h 83 (bs (rmC h f1) x2 x7).toNat = x3 → ¬ o_land (o_lshr y5 (h 84 (bs (rmC h f1) x2 x7).toNat)) 1 = 0 → Wp true i_Is_islesAround 9 [vr 82, vr f1, vi x2, vi x3, vi x4, vj y5, vr 9999, vi (x7 + 1), vi (bs (rmC h f1) x2 x7)] [] h Q)
    (o11 : ¬ 4 ≤ x7 → ¬ bs (rmC h f1) x2 x7 < 0 → h 83 (bs (rmC h f1) x2 x7).toNat = x3 → o_land (o_lshr y5 (h 84 (bs (rmC h f1) x2 x7).toNat)) 1 = 0 → -2147483648 ≤ x4 + 1 ∧ x4 + 1 ≤ 2147483647)
    (o12 : ¬ 4 ≤ x7 → ¬ bs (rmC h f1) x2 x7 < 0 → h 83 (bs (rmC h f1) x2 x7).toNat = x3 → o_land (o_lshr y5 (h 84 (bs (rmC h f1) x2 x7).toNat)) 1 = 0 → -2147483648 ≤ x7 + 1 ∧ x7 + 1 ≤ 2147483647)
    (k13 : ¬ 4 ≤ x7 → ¬ bs (rmC h f1) x2 x7 < 0 → h 83 (bs (rmC h f1) x2 x7).toNat = x3 → o_land (o_lshr y5 (h 84 (bs (rmC h f1) x2 x7).toNat)) 1 = 0 → Wp true i_Is_islesAround 9 [vr 82, vr f1, vi x2, vi x3, vi (x4 + 1), vj (o_lor y5 (o_lshl 1 (h 84 (bs (rmC h f1) x2 x7).toNat))), vr 9999, vi (x7 + 1), vi (bs (rmC h f1) x2 x7)] [] h Q) :
    Wp true i_Is_islesAround 9 [vr 82, vr f1, vi x2, vi x3, vi x4, vj y5, vr 9999, vi x7, j8] [] h Q := by
  refine r_iload (v := x7) f_74_9 rfl ?_
  refine r_iconst f_74_11 (by decide) ?_
  refine r_br2 (t := 80) f_74_12 rfl cb_ge (fun c1 => ?_) (fun c1 => ?_)
  · refine r_iload (v := x4) f_74_80 rfl ?_
    exact r_reti f_74_82 rfl (k1 c1)
  · refine r_aload_n (v := f1) f_74_15 rfl (F_n h_f1) ?_
    refine r_iload_n (v := x2) f_74_16 rfl ?_
    refine r_iload (v := x7) f_74_17 rfl ?_
    refine r_calls (as := [vr f1, vi x2, vi x7]) (st' := []) (ls0 := [vr f1, vi x2, vi x7, vr 9999, vr 9999]) f_74_19 (by decide) (by decide) rfl rfl (Nat.le_of_ble_eq_true rfl) (Nat.le_of_ble_eq_true rfl) rfl ?_
    refine c_Is_beside h_f1 (o2 c1) (o3 c1) ?_
    show Wp true i_Is_islesAround 22 [vr 82, vr f1, vi x2, vi x3, vi x4, vj y5, vr 9999, vi x7, j8] [vi (bs (rmC h f1) x2 x7)] h Q
    refine r_istore (ls' := [vr 82, vr f1, vi x2, vi x3, vi x4, vj y5, vr 9999, vi x7, vi (bs (rmC h f1) x2 x7)]) f_74_22 (Nat.le_of_ble_eq_true rfl) rfl ?_
    refine r_iload (v := bs (rmC h f1) x2 x7) f_74_24 rfl ?_
    refine r_br (t := 74) f_74_26 rfl cb_lt (fun c2 => ?_) (fun c2 => ?_)
    · refine r_iinc (v := x7) (w := x7 + 1) (ls' := [vr 82, vr f1, vi x2, vi x3, vi x4, vj y5, vr 9999, vi (x7 + 1), vi (bs (rmC h f1) x2 x7)]) f_74_74 rfl rfl (o4 c1 c2) rfl ?_
      refine r_goto (t := 9) f_74_77 rfl ?_
      exact (k5 c1 c2)
    · refine r_aload_n (v := 82) f_74_29 rfl (by decide) ?_
      refine r_getr (q := 83) f_74_30 rfl (by decide) (Or.inl rfl) rfl ?_
      refine r_iload (v := bs (rmC h f1) x2 x7) f_74_33 rfl ?_
      refine r_iaload (n := 63) (v := h 83 (bs (rmC h f1) x2 x7).toNat) f_74_35 ⟨rfl, rfl⟩ (o6 c1 c2) rfl ?_
      refine r_iload_n (v := x3) f_74_36 rfl ?_
      refine r_br2 (t := 74) f_74_37 rfl cb_ne (fun c3 => ?_) (fun c3 => ?_)
      · refine r_iinc (v := x7) (w := x7 + 1) (ls' := [vr 82, vr f1, vi x2, vi x3, vi x4, vj y5, vr 9999, vi (x7 + 1), vi (bs (rmC h f1) x2 x7)]) f_74_74 rfl rfl (o7 c1 c2 c3) rfl ?_
        refine r_goto (t := 9) f_74_77 rfl ?_
        exact (k8 c1 c2 c3)
      · have c3 := Decidable.not_not.mp c3
        refine r_lload (v := y5) f_74_40 rfl ?_
        refine r_aload_n (v := 82) f_74_42 rfl (by decide) ?_
        refine r_getr (q := 84) f_74_43 rfl (by decide) (Or.inl rfl) rfl ?_
        refine r_iload (v := bs (rmC h f1) x2 x7) f_74_46 rfl ?_
        refine r_iaload (n := 63) (v := h 84 (bs (rmC h f1) x2 x7).toNat) f_74_48 ⟨rfl, rfl⟩ (o6 c1 c2) rfl ?_
        refine r_lshr f_74_49 ?_
        refine r_lconst (v := 1) f_74_50 rfl ?_
        refine r_land f_74_51 ?_
        refine r_lconst (v := 0) f_74_52 rfl ?_
        refine r_lcmp f_74_53 ?_
        refine r_br (t := 74) f_74_54 rfl lc_ne (fun c4 => ?_) (fun c4 => ?_)
        · refine r_iinc (v := x7) (w := x7 + 1) (ls' := [vr 82, vr f1, vi x2, vi x3, vi x4, vj y5, vr 9999, vi (x7 + 1), vi (bs (rmC h f1) x2 x7)]) f_74_74 rfl rfl (o9 c1 c2 c3 c4) rfl ?_
          refine r_goto (t := 9) f_74_77 rfl ?_
          exact (k10 c1 c2 c3 c4)
        · have c4 := Decidable.not_not.mp c4
          refine r_lload (v := y5) f_74_57 rfl ?_
          refine r_lconst (v := 1) f_74_59 rfl ?_
          refine r_aload_n (v := 82) f_74_60 rfl (by decide) ?_
          refine r_getr (q := 84) f_74_61 rfl (by decide) (Or.inl rfl) rfl ?_
          refine r_iload (v := bs (rmC h f1) x2 x7) f_74_64 rfl ?_
          refine r_iaload (n := 63) (v := h 84 (bs (rmC h f1) x2 x7).toNat) f_74_66 ⟨rfl, rfl⟩ (o6 c1 c2) rfl ?_
          refine r_lshl f_74_67 ?_
          refine r_lor f_74_68 ?_
          refine r_lstore (ls' := [vr 82, vr f1, vi x2, vi x3, vi x4, vj (o_lor y5 (o_lshl 1 (h 84 (bs (rmC h f1) x2 x7).toNat))), vr 9999, vi x7, vi (bs (rmC h f1) x2 x7)]) f_74_69 (Nat.le_of_ble_eq_true rfl) rfl ?_
          refine r_iinc (v := x4) (w := x4 + 1) (ls' := [vr 82, vr f1, vi x2, vi x3, vi (x4 + 1), vj (o_lor y5 (o_lshl 1 (h 84 (bs (rmC h f1) x2 x7).toNat))), vr 9999, vi x7, vi (bs (rmC h f1) x2 x7)]) f_74_71 rfl rfl (o11 c1 c2 c3 c4) rfl ?_
          refine r_iinc (v := x7) (w := x7 + 1) (ls' := [vr 82, vr f1, vi x2, vi x3, vi (x4 + 1), vj (o_lor y5 (o_lshl 1 (h 84 (bs (rmC h f1) x2 x7).toNat))), vr 9999, vi (x7 + 1), vi (bs (rmC h f1) x2 x7)]) f_74_74 rfl rfl (o12 c1 c2 c3 c4) rfl ?_
          refine r_goto (t := 9) f_74_77 rfl ?_
          exact (k13 c1 c2 c3 c4)

theorem g_Is_findBridge_0 {Q : PQ} {h : HP} {x2 : Int} {f1 : Nat} (h_f1 : isF f1)
    (o1 : 0 ≤ h 82 4 ∧ h 82 4 ≤ 63)
    (k2 : Wp true i_Is_findBridge 14 [vr 82, vr f1, vi x2, vi (sumF (fun k => if h 85 k = x2 then 1 else 0) (h 82 4).toNat 0), vi 0, vr 9999, vr 9999, vr 9999] [] (hs h 82 9 (-1)) Q) :
    Wp true i_Is_findBridge 0 [vr 82, vr f1, vi x2, vr 9999, vr 9999, vr 9999, vr 9999, vr 9999] [] h Q := by
  refine r_aload_n (v := 82) f_73_0 rfl (by decide) ?_
  refine r_iload_n (v := x2) f_73_1 rfl ?_
  refine r_callv (as := [vr 82, vi x2]) (st' := []) (ls0 := [vr 82, vi x2, vr 9999, vr 9999]) f_73_2 (by decide) rfl rfl (Nat.le_of_ble_eq_true rfl) (Nat.le_of_ble_eq_true rfl) ⟨_, _, rfl, rfl⟩ rfl ?_
  refine c_Is_countOf o1 ?_
  show Wp true i_Is_findBridge 5 [vr 82, vr f1, vi x2, vr 9999, vr 9999, vr 9999, vr 9999, vr 9999] [vi (sumF (fun k => if h 85 k = x2 then 1 else 0) (h 82 4).toNat 0)] h Q
  refine r_istore_n (ls' := [vr 82, vr f1, vi x2, vi (sumF (fun k => if h 85 k = x2 then 1 else 0) (h 82 4).toNat 0), vr 9999, vr 9999, vr 9999, vr 9999]) f_73_5 (Nat.le_of_ble_eq_true rfl) rfl ?_
  refine r_aload_n (v := 82) f_73_6 rfl (by decide) ?_
  refine r_iconst f_73_7 (by decide) ?_
  refine r_puti f_73_8 rfl (by decide) ?_
  refine r_iconst f_73_11 (by decide) ?_
  refine r_istore (ls' := [vr 82, vr f1, vi x2, vi (sumF (fun k => if h 85 k = x2 then 1 else 0) (h 82 4).toNat 0), vi 0, vr 9999, vr 9999, vr 9999]) f_73_12 (Nat.le_of_ble_eq_true rfl) rfl ?_
  exact k2

theorem g_Is_findBridge_14 {Q : PQ} {h : HP} {x2 : Int} {x3 : Int} {x4 : Int} {j5 : AV} {j6 : AV} {j7 : AV} {f1 : Nat} (h_f1 : isF f1)
    (k1 : h f1 1 ≤ x4 → Q none h)
    (k2 : ¬ h f1 1 ≤ x4 → Wp true i_Is_findBridge 26 [vr 82, vr f1, vi x2, vi x3, vi x4, vi 0, j6, j7] [] h Q) :
    Wp true i_Is_findBridge 14 [vr 82, vr f1, vi x2, vi x3, vi x4, j5, j6, j7] [] h Q := by
  refine r_iload (v := x4) f_73_14 rfl ?_
  refine r_aload_n (v := f1) f_73_16 rfl (F_n h_f1) ?_
  refine r_geti (v := h f1 1) f_73_17 (F_k h_f1) (by decide) rfl ?_
  refine r_br2 (t := 109) f_73_20 rfl cb_ge (fun c1 => ?_) (fun c1 => ?_)
  · exact r_retv f_73_109 rfl (k1 c1)
  · refine r_iconst f_73_23 (by decide) ?_
    refine r_istore (ls' := [vr 82, vr f1, vi x2, vi x3, vi x4, vi 0, j6, j7]) f_73_24 (Nat.le_of_ble_eq_true rfl) rfl ?_
    exact (k2 c1)

theorem g_Is_findBridge_26 {Q : PQ} {h : HP} {x2 : Int} {x3 : Int} {x4 : Int} {x5 : Int} {j6 : AV} {j7 : AV} {f1 : Nat} (h_f1 : isF f1)
    (o1 : h f1 0 ≤ x5 → -2147483648 ≤ x4 + 1 ∧ x4 + 1 ≤ 2147483647)
    (k2 : h f1 0 ≤ x5 → Wp true i_Is_findBridge 14 [vr 82, vr f1, vi x2, vi x3, vi (x4 + 1), vi x5, j6, j7] [] h Q)
    (o3 : ¬ h f1 0 ≤ x5 → 0 ≤ x5 ∧ x5 < 100)
    (o4 : ¬ h f1 0 ≤ x5 → 0 ≤ x4 ∧ x4 < 100)
    (o5 : ¬ h f1 0 ≤ x5 → 0 ≤ x4 * 9 + x5 ∧ x4 * 9 + x5 < 63)
    (o6 : ¬ h f1 0 ≤ x5 → h 83 (x4 * 9 + x5).toNat = x2 → -2147483648 ≤ x5 + 1 ∧ x5 + 1 ≤ 2147483647)
    (k7 : ¬ h f1 0 ≤ x5 → h 83 (x4 * 9 + x5).toNat = x2 → Wp true i_Is_findBridge 26 [vr 82, vr f1, vi x2, vi x3, vi x4, vi (x5 + 1), vi (x4 * 9 + x5), j7] [] h Q)
    (o8 : ¬ h f1 0 ≤ x5 → ¬ h 83 (x4 * 9 + x5).toNat = x2 → -2147483648 ≤ x3 + 1 ∧ x3 + 1 ≤ 2147483647)
    (k9 : ¬ h f1 0 ≤ x5 → ¬ h 83 (x4 * 9 + x5).toNat = x2 → Wp true i_Is_islesAround 0 [vr 82, vr f1, vi (x4 * 9 + x5), vi x2, vr 9999, vr 9999, vr 9999, vr 9999, vr 9999] [] h (fun r h' => Wp true i_Is_findBridge 66 [vr 82, vr f1, vi x2, vi x3, vi x4, vi x5, vi (x4 * 9 + x5), j7] (r.toList ++ [vi (x3 + 1)]) h' Q)) :
    Wp true i_Is_findBridge 26 [vr 82, vr f1, vi x2, vi x3, vi x4, vi x5, j6, j7] [] h Q := by
  refine r_iload (v := x5) f_73_26 rfl ?_
  refine r_aload_n (v := f1) f_73_28 rfl (F_n h_f1) ?_
  refine r_geti (v := h f1 0) f_73_29 (F_k h_f1) (by decide) rfl ?_
  refine r_br2 (t := 103) f_73_32 rfl cb_ge (fun c1 => ?_) (fun c1 => ?_)
  · refine r_iinc (v := x4) (w := x4 + 1) (ls' := [vr 82, vr f1, vi x2, vi x3, vi (x4 + 1), vi x5, j6, j7]) f_73_103 rfl rfl (o1 c1) rfl ?_
    refine r_goto (t := 14) f_73_106 rfl ?_
    exact (k2 c1)
  · refine r_iload (v := x5) f_73_35 rfl ?_
    refine r_iload (v := x4) f_73_37 rfl ?_
    refine r_calls (as := [vi x5, vi x4]) (st' := []) (ls0 := [vi x5, vi x4]) f_73_39 (by decide) (by decide) rfl rfl (Nat.le_of_ble_eq_true rfl) (Nat.le_of_ble_eq_true rfl) rfl ?_
    refine c_C_boardNumber (o3 c1) (o4 c1) ?_
    show Wp true i_Is_findBridge 42 [vr 82, vr f1, vi x2, vi x3, vi x4, vi x5, j6, j7] [vi (x4 * 9 + x5)] h Q
    refine r_istore (ls' := [vr 82, vr f1, vi x2, vi x3, vi x4, vi x5, vi (x4 * 9 + x5), j7]) f_73_42 (Nat.le_of_ble_eq_true rfl) rfl ?_
    refine r_aload_n (v := 82) f_73_44 rfl (by decide) ?_
    refine r_getr (q := 83) f_73_45 rfl (by decide) (Or.inl rfl) rfl ?_
    refine r_iload (v := x4 * 9 + x5) f_73_48 rfl ?_
    refine r_iaload (n := 63) (v := h 83 (x4 * 9 + x5).toNat) f_73_50 ⟨rfl, rfl⟩ (o5 c1) rfl ?_
    refine r_iload_n (v := x2) f_73_51 rfl ?_
    refine r_br2 (t := 97) f_73_52 rfl cb_eq (fun c2 => ?_) (fun c2 => ?_)
    · refine r_iinc (v := x5) (w := x5 + 1) (ls' := [vr 82, vr f1, vi x2, vi x3, vi x4, vi (x5 + 1), vi (x4 * 9 + x5), j7]) f_73_97 rfl rfl (o6 c1 c2) rfl ?_
      refine r_goto (t := 26) f_73_100 rfl ?_
      exact (k7 c1 c2)
    · refine r_iload_n (v := x3) f_73_55 rfl ?_
      refine r_iconst f_73_56 (by decide) ?_
      refine r_iadd (u := x3 + 1) f_73_57 rfl (o8 c1 c2) ?_
      refine r_aload_n (v := 82) f_73_58 rfl (by decide) ?_
      refine r_aload_n (v := f1) f_73_59 rfl (F_n h_f1) ?_
      refine r_iload (v := x4 * 9 + x5) f_73_60 rfl ?_
      refine r_iload_n (v := x2) f_73_62 rfl ?_
      exact r_callv (as := [vr 82, vr f1, vi (x4 * 9 + x5), vi x2]) (st' := [vi (x3 + 1)]) (ls0 := [vr 82, vr f1, vi (x4 * 9 + x5), vi x2, vr 9999, vr 9999, vr 9999, vr 9999, vr 9999]) f_73_63 (by decide) rfl rfl (Nat.le_of_ble_eq_true rfl) (Nat.le_of_ble_eq_true rfl) ⟨_, _, rfl, rfl⟩ rfl (k9 c1 c2)

theorem g_Is_findBridge_66 {Q : PQ} {h : HP} {x2 : Int} {x3 : Int} {x4 : Int} {x5 : Int} {x6 : Int} {j7 : AV} {s0 : Int} {s1 : Int} {f1 : Nat} (h_f1 : isF f1)
    (o1 : -2147483648 ≤ s0 - s1 ∧ s0 - s1 ≤ 2147483647)
    (o2 : h 82 9 < 0 → -2147483648 ≤ x5 + 1 ∧ x5 + 1 ≤ 2147483647)
    (k3 : h 82 9 < 0 → Wp true i_Is_findBridge 26 [vr 82, vr f1, vi x2, vi x3, vi x4, vi (x5 + 1), vi x6, vi (s0 - s1)] [] (hs (hs h 82 9 x6) 82 10 (s0 - s1)) Q)
    (o4 : ¬ h 82 9 < 0 → h 82 10 ≤ s0 - s1 → -2147483648 ≤ x5 + 1 ∧ x5 + 1 ≤ 2147483647)
    (k5 : ¬ h 82 9 < 0 → h 82 10 ≤ s0 - s1 → Wp true i_Is_findBridge 26 [vr 82, vr f1, vi x2, vi x3, vi x4, vi (x5 + 1), vi x6, vi (s0 - s1)] [] h Q)
    (o6 : ¬ h 82 9 < 0 → ¬ h 82 10 ≤ s0 - s1 → -2147483648 ≤ x5 + 1 ∧ x5 + 1 ≤ 2147483647)
    (k7 : ¬ h 82 9 < 0 → ¬ h 82 10 ≤ s0 - s1 → Wp true i_Is_findBridge 26 [vr 82, vr f1, vi x2, vi x3, vi x4, vi (x5 + 1), vi x6, vi (s0 - s1)] [] (hs (hs h 82 9 x6) 82 10 (s0 - s1)) Q) :
    Wp true i_Is_findBridge 66 [vr 82, vr f1, vi x2, vi x3, vi x4, vi x5, vi x6, j7] [vi s1, vi s0] h Q := by
  refine r_isub (u := s0 - s1) f_73_66 rfl o1 ?_
  refine r_istore (ls' := [vr 82, vr f1, vi x2, vi x3, vi x4, vi x5, vi x6, vi (s0 - s1)]) f_73_67 (Nat.le_of_ble_eq_true rfl) rfl ?_
  refine r_aload_n (v := 82) f_73_69 rfl (by decide) ?_
  refine r_geti (v := h 82 9) f_73_70 rfl (by decide) rfl ?_
  refine r_br (t := 85) f_73_73 rfl cb_lt (fun c1 => ?_) (fun c1 => ?_)
  · refine r_aload_n (v := 82) f_73_85 rfl (by decide) ?_
    refine r_iload (v := x6) f_73_86 rfl ?_
    refine r_puti f_73_88 rfl (by decide) ?_
    refine r_aload_n (v := 82) f_73_91 rfl (by decide) ?_
    refine r_iload (v := s0 - s1) f_73_92 rfl ?_
    refine r_puti f_73_94 rfl (by decide) ?_
    refine r_iinc (v := x5) (w := x5 + 1) (ls' := [vr 82, vr f1, vi x2, vi x3, vi x4, vi (x5 + 1), vi x6, vi (s0 - s1)]) f_73_97 rfl rfl (o2 c1) rfl ?_
    refine r_goto (t := 26) f_73_100 rfl ?_
    exact (k3 c1)
  · refine r_iload (v := s0 - s1) f_73_76 rfl ?_
    refine r_aload_n (v := 82) f_73_78 rfl (by decide) ?_
    refine r_geti (v := h 82 10) f_73_79 rfl (by decide) rfl ?_
    refine r_br2 (t := 97) f_73_82 rfl cb_ge (fun c2 => ?_) (fun c2 => ?_)
    · refine r_iinc (v := x5) (w := x5 + 1) (ls' := [vr 82, vr f1, vi x2, vi x3, vi x4, vi (x5 + 1), vi x6, vi (s0 - s1)]) f_73_97 rfl rfl (o4 c1 c2) rfl ?_
      refine r_goto (t := 26) f_73_100 rfl ?_
      exact (k5 c1 c2)
    · refine r_aload_n (v := 82) f_73_85 rfl (by decide) ?_
      refine r_iload (v := x6) f_73_86 rfl ?_
      refine r_puti f_73_88 rfl (by decide) ?_
      refine r_aload_n (v := 82) f_73_91 rfl (by decide) ?_
      refine r_iload (v := s0 - s1) f_73_92 rfl ?_
      refine r_puti f_73_94 rfl (by decide) ?_
      refine r_iinc (v := x5) (w := x5 + 1) (ls' := [vr 82, vr f1, vi x2, vi x3, vi x4, vi (x5 + 1), vi x6, vi (s0 - s1)]) f_73_97 rfl rfl (o6 c1 c2) rfl ?_
      refine r_goto (t := 26) f_73_100 rfl ?_
      exact (k7 c1 c2)

theorem g_C_bridge_0 {Q : PQ} {h : HP} {x1 : Int} 
    (k1 : (x1 = 0 ∨ x1 = 1) → Wp true i_Is_survey 0 [vr 82, vr 10, vr 9999, vr 9999, vr 9999] [] h (fun r h' => Wp true i_C_bridge 24 [vr 0, vi x1, vr 9999] (r.toList ++ []) h' Q))
    (k2 : ¬ (x1 = 0 ∨ x1 = 1) → Q (some (vi (-1))) (hs h 0 0 1)) :
    Wp true i_C_bridge 0 [vr 0, vi x1, vr 9999] [] h Q := by
  refine r_iload_n (v := x1) f_186_0 rfl ?_
  refine r_calls (as := [vi x1]) (st' := []) (ls0 := [vi x1]) f_186_1 (by decide) (by decide) rfl rfl (Nat.le_of_ble_eq_true rfl) (Nat.le_of_ble_eq_true rfl) rfl ?_
  refine c_C_isLand  ?_
  show Wp true i_C_bridge 4 [vr 0, vi x1, vr 9999] [vi (bi (x1 = 0 ∨ x1 = 1))] h Q
  refine r_br (t := 13) f_186_4 rfl cb_bt (fun c1 => ?_) (fun c1 => ?_)
  · refine r_aload_n (v := 0) f_186_13 rfl (by decide) ?_
    refine r_getr (q := 82) f_186_14 rfl (by decide) (Or.inl rfl) rfl ?_
    refine r_aload_n (v := 0) f_186_17 rfl (by decide) ?_
    refine r_getr (q := 10) f_186_18 rfl (by decide) (Or.inl rfl) rfl ?_
    exact r_callv (as := [vr 82, vr 10]) (st' := []) (ls0 := [vr 82, vr 10, vr 9999, vr 9999, vr 9999]) f_186_21 (by decide) rfl rfl (Nat.le_of_ble_eq_true rfl) (Nat.le_of_ble_eq_true rfl) ⟨_, _, rfl, rfl⟩ rfl (k1 c1)
  · refine r_aload_n (v := 0) f_186_7 rfl (by decide) ?_
    refine r_iconst f_186_8 (by decide) ?_
    refine r_callv (as := [vr 0, vi 1]) (st' := []) (ls0 := [vr 0, vi 1]) f_186_9 (by decide) rfl rfl (Nat.le_of_ble_eq_true rfl) (Nat.le_of_ble_eq_true rfl) ⟨_, _, rfl, rfl⟩ rfl ?_
    refine c_C_refuse  ?_
    show Wp true i_C_bridge 12 [vr 0, vi x1, vr 9999] [vi (-1)] (hs h 0 0 1) Q
    exact r_reti f_186_12 rfl (k2 c1)

theorem g_C_bridge_24 {Q : PQ} {h : HP} {x1 : Int} 
    (k1 : Wp true i_Is_findBridge 0 [vr 82, vr 10, vi x1, vr 9999, vr 9999, vr 9999, vr 9999, vr 9999] [] h (fun r h' => Wp true i_C_bridge 36 [vr 0, vi x1, vr 9999] (r.toList ++ []) h' Q)) :
    Wp true i_C_bridge 24 [vr 0, vi x1, vr 9999] [] h Q := by
  refine r_aload_n (v := 0) f_186_24 rfl (by decide) ?_
  refine r_getr (q := 82) f_186_25 rfl (by decide) (Or.inl rfl) rfl ?_
  refine r_aload_n (v := 0) f_186_28 rfl (by decide) ?_
  refine r_getr (q := 10) f_186_29 rfl (by decide) (Or.inl rfl) rfl ?_
  refine r_iload_n (v := x1) f_186_32 rfl ?_
  exact r_callv (as := [vr 82, vr 10, vi x1]) (st' := []) (ls0 := [vr 82, vr 10, vi x1, vr 9999, vr 9999, vr 9999, vr 9999, vr 9999]) f_186_33 (by decide) rfl rfl (Nat.le_of_ble_eq_true rfl) (Nat.le_of_ble_eq_true rfl) ⟨_, _, rfl, rfl⟩ rfl k1

theorem g_C_bridge_36 {Q : PQ} {h : HP} {x1 : Int} 
    (o1 : 0 ≤ h 82 9 → 0 ≤ h 82 9 ∧ h 82 9 ≤ 2147483647)
    (o2 : 0 ≤ h 82 9 → -2147483648 ≤ ((h 82 9) / 9) * 10 ∧ ((h 82 9) / 9) * 10 ≤ 2147483647)
    (o3 : 0 ≤ h 82 9 → 0 ≤ h 82 9)
    (o4 : 0 ≤ h 82 9 → -2147483648 ≤ (((h 82 9) / 9) * 10) + ((h 82 9) % 9) ∧ (((h 82 9) / 9) * 10) + ((h 82 9) % 9) ≤ 2147483647)
    (k5 : 0 ≤ h 82 9 → Q (some (vi ((((h 82 9) / 9) * 10) + ((h 82 9) % 9)))) (hs h 0 0 0))
    (k6 : ¬ 0 ≤ h 82 9 → Q (some (vi (-1))) (hs h 0 0 6)) :
    Wp true i_C_bridge 36 [vr 0, vi x1, vr 9999] [] h Q := by
  refine r_aload_n (v := 0) f_186_36 rfl (by decide) ?_
  refine r_getr (q := 82) f_186_37 rfl (by decide) (Or.inl rfl) rfl ?_
  refine r_geti (v := h 82 9) f_186_40 rfl (by decide) rfl ?_
  refine r_istore_n (ls' := [vr 0, vi x1, vi (h 82 9)]) f_186_43 (Nat.le_of_ble_eq_true rfl) rfl ?_
  refine r_iload_n (v := h 82 9) f_186_44 rfl ?_
  refine r_br (t := 57) f_186_45 rfl cb_ge (fun c1 => ?_) (fun c1 => ?_)
  · refine r_aload_n (v := 0) f_186_57 rfl (by decide) ?_
    refine r_iload_n (v := h 82 9) f_186_58 rfl ?_
    refine r_bipush f_186_59 (by decide) ?_
    refine r_idiv f_186_61 (o1 c1) (by decide) ?_
    refine r_bipush f_186_62 (by decide) ?_
    refine r_imul (u := ((h 82 9) / 9) * 10) f_186_64 rfl (o2 c1) ?_
    refine r_iload_n (v := h 82 9) f_186_65 rfl ?_
    refine r_bipush f_186_66 (by decide) ?_
    refine r_irem f_186_68 (o3 c1) (by decide) ?_
    refine r_iadd (u := (((h 82 9) / 9) * 10) + ((h 82 9) % 9)) f_186_69 rfl (o4 c1) ?_
    refine r_callv (as := [vr 0, vi ((((h 82 9) / 9) * 10) + ((h 82 9) % 9))]) (st' := []) (ls0 := [vr 0, vi ((((h 82 9) / 9) * 10) + ((h 82 9) % 9))]) f_186_70 (by decide) rfl rfl (Nat.le_of_ble_eq_true rfl) (Nat.le_of_ble_eq_true rfl) ⟨_, _, rfl, rfl⟩ rfl ?_
    refine c_C_answer  ?_
    show Wp true i_C_bridge 73 [vr 0, vi x1, vi (h 82 9)] [vi ((((h 82 9) / 9) * 10) + ((h 82 9) % 9))] (hs h 0 0 0) Q
    exact r_reti f_186_73 rfl (k5 c1)
  · refine r_aload_n (v := 0) f_186_48 rfl (by decide) ?_
    refine r_bipush f_186_49 (by decide) ?_
    refine r_callv (as := [vr 0, vi 6]) (st' := []) (ls0 := [vr 0, vi 6]) f_186_51 (by decide) rfl rfl (Nat.le_of_ble_eq_true rfl) (Nat.le_of_ble_eq_true rfl) ⟨_, _, rfl, rfl⟩ rfl ?_
    refine c_C_refuse  ?_
    show Wp true i_C_bridge 54 [vr 0, vi x1, vi (h 82 9)] [vi (-1)] (hs h 0 0 6) Q
    refine r_goto (t := 73) f_186_54 rfl ?_
    exact r_reti f_186_73 rfl (k6 c1)

theorem g_C_bridged_0 {Q : PQ} {h : HP} {x1 : Int} 
    (k1 : (x1 = 0 ∨ x1 = 1) → Wp true i_Is_survey 0 [vr 82, vr 10, vr 9999, vr 9999, vr 9999] [] h (fun r h' => Wp true i_C_bridged 24 [vr 0, vi x1] (r.toList ++ []) h' Q))
    (k2 : ¬ (x1 = 0 ∨ x1 = 1) → Q (some (vi (-1))) (hs h 0 0 1)) :
    Wp true i_C_bridged 0 [vr 0, vi x1] [] h Q := by
  refine r_iload_n (v := x1) f_187_0 rfl ?_
  refine r_calls (as := [vi x1]) (st' := []) (ls0 := [vi x1]) f_187_1 (by decide) (by decide) rfl rfl (Nat.le_of_ble_eq_true rfl) (Nat.le_of_ble_eq_true rfl) rfl ?_
  refine c_C_isLand  ?_
  show Wp true i_C_bridged 4 [vr 0, vi x1] [vi (bi (x1 = 0 ∨ x1 = 1))] h Q
  refine r_br (t := 13) f_187_4 rfl cb_bt (fun c1 => ?_) (fun c1 => ?_)
  · refine r_aload_n (v := 0) f_187_13 rfl (by decide) ?_
    refine r_getr (q := 82) f_187_14 rfl (by decide) (Or.inl rfl) rfl ?_
    refine r_aload_n (v := 0) f_187_17 rfl (by decide) ?_
    refine r_getr (q := 10) f_187_18 rfl (by decide) (Or.inl rfl) rfl ?_
    exact r_callv (as := [vr 82, vr 10]) (st' := []) (ls0 := [vr 82, vr 10, vr 9999, vr 9999, vr 9999]) f_187_21 (by decide) rfl rfl (Nat.le_of_ble_eq_true rfl) (Nat.le_of_ble_eq_true rfl) ⟨_, _, rfl, rfl⟩ rfl (k1 c1)
  · refine r_aload_n (v := 0) f_187_7 rfl (by decide) ?_
    refine r_iconst f_187_8 (by decide) ?_
    refine r_callv (as := [vr 0, vi 1]) (st' := []) (ls0 := [vr 0, vi 1]) f_187_9 (by decide) rfl rfl (Nat.le_of_ble_eq_true rfl) (Nat.le_of_ble_eq_true rfl) ⟨_, _, rfl, rfl⟩ rfl ?_
    refine c_C_refuse  ?_
    show Wp true i_C_bridged 12 [vr 0, vi x1] [vi (-1)] (hs h 0 0 1) Q
    exact r_reti f_187_12 rfl (k2 c1)

theorem g_C_bridged_24 {Q : PQ} {h : HP} {x1 : Int} 
    (k1 : Wp true i_Is_findBridge 0 [vr 82, vr 10, vi x1, vr 9999, vr 9999, vr 9999, vr 9999, vr 9999] [] h (fun r h' => Wp true i_C_bridged 36 [vr 0, vi x1] (r.toList ++ []) h' Q)) :
    Wp true i_C_bridged 24 [vr 0, vi x1] [] h Q := by
  refine r_aload_n (v := 0) f_187_24 rfl (by decide) ?_
  refine r_getr (q := 82) f_187_25 rfl (by decide) (Or.inl rfl) rfl ?_
  refine r_aload_n (v := 0) f_187_28 rfl (by decide) ?_
  refine r_getr (q := 10) f_187_29 rfl (by decide) (Or.inl rfl) rfl ?_
  refine r_iload_n (v := x1) f_187_32 rfl ?_
  exact r_callv (as := [vr 82, vr 10, vi x1]) (st' := []) (ls0 := [vr 82, vr 10, vi x1, vr 9999, vr 9999, vr 9999, vr 9999, vr 9999]) f_187_33 (by decide) rfl rfl (Nat.le_of_ble_eq_true rfl) (Nat.le_of_ble_eq_true rfl) ⟨_, _, rfl, rfl⟩ rfl k1

theorem g_C_bridged_36 {Q : PQ} {h : HP} {x1 : Int} 
    (k1 : 0 ≤ h 82 9 → Q (some (vi (h 82 10))) (hs h 0 0 0))
    (k2 : ¬ 0 ≤ h 82 9 → Q (some (vi (-1))) (hs h 0 0 6)) :
    Wp true i_C_bridged 36 [vr 0, vi x1] [] h Q := by
  refine r_aload_n (v := 0) f_187_36 rfl (by decide) ?_
  refine r_getr (q := 82) f_187_37 rfl (by decide) (Or.inl rfl) rfl ?_
  refine r_geti (v := h 82 9) f_187_40 rfl (by decide) rfl ?_
  refine r_br (t := 55) f_187_43 rfl cb_ge (fun c1 => ?_) (fun c1 => ?_)
  · refine r_aload_n (v := 0) f_187_55 rfl (by decide) ?_
    refine r_aload_n (v := 0) f_187_56 rfl (by decide) ?_
    refine r_getr (q := 82) f_187_57 rfl (by decide) (Or.inl rfl) rfl ?_
    refine r_geti (v := h 82 10) f_187_60 rfl (by decide) rfl ?_
    refine r_callv (as := [vr 0, vi (h 82 10)]) (st' := []) (ls0 := [vr 0, vi (h 82 10)]) f_187_63 (by decide) rfl rfl (Nat.le_of_ble_eq_true rfl) (Nat.le_of_ble_eq_true rfl) ⟨_, _, rfl, rfl⟩ rfl ?_
    refine c_C_answer  ?_
    show Wp true i_C_bridged 66 [vr 0, vi x1] [vi (h 82 10)] (hs h 0 0 0) Q
    exact r_reti f_187_66 rfl (k1 c1)
  · refine r_aload_n (v := 0) f_187_46 rfl (by decide) ?_
    refine r_bipush f_187_47 (by decide) ?_
    refine r_callv (as := [vr 0, vi 6]) (st' := []) (ls0 := [vr 0, vi 6]) f_187_49 (by decide) rfl rfl (Nat.le_of_ble_eq_true rfl) (Nat.le_of_ble_eq_true rfl) ⟨_, _, rfl, rfl⟩ rfl ?_
    refine c_C_refuse  ?_
    show Wp true i_C_bridged 52 [vr 0, vi x1] [vi (-1)] (hs h 0 0 6) Q
    refine r_goto (t := 66) f_187_52 rfl ?_
    exact r_reti f_187_66 rfl (k2 c1)

theorem g_M_bridgeOf_0 {Q : PQ} {h : HP} {x1 : Int} 
    (k1 : Wp true i_M_bridgeOf 9 [vr 103, vi x1, vi (-1), vi 1000000, vi 0, vr 9999] [] h Q) :
    Wp true i_M_bridgeOf 0 [vr 103, vi x1, vr 9999, vr 9999, vr 9999, vr 9999] [] h Q := by
  refine r_iconst f_331_0 (by decide) ?_
  refine r_istore_n (ls' := [vr 103, vi x1, vi (-1), vr 9999, vr 9999, vr 9999]) f_331_1 (Nat.le_of_ble_eq_true rfl) rfl ?_
  refine r_ldc_w f_331_2 (by decide) ?_
  refine r_istore_n (ls' := [vr 103, vi x1, vi (-1), vi 1000000, vr 9999, vr 9999]) f_331_5 (Nat.le_of_ble_eq_true rfl) rfl ?_
  refine r_iconst f_331_6 (by decide) ?_
  refine r_istore (ls' := [vr 103, vi x1, vi (-1), vi 1000000, vi 0, vr 9999]) f_331_7 (Nat.le_of_ble_eq_true rfl) rfl ?_
  exact k1

theorem g_M_bridgeOf_9 {Q : PQ} {h : HP} {x1 : Int} {x2 : Int} {x3 : Int} {x4 : Int} {j5 : AV} 
    (k1 : 70 ≤ x4 → Q (some (vi x2)) h)
    (o2 : ¬ 70 ≤ x4 → -2147483648 ≤ 1 - x1 ∧ 1 - x1 ≤ 2147483647)
    (o3 : ¬ 70 ≤ x4 → WR (rmM h 0))
    (o4 : ¬ 70 ≤ x4 → 0 ≤ x4 ∧ x4 < 70)
    (k5 : ¬ 70 ≤ x4 → ((0 ≤ x4 % 10 ∧ x4 % 10 < h 104 0 ∧ 0 ≤ x4 / 10 ∧ x4 / 10 < h 104 1) ∧ rLand (rmM h 0) (x4 % 10) (x4 / 10) = (1 - x1)) → Wp true i_M_laysIslands 0 [vr 103, vi x1, vi x4, vr 9999, vr 9999, vr 9999, vr 9999, vr 9999, vr 9999] [] h (fun r h' => Wp true i_M_bridgeOf 38 [vr 103, vi x1, vi x2, vi x3, vi x4, j5] (r.toList ++ []) h' Q))
    (o6 : ¬ 70 ≤ x4 → ¬ ((0 ≤ x4 % 10 ∧ x4 % 10 < h 104 0 ∧ 0 ≤ x4 / 10 ∧ x4 / 10 < h 104 1) ∧ rLand (rmM h 0) (x4 % 10) (x4 / 10) = (1 - x1)) → -2147483648 ≤ x4 + 1 ∧ x4 + 1 ≤ 2147483647)
    (k7 : ¬ 70 ≤ x4 → ¬ ((0 ≤ x4 % 10 ∧ x4 % 10 < h 104 0 ∧ 0 ≤ x4 / 10 ∧ x4 / 10 < h 104 1) ∧ rLand (rmM h 0) (x4 % 10) (x4 / 10) = (1 - x1)) → Wp true i_M_bridgeOf 9 [vr 103, vi x1, vi x2, vi x3, vi (x4 + 1), j5] [] h Q) :
    Wp true i_M_bridgeOf 9 [vr 103, vi x1, vi x2, vi x3, vi x4, j5] [] h Q := by
  refine r_iload (v := x4) f_331_9 rfl ?_
  refine r_bipush f_331_11 (by decide) ?_
  refine r_br2 (t := 61) f_331_13 rfl cb_ge (fun c1 => ?_) (fun c1 => ?_)
  · refine r_iload_n (v := x2) f_331_61 rfl ?_
    exact r_reti f_331_62 rfl (k1 c1)
  · refine r_aload_n (v := 103) f_331_16 rfl (by decide) ?_
    refine r_iload (v := x4) f_331_17 rfl ?_
    refine r_iconst f_331_19 (by decide) ?_
    refine r_iload_n (v := x1) f_331_20 rfl ?_
    refine r_isub (u := 1 - x1) f_331_21 rfl (o2 c1) ?_
    refine r_callv (as := [vr 103, vi x4, vi (1 - x1)]) (st' := []) (ls0 := [vr 103, vi x4, vi (1 - x1)]) f_331_22 (by decide) rfl rfl (Nat.le_of_ble_eq_true rfl) (Nat.le_of_ble_eq_true rfl) ⟨_, _, rfl, rfl⟩ rfl ?_
    refine c_M_isBoardOf (o3 c1) (o4 c1) ?_
    show Wp true i_M_bridgeOf 25 [vr 103, vi x1, vi x2, vi x3, vi x4, j5] [vi (bi ((0 ≤ x4 % 10 ∧ x4 % 10 < h 104 0 ∧ 0 ≤ x4 / 10 ∧ x4 / 10 < h 104 1) ∧ rLand (rmM h 0) (x4 % 10) (x4 / 10) = (1 - x1)))] h Q
    refine r_br (t := 31) f_331_25 rfl cb_bt (fun c2 => ?_) (fun c2 => ?_)
    · refine r_aload_n (v := 103) f_331_31 rfl (by decide) ?_
      refine r_iload_n (v := x1) f_331_32 rfl ?_
      refine r_iload (v := x4) f_331_33 rfl ?_
      exact r_callv (as := [vr 103, vi x1, vi x4]) (st' := []) (ls0 := [vr 103, vi x1, vi x4, vr 9999, vr 9999, vr 9999, vr 9999, vr 9999, vr 9999]) f_331_35 (by decide) rfl rfl (Nat.le_of_ble_eq_true rfl) (Nat.le_of_ble_eq_true rfl) ⟨_, _, rfl, rfl⟩ rfl (k5 c1 c2)
    · refine r_goto (t := 55) f_331_28 rfl ?_
      refine r_iinc (v := x4) (w := x4 + 1) (ls' := [vr 103, vi x1, vi x2, vi x3, vi (x4 + 1), j5]) f_331_55 rfl rfl (o6 c1 c2) rfl ?_
      refine r_goto (t := 9) f_331_58 rfl ?_
      exact (k7 c1 c2)

theorem g_M_bridgeOf_38 {Q : PQ} {h : HP} {x1 : Int} {x2 : Int} {x3 : Int} {x4 : Int} {j5 : AV} {s0 : Int} 
    (o1 : s0 < x3 → -2147483648 ≤ x4 + 1 ∧ x4 + 1 ≤ 2147483647)
    (k2 : s0 < x3 → Wp true i_M_bridgeOf 9 [vr 103, vi x1, vi x4, vi s0, vi (x4 + 1), vi s0] [] h Q)
    (o3 : ¬ s0 < x3 → -2147483648 ≤ x4 + 1 ∧ x4 + 1 ≤ 2147483647)
    (k4 : ¬ s0 < x3 → Wp true i_M_bridgeOf 9 [vr 103, vi x1, vi x2, vi x3, vi (x4 + 1), vi s0] [] h Q) :
    Wp true i_M_bridgeOf 38 [vr 103, vi x1, vi x2, vi x3, vi x4, j5] [vi s0] h Q := by
  refine r_istore (ls' := [vr 103, vi x1, vi x2, vi x3, vi x4, vi s0]) f_331_38 (Nat.le_of_ble_eq_true rfl) rfl ?_
  refine r_iload (v := s0) f_331_40 rfl ?_
  refine r_iload_n (v := x3) f_331_42 rfl ?_
  refine r_br2 (t := 49) f_331_43 rfl cb_lt (fun c1 => ?_) (fun c1 => ?_)
  · refine r_iload (v := s0) f_331_49 rfl ?_
    refine r_istore_n (ls' := [vr 103, vi x1, vi x2, vi s0, vi x4, vi s0]) f_331_51 (Nat.le_of_ble_eq_true rfl) rfl ?_
    refine r_iload (v := x4) f_331_52 rfl ?_
    refine r_istore_n (ls' := [vr 103, vi x1, vi x4, vi s0, vi x4, vi s0]) f_331_54 (Nat.le_of_ble_eq_true rfl) rfl ?_
    refine r_iinc (v := x4) (w := x4 + 1) (ls' := [vr 103, vi x1, vi x4, vi s0, vi (x4 + 1), vi s0]) f_331_55 rfl rfl (o1 c1) rfl ?_
    refine r_goto (t := 9) f_331_58 rfl ?_
    exact (k2 c1)
  · refine r_goto (t := 55) f_331_46 rfl ?_
    refine r_iinc (v := x4) (w := x4 + 1) (ls' := [vr 103, vi x1, vi x2, vi x3, vi (x4 + 1), vi s0]) f_331_55 rfl rfl (o3 c1) rfl ?_
    refine r_goto (t := 9) f_331_58 rfl ?_
    exact (k4 c1)

theorem g_M_bridge_0 {Q : PQ} {h : HP} {x1 : Int} 
    (k1 : ¬ (x1 = 0 ∨ x1 = 1) → Q (some (vi (-1))) (hs h 103 2 1))
    (k2 : (x1 = 0 ∨ x1 = 1) → Wp true i_M_bridgeOf 0 [vr 103, vi x1, vr 9999, vr 9999, vr 9999, vr 9999] [] h (fun r h' => Wp true i_M_bridge 13 [vr 103, vi x1] (r.toList ++ [vr 103]) h' Q)) :
    Wp true i_M_bridge 0 [vr 103, vi x1] [] h Q := by
  refine r_iload_n (v := x1) f_332_0 rfl ?_
  refine r_calls (as := [vi x1]) (st' := []) (ls0 := [vi x1]) f_332_1 (by decide) (by decide) rfl rfl (Nat.le_of_ble_eq_true rfl) (Nat.le_of_ble_eq_true rfl) rfl ?_
  refine c_M_isLand  ?_
  show Wp true i_M_bridge 4 [vr 103, vi x1] [vi (bi (x1 = 0 ∨ x1 = 1))] h Q
  refine r_br (t := 19) f_332_4 rfl cb_bf (fun c1 => ?_) (fun c1 => ?_)
  · refine r_aload_n (v := 103) f_332_19 rfl (by decide) ?_
    refine r_iconst f_332_20 (by decide) ?_
    refine r_callv (as := [vr 103, vi 1]) (st' := []) (ls0 := [vr 103, vi 1]) f_332_21 (by decide) rfl rfl (Nat.le_of_ble_eq_true rfl) (Nat.le_of_ble_eq_true rfl) ⟨_, _, rfl, rfl⟩ rfl ?_
    refine c_M_refuse  ?_
    show Wp true i_M_bridge 24 [vr 103, vi x1] [vi (-1)] (hs h 103 2 1) Q
    exact r_reti f_332_24 rfl (k1 c1)
  · have c1 := Decidable.not_not.mp c1
    refine r_aload_n (v := 103) f_332_7 rfl (by decide) ?_
    refine r_aload_n (v := 103) f_332_8 rfl (by decide) ?_
    refine r_iload_n (v := x1) f_332_9 rfl ?_
    exact r_callv (as := [vr 103, vi x1]) (st' := [vr 103]) (ls0 := [vr 103, vi x1, vr 9999, vr 9999, vr 9999, vr 9999]) f_332_10 (by decide) rfl rfl (Nat.le_of_ble_eq_true rfl) (Nat.le_of_ble_eq_true rfl) ⟨_, _, rfl, rfl⟩ rfl (k2 c1)

theorem g_M_bridge_13 {Q : PQ} {h : HP} {x1 : Int} {s1 : Int} 
    (k1 : Q (some (vi s1)) (hs h 103 2 (if s1 = -1 then 6 else 0))) :
    Wp true i_M_bridge 13 [vr 103, vi x1] [vi s1, vr 103] h Q := by
  refine r_callv (as := [vr 103, vi s1]) (st' := []) (ls0 := [vr 103, vi s1]) f_332_13 (by decide) rfl rfl (Nat.le_of_ble_eq_true rfl) (Nat.le_of_ble_eq_true rfl) ⟨_, _, rfl, rfl⟩ rfl ?_
  refine c_M_orNone  ?_
  show Wp true i_M_bridge 16 [vr 103, vi x1] [vi s1] (hs h 103 2 (if s1 = -1 then 6 else 0)) Q
  refine r_goto (t := 24) f_332_16 rfl ?_
  exact r_reti f_332_24 rfl k1

theorem g_M_bridged_0 {Q : PQ} {h : HP} {x1 : Int} 
    (k1 : (x1 = 0 ∨ x1 = 1) → Wp true i_M_bridgeOf 0 [vr 103, vi x1, vr 9999, vr 9999, vr 9999, vr 9999] [] h (fun r h' => Wp true i_M_bridged 18 [vr 103, vi x1, vr 9999] (r.toList ++ []) h' Q))
    (k2 : ¬ (x1 = 0 ∨ x1 = 1) → Q (some (vi (-1))) (hs h 103 2 1)) :
    Wp true i_M_bridged 0 [vr 103, vi x1, vr 9999] [] h Q := by
  refine r_iload_n (v := x1) f_333_0 rfl ?_
  refine r_calls (as := [vi x1]) (st' := []) (ls0 := [vi x1]) f_333_1 (by decide) (by decide) rfl rfl (Nat.le_of_ble_eq_true rfl) (Nat.le_of_ble_eq_true rfl) rfl ?_
  refine c_M_isLand  ?_
  show Wp true i_M_bridged 4 [vr 103, vi x1, vr 9999] [vi (bi (x1 = 0 ∨ x1 = 1))] h Q
  refine r_br (t := 13) f_333_4 rfl cb_bt (fun c1 => ?_) (fun c1 => ?_)
  · refine r_aload_n (v := 103) f_333_13 rfl (by decide) ?_
    refine r_iload_n (v := x1) f_333_14 rfl ?_
    exact r_callv (as := [vr 103, vi x1]) (st' := []) (ls0 := [vr 103, vi x1, vr 9999, vr 9999, vr 9999, vr 9999]) f_333_15 (by decide) rfl rfl (Nat.le_of_ble_eq_true rfl) (Nat.le_of_ble_eq_true rfl) ⟨_, _, rfl, rfl⟩ rfl (k1 c1)
  · refine r_aload_n (v := 103) f_333_7 rfl (by decide) ?_
    refine r_iconst f_333_8 (by decide) ?_
    refine r_callv (as := [vr 103, vi 1]) (st' := []) (ls0 := [vr 103, vi 1]) f_333_9 (by decide) rfl rfl (Nat.le_of_ble_eq_true rfl) (Nat.le_of_ble_eq_true rfl) ⟨_, _, rfl, rfl⟩ rfl ?_
    refine c_M_refuse  ?_
    show Wp true i_M_bridged 12 [vr 103, vi x1, vr 9999] [vi (-1)] (hs h 103 2 1) Q
    exact r_reti f_333_12 rfl (k2 c1)

theorem g_M_bridged_18 {Q : PQ} {h : HP} {x1 : Int} {s0 : Int} 
    (k1 : ¬ s0 = -1 → Wp true i_M_laysIslands 0 [vr 103, vi x1, vi s0, vr 9999, vr 9999, vr 9999, vr 9999, vr 9999, vr 9999] [] h (fun r h' => Wp true i_M_bridged 40 [vr 103, vi x1, vi s0] (r.toList ++ [vr 103]) h' Q))
    (k2 : s0 = -1 → Q (some (vi (-1))) (hs h 103 2 6)) :
    Wp true i_M_bridged 18 [vr 103, vi x1, vr 9999] [vi s0] h Q := by
  refine r_istore_n (ls' := [vr 103, vi x1, vi s0]) f_333_18 (Nat.le_of_ble_eq_true rfl) rfl ?_
  refine r_iload_n (v := s0) f_333_19 rfl ?_
  refine r_iconst f_333_20 (by decide) ?_
  refine r_br2 (t := 33) f_333_21 rfl cb_ne (fun c1 => ?_) (fun c1 => ?_)
  · refine r_aload_n (v := 103) f_333_33 rfl (by decide) ?_
    refine r_aload_n (v := 103) f_333_34 rfl (by decide) ?_
    refine r_iload_n (v := x1) f_333_35 rfl ?_
    refine r_iload_n (v := s0) f_333_36 rfl ?_
    exact r_callv (as := [vr 103, vi x1, vi s0]) (st' := [vr 103]) (ls0 := [vr 103, vi x1, vi s0, vr 9999, vr 9999, vr 9999, vr 9999, vr 9999, vr 9999]) f_333_37 (by decide) rfl rfl (Nat.le_of_ble_eq_true rfl) (Nat.le_of_ble_eq_true rfl) ⟨_, _, rfl, rfl⟩ rfl (k1 c1)
  · have c1 := Decidable.not_not.mp c1
    refine r_aload_n (v := 103) f_333_24 rfl (by decide) ?_
    refine r_bipush f_333_25 (by decide) ?_
    refine r_callv (as := [vr 103, vi 6]) (st' := []) (ls0 := [vr 103, vi 6]) f_333_27 (by decide) rfl rfl (Nat.le_of_ble_eq_true rfl) (Nat.le_of_ble_eq_true rfl) ⟨_, _, rfl, rfl⟩ rfl ?_
    refine c_M_refuse  ?_
    show Wp true i_M_bridged 30 [vr 103, vi x1, vi s0] [vi (-1)] (hs h 103 2 6) Q
    refine r_goto (t := 43) f_333_30 rfl ?_
    exact r_reti f_333_43 rfl (k2 c1)

theorem g_M_bridged_40 {Q : PQ} {h : HP} {x1 : Int} {x2 : Int} {s1 : Int} 
    (k1 : Q (some (vi s1)) (hs h 103 2 0)) :
    Wp true i_M_bridged 40 [vr 103, vi x1, vi x2] [vi s1, vr 103] h Q := by
  refine r_callv (as := [vr 103, vi s1]) (st' := []) (ls0 := [vr 103, vi s1]) f_333_40 (by decide) rfl rfl (Nat.le_of_ble_eq_true rfl) (Nat.le_of_ble_eq_true rfl) ⟨_, _, rfl, rfl⟩ rfl ?_
  refine c_M_gives  ?_
  show Wp true i_M_bridged 43 [vr 103, vi x1, vi x2] [vi s1] (hs h 103 2 0) Q
  exact r_reti f_333_43 rfl k1

/-! ===== a board more: BRIDGE ===== -/
noncomputable def cho (P : Prop) (a b : Int) : Int := @ite Int P (Classical.propDecidable _) a b
theorem cho_t {P : Prop} {a b : Int} (h : P) : cho P a b = a := if_pos h
theorem cho_f {P : Prop} {a b : Int} (h : ¬ P) : cho P a b = b := if_neg h
theorem ho_01 {R : HP} (W : WR R) {c r : Int} : rLand R c r = 0 ∨ rLand R c r = 1 := by
  unfold rLand
  by_cases q : 0 ≤ rOn R c r
  · rw [if_pos q]
    rcases rOn_rg R c r with z | z
    · omega
    · exact rHo_01 W (by omega)
  · rw [if_neg q]; exact rBy_01 R c r.toNat
/-- the labels of the ISLANDS next to a board -/
def arI (R h1 : HP) (l : Int) (c0 r0 k : Nat) : Prop := ∃ c r, nb c0 r0 c r ∧ SL R l c r ∧ h1 84 (9 * r + c) = (k : Int)
theorem sumI_upd {p q : Nat → Prop} {t : Nat} : ∀ (d i : Nat), i ≤ t → t < i + d → ¬ p t → (∀ k, i ≤ k → k < i + d → (q k ↔ p k ∨ k = t)) → sumF (fun k => ind (q k)) d i = sumF (fun k => ind (p k)) d i + 1 := by
  intro d i h1 h2 hp hq
  have e : sumF (fun k => ind (q k)) d i = sumF (fun k => ind (p k) + ind (k = t)) d i := by
    apply sumF_congr
    intro j j1 j2
    have := hq j j1 j2
    by_cases z : j = t
    · rw [ind_t (this.mpr (Or.inr z)), ind_t z, ind_f (by rw [z]; exact hp)]; rfl
    · rw [ind_f z]
      by_cases y : p j
      · rw [ind_t (this.mpr (Or.inl y)), ind_t y]; rfl
      · rw [ind_f (fun x => (this.mp x).elim y z), ind_f y]; rfl
  rw [e, sumF_add, sumF_one (f := fun k => ind (k = t)) (t := t) d i h1 h2, ind_t rfl]
  intro j _ _ hj
  exact ind_f hj
theorem sumI_congr {p q : Nat → Prop} (d i : Nat) (h : ∀ k, i ≤ k → k < i + d → (p k ↔ q k)) : sumF (fun k => ind (p k)) d i = sumF (fun k => ind (q k)) d i := by
  apply sumF_congr
  intro j j1 j2
  rw [propext (h j j1 j2)]
theorem ar_n {R h1 : HP} (W : WR R) (V : Svy R h1) {l : Int} {c0 r0 : Nat} (hb : isB R c0 r0) (hl : ¬ rLand R c0 r0 = l) : cntC R (fstB (SM R l ((10 * r0 + c0 : Nat) : Int))) = cntC R (fstB (SL R l)) + 1 - sumF (fun k => ind (arI R h1 l c0 r0 k)) (h1 82 4).toNat 0 := by
  have w := W.1
  have vn := svy_n W V l
  obtain ⟨V1, V2, V3, V4, V5, V6⟩ := V
  have b1 := hb.1
  have b2 := hb.2
  have inA : ∀ k, arI R h1 l c0 r0 k → h1 85 k = l ∧ (k : Int) < h1 82 4 := by
    intro k q
    obtain ⟨c, r, q1, q2, q3⟩ := q
    have a := V3 c r q2.1
    have kl : (k : Int) < h1 82 4 := by omega
    obtain ⟨c', r', p1, p2, p3⟩ := V5 k kl
    have := (V4 c r c' r' q2.1 p1).mp (q3.trans p2.symm)
    exact ⟨by rw [p3, this.1]; exact q2.2, kl⟩
  let P : Nat → Nat → Prop := fun c r => (c = c0 ∧ r = r0) ∨ (SL R l c r ∧ arI R h1 l c0 r0 (h1 84 (9 * r + c)).toNat)
  let L : Nat → Nat → Int := fun c r => cho (P c r) (h1 82 4) (h1 84 (9 * r + c))
  have hS : ∀ c r, SM R l ((10 * r0 + c0 : Nat) : Int) c r ↔ SL R l c r ∨ (c = c0 ∧ r = r0) := by
    intro c r
    unfold SM
    constructor
    · intro q
      rcases q with q | q
      · exact Or.inl q
      · right
        have := q.1.1
        have := q.2
        omega
    · intro q
      rcases q with q | q
      · exact Or.inl q
      · right; rw [q.1, q.2]; exact ⟨hb, rfl⟩
  have n0 : ¬ SL R l c0 r0 := fun q => hl q.2
  have eq0 : ∀ c r c' r', SL R l c r → SL R l c' r' → (h1 84 (9 * r + c) = h1 84 (9 * r' + c') ↔ Cn (SL R l) c r c' r') := by
    intro c r c' r' q1 q2
    have := V4 c r c' r' q1.1 q2.1
    rw [q1.2, q2.2] at this
    exact this.trans ⟨fun z => z.2, fun z => ⟨rfl, z⟩⟩
  have mono : ∀ c r c' r', Cn (SL R l) c r c' r' → Cn (SM R l ((10 * r0 + c0 : Nat) : Int)) c r c' r' := fun c r c' r' q => Cn_mono q (fun a b z => Or.inl z)
  have toB : ∀ c r, SM R l ((10 * r0 + c0 : Nat) : Int) c r → P c r → Cn (SM R l ((10 * r0 + c0 : Nat) : Int)) c r c0 r0 := by
    intro c r q p
    rcases p with p | ⟨p1, c', r', p2, p3, p4⟩
    · rw [p.1, p.2]; exact Cn_refl
    · have a := V3 c r p1.1
      have cn := (eq0 c r c' r' p1 p3).mp (by omega)
      exact Cn_step (mono _ _ _ _ cn) (nb_sym p2) ((hS c0 r0).mpr (Or.inr ⟨rfl, rfl⟩))
  have Pcl : ∀ c r c' r', SL R l c r → SL R l c' r' → nb c r c' r' → (P c r ↔ P c' r') := by
    intro c r c' r' q1 q2 q3
    have e : h1 84 (9 * r + c) = h1 84 (9 * r' + c') := (eq0 c r c' r' q1 q2).mpr (Cn_step Cn_refl q3 q2)
    have x1 : ¬ (c = c0 ∧ r = r0) := fun z => n0 (by rw [← z.1, ← z.2]; exact q1)
    have x2 : ¬ (c' = c0 ∧ r' = r0) := fun z => n0 (by rw [← z.1, ← z.2]; exact q2)
    constructor
    · intro p
      rcases p with p | p
      · exact absurd p x1
      · right; rw [← e]; exact ⟨q2, p.2⟩
    · intro p
      rcases p with p | p
      · exact absurd p x2
      · right; rw [e]; exact ⟨q1, p.2⟩
  have Pn : ∀ c r, nb c0 r0 c r → SL R l c r → P c r := by
    intro c r q1 q2
    have a := V3 c r q2.1
    right
    exact ⟨q2, c, r, q1, q2, by omega⟩
  have P0 : P c0 r0 := Or.inl ⟨rfl, rfl⟩
  have nl := @n_lab R W (SM R l ((10 * r0 + c0 : Nat) : Int)) L ((h1 82 4).toNat + 1) (fun k => (k < (h1 82 4).toNat ∧ h1 85 k = l ∧ ¬ arI R h1 l c0 r0 k) ∨ k = (h1 82 4).toNat) (fun _ => Classical.propDecidable _) (fun c r q => SM_B q)
    (fun c r q => by
      show 0 ≤ cho _ _ _ ∧ cho _ _ _ < _
      by_cases p : P c r
      · rw [cho_t p]; omega
      · rw [cho_f p]
        rcases (hS c r).mp q with z | z
        · have := V3 c r z.1; omega
        · exact absurd (Or.inl z) p)
    (fun c r c' r' q1 q2 => by
      show cho _ _ _ = cho _ _ _ ↔ _
      constructor
      · intro e
        by_cases p : P c r
        · have p' : P c' r' := by
            by_cases z : P c' r'
            · exact z
            · rw [cho_t p, cho_f z] at e
              rcases (hS c' r').mp q2 with y | y
              · have := V3 c' r' y.1; omega
              · exact absurd (Or.inl y) z
          exact Cn_tr (toB c r q1 p) (Cn_sym (toB c' r' q2 p') q2)
        · have p' : ¬ P c' r' := by
            intro z
            rw [cho_f p, cho_t z] at e
            rcases (hS c r).mp q1 with y | y
            · have := V3 c r y.1; omega
            · exact p (Or.inl y)
          rw [cho_f p, cho_f p'] at e
          have s1 : SL R l c r := ((hS c r).mp q1).resolve_right (fun y => p (Or.inl y))
          have s2 : SL R l c' r' := ((hS c' r').mp q2).resolve_right (fun y => p' (Or.inl y))
          exact mono _ _ _ _ ((eq0 c r c' r' s1 s2).mp e)
      · intro cn
        have := cn (fun a b => SM R l ((10 * r0 + c0 : Nat) : Int) a b ∧ L a b = L c r) ⟨q1, rfl⟩ (fun x y x' y' p nn s => ⟨s, ?_⟩)
        · exact this.2.symm
        · rw [← p.2]
          show cho _ _ _ = cho _ _ _
          rcases (hS x y).mp p.1 with z | z
          · rcases (hS x' y').mp s with z' | z'
            · have pc := Pcl x y x' y' z z' nn
              by_cases u : P x y
              · rw [cho_t u, cho_t (pc.mp u)]
              · rw [cho_f u, cho_f (fun v => u (pc.mpr v))]
                exact ((eq0 x y x' y' z z').mpr (Cn_step Cn_refl nn z')).symm
            · have u : P x y := Pn x y (by rw [← z'.1, ← z'.2]; exact nb_sym nn) z
              rw [cho_t (Or.inl z'), cho_t u]
          · rcases (hS x' y').mp s with z' | z'
            · have u : P x' y' := Pn x' y' (by rw [← z.1, ← z.2]; exact nn) z'
              rw [cho_t u, cho_t (Or.inl z)]
            · rw [cho_t (Or.inl z), cho_t (Or.inl z')])
    (fun k hk => by
      constructor
      · intro q
        rcases q with ⟨q1, q2, q3⟩ | q
        · obtain ⟨c, r, p1, p2, p3⟩ := V5 k (by omega)
          have s : SL R l c r := ⟨p1, by rw [← p3]; exact q2⟩
          refine ⟨c, r, Or.inl s, ?_⟩
          show cho _ _ _ = _
          rw [cho_f, p2]
          intro p
          rcases p with p | p
          · exact n0 (by rw [← p.1, ← p.2]; exact s)
          · rw [p2, Int.toNat_natCast] at p; exact q3 p.2
        · refine ⟨c0, r0, (hS c0 r0).mpr (Or.inr ⟨rfl, rfl⟩), ?_⟩
          show cho _ _ _ = _
          rw [cho_t P0, q]; omega
      · intro q
        obtain ⟨c, r, q1, q2⟩ := q
        have q2 : cho (P c r) (h1 82 4) (h1 84 (9 * r + c)) = k := q2
        by_cases p : P c r
        · rw [cho_t p] at q2; right; omega
        · rw [cho_f p] at q2
          have s : SL R l c r := ((hS c r).mp q1).resolve_right (fun y => p (Or.inl y))
          have a := V3 c r s.1
          left
          refine ⟨by omega, ?_, fun z => p (Or.inr ⟨s, by rw [q2, Int.toNat_natCast]; exact z⟩)⟩
          obtain ⟨c', r', p1, p2, p3⟩ := V5 k (by omega)
          have := (V4 c r c' r' s.1 p1).mp (q2.trans p2.symm)
          rw [p3, this.1]; exact s.2)
  rw [← nl]
  show sumF (fun k => ind ((k < (h1 82 4).toNat ∧ h1 85 k = l ∧ ¬ arI R h1 l c0 r0 k) ∨ k = (h1 82 4).toNat)) ((h1 82 4).toNat + 1) 0 = _
  rw [sumF_app, ← vn]
  have e1 : sumF (fun k => ind ((k < (h1 82 4).toNat ∧ h1 85 k = l ∧ ¬ arI R h1 l c0 r0 k) ∨ k = (h1 82 4).toNat)) 1 (0 + (h1 82 4).toNat) = 1 := by
    show ind _ + 0 = 1
    rw [ind_t (Or.inr (by omega))]; rfl
  have e2 : sumF (fun k => if h1 85 k = l then (1 : Int) else 0) (h1 82 4).toNat 0 = sumF (fun k => ind ((k < (h1 82 4).toNat ∧ h1 85 k = l ∧ ¬ arI R h1 l c0 r0 k) ∨ k = (h1 82 4).toNat)) (h1 82 4).toNat 0 + sumF (fun k => ind (arI R h1 l c0 r0 k)) (h1 82 4).toNat 0 := by
    rw [← sumF_add]
    apply sumF_congr
    intro j _ hj
    by_cases z : arI R h1 l c0 r0 j
    · rw [if_pos (inA j z).1, ind_t z, ind_f]
      · rfl
      · intro y
        rcases y with y | y
        · exact y.2.2 z
        · omega
    · rw [ind_f z]
      by_cases y : h1 85 j = l
      · rw [if_pos y, ind_t (Or.inl ⟨by omega, y, z⟩)]; rfl
      · rw [if_neg y, ind_f]
        · rfl
        · intro x
          rcases x with x | x
          · exact y x.2.1
          · omega
  rw [e1, e2]
  omega
theorem c_Is_islesAround {Q : PQ} {h R : HP} {x2 x3 : Int} {f1 c0 r0 : Nat} (h_f1 : isF f1) (eR : rmC h f1 = R) (W : WR R) (V : Svy R h) (hb : isB R c0 r0) (hx : x2 = ((9 * r0 + c0 : Nat) : Int))
    (k : Q (some (vi (sumF (fun k => ind (arI R h x3 c0 r0 k)) (h 82 4).toNat 0))) h) : Wp true i_Is_islesAround 0 [vr 82, vr f1, vi x2, vi x3, vr 9999, vr 9999, vr 9999, vr 9999, vr 9999] [] h Q := by
  have w := W.1
  have b1 := hb.1
  have b2 := hb.2
  subst hx
  have V2 := V.2.1
  let A : Int → Nat → Prop := fun s k => ∃ s' : Int, (0 ≤ s' ∧ s' < s) ∧ ∃ c r, isB R c r ∧ bs R ((9 * r0 + c0 : Nat) : Int) s' = ((9 * r + c : Nat) : Int) ∧ rLand R c r = x3 ∧ h 84 (9 * r + c) = (k : Int)
  have A4 : ∀ k, A 4 k ↔ arI R h x3 c0 r0 k := by
    intro k
    constructor
    · intro q
      obtain ⟨s', s1, c, r, q1, q2, q3, q4⟩ := q
      rcases bs_nb W hb (s := s') (by omega) with z | ⟨a, b, n1, n2, n3⟩
      · omega
      · have := q1.1
        have := n2.1
        obtain ⟨rfl, rfl⟩ : a = c ∧ b = r := by omega
        exact ⟨a, b, n1, ⟨q1, q3⟩, q4⟩
    · intro q
      obtain ⟨c, r, q1, q2, q3⟩ := q
      obtain ⟨s', s1, s2⟩ := nb_bs W hb q2.1 q1
      exact ⟨s', by omega, c, r, q2.1, s2, q2.2, q3⟩
  have key : ∀ (d : Nat) (s y : Int) (j8 : AV), 0 ≤ s → s + d = 4 → (∀ k, k < 63 → (btL y k = true ↔ A s k)) → Wp true i_Is_islesAround 9 [vr 82, vr f1, vi ((9 * r0 + c0 : Nat) : Int), vi x3, vi (sumF (fun k => ind (A s k)) (h 82 4).toNat 0), vj y, vr 9999, vi s, j8] [] h Q := by
    intro d
    induction d with
    | zero =>
      intro s y j8 s0 e hbt
      have e4 : s = 4 := by omega
      subst e4
      have fin : Q (some (vi (sumF (fun k => ind (A 4 k)) (h 82 4).toNat 0))) h := by
        rw [sumI_congr _ _ (fun k _ _ => A4 k)]; exact k
      refine g_Is_islesAround_9 h_f1 ?_ ?_ ?_ ?_ ?_ ?_ ?_ ?_ ?_ ?_ ?_ ?_ ?_
      · intro c1; (try simp only [Int.toNat_natCast] at c1); first | (exfalso; omega) | exact absurd trivial ‹¬ True› | (exact fin)
      · intro c1; (try simp only [Int.toNat_natCast] at c1); first | omega | (exfalso; omega) | exact ⟨by omega, by omega⟩ | (omega) | exact absurd trivial ‹¬ True›
      · intro c1; (try simp only [Int.toNat_natCast] at c1); first | omega | (exfalso; omega) | exact ⟨by omega, by omega⟩ | (omega) | exact absurd trivial ‹¬ True›
      · intro c1 c2; (try simp only [Int.toNat_natCast] at c1 c2); first | omega | (exfalso; omega) | exact ⟨by omega, by omega⟩ | (omega) | exact absurd trivial ‹¬ True›
      · intro c1 c2; (try simp only [Int.toNat_natCast] at c1 c2); first | (exfalso; omega) | exact absurd trivial ‹¬ True› | (skip)
      · intro c1 c2; (try simp only [Int.toNat_natCast] at c1 c2); first | omega | (exfalso; omega) | exact ⟨by omega, by omega⟩ | (omega) | exact absurd trivial ‹¬ True›
      · intro c1 c2 c3; (try simp only [Int.toNat_natCast] at c1 c2 c3); first | omega | (exfalso; omega) | exact ⟨by omega, by omega⟩ | (omega) | exact absurd trivial ‹¬ True›
      · intro c1 c2 c3; (try simp only [Int.toNat_natCast] at c1 c2 c3); first | (exfalso; omega) | exact absurd trivial ‹¬ True› | (skip)
      · intro c1 c2 c3 c4; (try simp only [Int.toNat_natCast] at c1 c2 c3 c4); first | omega | (exfalso; omega) | exact ⟨by omega, by omega⟩ | (omega) | exact absurd trivial ‹¬ True›
      · intro c1 c2 c3 c4; (try simp only [Int.toNat_natCast] at c1 c2 c3 c4); first | (exfalso; omega) | exact absurd trivial ‹¬ True› | (skip)
      · intro c1 c2 c3 c4; (try simp only [Int.toNat_natCast] at c1 c2 c3 c4); first | omega | (exfalso; omega) | exact ⟨by omega, by omega⟩ | (omega) | exact absurd trivial ‹¬ True›
      · intro c1 c2 c3 c4; (try simp only [Int.toNat_natCast] at c1 c2 c3 c4); first | omega | (exfalso; omega) | exact ⟨by omega, by omega⟩ | (omega) | exact absurd trivial ‹¬ True›
      · intro c1 c2 c3 c4; (try simp only [Int.toNat_natCast] at c1 c2 c3 c4); first | (exfalso; omega) | exact absurd trivial ‹¬ True› | (skip)
    | succ d ih =>
      intro s y j8 s0 e hbt
      have rg := sumI_rg (A s) (h 82 4).toNat 0
      have same : ∀ j8, (∀ k, A (s + 1) k ↔ A s k) → Wp true i_Is_islesAround 9 [vr 82, vr f1, vi ((9 * r0 + c0 : Nat) : Int), vi x3, vi (sumF (fun k => ind (A s k)) (h 82 4).toNat 0), vj y, vr 9999, vi (s + 1), j8] [] h Q := by
        intro j8 q
        have := ih (s + 1) y j8 (by omega) (by omega) (fun k hk => (hbt k hk).trans (q k).symm)
        rw [sumI_congr _ _ (fun k _ _ => q k)] at this
        exact this
      have up : ∀ k, A s k → A (s + 1) k := fun k q => by
        obtain ⟨s', s1, q⟩ := q
        exact ⟨s', by omega, q⟩
      rcases bs_nb W hb (s := s) (by omega) with z | ⟨a, b, n1, n2, n3⟩
      · have z' : bs (rmC h f1) ((9 * r0 + c0 : Nat) : Int) s = -1 := by rw [eR]; exact z
        have nx := fun j8 => same j8 (fun k => ⟨fun q => by
          obtain ⟨s', s1, c, r, q1, q2, q3⟩ := q
          by_cases u : s' < s
          · exact ⟨s', by omega, c, r, q1, q2, q3⟩
          · have u : s' = s := by omega
            rw [u, z] at q2
            omega, up k⟩)
        refine g_Is_islesAround_9 h_f1 ?_ ?_ ?_ ?_ ?_ ?_ ?_ ?_ ?_ ?_ ?_ ?_ ?_
        · intro c1; (try simp only [Int.toNat_natCast] at c1); first | (exfalso; omega) | exact absurd trivial ‹¬ True› | (skip)
        · intro c1; (try simp only [Int.toNat_natCast] at c1); first | omega | (exfalso; omega) | exact ⟨by omega, by omega⟩ | (omega) | exact absurd trivial ‹¬ True›
        · intro c1; (try simp only [Int.toNat_natCast] at c1); first | omega | (exfalso; omega) | exact ⟨by omega, by omega⟩ | (omega) | exact absurd trivial ‹¬ True›
        · intro c1 c2; (try simp only [Int.toNat_natCast] at c1 c2); first | omega | (exfalso; omega) | exact ⟨by omega, by omega⟩ | (omega) | exact absurd trivial ‹¬ True›
        · intro c1 c2; (try simp only [Int.toNat_natCast] at c1 c2); first | (exfalso; omega) | exact absurd trivial ‹¬ True› | (exact nx _)
        · intro c1 c2; (try simp only [Int.toNat_natCast] at c1 c2); first | omega | (exfalso; omega) | exact ⟨by omega, by omega⟩ | (omega) | exact absurd trivial ‹¬ True›
        · intro c1 c2 c3; (try simp only [Int.toNat_natCast] at c1 c2 c3); first | omega | (exfalso; omega) | exact ⟨by omega, by omega⟩ | (omega) | exact absurd trivial ‹¬ True›
        · intro c1 c2 c3; (try simp only [Int.toNat_natCast] at c1 c2 c3); first | (exfalso; omega) | exact absurd trivial ‹¬ True› | (skip)
        · intro c1 c2 c3 c4; (try simp only [Int.toNat_natCast] at c1 c2 c3 c4); first | omega | (exfalso; omega) | exact ⟨by omega, by omega⟩ | (omega) | exact absurd trivial ‹¬ True›
        · intro c1 c2 c3 c4; (try simp only [Int.toNat_natCast] at c1 c2 c3 c4); first | (exfalso; omega) | exact absurd trivial ‹¬ True› | (skip)
        · intro c1 c2 c3 c4; (try simp only [Int.toNat_natCast] at c1 c2 c3 c4); first | omega | (exfalso; omega) | exact ⟨by omega, by omega⟩ | (omega) | exact absurd trivial ‹¬ True›
        · intro c1 c2 c3 c4; (try simp only [Int.toNat_natCast] at c1 c2 c3 c4); first | omega | (exfalso; omega) | exact ⟨by omega, by omega⟩ | (omega) | exact absurd trivial ‹¬ True›
        · intro c1 c2 c3 c4; (try simp only [Int.toNat_natCast] at c1 c2 c3 c4); first | (exfalso; omega) | exact absurd trivial ‹¬ True› | (skip)
      · have n21 := n2.1
        have n22 := n2.2
        have z' : bs (rmC h f1) ((9 * r0 + c0 : Nat) : Int) s = ((9 * b + a : Nat) : Int) := by rw [eR]; exact n3
        have en : (((9 * b + a : Nat) : Int)).toNat = 9 * b + a := Int.toNat_natCast _
        have la := V.2.2.1 a b n2
        have ka := V.1 a b n2
        obtain ⟨t, et⟩ : ∃ t : Nat, h 84 (9 * b + a) = t := ⟨(h 84 (9 * b + a)).toNat, by omega⟩
        have st : ∀ k, A (s + 1) k ↔ A s k ∨ (rLand R a b = x3 ∧ k = t) := by
          intro k
          constructor
          · intro q
            obtain ⟨s', s1, c, r, q1, q2, q3, q4⟩ := q
            by_cases u : s' < s
            · exact Or.inl ⟨s', by omega, c, r, q1, q2, q3, q4⟩
            · have u : s' = s := by omega
              rw [u, n3] at q2
              have := q1.1
              obtain ⟨rfl, rfl⟩ : a = c ∧ b = r := by omega
              right
              exact ⟨q3, by omega⟩
          · intro q
            rcases q with q | q
            · exact up k q
            · exact ⟨s, by omega, a, b, n2, n3, q.1, by rw [et, q.2]⟩
        refine g_Is_islesAround_9 h_f1 ?_ ?_ ?_ ?_ ?_ ?_ ?_ ?_ ?_ ?_ ?_ ?_ ?_
        · intro c1; (try simp only [Int.toNat_natCast] at c1); first | (exfalso; omega) | exact absurd trivial ‹¬ True› | (skip)
        · intro c1; (try simp only [Int.toNat_natCast] at c1); first | omega | (exfalso; omega) | exact ⟨by omega, by omega⟩ | (omega) | exact absurd trivial ‹¬ True›
        · intro c1; (try simp only [Int.toNat_natCast] at c1); first | omega | (exfalso; omega) | exact ⟨by omega, by omega⟩ | (omega) | exact absurd trivial ‹¬ True›
        · intro c1 c2; (try simp only [Int.toNat_natCast] at c1 c2); first | omega | (exfalso; omega) | exact ⟨by omega, by omega⟩ | (omega) | exact absurd trivial ‹¬ True›
        · intro c1 c2; (try simp only [Int.toNat_natCast] at c1 c2); first | (exfalso; omega) | exact absurd trivial ‹¬ True› | (skip)
        · intro c1 c2; (try simp only [Int.toNat_natCast] at c1 c2); first | omega | (exfalso; omega) | exact ⟨by omega, by omega⟩ | (omega) | exact absurd trivial ‹¬ True›
        · intro c1 c2 c3; (try simp only [Int.toNat_natCast] at c1 c2 c3); first | omega | (exfalso; omega) | exact ⟨by omega, by omega⟩ | (omega) | exact absurd trivial ‹¬ True›
        · intro c1 c2 c3; (try simp only [Int.toNat_natCast] at c1 c2 c3)
          rw [z', en, ka] at c3
          exact same _ (fun k => (st k).trans ⟨fun q => q.elim (fun y => y) (fun y => absurd y.1 c3), Or.inl⟩)
        · intro c1 c2 c3 c4; (try simp only [Int.toNat_natCast] at c1 c2 c3 c4); first | omega | (exfalso; omega) | exact ⟨by omega, by omega⟩ | (omega) | exact absurd trivial ‹¬ True›
        · intro c1 c2 c3 c4; (try simp only [Int.toNat_natCast] at c1 c2 c3 c4)
          rw [z', en, et, bL_shr0 (by omega)] at c4
          rw [z', en, ka] at c3
          have bt : btL y t = true := by
            cases e : btL y t with
            | true => rfl
            | false => exact absurd e c4
          refine same _ (fun k => (st k).trans ⟨fun q => q.elim (fun y => y) (fun y => ?_), Or.inl⟩)
          rw [y.2]
          exact (hbt t (by omega)).mp bt
        · intro c1 c2 c3 c4; (try simp only [Int.toNat_natCast] at c1 c2 c3 c4); first | omega | (exfalso; omega) | exact ⟨by omega, by omega⟩ | (omega) | exact absurd trivial ‹¬ True›
        · intro c1 c2 c3 c4; (try simp only [Int.toNat_natCast] at c1 c2 c3 c4); first | omega | (exfalso; omega) | exact ⟨by omega, by omega⟩ | (omega) | exact absurd trivial ‹¬ True›
        · intro c1 c2 c3 c4; (try simp only [Int.toNat_natCast] at c1 c2 c3 c4)
          rw [z', en, et, bL_shr0 (by omega)] at c4
          rw [z', en, ka] at c3
          have nA : ¬ A s t := fun q => by
            have := (hbt t (by omega)).mpr q
            rw [this] at c4
            exact absurd c4 (by decide)
          have hbt' : ∀ k, k < 63 → (btL (o_lor y (o_lshl 1 t)) k = true ↔ A (s + 1) k) := by
            intro k hk
            rw [bL_set (by omega) (by omega), Bool.or_eq_true, hbt k hk, decide_eq_true_iff]
            exact ⟨fun q => (st k).mpr (q.elim Or.inl (fun u => Or.inr ⟨c3, u⟩)), fun q => ((st k).mp q).elim Or.inl (fun u => Or.inr u.2)⟩
          have up1 := sumI_upd (p := A s) (q := A (s + 1)) (t := t) (h 82 4).toNat 0 (by omega) (by omega) nA (fun k _ _ => (st k).trans ⟨fun q => q.elim Or.inl (fun u => Or.inr u.2), fun q => q.elim Or.inl (fun u => Or.inr ⟨c3, u⟩)⟩)
          have nx := ih (s + 1) (o_lor y (o_lshl 1 t)) (vi ((9 * b + a : Nat) : Int)) (by omega) (by omega) hbt'
          rw [up1] at nx
          rw [z', en, et]
          exact nx
  have k0 := key 4 0 0 (vr 9999) (by omega) (by omega) (fun k hk => by
    rw [bL_0]
    exact ⟨fun q => absurd q (by decide), fun q => by obtain ⟨s', s1, -⟩ := q; omega⟩)
  have z0 : sumF (fun k => ind (A 0 k)) (h 82 4).toNat 0 = 0 := by
    apply sumF_zero
    intro j _ _
    exact ind_f (fun q => by obtain ⟨s', s1, -⟩ := q; omega)
  rw [z0] at k0
  exact g_Is_islesAround_0 h_f1 k0
