theorem g_Ba_changeOf_0 {Q : PQ} {h : HP} {x2 : Int} {x3 : Int} {x4 : Int} {f1 : Nat} (h_f1 : isF f1)
    (o1 : ¬ x4 = 0 → ¬ x2 = 0 → 0 ≤ x3 ∧ x3 < 7)
    (o2 : ¬ x4 = 0 → ¬ x2 = 0 → -2147483648 ≤ (h (f1 + 2) x3.toNat) + x4 ∧ (h (f1 + 2) x3.toNat) + x4 ≤ 2147483647)
    (o3 : ¬ x4 = 0 → ¬ x2 = 0 → -2147483648 ≤ ((h (f1 + 2) x3.toNat) + x4) - 1 ∧ ((h (f1 + 2) x3.toNat) + x4) - 1 ≤ 2147483647)
    (k4 : ¬ x4 = 0 → ¬ x2 = 0 → Wp true i_Ba_changeOf 34 [vr 89, vr f1, vi x2, vi x3, vi x4, vr 9999] [vi (((h (f1 + 2) x3.toNat) + x4) - 1)] h Q)
    (o5 : ¬ x4 = 0 → x2 = 0 → 0 ≤ x3 ∧ x3 < 7)
    (o6 : ¬ x4 = 0 → x2 = 0 → -2147483648 ≤ (h (f1 + 2) x3.toNat) - x4 ∧ (h (f1 + 2) x3.toNat) - x4 ≤ 2147483647)
    (k7 : ¬ x4 = 0 → x2 = 0 → Wp true i_Ba_changeOf 34 [vr 89, vr f1, vi x2, vi x3, vi x4, vr 9999] [vi ((h (f1 + 2) x3.toNat) - x4)] h Q)
    (k8 : x4 = 0 → Q (some (vi 0)) h) :
    Wp true i_Ba_changeOf 0 [vr 89, vr f1, vi x2, vi x3, vi x4, vr 9999] [] h Q := by
  refine r_iload (v := x4) f_3_0 rfl ?_
  refine r_br (t := 7) f_3_2 rfl cb_ne (fun c1 => ?_) (fun c1 => ?_)
  · refine r_iload_n (v := x2) f_3_7 rfl ?_
    refine r_br (t := 23) f_3_8 rfl cb_ne (fun c2 => ?_) (fun c2 => ?_)
    · refine r_aload_n (v := f1) f_3_23 rfl (F_n h_f1) ?_
      refine r_getr (q := (f1 + 2)) f_3_24 (F_k h_f1) (by decide) (Or.inl rfl) rfl ?_
      refine r_iload_n (v := x3) f_3_27 rfl ?_
      refine r_iaload (n := 7) (v := h (f1 + 2) x3.toNat) f_3_28 (F_2 h_f1) (o1 c1 c2) rfl ?_
      refine r_iload (v := x4) f_3_29 rfl ?_
      refine r_iadd (u := (h (f1 + 2) x3.toNat) + x4) f_3_31 rfl (o2 c1 c2) ?_
      refine r_iconst f_3_32 (by decide) ?_
      refine r_isub (u := ((h (f1 + 2) x3.toNat) + x4) - 1) f_3_33 rfl (o3 c1 c2) ?_
      exact (k4 c1 c2)
    · have c2 := Decidable.not_not.mp c2
      refine r_aload_n (v := f1) f_3_11 rfl (F_n h_f1) ?_
      refine r_getr (q := (f1 + 2)) f_3_12 (F_k h_f1) (by decide) (Or.inl rfl) rfl ?_
      refine r_iload_n (v := x3) f_3_15 rfl ?_
      refine r_iaload (n := 7) (v := h (f1 + 2) x3.toNat) f_3_16 (F_2 h_f1) (o5 c1 c2) rfl ?_
      refine r_iload (v := x4) f_3_17 rfl ?_
      refine r_isub (u := (h (f1 + 2) x3.toNat) - x4) f_3_19 rfl (o6 c1 c2) ?_
      refine r_goto (t := 34) f_3_20 rfl ?_
      exact (k7 c1 c2)
  · have c1 := Decidable.not_not.mp c1
    refine r_iconst f_3_5 (by decide) ?_
    exact r_reti f_3_6 rfl (k8 c1)

theorem g_Ba_changeOf_34 {Q : PQ} {h : HP} {x2 : Int} {x3 : Int} {x4 : Int} {s0 : Int} {f1 : Nat} (h_f1 : isF f1)
    (k1 : ¬ (0 ≤ s0 ∧ s0 < h f1 0 ∧ 0 ≤ x3 ∧ x3 < h f1 1) → Q (some (vi 0)) h)
    (o2 : (0 ≤ s0 ∧ s0 < h f1 0 ∧ 0 ≤ x3 ∧ x3 < h f1 1) → 0 ≤ s0 ∧ s0 < 100)
    (o3 : (0 ≤ s0 ∧ s0 < h f1 0 ∧ 0 ≤ x3 ∧ x3 < h f1 1) → 0 ≤ x3 ∧ x3 < 100)
    (o4 : (0 ≤ s0 ∧ s0 < h f1 0 ∧ 0 ≤ x3 ∧ x3 < h f1 1) → 0 ≤ x3 * 9 + s0 ∧ x3 * 9 + s0 < 63)
    (k5 : (0 ≤ s0 ∧ s0 < h f1 0 ∧ 0 ≤ x3 ∧ x3 < h f1 1) → Q (some (vi (h 90 (x3 * 9 + s0).toNat))) h) :
    Wp true i_Ba_changeOf 34 [vr 89, vr f1, vi x2, vi x3, vi x4, vr 9999] [vi s0] h Q := by
  refine r_istore (ls' := [vr 89, vr f1, vi x2, vi x3, vi x4, vi s0]) f_3_34 (Nat.le_of_ble_eq_true rfl) rfl ?_
  refine r_aload_n (v := f1) f_3_36 rfl (F_n h_f1) ?_
  refine r_iload (v := s0) f_3_37 rfl ?_
  refine r_iload_n (v := x3) f_3_39 rfl ?_
  refine r_callv (as := [vr f1, vi s0, vi x3]) (st' := []) (ls0 := [vr f1, vi s0, vi x3]) f_3_40 (by decide) rfl rfl (Nat.le_of_ble_eq_true rfl) (Nat.le_of_ble_eq_true rfl) ⟨_, _, rfl, (F_k h_f1)⟩ rfl ?_
  refine c_Fl_hasBoard h_f1 ?_
  show Wp true i_Ba_changeOf 43 [vr 89, vr f1, vi x2, vi x3, vi x4, vi s0] [vi (bi (0 ≤ s0 ∧ s0 < h f1 0 ∧ 0 ≤ x3 ∧ x3 < h f1 1))] h Q
  refine r_br (t := 60) f_3_43 rfl cb_bf (fun c1 => ?_) (fun c1 => ?_)
  · refine r_iconst f_3_60 (by decide) ?_
    exact r_reti f_3_61 rfl (k1 c1)
  · have c1 := Decidable.not_not.mp c1
    refine r_aload_n (v := 89) f_3_46 rfl (by decide) ?_
    refine r_getr (q := 90) f_3_47 rfl (by decide) (Or.inl rfl) rfl ?_
    refine r_iload (v := s0) f_3_50 rfl ?_
    refine r_iload_n (v := x3) f_3_52 rfl ?_
    refine r_calls (as := [vi s0, vi x3]) (st' := [vr 90]) (ls0 := [vi s0, vi x3]) f_3_53 (by decide) (by decide) rfl rfl (Nat.le_of_ble_eq_true rfl) (Nat.le_of_ble_eq_true rfl) rfl ?_
    refine c_C_boardNumber (o2 c1) (o3 c1) ?_
    show Wp true i_Ba_changeOf 56 [vr 89, vr f1, vi x2, vi x3, vi x4, vi s0] [vi (x3 * 9 + s0), vr 90] h Q
    refine r_iaload (n := 63) (v := h 90 (x3 * 9 + s0).toNat) f_3_56 ⟨rfl, rfl⟩ (o4 c1) rfl ?_
    refine r_goto (t := 61) f_3_57 rfl ?_
    exact r_reti f_3_61 rfl (k5 c1)

theorem g_Ba_weigh_0 {Q : PQ} {h : HP} {x2 : Int} {x3 : Int} {x4 : Int} {f1 : Nat} (h_f1 : isF f1)
    (k1 : Wp true i_Ar_fillI 0 [vr 90, vi 0, vr 9999, vr 9999] [] h (fun r h' => Wp true i_Ba_weigh 8 [vr 89, vr f1, vi x2, vi x3, vi x4, vr 9999, vr 9999] (r.toList ++ []) h' Q)) :
    Wp true i_Ba_weigh 0 [vr 89, vr f1, vi x2, vi x3, vi x4, vr 9999, vr 9999] [] h Q := by
  refine r_aload_n (v := 89) f_1_0 rfl (by decide) ?_
  refine r_getr (q := 90) f_1_1 rfl (by decide) (Or.inl rfl) rfl ?_
  refine r_iconst f_1_4 (by decide) ?_
  exact r_calls (as := [vr 90, vi 0]) (st' := []) (ls0 := [vr 90, vi 0, vr 9999, vr 9999]) f_1_5 (by decide) (by decide) rfl rfl (Nat.le_of_ble_eq_true rfl) (Nat.le_of_ble_eq_true rfl) rfl k1

theorem g_Ba_weigh_8 {Q : PQ} {h : HP} {x2 : Int} {x3 : Int} {x4 : Int} {f1 : Nat} (h_f1 : isF f1)
    (k1 : Wp true i_Ba_weigh 11 [vr 89, vr f1, vi x2, vi x3, vi x4, vi 0, vr 9999] [] h Q) :
    Wp true i_Ba_weigh 8 [vr 89, vr f1, vi x2, vi x3, vi x4, vr 9999, vr 9999] [] h Q := by
  refine r_iconst f_1_8 (by decide) ?_
  refine r_istore (ls' := [vr 89, vr f1, vi x2, vi x3, vi x4, vi 0, vr 9999]) f_1_9 (Nat.le_of_ble_eq_true rfl) rfl ?_
  exact k1

theorem g_Ba_weigh_11 {Q : PQ} {h : HP} {x2 : Int} {x3 : Int} {x4 : Int} {x5 : Int} {j6 : AV} {f1 : Nat} (h_f1 : isF f1)
    (k1 : h f1 3 ≤ x5 → Wp true i_Ar_fillI 0 [vr 91, vi (-1000000), vr 9999, vr 9999] [] h (fun r h' => Wp true i_Ba_weigh 89 [vr 89, vr f1, vi x2, vi x3, vi x4, vi x5, j6] (r.toList ++ []) h' Q))
    (o2 : ¬ h f1 3 ≤ x5 → 0 ≤ x5 ∧ x5 < 10)
    (o3 : ¬ h f1 3 ≤ x5 → 0 ≤ h (f1 + 7) x5.toNat → -2147483648 ≤ x5 + 1 ∧ x5 + 1 ≤ 2147483647)
    (k4 : ¬ h f1 3 ≤ x5 → 0 ≤ h (f1 + 7) x5.toNat → Wp true i_Ba_weigh 11 [vr 89, vr f1, vi x2, vi x3, vi x4, vi (x5 + 1), j6] [] h Q)
    (o5 : ¬ h f1 3 ≤ x5 → ¬ 0 ≤ h (f1 + 7) x5.toNat → WR (rmC h f1))
    (o6 : ¬ h f1 3 ≤ x5 → ¬ 0 ≤ h (f1 + 7) x5.toNat → x3 = 0 ∨ x3 = 1)
    (o7 : ¬ h f1 3 ≤ x5 → ¬ 0 ≤ h (f1 + 7) x5.toNat → 0 ≤ x5 ∧ x5 < h f1 3)
    (o8 : ¬ h f1 3 ≤ x5 → ¬ 0 ≤ h (f1 + 7) x5.toNat → 0 ≤ (h (f1 + 4) x5.toNat) ∧ (h (f1 + 4) x5.toNat) < 100)
    (o9 : ¬ h f1 3 ≤ x5 → ¬ 0 ≤ h (f1 + 7) x5.toNat → 0 ≤ (h (f1 + 5) x5.toNat) ∧ (h (f1 + 5) x5.toNat) < 100)
    (o10 : ¬ h f1 3 ≤ x5 → ¬ 0 ≤ h (f1 + 7) x5.toNat → ¬ x2 = x3 → 0 ≤ (h (f1 + 5) x5.toNat) * 9 + (h (f1 + 4) x5.toNat) ∧ (h (f1 + 5) x5.toNat) * 9 + (h (f1 + 4) x5.toNat) < 63)
    (o11 : ¬ h f1 3 ≤ x5 → ¬ 0 ≤ h (f1 + 7) x5.toNat → ¬ x2 = x3 → -2147483648 ≤ x5 + 1 ∧ x5 + 1 ≤ 2147483647)
    (k12 : ¬ h f1 3 ≤ x5 → ¬ 0 ≤ h (f1 + 7) x5.toNat → ¬ x2 = x3 → Wp true i_Ba_weigh 11 [vr 89, vr f1, vi x2, vi x3, vi x4, vi (x5 + 1), vi (rWo (rmC h f1) x3 x5.toNat)] [] (hs h 90 ((h (f1 + 5) x5.toNat) * 9 + (h (f1 + 4) x5.toNat)).toNat (rWo (rmC h f1) x3 x5.toNat)) Q)
    (o13 : ¬ h f1 3 ≤ x5 → ¬ 0 ≤ h (f1 + 7) x5.toNat → x2 = x3 → -2147483648 ≤ -(rWo (rmC h f1) x3 x5.toNat) ∧ -(rWo (rmC h f1) x3 x5.toNat) ≤ 2147483647)
    (o14 : ¬ h f1 3 ≤ x5 → ¬ 0 ≤ h (f1 + 7) x5.toNat → x2 = x3 → 0 ≤ (h (f1 + 5) x5.toNat) * 9 + (h (f1 + 4) x5.toNat) ∧ (h (f1 + 5) x5.toNat) * 9 + (h (f1 + 4) x5.toNat) < 63)
    (o15 : ¬ h f1 3 ≤ x5 → ¬ 0 ≤ h (f1 + 7) x5.toNat → x2 = x3 → -2147483648 ≤ x5 + 1 ∧ x5 + 1 ≤ 2147483647)
    (k16 : ¬ h f1 3 ≤ x5 → ¬ 0 ≤ h (f1 + 7) x5.toNat → x2 = x3 → Wp true i_Ba_weigh 11 [vr 89, vr f1, vi x2, vi x3, vi x4, vi (x5 + 1), vi (rWo (rmC h f1) x3 x5.toNat)] [] (hs h 90 ((h (f1 + 5) x5.toNat) * 9 + (h (f1 + 4) x5.toNat)).toNat (-(rWo (rmC h f1) x3 x5.toNat))) Q) :
    Wp true i_Ba_weigh 11 [vr 89, vr f1, vi x2, vi x3, vi x4, vi x5, j6] [] h Q := by
  refine r_iload (v := x5) f_1_11 rfl ?_
  refine r_aload_n (v := f1) f_1_13 rfl (F_n h_f1) ?_
  refine r_geti (v := h f1 3) f_1_14 (F_k h_f1) (by decide) rfl ?_
  refine r_br2 (t := 80) f_1_17 rfl cb_ge (fun c1 => ?_) (fun c1 => ?_)
  · refine r_aload_n (v := 89) f_1_80 rfl (by decide) ?_
    refine r_getr (q := 91) f_1_81 rfl (by decide) (Or.inl rfl) rfl ?_
    refine r_ldc f_1_84 (by decide) ?_
    exact r_calls (as := [vr 91, vi (-1000000)]) (st' := []) (ls0 := [vr 91, vi (-1000000), vr 9999, vr 9999]) f_1_86 (by decide) (by decide) rfl rfl (Nat.le_of_ble_eq_true rfl) (Nat.le_of_ble_eq_true rfl) rfl (k1 c1)
  · refine r_aload_n (v := f1) f_1_20 rfl (F_n h_f1) ?_
    refine r_getr (q := (f1 + 7)) f_1_21 (F_k h_f1) (by decide) (Or.inl rfl) rfl ?_
    refine r_iload (v := x5) f_1_24 rfl ?_
    refine r_iaload (n := 10) (v := h (f1 + 7) x5.toNat) f_1_26 (F_7 h_f1) (o2 c1) rfl ?_
    refine r_br (t := 74) f_1_27 rfl cb_ge (fun c2 => ?_) (fun c2 => ?_)
    · refine r_iinc (v := x5) (w := x5 + 1) (ls' := [vr 89, vr f1, vi x2, vi x3, vi x4, vi (x5 + 1), j6]) f_1_74 rfl rfl (o3 c1 c2) rfl ?_
      refine r_goto (t := 11) f_1_77 rfl ?_
      exact (k4 c1 c2)
    · refine r_aload_n (v := f1) f_1_30 rfl (F_n h_f1) ?_
      refine r_iload_n (v := x3) f_1_31 rfl ?_
      refine r_iload (v := x5) f_1_32 rfl ?_
      refine r_callv (as := [vr f1, vi x3, vi x5]) (st' := []) (ls0 := [vr f1, vi x3, vi x5]) f_1_34 (by decide) rfl rfl (Nat.le_of_ble_eq_true rfl) (Nat.le_of_ble_eq_true rfl) ⟨_, _, rfl, (F_k h_f1)⟩ rfl ?_
      refine c_Fl_worthTo h_f1 (o5 c1 c2) (o6 c1 c2) (o7 c1 c2) ?_
      show Wp true i_Ba_weigh 37 [vr 89, vr f1, vi x2, vi x3, vi x4, vi x5, j6] [vi (rWo (rmC h f1) x3 x5.toNat)] h Q
      refine r_istore (ls' := [vr 89, vr f1, vi x2, vi x3, vi x4, vi x5, vi (rWo (rmC h f1) x3 x5.toNat)]) f_1_37 (Nat.le_of_ble_eq_true rfl) rfl ?_
      refine r_aload_n (v := 89) f_1_39 rfl (by decide) ?_
      refine r_getr (q := 90) f_1_40 rfl (by decide) (Or.inl rfl) rfl ?_
      refine r_aload_n (v := f1) f_1_43 rfl (F_n h_f1) ?_
      refine r_getr (q := (f1 + 4)) f_1_44 (F_k h_f1) (by decide) (Or.inl rfl) rfl ?_
      refine r_iload (v := x5) f_1_47 rfl ?_
      refine r_iaload (n := 10) (v := h (f1 + 4) x5.toNat) f_1_49 (F_4 h_f1) (o2 c1) rfl ?_
      refine r_aload_n (v := f1) f_1_50 rfl (F_n h_f1) ?_
      refine r_getr (q := (f1 + 5)) f_1_51 (F_k h_f1) (by decide) (Or.inl rfl) rfl ?_
      refine r_iload (v := x5) f_1_54 rfl ?_
      refine r_iaload (n := 10) (v := h (f1 + 5) x5.toNat) f_1_56 (F_5 h_f1) (o2 c1) rfl ?_
      refine r_calls (as := [vi (h (f1 + 4) x5.toNat), vi (h (f1 + 5) x5.toNat)]) (st' := [vr 90]) (ls0 := [vi (h (f1 + 4) x5.toNat), vi (h (f1 + 5) x5.toNat)]) f_1_57 (by decide) (by decide) rfl rfl (Nat.le_of_ble_eq_true rfl) (Nat.le_of_ble_eq_true rfl) rfl ?_
      refine c_C_boardNumber (o8 c1 c2) (o9 c1 c2) ?_
      show Wp true i_Ba_weigh 60 [vr 89, vr f1, vi x2, vi x3, vi x4, vi x5, vi (rWo (rmC h f1) x3 x5.toNat)] [vi ((h (f1 + 5) x5.toNat) * 9 + (h (f1 + 4) x5.toNat)), vr 90] h Q
      refine r_iload_n (v := x2) f_1_60 rfl ?_
      refine r_iload_n (v := x3) f_1_61 rfl ?_
      refine r_br2 (t := 71) f_1_62 rfl cb_ne (fun c3 => ?_) (fun c3 => ?_)
      · refine r_iload (v := rWo (rmC h f1) x3 x5.toNat) f_1_71 rfl ?_
        refine r_iastore (n := 63) f_1_73 ⟨rfl, rfl⟩ (o10 c1 c2 c3) ?_
        refine r_iinc (v := x5) (w := x5 + 1) (ls' := [vr 89, vr f1, vi x2, vi x3, vi x4, vi (x5 + 1), vi (rWo (rmC h f1) x3 x5.toNat)]) f_1_74 rfl rfl (o11 c1 c2 c3) rfl ?_
        refine r_goto (t := 11) f_1_77 rfl ?_
        exact (k12 c1 c2 c3)
      · have c3 := Decidable.not_not.mp c3
        refine r_iload (v := rWo (rmC h f1) x3 x5.toNat) f_1_65 rfl ?_
        refine r_ineg (u := -(rWo (rmC h f1) x3 x5.toNat)) f_1_67 rfl (o13 c1 c2 c3) ?_
        refine r_goto (t := 73) f_1_68 rfl ?_
        refine r_iastore (n := 63) f_1_73 ⟨rfl, rfl⟩ (o14 c1 c2 c3) ?_
        refine r_iinc (v := x5) (w := x5 + 1) (ls' := [vr 89, vr f1, vi x2, vi x3, vi x4, vi (x5 + 1), vi (rWo (rmC h f1) x3 x5.toNat)]) f_1_74 rfl rfl (o15 c1 c2 c3) rfl ?_
        refine r_goto (t := 11) f_1_77 rfl ?_
        exact (k16 c1 c2 c3)

theorem g_Ba_weigh_89 {Q : PQ} {h : HP} {x2 : Int} {x3 : Int} {x4 : Int} {x5 : Int} {j6 : AV} {f1 : Nat} (h_f1 : isF f1)
    (o1 : -2147483648 ≤ (h f1 1) * 64 ∧ (h f1 1) * 64 ≤ 2147483647)
    (o2 : 0 ≤ (h f1 1) * 64 ∧ (h f1 1) * 64 < 512)
    (o3 : -2147483648 ≤ ((hs h 91 ((h f1 1) * 64).toNat 0) f1 1) - 1 ∧ ((hs h 91 ((h f1 1) * 64).toNat 0) f1 1) - 1 ≤ 2147483647)
    (k4 : Wp true i_Ba_weigh 110 [vr 89, vr f1, vi x2, vi x3, vi x4, vi (((hs h 91 ((h f1 1) * 64).toNat 0) f1 1) - 1), j6] [] (hs h 91 ((h f1 1) * 64).toNat 0) Q) :
    Wp true i_Ba_weigh 89 [vr 89, vr f1, vi x2, vi x3, vi x4, vi x5, j6] [] h Q := by
  refine r_aload_n (v := 89) f_1_89 rfl (by decide) ?_
  refine r_getr (q := 91) f_1_90 rfl (by decide) (Or.inl rfl) rfl ?_
  refine r_aload_n (v := f1) f_1_93 rfl (F_n h_f1) ?_
  refine r_geti (v := h f1 1) f_1_94 (F_k h_f1) (by decide) rfl ?_
  refine r_bipush f_1_97 (by decide) ?_
  refine r_imul (u := (h f1 1) * 64) f_1_99 rfl o1 ?_
  refine r_iconst f_1_100 (by decide) ?_
  refine r_iastore (n := 512) f_1_101 ⟨rfl, rfl⟩ o2 ?_
  refine r_aload_n (v := f1) f_1_102 rfl (F_n h_f1) ?_
  refine r_geti (v := (hs h 91 ((h f1 1) * 64).toNat 0) f1 1) f_1_103 (F_k h_f1) (by decide) rfl ?_
  refine r_iconst f_1_106 (by decide) ?_
  refine r_isub (u := ((hs h 91 ((h f1 1) * 64).toNat 0) f1 1) - 1) f_1_107 rfl o3 ?_
  refine r_istore (ls' := [vr 89, vr f1, vi x2, vi x3, vi x4, vi (((hs h 91 ((h f1 1) * 64).toNat 0) f1 1) - 1), j6]) f_1_108 (Nat.le_of_ble_eq_true rfl) rfl ?_
  exact k4

theorem g_Ba_weigh_110 {Q : PQ} {h : HP} {x2 : Int} {x3 : Int} {x4 : Int} {x5 : Int} {j6 : AV} {f1 : Nat} (h_f1 : isF f1)
    (k1 : x5 < 0 → Q none h)
    (k2 : ¬ x5 < 0 → Wp true i_Ba_weigh 118 [vr 89, vr f1, vi x2, vi x3, vi x4, vi x5, vi 0] [] h Q) :
    Wp true i_Ba_weigh 110 [vr 89, vr f1, vi x2, vi x3, vi x4, vi x5, j6] [] h Q := by
  refine r_iload (v := x5) f_1_110 rfl ?_
  refine r_br (t := 160) f_1_112 rfl cb_lt (fun c1 => ?_) (fun c1 => ?_)
  · exact r_retv f_1_160 rfl (k1 c1)
  · refine r_iconst f_1_115 (by decide) ?_
    refine r_istore (ls' := [vr 89, vr f1, vi x2, vi x3, vi x4, vi x5, vi 0]) f_1_116 (Nat.le_of_ble_eq_true rfl) rfl ?_
    exact (k2 c1)

theorem g_Ba_weigh_118 {Q : PQ} {h : HP} {x2 : Int} {x3 : Int} {x4 : Int} {x5 : Int} {x6 : Int} {f1 : Nat} (h_f1 : isF f1)
    (o1 : x4 < x6 → -2147483648 ≤ x5 - 1 ∧ x5 - 1 ≤ 2147483647)
    (k2 : x4 < x6 → Wp true i_Ba_weigh 110 [vr 89, vr f1, vi x2, vi x3, vi x4, vi (x5 - 1), vi x6] [] h Q)
    (o3 : ¬ x4 < x6 → -2147483648 ≤ x5 * 64 ∧ x5 * 64 ≤ 2147483647)
    (o4 : ¬ x4 < x6 → -2147483648 ≤ (x5 * 64) + x6 ∧ (x5 * 64) + x6 ≤ 2147483647)
    (k5 : ¬ x4 < x6 → Wp true i_Ba_bestFrom 0 [vr 89, vr f1, vi x2, vi x5, vi x6, vr 9999, vr 9999, vr 9999, vr 9999, vr 9999] [] h (fun r h' => Wp true i_Ba_weigh 147 [vr 89, vr f1, vi x2, vi x3, vi x4, vi x5, vi x6] (r.toList ++ [vi ((x5 * 64) + x6), vr 91]) h' Q)) :
    Wp true i_Ba_weigh 118 [vr 89, vr f1, vi x2, vi x3, vi x4, vi x5, vi x6] [] h Q := by
  refine r_iload (v := x6) f_1_118 rfl ?_
  refine r_iload (v := x4) f_1_120 rfl ?_
  refine r_br2 (t := 154) f_1_122 rfl cb_gt (fun c1 => ?_) (fun c1 => ?_)
  · refine r_iinc (v := x5) (w := x5 - 1) (ls' := [vr 89, vr f1, vi x2, vi x3, vi x4, vi (x5 - 1), vi x6]) f_1_154 rfl (by omega) (o1 c1) rfl ?_
    refine r_goto (t := 110) f_1_157 rfl ?_
    exact (k2 c1)
  · refine r_aload_n (v := 89) f_1_125 rfl (by decide) ?_
    refine r_getr (q := 91) f_1_126 rfl (by decide) (Or.inl rfl) rfl ?_
    refine r_iload (v := x5) f_1_129 rfl ?_
    refine r_bipush f_1_131 (by decide) ?_
    refine r_imul (u := x5 * 64) f_1_133 rfl (o3 c1) ?_
    refine r_iload (v := x6) f_1_134 rfl ?_
    refine r_iadd (u := (x5 * 64) + x6) f_1_136 rfl (o4 c1) ?_
    refine r_aload_n (v := 89) f_1_137 rfl (by decide) ?_
    refine r_aload_n (v := f1) f_1_138 rfl (F_n h_f1) ?_
    refine r_iload_n (v := x2) f_1_139 rfl ?_
    refine r_iload (v := x5) f_1_140 rfl ?_
    refine r_iload (v := x6) f_1_142 rfl ?_
    exact r_callv (as := [vr 89, vr f1, vi x2, vi x5, vi x6]) (st' := [vi ((x5 * 64) + x6), vr 91]) (ls0 := [vr 89, vr f1, vi x2, vi x5, vi x6, vr 9999, vr 9999, vr 9999, vr 9999, vr 9999]) f_1_144 (by decide) rfl rfl (Nat.le_of_ble_eq_true rfl) (Nat.le_of_ble_eq_true rfl) ⟨_, _, rfl, rfl⟩ rfl (k5 c1)

theorem g_Ba_weigh_147 {Q : PQ} {h : HP} {x2 : Int} {x3 : Int} {x4 : Int} {x5 : Int} {x6 : Int} {s1 : Int} {s2 : Int} {f1 : Nat} (h_f1 : isF f1)
    (o1 : 0 ≤ s1 ∧ s1 < 512)
    (o2 : -2147483648 ≤ x6 + 1 ∧ x6 + 1 ≤ 2147483647)
    (k3 : Wp true i_Ba_weigh 118 [vr 89, vr f1, vi x2, vi x3, vi x4, vi x5, vi (x6 + 1)] [] (hs h 91 s1.toNat s2) Q) :
    Wp true i_Ba_weigh 147 [vr 89, vr f1, vi x2, vi x3, vi x4, vi x5, vi x6] [vi s2, vi s1, vr 91] h Q := by
  refine r_iastore (n := 512) f_1_147 ⟨rfl, rfl⟩ o1 ?_
  refine r_iinc (v := x6) (w := x6 + 1) (ls' := [vr 89, vr f1, vi x2, vi x3, vi x4, vi x5, vi (x6 + 1)]) f_1_148 rfl rfl o2 rfl ?_
  refine r_goto (t := 118) f_1_151 rfl ?_
  exact k3

theorem g_Ba_bestFrom_0 {Q : PQ} {h : HP} {x2 : Int} {x3 : Int} {x4 : Int} {f1 : Nat} (h_f1 : isF f1)
    (o1 : WR (rmC h f1))
    (o2 : 0 ≤ x3 ∧ x3 < h f1 1)
    (k3 : Wp true i_Ba_bestFrom 23 [vr 89, vr f1, vi x2, vi x3, vi x4, vi (min x4 (rIn (rmC h f1) x2 x3.toNat)), vi (-1000000), vi 0, vi 0, vr 9999] [] h Q) :
    Wp true i_Ba_bestFrom 0 [vr 89, vr f1, vi x2, vi x3, vi x4, vr 9999, vr 9999, vr 9999, vr 9999, vr 9999] [] h Q := by
  refine r_iload (v := x4) f_2_0 rfl ?_
  refine r_aload_n (v := f1) f_2_2 rfl (F_n h_f1) ?_
  refine r_iload_n (v := x2) f_2_3 rfl ?_
  refine r_iload_n (v := x3) f_2_4 rfl ?_
  refine r_callv (as := [vr f1, vi x2, vi x3]) (st' := [vi x4]) (ls0 := [vr f1, vi x2, vi x3]) f_2_5 (by decide) rfl rfl (Nat.le_of_ble_eq_true rfl) (Nat.le_of_ble_eq_true rfl) ⟨_, _, rfl, (F_k h_f1)⟩ rfl ?_
  refine c_Fl_boardsInRow h_f1 o1 o2 ?_
  show Wp true i_Ba_bestFrom 8 [vr 89, vr f1, vi x2, vi x3, vi x4, vr 9999, vr 9999, vr 9999, vr 9999, vr 9999] [vi (rIn (rmC h f1) x2 x3.toNat), vi x4] h Q
  refine r_calls (as := [vi x4, vi (rIn (rmC h f1) x2 x3.toNat)]) (st' := []) (ls0 := [vi x4, vi (rIn (rmC h f1) x2 x3.toNat)]) f_2_8 (by decide) (by decide) rfl rfl (Nat.le_of_ble_eq_true rfl) (Nat.le_of_ble_eq_true rfl) rfl ?_
  refine c_Ma_min  ?_
  show Wp true i_Ba_bestFrom 11 [vr 89, vr f1, vi x2, vi x3, vi x4, vr 9999, vr 9999, vr 9999, vr 9999, vr 9999] [vi (min x4 (rIn (rmC h f1) x2 x3.toNat))] h Q
  refine r_istore (ls' := [vr 89, vr f1, vi x2, vi x3, vi x4, vi (min x4 (rIn (rmC h f1) x2 x3.toNat)), vr 9999, vr 9999, vr 9999, vr 9999]) f_2_11 (Nat.le_of_ble_eq_true rfl) rfl ?_
  refine r_ldc f_2_13 (by decide) ?_
  refine r_istore (ls' := [vr 89, vr f1, vi x2, vi x3, vi x4, vi (min x4 (rIn (rmC h f1) x2 x3.toNat)), vi (-1000000), vr 9999, vr 9999, vr 9999]) f_2_15 (Nat.le_of_ble_eq_true rfl) rfl ?_
  refine r_iconst f_2_17 (by decide) ?_
  refine r_istore (ls' := [vr 89, vr f1, vi x2, vi x3, vi x4, vi (min x4 (rIn (rmC h f1) x2 x3.toNat)), vi (-1000000), vi 0, vr 9999, vr 9999]) f_2_18 (Nat.le_of_ble_eq_true rfl) rfl ?_
  refine r_iconst f_2_20 (by decide) ?_
  refine r_istore (ls' := [vr 89, vr f1, vi x2, vi x3, vi x4, vi (min x4 (rIn (rmC h f1) x2 x3.toNat)), vi (-1000000), vi 0, vi 0, vr 9999]) f_2_21 (Nat.le_of_ble_eq_true rfl) rfl ?_
  exact k3

theorem g_Ba_bestFrom_23 {Q : PQ} {h : HP} {x2 : Int} {x3 : Int} {x4 : Int} {x5 : Int} {x6 : Int} {x7 : Int} {x8 : Int} {j9 : AV} {f1 : Nat} (h_f1 : isF f1)
    (k1 : x5 < x8 → Q (some (vi x6)) h)
    (k2 : ¬ x5 < x8 → Wp true i_Ba_changeOf 0 [vr 89, vr f1, vi x2, vi x3, vi x8, vr 9999] [] h (fun r h' => Wp true i_Ba_bestFrom 41 [vr 89, vr f1, vi x2, vi x3, vi x4, vi x5, vi x6, vi x7, vi x8, j9] (r.toList ++ [vi x7]) h' Q)) :
    Wp true i_Ba_bestFrom 23 [vr 89, vr f1, vi x2, vi x3, vi x4, vi x5, vi x6, vi x7, vi x8, j9] [] h Q := by
  refine r_iload (v := x8) f_2_23 rfl ?_
  refine r_iload (v := x5) f_2_25 rfl ?_
  refine r_br2 (t := 88) f_2_27 rfl cb_gt (fun c1 => ?_) (fun c1 => ?_)
  · refine r_iload (v := x6) f_2_88 rfl ?_
    exact r_reti f_2_90 rfl (k1 c1)
  · refine r_iload (v := x7) f_2_30 rfl ?_
    refine r_aload_n (v := 89) f_2_32 rfl (by decide) ?_
    refine r_aload_n (v := f1) f_2_33 rfl (F_n h_f1) ?_
    refine r_iload_n (v := x2) f_2_34 rfl ?_
    refine r_iload_n (v := x3) f_2_35 rfl ?_
    refine r_iload (v := x8) f_2_36 rfl ?_
    exact r_callv (as := [vr 89, vr f1, vi x2, vi x3, vi x8]) (st' := [vi x7]) (ls0 := [vr 89, vr f1, vi x2, vi x3, vi x8, vr 9999]) f_2_38 (by decide) rfl rfl (Nat.le_of_ble_eq_true rfl) (Nat.le_of_ble_eq_true rfl) ⟨_, _, rfl, rfl⟩ rfl (k2 c1)

theorem g_Ba_bestFrom_41 {Q : PQ} {h : HP} {x2 : Int} {x3 : Int} {x4 : Int} {x5 : Int} {x6 : Int} {x7 : Int} {x8 : Int} {j9 : AV} {s0 : Int} {s1 : Int} {f1 : Nat} (h_f1 : isF f1)
    (o1 : -2147483648 ≤ s0 + s1 ∧ s0 + s1 ≤ 2147483647)
    (o2 : -2147483648 ≤ x3 + 1 ∧ x3 + 1 ≤ 2147483647)
    (o3 : -2147483648 ≤ (x3 + 1) * 64 ∧ (x3 + 1) * 64 ≤ 2147483647)
    (o4 : -2147483648 ≤ ((x3 + 1) * 64) + x4 ∧ ((x3 + 1) * 64) + x4 ≤ 2147483647)
    (o5 : -2147483648 ≤ (((x3 + 1) * 64) + x4) - x8 ∧ (((x3 + 1) * 64) + x4) - x8 ≤ 2147483647)
    (o6 : 0 ≤ (((x3 + 1) * 64) + x4) - x8 ∧ (((x3 + 1) * 64) + x4) - x8 < 512)
    (o7 : h 91 ((((x3 + 1) * 64) + x4) - x8).toNat ≤ -1000000 → -2147483648 ≤ x8 + 1 ∧ x8 + 1 ≤ 2147483647)
    (k8 : h 91 ((((x3 + 1) * 64) + x4) - x8).toNat ≤ -1000000 → Wp true i_Ba_bestFrom 23 [vr 89, vr f1, vi x2, vi x3, vi x4, vi x5, vi x6, vi (s0 + s1), vi (x8 + 1), vi (h 91 ((((x3 + 1) * 64) + x4) - x8).toNat)] [] h Q)
    (o9 : ¬ h 91 ((((x3 + 1) * 64) + x4) - x8).toNat ≤ -1000000 → -2147483648 ≤ (s0 + s1) + (h 91 ((((x3 + 1) * 64) + x4) - x8).toNat) ∧ (s0 + s1) + (h 91 ((((x3 + 1) * 64) + x4) - x8).toNat) ≤ 2147483647)
    (o10 : ¬ h 91 ((((x3 + 1) * 64) + x4) - x8).toNat ≤ -1000000 → -2147483648 ≤ x8 + 1 ∧ x8 + 1 ≤ 2147483647)
    (k11 : ¬ h 91 ((((x3 + 1) * 64) + x4) - x8).toNat ≤ -1000000 → Wp true i_Ba_bestFrom 23 [vr 89, vr f1, vi x2, vi x3, vi x4, vi x5, vi (max x6 ((s0 + s1) + (h 91 ((((x3 + 1) * 64) + x4) - x8).toNat))), vi (s0 + s1), vi (x8 + 1), vi (h 91 ((((x3 + 1) * 64) + x4) - x8).toNat)] [] h Q) :
    Wp true i_Ba_bestFrom 41 [vr 89, vr f1, vi x2, vi x3, vi x4, vi x5, vi x6, vi x7, vi x8, j9] [vi s1, vi s0] h Q := by
  refine r_iadd (u := s0 + s1) f_2_41 rfl o1 ?_
  refine r_istore (ls' := [vr 89, vr f1, vi x2, vi x3, vi x4, vi x5, vi x6, vi (s0 + s1), vi x8, j9]) f_2_42 (Nat.le_of_ble_eq_true rfl) rfl ?_
  refine r_aload_n (v := 89) f_2_44 rfl (by decide) ?_
  refine r_getr (q := 91) f_2_45 rfl (by decide) (Or.inl rfl) rfl ?_
  refine r_iload_n (v := x3) f_2_48 rfl ?_
  refine r_iconst f_2_49 (by decide) ?_
  refine r_iadd (u := x3 + 1) f_2_50 rfl o2 ?_
  refine r_bipush f_2_51 (by decide) ?_
  refine r_imul (u := (x3 + 1) * 64) f_2_53 rfl o3 ?_
  refine r_iload (v := x4) f_2_54 rfl ?_
  refine r_iadd (u := ((x3 + 1) * 64) + x4) f_2_56 rfl o4 ?_
  refine r_iload (v := x8) f_2_57 rfl ?_
  refine r_isub (u := (((x3 + 1) * 64) + x4) - x8) f_2_59 rfl o5 ?_
  refine r_iaload (n := 512) (v := h 91 ((((x3 + 1) * 64) + x4) - x8).toNat) f_2_60 ⟨rfl, rfl⟩ o6 rfl ?_
  refine r_istore (ls' := [vr 89, vr f1, vi x2, vi x3, vi x4, vi x5, vi x6, vi (s0 + s1), vi x8, vi (h 91 ((((x3 + 1) * 64) + x4) - x8).toNat)]) f_2_61 (Nat.le_of_ble_eq_true rfl) rfl ?_
  refine r_iload (v := h 91 ((((x3 + 1) * 64) + x4) - x8).toNat) f_2_63 rfl ?_
  refine r_ldc f_2_65 (by decide) ?_
  refine r_br2 (t := 82) f_2_67 rfl cb_le (fun c1 => ?_) (fun c1 => ?_)
  · refine r_iinc (v := x8) (w := x8 + 1) (ls' := [vr 89, vr f1, vi x2, vi x3, vi x4, vi x5, vi x6, vi (s0 + s1), vi (x8 + 1), vi (h 91 ((((x3 + 1) * 64) + x4) - x8).toNat)]) f_2_82 rfl rfl (o7 c1) rfl ?_
    refine r_goto (t := 23) f_2_85 rfl ?_
    exact (k8 c1)
  · refine r_iload (v := x6) f_2_70 rfl ?_
    refine r_iload (v := s0 + s1) f_2_72 rfl ?_
    refine r_iload (v := h 91 ((((x3 + 1) * 64) + x4) - x8).toNat) f_2_74 rfl ?_
    refine r_iadd (u := (s0 + s1) + (h 91 ((((x3 + 1) * 64) + x4) - x8).toNat)) f_2_76 rfl (o9 c1) ?_
    refine r_calls (as := [vi x6, vi ((s0 + s1) + (h 91 ((((x3 + 1) * 64) + x4) - x8).toNat))]) (st' := []) (ls0 := [vi x6, vi ((s0 + s1) + (h 91 ((((x3 + 1) * 64) + x4) - x8).toNat))]) f_2_77 (by decide) (by decide) rfl rfl (Nat.le_of_ble_eq_true rfl) (Nat.le_of_ble_eq_true rfl) rfl ?_
    refine c_Ma_max  ?_
    show Wp true i_Ba_bestFrom 80 [vr 89, vr f1, vi x2, vi x3, vi x4, vi x5, vi x6, vi (s0 + s1), vi x8, vi (h 91 ((((x3 + 1) * 64) + x4) - x8).toNat)] [vi (max x6 ((s0 + s1) + (h 91 ((((x3 + 1) * 64) + x4) - x8).toNat)))] h Q
    refine r_istore (ls' := [vr 89, vr f1, vi x2, vi x3, vi x4, vi x5, vi (max x6 ((s0 + s1) + (h 91 ((((x3 + 1) * 64) + x4) - x8).toNat))), vi (s0 + s1), vi x8, vi (h 91 ((((x3 + 1) * 64) + x4) - x8).toNat)]) f_2_80 (Nat.le_of_ble_eq_true rfl) rfl ?_
    refine r_iinc (v := x8) (w := x8 + 1) (ls' := [vr 89, vr f1, vi x2, vi x3, vi x4, vi x5, vi (max x6 ((s0 + s1) + (h 91 ((((x3 + 1) * 64) + x4) - x8).toNat))), vi (s0 + s1), vi (x8 + 1), vi (h 91 ((((x3 + 1) * 64) + x4) - x8).toNat)]) f_2_82 rfl rfl (o10 c1) rfl ?_
    refine r_goto (t := 23) f_2_85 rfl ?_
    exact (k11 c1)

theorem g_Ba_firstBest_0 {Q : PQ} {h : HP} {x2 : Int} {x3 : Int} {x4 : Int} {f1 : Nat} (h_f1 : isF f1)
    (o1 : WR (rmC h f1))
    (o2 : 0 ≤ x3 ∧ x3 < h f1 1)
    (k3 : Wp true i_Ba_firstBest 19 [vr 89, vr f1, vi x2, vi x3, vi x4, vi (min x4 (rIn (rmC h f1) x2 x3.toNat)), vi 0, vi 0] [] h Q) :
    Wp true i_Ba_firstBest 0 [vr 89, vr f1, vi x2, vi x3, vi x4, vr 9999, vr 9999, vr 9999] [] h Q := by
  refine r_iload (v := x4) f_6_0 rfl ?_
  refine r_aload_n (v := f1) f_6_2 rfl (F_n h_f1) ?_
  refine r_iload_n (v := x2) f_6_3 rfl ?_
  refine r_iload_n (v := x3) f_6_4 rfl ?_
  refine r_callv (as := [vr f1, vi x2, vi x3]) (st' := [vi x4]) (ls0 := [vr f1, vi x2, vi x3]) f_6_5 (by decide) rfl rfl (Nat.le_of_ble_eq_true rfl) (Nat.le_of_ble_eq_true rfl) ⟨_, _, rfl, (F_k h_f1)⟩ rfl ?_
  refine c_Fl_boardsInRow h_f1 o1 o2 ?_
  show Wp true i_Ba_firstBest 8 [vr 89, vr f1, vi x2, vi x3, vi x4, vr 9999, vr 9999, vr 9999] [vi (rIn (rmC h f1) x2 x3.toNat), vi x4] h Q
  refine r_calls (as := [vi x4, vi (rIn (rmC h f1) x2 x3.toNat)]) (st' := []) (ls0 := [vi x4, vi (rIn (rmC h f1) x2 x3.toNat)]) f_6_8 (by decide) (by decide) rfl rfl (Nat.le_of_ble_eq_true rfl) (Nat.le_of_ble_eq_true rfl) rfl ?_
  refine c_Ma_min  ?_
  show Wp true i_Ba_firstBest 11 [vr 89, vr f1, vi x2, vi x3, vi x4, vr 9999, vr 9999, vr 9999] [vi (min x4 (rIn (rmC h f1) x2 x3.toNat))] h Q
  refine r_istore (ls' := [vr 89, vr f1, vi x2, vi x3, vi x4, vi (min x4 (rIn (rmC h f1) x2 x3.toNat)), vr 9999, vr 9999]) f_6_11 (Nat.le_of_ble_eq_true rfl) rfl ?_
  refine r_iconst f_6_13 (by decide) ?_
  refine r_istore (ls' := [vr 89, vr f1, vi x2, vi x3, vi x4, vi (min x4 (rIn (rmC h f1) x2 x3.toNat)), vi 0, vr 9999]) f_6_14 (Nat.le_of_ble_eq_true rfl) rfl ?_
  refine r_iconst f_6_16 (by decide) ?_
  refine r_istore (ls' := [vr 89, vr f1, vi x2, vi x3, vi x4, vi (min x4 (rIn (rmC h f1) x2 x3.toNat)), vi 0, vi 0]) f_6_17 (Nat.le_of_ble_eq_true rfl) rfl ?_
  exact k3

theorem g_Ba_firstBest_19 {Q : PQ} {h : HP} {x2 : Int} {x3 : Int} {x4 : Int} {x5 : Int} {x6 : Int} {x7 : Int} {f1 : Nat} (h_f1 : isF f1)
    (k1 : x5 < x7 → Q (some (vi 0)) h)
    (k2 : ¬ x5 < x7 → Wp true i_Ba_changeOf 0 [vr 89, vr f1, vi x2, vi x3, vi x7, vr 9999] [] h (fun r h' => Wp true i_Ba_firstBest 37 [vr 89, vr f1, vi x2, vi x3, vi x4, vi x5, vi x6, vi x7] (r.toList ++ [vi x6]) h' Q)) :
    Wp true i_Ba_firstBest 19 [vr 89, vr f1, vi x2, vi x3, vi x4, vi x5, vi x6, vi x7] [] h Q := by
  refine r_iload (v := x7) f_6_19 rfl ?_
  refine r_iload (v := x5) f_6_21 rfl ?_
  refine r_br2 (t := 84) f_6_23 rfl cb_gt (fun c1 => ?_) (fun c1 => ?_)
  · refine r_iconst f_6_84 (by decide) ?_
    exact r_reti f_6_85 rfl (k1 c1)
  · refine r_iload (v := x6) f_6_26 rfl ?_
    refine r_aload_n (v := 89) f_6_28 rfl (by decide) ?_
    refine r_aload_n (v := f1) f_6_29 rfl (F_n h_f1) ?_
    refine r_iload_n (v := x2) f_6_30 rfl ?_
    refine r_iload_n (v := x3) f_6_31 rfl ?_
    refine r_iload (v := x7) f_6_32 rfl ?_
    exact r_callv (as := [vr 89, vr f1, vi x2, vi x3, vi x7]) (st' := [vi x6]) (ls0 := [vr 89, vr f1, vi x2, vi x3, vi x7, vr 9999]) f_6_34 (by decide) rfl rfl (Nat.le_of_ble_eq_true rfl) (Nat.le_of_ble_eq_true rfl) ⟨_, _, rfl, rfl⟩ rfl (k2 c1)

theorem g_Ba_firstBest_37 {Q : PQ} {h : HP} {x2 : Int} {x3 : Int} {x4 : Int} {x5 : Int} {x6 : Int} {x7 : Int} {s0 : Int} {s1 : Int} {f1 : Nat} (h_f1 : isF f1)
    (o1 : -2147483648 ≤ s0 + s1 ∧ s0 + s1 ≤ 2147483647)
    (o2 : -2147483648 ≤ x3 + 1 ∧ x3 + 1 ≤ 2147483647)
    (o3 : -2147483648 ≤ (x3 + 1) * 64 ∧ (x3 + 1) * 64 ≤ 2147483647)
    (o4 : -2147483648 ≤ ((x3 + 1) * 64) + x4 ∧ ((x3 + 1) * 64) + x4 ≤ 2147483647)
    (o5 : -2147483648 ≤ (((x3 + 1) * 64) + x4) - x7 ∧ (((x3 + 1) * 64) + x4) - x7 ≤ 2147483647)
    (o6 : 0 ≤ (((x3 + 1) * 64) + x4) - x7 ∧ (((x3 + 1) * 64) + x4) - x7 < 512)
    (o7 : -2147483648 ≤ (s0 + s1) + (h 91 ((((x3 + 1) * 64) + x4) - x7).toNat) ∧ (s0 + s1) + (h 91 ((((x3 + 1) * 64) + x4) - x7).toNat) ≤ 2147483647)
    (o8 : -2147483648 ≤ x3 * 64 ∧ x3 * 64 ≤ 2147483647)
    (o9 : -2147483648 ≤ (x3 * 64) + x4 ∧ (x3 * 64) + x4 ≤ 2147483647)
    (o10 : 0 ≤ (x3 * 64) + x4 ∧ (x3 * 64) + x4 < 512)
    (o11 : ¬ (s0 + s1) + (h 91 ((((x3 + 1) * 64) + x4) - x7).toNat) = h 91 ((x3 * 64) + x4).toNat → -2147483648 ≤ x7 + 1 ∧ x7 + 1 ≤ 2147483647)
    (k12 : ¬ (s0 + s1) + (h 91 ((((x3 + 1) * 64) + x4) - x7).toNat) = h 91 ((x3 * 64) + x4).toNat → Wp true i_Ba_firstBest 19 [vr 89, vr f1, vi x2, vi x3, vi x4, vi x5, vi (s0 + s1), vi (x7 + 1)] [] h Q)
    (k13 : (s0 + s1) + (h 91 ((((x3 + 1) * 64) + x4) - x7).toNat) = h 91 ((x3 * 64) + x4).toNat → Q (some (vi x7)) h) :
    Wp true i_Ba_firstBest 37 [vr 89, vr f1, vi x2, vi x3, vi x4, vi x5, vi x6, vi x7] [vi s1, vi s0] h Q := by
  refine r_iadd (u := s0 + s1) f_6_37 rfl o1 ?_
  refine r_istore (ls' := [vr 89, vr f1, vi x2, vi x3, vi x4, vi x5, vi (s0 + s1), vi x7]) f_6_38 (Nat.le_of_ble_eq_true rfl) rfl ?_
  refine r_iload (v := s0 + s1) f_6_40 rfl ?_
  refine r_aload_n (v := 89) f_6_42 rfl (by decide) ?_
  refine r_getr (q := 91) f_6_43 rfl (by decide) (Or.inl rfl) rfl ?_
  refine r_iload_n (v := x3) f_6_46 rfl ?_
  refine r_iconst f_6_47 (by decide) ?_
  refine r_iadd (u := x3 + 1) f_6_48 rfl o2 ?_
  refine r_bipush f_6_49 (by decide) ?_
  refine r_imul (u := (x3 + 1) * 64) f_6_51 rfl o3 ?_
  refine r_iload (v := x4) f_6_52 rfl ?_
  refine r_iadd (u := ((x3 + 1) * 64) + x4) f_6_54 rfl o4 ?_
  refine r_iload (v := x7) f_6_55 rfl ?_
  refine r_isub (u := (((x3 + 1) * 64) + x4) - x7) f_6_57 rfl o5 ?_
  refine r_iaload (n := 512) (v := h 91 ((((x3 + 1) * 64) + x4) - x7).toNat) f_6_58 ⟨rfl, rfl⟩ o6 rfl ?_
  refine r_iadd (u := (s0 + s1) + (h 91 ((((x3 + 1) * 64) + x4) - x7).toNat)) f_6_59 rfl o7 ?_
  refine r_aload_n (v := 89) f_6_60 rfl (by decide) ?_
  refine r_getr (q := 91) f_6_61 rfl (by decide) (Or.inl rfl) rfl ?_
  refine r_iload_n (v := x3) f_6_64 rfl ?_
  refine r_bipush f_6_65 (by decide) ?_
  refine r_imul (u := x3 * 64) f_6_67 rfl o8 ?_
  refine r_iload (v := x4) f_6_68 rfl ?_
  refine r_iadd (u := (x3 * 64) + x4) f_6_70 rfl o9 ?_
  refine r_iaload (n := 512) (v := h 91 ((x3 * 64) + x4).toNat) f_6_71 ⟨rfl, rfl⟩ o10 rfl ?_
  refine r_br2 (t := 78) f_6_72 rfl cb_ne (fun c1 => ?_) (fun c1 => ?_)
  · refine r_iinc (v := x7) (w := x7 + 1) (ls' := [vr 89, vr f1, vi x2, vi x3, vi x4, vi x5, vi (s0 + s1), vi (x7 + 1)]) f_6_78 rfl rfl (o11 c1) rfl ?_
    refine r_goto (t := 19) f_6_81 rfl ?_
    exact (k12 c1)
  · have c1 := Decidable.not_not.mp c1
    refine r_iload (v := x7) f_6_75 rfl ?_
    exact r_reti f_6_77 rfl (k13 c1)

theorem g_Ba_givenIn_0 {Q : PQ} {h : HP} {x2 : Int} {x3 : Int} {x4 : Int} {f1 : Nat} (h_f1 : isF f1)
    (k1 : Wp true i_Ba_givenIn 9 [vr 89, vr f1, vi x2, vi x3, vi x4, vi x3, vi 0, vi 0] [] h Q) :
    Wp true i_Ba_givenIn 0 [vr 89, vr f1, vi x2, vi x3, vi x4, vr 9999, vr 9999, vr 9999] [] h Q := by
  refine r_iload_n (v := x3) f_5_0 rfl ?_
  refine r_istore (ls' := [vr 89, vr f1, vi x2, vi x3, vi x4, vi x3, vr 9999, vr 9999]) f_5_1 (Nat.le_of_ble_eq_true rfl) rfl ?_
  refine r_iconst f_5_3 (by decide) ?_
  refine r_istore (ls' := [vr 89, vr f1, vi x2, vi x3, vi x4, vi x3, vi 0, vr 9999]) f_5_4 (Nat.le_of_ble_eq_true rfl) rfl ?_
  refine r_iconst f_5_6 (by decide) ?_
  refine r_istore (ls' := [vr 89, vr f1, vi x2, vi x3, vi x4, vi x3, vi 0, vi 0]) f_5_7 (Nat.le_of_ble_eq_true rfl) rfl ?_
  exact k1

theorem g_Ba_givenIn_9 {Q : PQ} {h : HP} {x2 : Int} {x3 : Int} {x4 : Int} {x5 : Int} {x6 : Int} {x7 : Int} {f1 : Nat} (h_f1 : isF f1)
    (k1 : x4 < x7 → Q (some (vi x6)) h)
    (k2 : ¬ x4 < x7 → Wp true i_Ba_firstBest 0 [vr 89, vr f1, vi x2, vi x7, vi x5, vr 9999, vr 9999, vr 9999] [] h (fun r h' => Wp true i_Ba_givenIn 26 [vr 89, vr f1, vi x2, vi x3, vi x4, vi x5, vi x6, vi x7] (r.toList ++ []) h' Q)) :
    Wp true i_Ba_givenIn 9 [vr 89, vr f1, vi x2, vi x3, vi x4, vi x5, vi x6, vi x7] [] h Q := by
  refine r_iload (v := x7) f_5_9 rfl ?_
  refine r_iload (v := x4) f_5_11 rfl ?_
  refine r_br2 (t := 41) f_5_13 rfl cb_gt (fun c1 => ?_) (fun c1 => ?_)
  · refine r_iload (v := x6) f_5_41 rfl ?_
    exact r_reti f_5_43 rfl (k1 c1)
  · refine r_aload_n (v := 89) f_5_16 rfl (by decide) ?_
    refine r_aload_n (v := f1) f_5_17 rfl (F_n h_f1) ?_
    refine r_iload_n (v := x2) f_5_18 rfl ?_
    refine r_iload (v := x7) f_5_19 rfl ?_
    refine r_iload (v := x5) f_5_21 rfl ?_
    exact r_callv (as := [vr 89, vr f1, vi x2, vi x7, vi x5]) (st' := []) (ls0 := [vr 89, vr f1, vi x2, vi x7, vi x5, vr 9999, vr 9999, vr 9999]) f_5_23 (by decide) rfl rfl (Nat.le_of_ble_eq_true rfl) (Nat.le_of_ble_eq_true rfl) ⟨_, _, rfl, rfl⟩ rfl (k2 c1)

theorem g_Ba_givenIn_26 {Q : PQ} {h : HP} {x2 : Int} {x3 : Int} {x4 : Int} {x5 : Int} {x6 : Int} {x7 : Int} {s0 : Int} {f1 : Nat} (h_f1 : isF f1)
    (o1 : -2147483648 ≤ x5 - s0 ∧ x5 - s0 ≤ 2147483647)
    (o2 : -2147483648 ≤ x7 + 1 ∧ x7 + 1 ≤ 2147483647)
    (k3 : Wp true i_Ba_givenIn 9 [vr 89, vr f1, vi x2, vi x3, vi x4, vi (x5 - s0), vi s0, vi (x7 + 1)] [] h Q) :
    Wp true i_Ba_givenIn 26 [vr 89, vr f1, vi x2, vi x3, vi x4, vi x5, vi x6, vi x7] [vi s0] h Q := by
  refine r_istore (ls' := [vr 89, vr f1, vi x2, vi x3, vi x4, vi x5, vi s0, vi x7]) f_5_26 (Nat.le_of_ble_eq_true rfl) rfl ?_
  refine r_iload (v := x5) f_5_28 rfl ?_
  refine r_iload (v := s0) f_5_30 rfl ?_
  refine r_isub (u := x5 - s0) f_5_32 rfl o1 ?_
  refine r_istore (ls' := [vr 89, vr f1, vi x2, vi x3, vi x4, vi (x5 - s0), vi s0, vi x7]) f_5_33 (Nat.le_of_ble_eq_true rfl) rfl ?_
  refine r_iinc (v := x7) (w := x7 + 1) (ls' := [vr 89, vr f1, vi x2, vi x3, vi x4, vi (x5 - s0), vi s0, vi (x7 + 1)]) f_5_35 rfl rfl o2 rfl ?_
  refine r_goto (t := 9) f_5_38 rfl ?_
  exact k3

theorem g_Ba_fewestFor_0 {Q : PQ} {h : HP} {x2 : Int} {x3 : Int} {f1 : Nat} (h_f1 : isF f1)
    (o1 : -2147483648 ≤ 1 - x2 ∧ 1 - x2 ≤ 2147483647)
    (o2 : WR (rmC h f1))
    (o3 : x2 = 0 ∨ x2 = 1)
    (k4 : Wp true i_Ba_weigh 0 [vr 89, vr f1, vi (1 - x2), vi x2, vi (rByLine (rmC h f1) (1 - x2)), vr 9999, vr 9999] [] h (fun r h' => Wp true i_Ba_fewestFor 27 [vr 89, vr f1, vi x2, vi x3, vi (rByLine (rmC h f1) (1 - x2)), vi (rVal (rmC h f1) x2 x2), vr 9999] (r.toList ++ []) h' Q)) :
    Wp true i_Ba_fewestFor 0 [vr 89, vr f1, vi x2, vi x3, vr 9999, vr 9999, vr 9999] [] h Q := by
  refine r_aload_n (v := f1) f_7_0 rfl (F_n h_f1) ?_
  refine r_iconst f_7_1 (by decide) ?_
  refine r_iload_n (v := x2) f_7_2 rfl ?_
  refine r_isub (u := 1 - x2) f_7_3 rfl o1 ?_
  refine r_callv (as := [vr f1, vi (1 - x2)]) (st' := []) (ls0 := [vr f1, vi (1 - x2), vr 9999, vr 9999]) f_7_4 (by decide) rfl rfl (Nat.le_of_ble_eq_true rfl) (Nat.le_of_ble_eq_true rfl) ⟨_, _, rfl, (F_k h_f1)⟩ rfl ?_
  refine c_Fl_boardsByLine h_f1 o2 ?_
  show Wp true i_Ba_fewestFor 7 [vr 89, vr f1, vi x2, vi x3, vr 9999, vr 9999, vr 9999] [vi (rByLine (rmC h f1) (1 - x2))] h Q
  refine r_istore (ls' := [vr 89, vr f1, vi x2, vi x3, vi (rByLine (rmC h f1) (1 - x2)), vr 9999, vr 9999]) f_7_7 (Nat.le_of_ble_eq_true rfl) rfl ?_
  refine r_aload_n (v := f1) f_7_9 rfl (F_n h_f1) ?_
  refine r_iload_n (v := x2) f_7_10 rfl ?_
  refine r_callv (as := [vr f1, vi x2]) (st' := []) (ls0 := [vr f1, vi x2]) f_7_11 (by decide) rfl rfl (Nat.le_of_ble_eq_true rfl) (Nat.le_of_ble_eq_true rfl) ⟨_, _, rfl, (F_k h_f1)⟩ rfl ?_
  refine c_Fl_valueOf h_f1 o2 o3 ?_
  show Wp true i_Ba_fewestFor 14 [vr 89, vr f1, vi x2, vi x3, vi (rByLine (rmC h f1) (1 - x2)), vr 9999, vr 9999] [vi (rVal (rmC h f1) x2 x2)] h Q
  refine r_istore (ls' := [vr 89, vr f1, vi x2, vi x3, vi (rByLine (rmC h f1) (1 - x2)), vi (rVal (rmC h f1) x2 x2), vr 9999]) f_7_14 (Nat.le_of_ble_eq_true rfl) rfl ?_
  refine r_aload_n (v := 89) f_7_16 rfl (by decide) ?_
  refine r_aload_n (v := f1) f_7_17 rfl (F_n h_f1) ?_
  refine r_iconst f_7_18 (by decide) ?_
  refine r_iload_n (v := x2) f_7_19 rfl ?_
  refine r_isub (u := 1 - x2) f_7_20 rfl o1 ?_
  refine r_iload_n (v := x2) f_7_21 rfl ?_
  refine r_iload (v := rByLine (rmC h f1) (1 - x2)) f_7_22 rfl ?_
  exact r_callv (as := [vr 89, vr f1, vi (1 - x2), vi x2, vi (rByLine (rmC h f1) (1 - x2))]) (st' := []) (ls0 := [vr 89, vr f1, vi (1 - x2), vi x2, vi (rByLine (rmC h f1) (1 - x2)), vr 9999, vr 9999]) f_7_24 (by decide) rfl rfl (Nat.le_of_ble_eq_true rfl) (Nat.le_of_ble_eq_true rfl) ⟨_, _, rfl, rfl⟩ rfl k4

theorem g_Ba_fewestFor_27 {Q : PQ} {h : HP} {x2 : Int} {x3 : Int} {x4 : Int} {x5 : Int} {f1 : Nat} (h_f1 : isF f1)
    (k1 : Wp true i_Ba_fewestFor 30 [vr 89, vr f1, vi x2, vi x3, vi x4, vi x5, vi 0] [] h Q) :
    Wp true i_Ba_fewestFor 27 [vr 89, vr f1, vi x2, vi x3, vi x4, vi x5, vr 9999] [] h Q := by
  refine r_iconst f_7_27 (by decide) ?_
  refine r_istore (ls' := [vr 89, vr f1, vi x2, vi x3, vi x4, vi x5, vi 0]) f_7_28 (Nat.le_of_ble_eq_true rfl) rfl ?_
  exact k1

theorem g_Ba_fewestFor_30 {Q : PQ} {h : HP} {x2 : Int} {x3 : Int} {x4 : Int} {x5 : Int} {x6 : Int} {f1 : Nat} (h_f1 : isF f1)
    (k1 : x4 < x6 → Q (some (vi (-1))) h)
    (o2 : ¬ x4 < x6 → 0 ≤ x6 ∧ x6 < 512)
    (o3 : ¬ x4 < x6 → -2147483648 ≤ x5 + (h 91 x6.toNat) ∧ x5 + (h 91 x6.toNat) ≤ 2147483647)
    (o4 : ¬ x4 < x6 → x5 + (h 91 x6.toNat) < x3 → -2147483648 ≤ x6 + 1 ∧ x6 + 1 ≤ 2147483647)
    (k5 : ¬ x4 < x6 → x5 + (h 91 x6.toNat) < x3 → Wp true i_Ba_fewestFor 30 [vr 89, vr f1, vi x2, vi x3, vi x4, vi x5, vi (x6 + 1)] [] h Q)
    (k6 : ¬ x4 < x6 → ¬ x5 + (h 91 x6.toNat) < x3 → Q (some (vi x6)) h) :
    Wp true i_Ba_fewestFor 30 [vr 89, vr f1, vi x2, vi x3, vi x4, vi x5, vi x6] [] h Q := by
  refine r_iload (v := x6) f_7_30 rfl ?_
  refine r_iload (v := x4) f_7_32 rfl ?_
  refine r_br2 (t := 60) f_7_34 rfl cb_gt (fun c1 => ?_) (fun c1 => ?_)
  · refine r_iconst f_7_60 (by decide) ?_
    exact r_reti f_7_61 rfl (k1 c1)
  · refine r_iload (v := x5) f_7_37 rfl ?_
    refine r_aload_n (v := 89) f_7_39 rfl (by decide) ?_
    refine r_getr (q := 91) f_7_40 rfl (by decide) (Or.inl rfl) rfl ?_
    refine r_iload (v := x6) f_7_43 rfl ?_
    refine r_iaload (n := 512) (v := h 91 x6.toNat) f_7_45 ⟨rfl, rfl⟩ (o2 c1) rfl ?_
    refine r_iadd (u := x5 + (h 91 x6.toNat)) f_7_46 rfl (o3 c1) ?_
    refine r_iload_n (v := x3) f_7_47 rfl ?_
    refine r_br2 (t := 54) f_7_48 rfl cb_lt (fun c2 => ?_) (fun c2 => ?_)
    · refine r_iinc (v := x6) (w := x6 + 1) (ls' := [vr 89, vr f1, vi x2, vi x3, vi x4, vi x5, vi (x6 + 1)]) f_7_54 rfl rfl (o4 c1 c2) rfl ?_
      refine r_goto (t := 30) f_7_57 rfl ?_
      exact (k5 c1 c2)
    · refine r_iload (v := x6) f_7_51 rfl ?_
      exact r_reti f_7_53 rfl (k6 c1 c2)

/-! ===== GIVE and ASK: the class ===== -/
theorem sumF_last (f : Nat → Int) (t : Nat) : sumF f (t + 1) 0 = sumF f t 0 + f t := by
  rw [sumF_app f t 0 1]
  simp only [sumF, Nat.zero_add, Int.add_zero]
def CH (R : HP) (ld gv : Int) (h : HP) : Prop := ∀ c r : Nat, isB R c r → h 90 (9 * r + c) = chG R ld gv c r
def BR (R : HP) (ld gv : Int) (N : Nat) (h : HP) (m : Nat) : Prop := ∀ r n : Nat, m ≤ r → (r : Int) ≤ R 0 1 → n ≤ N → ((n : Int) ≤ aG R gv r → h 91 (64 * r + n) = pP R ld gv r n - sG R ld gv r) ∧ (¬ (n : Int) ≤ aG R gv r → h 91 (64 * r + n) = -1000000)
theorem c_Ba_changeOf {Q : PQ} {h R : HP} {ld gv : Int} {f1 r i : Nat} (h_f1 : isF f1) (eR : rmC h f1 = R) (W : WR R) (hl : ld = 0 ∨ ld = 1) (hg : gv = 0 ∨ gv = 1) (C : CH R ld gv h) (hr : (r : Int) < R 0 1) (hi : (i : Int) ≤ rIn R gv r)
    (k : ∀ v, v = vG R ld gv r i - vG R ld gv r (i - 1) → Q (some (vi v)) h) : Wp true i_Ba_changeOf 0 [vr 89, vr f1, vi gv, vi (r : Int), vi (i : Int), vr 9999] [] h Q := by
  have w := W.1
  have dd := cdim eR
  have wr := W.2.1 r hr
  have en : ((r : Int)).toNat = r := Int.toNat_natCast _
  have e1 : h (f1 + 2) r = R 1 r := (cR_1 (h := h) (f := f1) (r := r) (by omega)).symm.trans (by rw [eR])
  have fin : ∀ s0 : Int, ¬ (i : Int) = 0 → s0 = coG R gv r i → (0 ≤ s0 ∧ s0 < R 0 0) → Wp true i_Ba_changeOf 34 [vr 89, vr f1, vi gv, vi (r : Int), vi (i : Int), vr 9999] [vi s0] h Q := by
    intro s0 hz hs0 hb
    obtain ⟨c, ec⟩ : ∃ c : Nat, s0 = c := ⟨s0.toNat, by omega⟩
    have st := vG_step (R := R) hl hg r (i - 1)
    rw [show i - 1 + 1 = i by omega, ← hs0, ec, ← C c r ⟨by omega, by omega⟩] at st
    refine g_Ba_changeOf_34 h_f1 (fun q => by omega) (fun _ => by omega) (fun _ => by omega) (fun _ => by omega) (fun _ => ?_)
    rw [show ((r : Int) * 9 + s0).toNat = 9 * r + c by omega]
    exact k _ (by omega)
  unfold rIn at hi
  refine g_Ba_changeOf_0 h_f1 (fun _ _ => by omega) (fun _ _ => by rw [en, e1]; split at hi <;> omega) (fun _ _ => by rw [en, e1]; split at hi <;> omega) (fun z1 z2 => ?_) (fun _ _ => by omega) (fun _ _ => by rw [en, e1]; split at hi <;> omega) (fun z1 z2 => ?_) (fun z => ?_)
  · rw [if_neg z2] at hi
    rw [en, e1]
    refine fin _ z1 ?_ (by omega)
    unfold coG; rw [if_neg z2]
  · rw [if_pos z2] at hi
    rw [en, e1]
    refine fin _ z1 ?_ (by omega)
    unfold coG; rw [if_pos z2]
  · have : i = 0 := by omega
    subst this
    exact k 0 (by simp)
def pG (R : HP) (gv : Int) (r n k : Nat) : Prop := ((n - k : Nat) : Int) ≤ aG R gv (r + 1)
def BI (R : HP) (ld gv : Int) (r n i : Nat) (x : Int) : Prop := (x = -1000000 ∧ ∀ k, k < i → ¬ pG R gv r n k) ∨ (∃ k, k < i ∧ pG R gv r n k ∧ x = fG R ld gv r n k - sG R ld gv r ∧ ∀ k', k' < i → pG R gv r n k' → fG R ld gv r n k' ≤ fG R ld gv r n k)
theorem c_Ba_bestFrom {Q : PQ} {h R : HP} {ld gv : Int} {f1 r n N : Nat} (h_f1 : isF f1) (eR : rmC h f1 = R) (W : WR R) (hl : ld = 0 ∨ ld = 1) (hg : gv = 0 ∨ gv = 1) (C : CH R ld gv h) (B : BR R ld gv N h (r + 1)) (hr : (r : Int) < R 0 1) (hn : n ≤ N) (hN : N ≤ 63)
    (k : ∀ v, ((n : Int) ≤ aG R gv r → v = pP R ld gv r n - sG R ld gv r) → (¬ (n : Int) ≤ aG R gv r → v = -1000000) → Q (some (vi v)) h) : Wp true i_Ba_bestFrom 0 [vr 89, vr f1, vi gv, vi (r : Int), vi (n : Int), vr 9999, vr 9999, vr 9999, vr 9999, vr 9999] [] h Q := by
  have w := W.1
  have dd := cdim eR
  have en : ((r : Int)).toNat = r := Int.toNat_natCast _
  have rb := rIn_b W (gv := gv) hr
  have s1 := sG_rg W ld gv (r + 1)
  have s0 := sG_s (ld := ld) (gv := gv) hr
  have a0 := aG_s (gv := gv) hr
  have v0 := vG_rg W ld gv r 0
  refine g_Ba_bestFrom_0 h_f1 (by rw [eR]; exact W) (by omega) ?_
  rw [eR, en]
  obtain ⟨m, em⟩ : ∃ m : Nat, min (n : Int) (rIn R gv r) = m := ⟨(min (n : Int) (rIn R gv r)).toNat, by omega⟩
  rw [em]
  have key : ∀ (d i : Nat) (x : Int) (j9 : AV), i + d = m + 1 → BI R ld gv r n i x →
      Wp true i_Ba_bestFrom 23 [vr 89, vr f1, vi gv, vi (r : Int), vi (n : Int), vi (m : Int), vi x, vi (vG R ld gv r (i - 1) - vG R ld gv r 0), vi (i : Int), j9] [] h Q := by
    intro d
    induction d with
    | zero =>
      intro i x j9 e I
      have fin : Q (some (vi x)) h := by
        refine k x (fun q => ?_) (fun q => ?_)
        · have pp := ((pP_rg W (ld := ld) (gv := gv) (r := r) (n := n) (by omega)).1 q).1
          have G := gK_ok W (ld := ld) (gv := gv) hr q
          have hit := pP_hit W hr q G.2.2.1
          have gq : (gK R ld gv r n : Int) ≤ rIn R gv r := G.2.1
          have gl : gK R ld gv r n < i := by have := G.1; omega
          rcases I with ⟨_, I⟩ | ⟨k, k1, k2, k3, k4⟩
          · exact absurd hit (I _ gl)
          · have a := k4 _ gl hit
            have b : fG R ld gv r n k ≤ pP R ld gv r n := by
              rw [pP_s hr]
              exact mxK_ge (by omega) (show (k : Int) ≤ rIn R gv r by omega)
            have c := G.2.2.1
            omega
        · rcases I with ⟨I, _⟩ | ⟨k, k1, k2, k3, k4⟩
          · exact I
          · exfalso
            apply q
            have : ((n - k : Nat) : Int) ≤ aG R gv (r + 1) := k2
            omega
      exact g_Ba_bestFrom_23 h_f1 (fun _ => fin) (fun q => by omega)
    | succ d ih =>
      intro i x j9 e I
      have va := vG_rg W ld gv r i
      have vb := vG_rg W ld gv r (i - 1)
      refine g_Ba_bestFrom_23 h_f1 (fun q => by omega) (fun _ => ?_)
      refine c_Ba_changeOf h_f1 eR W hl hg C hr (by omega) (fun v hv => ?_)
      have ix : (((r : Int) + 1) * 64 + (n : Int) - (i : Int)).toNat = 64 * (r + 1) + (n - i) := by omega
      have bb := B (r + 1) (n - i) (Nat.le_refl _) (by omega) (by omega)
      have pr := pP_rg W (ld := ld) (gv := gv) (r := r + 1) (n := n - i) (by omega)
      have ec : vG R ld gv r (i - 1) - vG R ld gv r 0 + v = vG R ld gv r (i + 1 - 1) - vG R ld gv r 0 := by rw [show i + 1 - 1 = i by omega]; omega
      by_cases z : pG R gv r n i
      · have hb := bb.1 z
        have pq := pr.1 z
        have ef : vG R ld gv r (i - 1) - vG R ld gv r 0 + v + h 91 (64 * (r + 1) + (n - i)) = fG R ld gv r n i - sG R ld gv r := by
          unfold fG
          rw [hb]; omega
        refine g_Ba_bestFrom_41 h_f1 (by omega) (by omega) (by omega) (by omega) (by omega) (by omega) (fun q => by rw [ix] at q; omega) (fun q => by rw [ix] at q; omega) (fun q => by rw [ix]; omega) (fun q => by omega) (fun q => ?_)
        rw [ix, ef, ec]
        refine ih (i + 1) _ _ (by omega) (Or.inr ?_)
        rcases I with ⟨I1, I2⟩ | ⟨k, k1, k2, k3, k4⟩
        · refine ⟨i, by omega, z, ?_, fun k' h1 h2 => ?_⟩
          · have fg : fG R ld gv r n i = vG R ld gv r i + pP R ld gv (r + 1) (n - i) := rfl
            omega
          · by_cases y : k' = i
            · subst y; exact Int.le_refl _
            · exact absurd h2 (I2 k' (by omega))
        · by_cases y : fG R ld gv r n k ≤ fG R ld gv r n i
          · refine ⟨i, by omega, z, by omega, fun k' h1 h2 => ?_⟩
            by_cases y2 : k' = i
            · subst y2; exact Int.le_refl _
            · have := k4 k' (by omega) h2; omega
          · refine ⟨k, by omega, k2, by omega, fun k' h1 h2 => ?_⟩
            by_cases y2 : k' = i
            · subst y2; omega
            · exact k4 k' (by omega) h2
      · have hb := bb.2 z
        refine g_Ba_bestFrom_41 h_f1 (by omega) (by omega) (by omega) (by omega) (by omega) (by omega) (fun q => by omega) (fun q => ?_) (fun q => by rw [ix] at q; omega) (fun q => by omega) (fun q => by rw [ix] at q; omega)
        rw [ec]
        refine ih (i + 1) _ _ (by omega) ?_
        rcases I with ⟨I1, I2⟩ | ⟨k, k1, k2, k3, k4⟩
        · refine Or.inl ⟨I1, fun k' h1 => ?_⟩
          by_cases y : k' = i
          · subst y; exact z
          · exact I2 k' (by omega)
        · refine Or.inr ⟨k, by omega, k2, k3, fun k' h1 h2 => ?_⟩
          by_cases y2 : k' = i
          · subst y2; exact absurd h2 z
          · exact k4 k' (by omega) h2
  have st := key (m + 1) 0 (-1000000) (vr 9999) (by omega) (Or.inl ⟨rfl, fun k hk => by omega⟩)
  rw [show vG R ld gv r (0 - 1) - vG R ld gv r 0 = 0 by simp] at st
  exact st
theorem c_Ba_weigh {Q : PQ} {h R : HP} {ld gv : Int} {f1 N : Nat} (h_f1 : isF f1) (eR : rmC h f1 = R) (W : WR R) (hl : ld = 0 ∨ ld = 1) (hg : gv = 0 ∨ gv = 1) (hN : N ≤ 63)
    (k : ∀ h', (∀ k, k ≠ 90 → k ≠ 91 → h' k = h k) → CH R ld gv h' → BR R ld gv N h' 0 → Q none h') : Wp true i_Ba_weigh 0 [vr 89, vr f1, vi gv, vi ld, vi (N : Int), vr 9999, vr 9999] [] h Q := by
  have w := W.1
  have d0 := cdim eR
  have fl : f1 + 8 ≤ 82 := by unfold isF at h_f1; omega
  have fr : ∀ h1 : HP, (∀ k, k ≠ 90 → k ≠ 91 → h1 k = h k) → rmC h1 f1 = R := fun h1 f => (rC_frame h_f1 (fun k hk => f k (by omega) (by omega))).trans eR
  -- the tables
  have inner : ∀ (d n r : Nat) (h1 : HP), n + d = N + 1 → (r : Int) < R 0 1 → (∀ k, k ≠ 90 → k ≠ 91 → h1 k = h k) → CH R ld gv h1 → BR R ld gv N h1 (r + 1) → (∀ n' : Nat, n' < n → ((n' : Int) ≤ aG R gv r → h1 91 (64 * r + n') = pP R ld gv r n' - sG R ld gv r) ∧ (¬ (n' : Int) ≤ aG R gv r → h1 91 (64 * r + n') = -1000000)) →
      (∀ (h2 : HP) (j6 : AV), (∀ k, k ≠ 90 → k ≠ 91 → h2 k = h k) → CH R ld gv h2 → BR R ld gv N h2 r → Wp true i_Ba_weigh 110 [vr 89, vr f1, vi gv, vi ld, vi (N : Int), vi ((r : Int) - 1), j6] [] h2 Q) → Wp true i_Ba_weigh 118 [vr 89, vr f1, vi gv, vi ld, vi (N : Int), vi (r : Int), vi (n : Int)] [] h1 Q := by
    intro d
    induction d with
    | zero =>
      intro n r h1 e hr f C B pr kk
      refine g_Ba_weigh_118 h_f1 (fun _ => by omega) (fun _ => kk h1 _ f C ?_) (fun q => by omega) (fun q => by omega) (fun q => by omega)
      intro r' n' q1 q2 q3
      by_cases z : r' = r
      · subst z; exact pr n' (by omega)
      · exact B r' n' (by omega) q2 q3
    | succ d ih =>
      intro n r h1 e hr f C B pr kk
      refine g_Ba_weigh_118 h_f1 (fun q => by omega) (fun q => by omega) (fun _ => by omega) (fun _ => by omega) (fun _ => ?_)
      refine c_Ba_bestFrom h_f1 (fr h1 f) W hl hg C B hr (by omega) hN (fun v v1 v2 => ?_)
      refine g_Ba_weigh_147 h_f1 (by omega) (by omega) ?_
      rw [show ((r : Int) * 64 + (n : Int)).toNat = 64 * r + n by omega]
      refine ih (n + 1) r _ (by omega) hr (fun k k1 k2 => (hs_ne k2).trans (f k k1 k2)) (fun c r' q => ?_) (fun r' n' q1 q2 q3 => ?_) (fun n' q => ?_) kk
      · rw [hs_ne (by decide)]; exact C c r' q
      · rw [hs_o (Or.inr (by omega))]; exact B r' n' q1 q2 q3
      · by_cases z : n' = n
        · subst z; rw [hs_s]; exact ⟨v1, v2⟩
        · rw [hs_o (Or.inr (by omega))]; exact pr n' (by omega)
  have outer : ∀ (m : Nat) (h1 : HP) (j6 : AV), (m : Int) ≤ R 0 1 → (∀ k, k ≠ 90 → k ≠ 91 → h1 k = h k) → CH R ld gv h1 → BR R ld gv N h1 m → Wp true i_Ba_weigh 110 [vr 89, vr f1, vi gv, vi ld, vi (N : Int), vi ((m : Int) - 1), j6] [] h1 Q := by
    intro m
    induction m with
    | zero =>
      intro h1 j6 hm f C B
      exact g_Ba_weigh_110 h_f1 (fun _ => k h1 f C B) (fun q => by omega)
    | succ m ih =>
      intro h1 j6 hm f C B
      refine g_Ba_weigh_110 h_f1 (fun q => by omega) (fun _ => ?_)
      rw [show (((m + 1 : Nat) : Int) - 1) = (m : Int) by omega]
      exact inner (N + 1) 0 m h1 (by omega) (by omega) f C B (fun n' z => absurd z (by omega)) (fun h2 j6 f2 C2 B2 => ih h2 j6 (by omega) f2 C2 B2)
  -- what a board changes
  have chg : ∀ (d t : Nat) (h1 : HP) (j6 : AV), (t : Int) + d = R 0 3 → (∀ k, k ≠ 90 → k ≠ 91 → h1 k = h k) → (∀ c r : Nat, isB R c r → h1 90 (9 * r + c) = sumF (fun t => chT R ld gv c r t) t 0) → Wp true i_Ba_weigh 11 [vr 89, vr f1, vi gv, vi ld, vi (N : Int), vi (t : Int), j6] [] h1 Q := by
    intro d
    induction d with
    | zero =>
      intro t h1 j6 e f I
      have dd := cdim (fr h1 f)
      refine g_Ba_weigh_11 h_f1 (fun _ => ?_) (fun q => by omega) (fun q => by omega) (fun q => by omega) (fun q => by omega) (fun q => by omega) (fun q => by omega) (fun q => by omega) (fun q => by omega) (fun q => by omega) (fun q => by omega) (fun q => by omega) (fun q => by omega) (fun q => by omega) (fun q => by omega) (fun q => by omega)
      refine c_Ar_fillI (n0 := 512) ⟨rfl, rfl⟩ (by decide) (by decide) ?_
      have f2 : ∀ k, k ≠ 90 → k ≠ 91 → wr h1 91 0 512 (fun _ => -1000000) k = h k := fun k k1 k2 => (wr_ne k2).trans (f k k1 k2)
      have d2 := cdim (fr _ f2)
      have f3 : ∀ k, k ≠ 90 → k ≠ 91 → hs (wr h1 91 0 512 (fun _ => -1000000)) 91 (wr h1 91 0 512 (fun _ => -1000000) f1 1 * 64).toNat 0 k = h k := fun k k1 k2 => (hs_ne k2).trans (f2 k k1 k2)
      have d3 := cdim (fr _ f3)
      refine g_Ba_weigh_89 h_f1 (by omega) (by omega) (by omega) ?_
      have o := outer (R 0 1).toNat _ j6 (by omega) f3 (fun c r q => ?_) (fun r n q1 q2 q3 => ?_)
      · rw [show (((R 0 1).toNat : Nat) : Int) - 1 = hs (wr h1 91 0 512 (fun _ => -1000000)) 91 (wr h1 91 0 512 (fun _ => -1000000) f1 1 * 64).toNat 0 f1 1 - 1 by omega] at o
        exact o
      · rw [hs_ne (by decide), wr_ne (by decide), I c r q]
        unfold chG
        rw [show (R 0 3).toNat = t by omega]
      · have er : (r : Int) = R 0 1 := by omega
        rw [aG_e er, sG_e er, pP_end er, show (wr h1 91 0 512 (fun _ => -1000000) f1 1 * 64).toNat = 64 * r by omega]
        by_cases z : n = 0
        · subst z
          rw [if_pos rfl]
          exact ⟨fun _ => by rw [show 64 * r + 0 = 64 * r by omega, hs_s]; rfl, fun q => absurd (by decide) q⟩
        · refine ⟨fun q => by omega, fun _ => ?_⟩
          rw [hs_o (Or.inr (by omega)), wr_in ⟨by omega, by omega⟩]
    | succ d ih =>
      intro t h1 j6 e f I
      have dd := cdim (fr h1 f)
      have en : ((t : Int)).toNat = t := Int.toNat_natCast _
      have ct := cR_t (h := h1) (f := f1) (i := t) (by omega)
      rw [fr h1 f] at ct
      have wt := W.2.2.1 t (by omega)
      obtain ⟨c0, ec0⟩ : ∃ c0 : Nat, R 2 t = c0 := ⟨(R 2 t).toNat, by omega⟩
      obtain ⟨r0, er0⟩ : ∃ r0 : Nat, R 3 t = r0 := ⟨(R 3 t).toNat, by omega⟩
      have ww := rWo_b W (ld := ld) (t := t) (by omega)
      have nx : ∀ (v : Int) (j6 : AV), R 6 t < 0 → v = (if gv = ld then -rWo R ld t else rWo R ld t) → Wp true i_Ba_weigh 11 [vr 89, vr f1, vi gv, vi ld, vi (N : Int), vi ((t : Int) + 1), j6] [] (hs h1 90 ((R 3 t) * 9 + R 2 t).toNat v) Q := by
        intro v j6 hleg hv
        refine ih (t + 1) _ j6 (by omega) (fun k k1 k2 => (hs_ne k1).trans (f k k1 k2)) (fun c r q => ?_)
        have q1 := q.1
        rw [sumF_last, show ((R 3 t) * 9 + R 2 t).toNat = 9 * r0 + c0 by omega]
        by_cases z : c = c0 ∧ r = r0
        · obtain ⟨rfl, rfl⟩ := z
          rw [hs_s, sumF_zero t 0 (fun j _ hj => by
            unfold chT
            rw [if_neg (fun y => W.2.2.2.1 j t (by omega) (by omega) ⟨by omega, by omega⟩)])]
          unfold chT
          rw [if_pos ⟨er0, hleg, ec0⟩, hv, Int.zero_add]
        · rw [hs_o (Or.inr (by omega)), I c r q]
          unfold chT
          rw [if_neg (fun y => z ⟨by omega, by omega⟩), Int.add_zero]
      refine g_Ba_weigh_11 h_f1 (fun q => by omega) (fun _ => by omega) (fun _ _ => by omega) (fun _ z => ?_) (fun _ _ => by rw [fr h1 f]; exact W) (fun _ _ => hl) (fun _ _ => by omega) (fun _ _ => by rw [en]; omega) (fun _ _ => by rw [en]; omega) (fun _ _ _ => by rw [en]; omega) (fun _ _ _ => by omega) (fun _ z1 z2 => ?_) (fun _ _ _ => by rw [en, fr h1 f]; omega) (fun _ _ _ => by rw [en]; omega) (fun _ _ _ => by omega) (fun _ z1 z2 => ?_)
      · rw [en] at z
        refine ih (t + 1) h1 j6 (by omega) f (fun c r q => ?_)
        rw [sumF_last, I c r q]
        unfold chT
        rw [if_neg (fun y => by omega), Int.add_zero]
      · rw [en] at z1 ⊢
        rw [fr h1 f, ← ct.1, ← ct.2.1]
        exact nx _ _ (by omega) (by rw [if_neg z2])
      · rw [en] at z1 ⊢
        rw [fr h1 f, ← ct.1, ← ct.2.1]
        exact nx _ _ (by omega) (by rw [if_pos z2])
  refine g_Ba_weigh_0 h_f1 (c_Ar_fillI (n0 := 63) ⟨rfl, rfl⟩ (by decide) (by decide) (g_Ba_weigh_8 h_f1 ?_))
  refine chg (R 0 3).toNat 0 _ _ (by omega) (fun k k1 k2 => wr_ne k1) (fun c r q => ?_)
  have q1 := q.1
  have q2 := q.2
  rw [wr_in ⟨by omega, by omega⟩]
  rfl
