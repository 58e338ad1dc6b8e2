theorem g_M_valueIn_0 {Q : PQ} {h : HP} {x1 : Int} {x2 : Int} {x3 : Int} {x4 : Int} 
    (o1 : WR (rmM h 0))
    (o2 : 0 ≤ x3 ∧ x3 < h 104 1)
    (o3 : -2147483648 ≤ 8 + x3 ∧ 8 + x3 ≤ 2147483647)
    (o4 : 0 ≤ 8 + x3 ∧ 8 + x3 < 3000)
    (o5 : ¬ x2 = 0 → -2147483648 ≤ (h 104 (8 + x3).toNat) + x4 ∧ (h 104 (8 + x3).toNat) + x4 ≤ 2147483647)
    (k6 : ¬ x2 = 0 → Wp true i_M_valueIn 37 [vr 103, vi x1, vi x2, vi x3, vi x4, vi (rmM h 0 1 x3.toNat), vi 0, vi 0] [] (hs h 104 (8 + x3).toNat ((h 104 (8 + x3).toNat) + x4)) Q)
    (o7 : x2 = 0 → -2147483648 ≤ -x4 ∧ -x4 ≤ 2147483647)
    (o8 : x2 = 0 → -2147483648 ≤ (h 104 (8 + x3).toNat) + (-x4) ∧ (h 104 (8 + x3).toNat) + (-x4) ≤ 2147483647)
    (k9 : x2 = 0 → Wp true i_M_valueIn 37 [vr 103, vi x1, vi x2, vi x3, vi x4, vi (rmM h 0 1 x3.toNat), vi 0, vi 0] [] (hs h 104 (8 + x3).toNat ((h 104 (8 + x3).toNat) + (-x4))) Q) :
    Wp true i_M_valueIn 0 [vr 103, vi x1, vi x2, vi x3, vi x4, vr 9999, vr 9999, vr 9999] [] h Q := by
  refine r_aload_n (v := 103) f_334_0 rfl (by decide) ?_
  refine r_iload_n (v := x3) f_334_1 rfl ?_
  refine r_callv (as := [vr 103, vi x3]) (st' := []) (ls0 := [vr 103, vi x3]) f_334_2 (by decide) rfl rfl (Nat.le_of_ble_eq_true rfl) (Nat.le_of_ble_eq_true rfl) ⟨_, _, rfl, rfl⟩ rfl ?_
  refine c_M_lineOf o1 o2 ?_
  show Wp true i_M_valueIn 5 [vr 103, vi x1, vi x2, vi x3, vi x4, vr 9999, vr 9999, vr 9999] [vi (rmM h 0 1 x3.toNat)] h Q
  refine r_istore (ls' := [vr 103, vi x1, vi x2, vi x3, vi x4, vi (rmM h 0 1 x3.toNat), vr 9999, vr 9999]) f_334_5 (Nat.le_of_ble_eq_true rfl) rfl ?_
  refine r_aload_n (v := 103) f_334_7 rfl (by decide) ?_
  refine r_getr (q := 104) f_334_8 rfl (by decide) (Or.inl rfl) rfl ?_
  refine r_bipush f_334_11 (by decide) ?_
  refine r_iload_n (v := x3) f_334_13 rfl ?_
  refine r_iadd (u := 8 + x3) f_334_14 rfl o3 ?_
  refine r_dup2ir f_334_15 ?_
  refine r_iaload (n := 3000) (v := h 104 (8 + x3).toNat) f_334_16 ⟨rfl, rfl⟩ o4 rfl ?_
  refine r_iload_n (v := x2) f_334_17 rfl ?_
  refine r_br (t := 27) f_334_18 rfl cb_ne (fun c1 => ?_) (fun c1 => ?_)
  · refine r_iload (v := x4) f_334_27 rfl ?_
    refine r_iadd (u := (h 104 (8 + x3).toNat) + x4) f_334_29 rfl (o5 c1) ?_
    refine r_iastore (n := 3000) f_334_30 ⟨rfl, rfl⟩ o4 ?_
    refine r_iconst f_334_31 (by decide) ?_
    refine r_istore (ls' := [vr 103, vi x1, vi x2, vi x3, vi x4, vi (rmM h 0 1 x3.toNat), vi 0, vr 9999]) f_334_32 (Nat.le_of_ble_eq_true rfl) rfl ?_
    refine r_iconst f_334_34 (by decide) ?_
    refine r_istore (ls' := [vr 103, vi x1, vi x2, vi x3, vi x4, vi (rmM h 0 1 x3.toNat), vi 0, vi 0]) f_334_35 (Nat.le_of_ble_eq_true rfl) rfl ?_
    exact (k6 c1)
  · have c1 := Decidable.not_not.mp c1
    refine r_iload (v := x4) f_334_21 rfl ?_
    refine r_ineg (u := -x4) f_334_23 rfl (o7 c1) ?_
    refine r_goto (t := 29) f_334_24 rfl ?_
    refine r_iadd (u := (h 104 (8 + x3).toNat) + (-x4)) f_334_29 rfl (o8 c1) ?_
    refine r_iastore (n := 3000) f_334_30 ⟨rfl, rfl⟩ o4 ?_
    refine r_iconst f_334_31 (by decide) ?_
    refine r_istore (ls' := [vr 103, vi x1, vi x2, vi x3, vi x4, vi (rmM h 0 1 x3.toNat), vi 0, vr 9999]) f_334_32 (Nat.le_of_ble_eq_true rfl) rfl ?_
    refine r_iconst f_334_34 (by decide) ?_
    refine r_istore (ls' := [vr 103, vi x1, vi x2, vi x3, vi x4, vi (rmM h 0 1 x3.toNat), vi 0, vi 0]) f_334_35 (Nat.le_of_ble_eq_true rfl) rfl ?_
    exact (k9 c1)

theorem g_M_valueIn_37 {Q : PQ} {h : HP} {x1 : Int} {x2 : Int} {x3 : Int} {x4 : Int} {x5 : Int} {x6 : Int} {x7 : Int} 
    (o1 : h 104 2 ≤ x7 → -2147483648 ≤ 8 + x3 ∧ 8 + x3 ≤ 2147483647)
    (o2 : h 104 2 ≤ x7 → 0 ≤ 8 + x3 ∧ 8 + x3 < 3000)
    (k3 : h 104 2 ≤ x7 → Q (some (vi x6)) (hs h 104 (8 + x3).toNat x5))
    (o4 : ¬ h 104 2 ≤ x7 → 0 ≤ x7 ∧ x7 < 100)
    (o5 : ¬ h 104 2 ≤ x7 → -2147483648 ≤ (15 + 6 * x7) + 1 ∧ (15 + 6 * x7) + 1 ≤ 2147483647)
    (o6 : ¬ h 104 2 ≤ x7 → 0 ≤ (15 + 6 * x7) + 1 ∧ (15 + 6 * x7) + 1 < 3000)
    (o7 : ¬ h 104 2 ≤ x7 → ¬ h 104 ((15 + 6 * x7) + 1).toNat = x3 → -2147483648 ≤ x6 + 0 ∧ x6 + 0 ≤ 2147483647)
    (o8 : ¬ h 104 2 ≤ x7 → ¬ h 104 ((15 + 6 * x7) + 1).toNat = x3 → -2147483648 ≤ x7 + 1 ∧ x7 + 1 ≤ 2147483647)
    (k9 : ¬ h 104 2 ≤ x7 → ¬ h 104 ((15 + 6 * x7) + 1).toNat = x3 → Wp true i_M_valueIn 37 [vr 103, vi x1, vi x2, vi x3, vi x4, vi x5, vi (x6 + 0), vi (x7 + 1)] [] h Q)
    (o10 : ¬ h 104 2 ≤ x7 → h 104 ((15 + 6 * x7) + 1).toNat = x3 → WR (rmM h 0))
    (o11 : ¬ h 104 2 ≤ x7 → h 104 ((15 + 6 * x7) + 1).toNat = x3 → 0 ≤ x7 ∧ x7 < h 104 2)
    (o12 : ¬ h 104 2 ≤ x7 → h 104 ((15 + 6 * x7) + 1).toNat = x3 → ¬ rHo (rmM h 0) x7.toNat = x1 → -2147483648 ≤ x6 + 0 ∧ x6 + 0 ≤ 2147483647)
    (o13 : ¬ h 104 2 ≤ x7 → h 104 ((15 + 6 * x7) + 1).toNat = x3 → ¬ rHo (rmM h 0) x7.toNat = x1 → -2147483648 ≤ x7 + 1 ∧ x7 + 1 ≤ 2147483647)
    (k14 : ¬ h 104 2 ≤ x7 → h 104 ((15 + 6 * x7) + 1).toNat = x3 → ¬ rHo (rmM h 0) x7.toNat = x1 → Wp true i_M_valueIn 37 [vr 103, vi x1, vi x2, vi x3, vi x4, vi x5, vi (x6 + 0), vi (x7 + 1)] [] h Q)
    (o15 : ¬ h 104 2 ≤ x7 → h 104 ((15 + 6 * x7) + 1).toNat = x3 → rHo (rmM h 0) x7.toNat = x1 → x1 = 0 ∨ x1 = 1)
    (o16 : ¬ h 104 2 ≤ x7 → h 104 ((15 + 6 * x7) + 1).toNat = x3 → rHo (rmM h 0) x7.toNat = x1 → -2147483648 ≤ x6 + (rWo (rmM h 0) x1 x7.toNat) ∧ x6 + (rWo (rmM h 0) x1 x7.toNat) ≤ 2147483647)
    (o17 : ¬ h 104 2 ≤ x7 → h 104 ((15 + 6 * x7) + 1).toNat = x3 → rHo (rmM h 0) x7.toNat = x1 → -2147483648 ≤ x7 + 1 ∧ x7 + 1 ≤ 2147483647)
    (k18 : ¬ h 104 2 ≤ x7 → h 104 ((15 + 6 * x7) + 1).toNat = x3 → rHo (rmM h 0) x7.toNat = x1 → Wp true i_M_valueIn 37 [vr 103, vi x1, vi x2, vi x3, vi x4, vi x5, vi (x6 + (rWo (rmM h 0) x1 x7.toNat)), vi (x7 + 1)] [] h Q) :
    Wp true i_M_valueIn 37 [vr 103, vi x1, vi x2, vi x3, vi x4, vi x5, vi x6, vi x7] [] h Q := by
  refine r_iload (v := x7) f_334_37 rfl ?_
  refine r_aload_n (v := 103) f_334_39 rfl (by decide) ?_
  refine r_getr (q := 104) f_334_40 rfl (by decide) (Or.inl rfl) rfl ?_
  refine r_iconst f_334_43 (by decide) ?_
  refine r_iaload (n := 3000) (v := h 104 2) f_334_44 ⟨rfl, rfl⟩ (by decide) rfl ?_
  refine r_br2 (t := 96) f_334_45 rfl cb_ge (fun c1 => ?_) (fun c1 => ?_)
  · refine r_aload_n (v := 103) f_334_96 rfl (by decide) ?_
    refine r_getr (q := 104) f_334_97 rfl (by decide) (Or.inl rfl) rfl ?_
    refine r_bipush f_334_100 (by decide) ?_
    refine r_iload_n (v := x3) f_334_102 rfl ?_
    refine r_iadd (u := 8 + x3) f_334_103 rfl (o1 c1) ?_
    refine r_iload (v := x5) f_334_104 rfl ?_
    refine r_iastore (n := 3000) f_334_106 ⟨rfl, rfl⟩ (o2 c1) ?_
    refine r_iload (v := x6) f_334_107 rfl ?_
    exact r_reti f_334_109 rfl (k3 c1)
  · refine r_iload (v := x6) f_334_48 rfl ?_
    refine r_aload_n (v := 103) f_334_50 rfl (by decide) ?_
    refine r_getr (q := 104) f_334_51 rfl (by decide) (Or.inl rfl) rfl ?_
    refine r_iload (v := x7) f_334_54 rfl ?_
    refine r_calls (as := [vi x7]) (st' := [vr 104, vi x6]) (ls0 := [vi x7]) f_334_56 (by decide) (by decide) rfl rfl (Nat.le_of_ble_eq_true rfl) (Nat.le_of_ble_eq_true rfl) rfl ?_
    refine c_M_thingRow (o4 c1) ?_
    show Wp true i_M_valueIn 59 [vr 103, vi x1, vi x2, vi x3, vi x4, vi x5, vi x6, vi x7] [vi (15 + 6 * x7), vr 104, vi x6] h Q
    refine r_iconst f_334_59 (by decide) ?_
    refine r_iadd (u := (15 + 6 * x7) + 1) f_334_60 rfl (o5 c1) ?_
    refine r_iaload (n := 3000) (v := h 104 ((15 + 6 * x7) + 1).toNat) f_334_61 ⟨rfl, rfl⟩ (o6 c1) rfl ?_
    refine r_iload_n (v := x3) f_334_62 rfl ?_
    refine r_br2 (t := 86) f_334_63 rfl cb_ne (fun c2 => ?_) (fun c2 => ?_)
    · refine r_iconst f_334_86 (by decide) ?_
      refine r_iadd (u := x6 + 0) f_334_87 rfl (o7 c1 c2) ?_
      refine r_istore (ls' := [vr 103, vi x1, vi x2, vi x3, vi x4, vi x5, vi (x6 + 0), vi x7]) f_334_88 (Nat.le_of_ble_eq_true rfl) rfl ?_
      refine r_iinc (v := x7) (w := x7 + 1) (ls' := [vr 103, vi x1, vi x2, vi x3, vi x4, vi x5, vi (x6 + 0), vi (x7 + 1)]) f_334_90 rfl rfl (o8 c1 c2) rfl ?_
      refine r_goto (t := 37) f_334_93 rfl ?_
      exact (k9 c1 c2)
    · have c2 := Decidable.not_not.mp c2
      refine r_aload_n (v := 103) f_334_66 rfl (by decide) ?_
      refine r_iload (v := x7) f_334_67 rfl ?_
      refine r_callv (as := [vr 103, vi x7]) (st' := [vi x6]) (ls0 := [vr 103, vi x7]) f_334_69 (by decide) rfl rfl (Nat.le_of_ble_eq_true rfl) (Nat.le_of_ble_eq_true rfl) ⟨_, _, rfl, rfl⟩ rfl ?_
      refine c_M_holderOf (o10 c1 c2) (o11 c1 c2) ?_
      show Wp true i_M_valueIn 72 [vr 103, vi x1, vi x2, vi x3, vi x4, vi x5, vi x6, vi x7] [vi (rHo (rmM h 0) x7.toNat), vi x6] h Q
      refine r_iload_n (v := x1) f_334_72 rfl ?_
      refine r_br2 (t := 86) f_334_73 rfl cb_ne (fun c3 => ?_) (fun c3 => ?_)
      · refine r_iconst f_334_86 (by decide) ?_
        refine r_iadd (u := x6 + 0) f_334_87 rfl (o12 c1 c2 c3) ?_
        refine r_istore (ls' := [vr 103, vi x1, vi x2, vi x3, vi x4, vi x5, vi (x6 + 0), vi x7]) f_334_88 (Nat.le_of_ble_eq_true rfl) rfl ?_
        refine r_iinc (v := x7) (w := x7 + 1) (ls' := [vr 103, vi x1, vi x2, vi x3, vi x4, vi x5, vi (x6 + 0), vi (x7 + 1)]) f_334_90 rfl rfl (o13 c1 c2 c3) rfl ?_
        refine r_goto (t := 37) f_334_93 rfl ?_
        exact (k14 c1 c2 c3)
      · have c3 := Decidable.not_not.mp c3
        refine r_aload_n (v := 103) f_334_76 rfl (by decide) ?_
        refine r_iload (v := x7) f_334_77 rfl ?_
        refine r_iload_n (v := x1) f_334_79 rfl ?_
        refine r_callv (as := [vr 103, vi x7, vi x1]) (st' := [vi x6]) (ls0 := [vr 103, vi x7, vi x1]) f_334_80 (by decide) rfl rfl (Nat.le_of_ble_eq_true rfl) (Nat.le_of_ble_eq_true rfl) ⟨_, _, rfl, rfl⟩ rfl ?_
        refine c_M_worthTo (o10 c1 c2) (o15 c1 c2 c3) (o11 c1 c2) ?_
        show Wp true i_M_valueIn 83 [vr 103, vi x1, vi x2, vi x3, vi x4, vi x5, vi x6, vi x7] [vi (rWo (rmM h 0) x1 x7.toNat), vi x6] h Q
        refine r_goto (t := 87) f_334_83 rfl ?_
        refine r_iadd (u := x6 + (rWo (rmM h 0) x1 x7.toNat)) f_334_87 rfl (o16 c1 c2 c3) ?_
        refine r_istore (ls' := [vr 103, vi x1, vi x2, vi x3, vi x4, vi x5, vi (x6 + (rWo (rmM h 0) x1 x7.toNat)), vi x7]) f_334_88 (Nat.le_of_ble_eq_true rfl) rfl ?_
        refine r_iinc (v := x7) (w := x7 + 1) (ls' := [vr 103, vi x1, vi x2, vi x3, vi x4, vi x5, vi (x6 + (rWo (rmM h 0) x1 x7.toNat)), vi (x7 + 1)]) f_334_90 rfl rfl (o17 c1 c2 c3) rfl ?_
        refine r_goto (t := 37) f_334_93 rfl ?_
        exact (k18 c1 c2 c3)

theorem g_M_laysPlan_0 {Q : PQ} {h : HP} {x1 : Int} {x2 : Int} {x3 : Int} 
    (k1 : Wp true i_M_laysPlan 3 [vr 103, vi x1, vi x2, vi x3, vi 0, vr 9999, vr 9999, vr 9999] [] h Q) :
    Wp true i_M_laysPlan 0 [vr 103, vi x1, vi x2, vi x3, vr 9999, vr 9999, vr 9999, vr 9999] [] h Q := by
  refine r_iconst f_335_0 (by decide) ?_
  refine r_istore (ls' := [vr 103, vi x1, vi x2, vi x3, vi 0, vr 9999, vr 9999, vr 9999]) f_335_1 (Nat.le_of_ble_eq_true rfl) rfl ?_
  exact k1

theorem g_M_laysPlan_3 {Q : PQ} {h : HP} {x1 : Int} {x2 : Int} {x3 : Int} {x4 : Int} 
    (o1 : x3 < x4 → -2147483648 ≤ (h 104 1) - 1 ∧ (h 104 1) - 1 ≤ 2147483647)
    (k2 : x3 < x4 → Wp true i_M_laysPlan 54 [vr 103, vi x1, vi x2, vi x3, vi ((h 104 1) - 1), vr 9999, vr 9999, vr 9999] [] h Q)
    (o3 : ¬ x3 < x4 → -2147483648 ≤ 64 * (h 104 1) ∧ 64 * (h 104 1) ≤ 2147483647)
    (o4 : ¬ x3 < x4 → -2147483648 ≤ (64 * (h 104 1)) + x4 ∧ (64 * (h 104 1)) + x4 ≤ 2147483647)
    (o5 : ¬ x3 < x4 → ¬ x4 = 0 → 0 ≤ (64 * (h 104 1)) + x4 ∧ (64 * (h 104 1)) + x4 < 520)
    (o6 : ¬ x3 < x4 → ¬ x4 = 0 → -2147483648 ≤ x4 + 1 ∧ x4 + 1 ≤ 2147483647)
    (k7 : ¬ x3 < x4 → ¬ x4 = 0 → Wp true i_M_laysPlan 3 [vr 103, vi x1, vi x2, vi x3, vi (x4 + 1), vr 9999, vr 9999, vr 9999] [] (hs h 114 ((64 * (h 104 1)) + x4).toNat (-1000000)) Q)
    (o8 : ¬ x3 < x4 → x4 = 0 → 0 ≤ (64 * (h 104 1)) + x4 ∧ (64 * (h 104 1)) + x4 < 520)
    (o9 : ¬ x3 < x4 → x4 = 0 → -2147483648 ≤ x4 + 1 ∧ x4 + 1 ≤ 2147483647)
    (k10 : ¬ x3 < x4 → x4 = 0 → Wp true i_M_laysPlan 3 [vr 103, vi x1, vi x2, vi x3, vi (x4 + 1), vr 9999, vr 9999, vr 9999] [] (hs h 114 ((64 * (h 104 1)) + x4).toNat 0) Q) :
    Wp true i_M_laysPlan 3 [vr 103, vi x1, vi x2, vi x3, vi x4, vr 9999, vr 9999, vr 9999] [] h Q := by
  refine r_iload (v := x4) f_335_3 rfl ?_
  refine r_iload_n (v := x3) f_335_5 rfl ?_
  refine r_br2 (t := 44) f_335_6 rfl cb_gt (fun c1 => ?_) (fun c1 => ?_)
  · refine r_aload_n (v := 103) f_335_44 rfl (by decide) ?_
    refine r_getr (q := 104) f_335_45 rfl (by decide) (Or.inl rfl) rfl ?_
    refine r_iconst f_335_48 (by decide) ?_
    refine r_iaload (n := 3000) (v := h 104 1) f_335_49 ⟨rfl, rfl⟩ (by decide) rfl ?_
    refine r_iconst f_335_50 (by decide) ?_
    refine r_isub (u := (h 104 1) - 1) f_335_51 rfl (o1 c1) ?_
    refine r_istore (ls' := [vr 103, vi x1, vi x2, vi x3, vi ((h 104 1) - 1), vr 9999, vr 9999, vr 9999]) f_335_52 (Nat.le_of_ble_eq_true rfl) rfl ?_
    exact (k2 c1)
  · refine r_aload_n (v := 103) f_335_9 rfl (by decide) ?_
    refine r_getr (q := 114) f_335_10 rfl (by decide) (Or.inl rfl) rfl ?_
    refine r_bipush f_335_13 (by decide) ?_
    refine r_aload_n (v := 103) f_335_15 rfl (by decide) ?_
    refine r_getr (q := 104) f_335_16 rfl (by decide) (Or.inl rfl) rfl ?_
    refine r_iconst f_335_19 (by decide) ?_
    refine r_iaload (n := 3000) (v := h 104 1) f_335_20 ⟨rfl, rfl⟩ (by decide) rfl ?_
    refine r_imul (u := 64 * (h 104 1)) f_335_21 rfl (o3 c1) ?_
    refine r_iload (v := x4) f_335_22 rfl ?_
    refine r_iadd (u := (64 * (h 104 1)) + x4) f_335_24 rfl (o4 c1) ?_
    refine r_iload (v := x4) f_335_25 rfl ?_
    refine r_br (t := 34) f_335_27 rfl cb_ne (fun c2 => ?_) (fun c2 => ?_)
    · refine r_ldc_w f_335_34 (by decide) ?_
      refine r_iastore (n := 520) f_335_37 ⟨rfl, rfl⟩ (o5 c1 c2) ?_
      refine r_iinc (v := x4) (w := x4 + 1) (ls' := [vr 103, vi x1, vi x2, vi x3, vi (x4 + 1), vr 9999, vr 9999, vr 9999]) f_335_38 rfl rfl (o6 c1 c2) rfl ?_
      refine r_goto (t := 3) f_335_41 rfl ?_
      exact (k7 c1 c2)
    · have c2 := Decidable.not_not.mp c2
      refine r_iconst f_335_30 (by decide) ?_
      refine r_goto (t := 37) f_335_31 rfl ?_
      refine r_iastore (n := 520) f_335_37 ⟨rfl, rfl⟩ (o8 c1 c2) ?_
      refine r_iinc (v := x4) (w := x4 + 1) (ls' := [vr 103, vi x1, vi x2, vi x3, vi (x4 + 1), vr 9999, vr 9999, vr 9999]) f_335_38 rfl rfl (o9 c1 c2) rfl ?_
      refine r_goto (t := 3) f_335_41 rfl ?_
      exact (k10 c1 c2)

theorem g_M_laysPlan_54 {Q : PQ} {h : HP} {x1 : Int} {x2 : Int} {x3 : Int} {x4 : Int} {j5 : AV} {j6 : AV} {j7 : AV} 
    (k1 : x4 < 0 → Q none h)
    (k2 : ¬ x4 < 0 → Wp true i_M_laysPlan 62 [vr 103, vi x1, vi x2, vi x3, vi x4, vi 0, j6, j7] [] h Q) :
    Wp true i_M_laysPlan 54 [vr 103, vi x1, vi x2, vi x3, vi x4, j5, j6, j7] [] h Q := by
  refine r_iload (v := x4) f_335_54 rfl ?_
  refine r_br (t := 164) f_335_56 rfl cb_lt (fun c1 => ?_) (fun c1 => ?_)
  · exact r_retv f_335_164 rfl (k1 c1)
  · refine r_iconst f_335_59 (by decide) ?_
    refine r_istore (ls' := [vr 103, vi x1, vi x2, vi x3, vi x4, vi 0, j6, j7]) f_335_60 (Nat.le_of_ble_eq_true rfl) rfl ?_
    exact (k2 c1)

theorem g_M_laysPlan_62 {Q : PQ} {h : HP} {x1 : Int} {x2 : Int} {x3 : Int} {x4 : Int} {x5 : Int} {j6 : AV} {j7 : AV} 
    (o1 : x3 < x5 → -2147483648 ≤ x4 - 1 ∧ x4 - 1 ≤ 2147483647)
    (k2 : x3 < x5 → Wp true i_M_laysPlan 54 [vr 103, vi x1, vi x2, vi x3, vi (x4 - 1), vi x5, j6, j7] [] h Q)
    (k3 : ¬ x3 < x5 → Wp true i_M_laysPlan 76 [vr 103, vi x1, vi x2, vi x3, vi x4, vi x5, vi (-1000000), vi 0] [] h Q) :
    Wp true i_M_laysPlan 62 [vr 103, vi x1, vi x2, vi x3, vi x4, vi x5, j6, j7] [] h Q := by
  refine r_iload (v := x5) f_335_62 rfl ?_
  refine r_iload_n (v := x3) f_335_64 rfl ?_
  refine r_br2 (t := 158) f_335_65 rfl cb_gt (fun c1 => ?_) (fun c1 => ?_)
  · refine r_iinc (v := x4) (w := x4 - 1) (ls' := [vr 103, vi x1, vi x2, vi x3, vi (x4 - 1), vi x5, j6, j7]) f_335_158 rfl (by omega) (o1 c1) rfl ?_
    refine r_goto (t := 54) f_335_161 rfl ?_
    exact (k2 c1)
  · refine r_ldc_w f_335_68 (by decide) ?_
    refine r_istore (ls' := [vr 103, vi x1, vi x2, vi x3, vi x4, vi x5, vi (-1000000), j7]) f_335_71 (Nat.le_of_ble_eq_true rfl) rfl ?_
    refine r_iconst f_335_73 (by decide) ?_
    refine r_istore (ls' := [vr 103, vi x1, vi x2, vi x3, vi x4, vi x5, vi (-1000000), vi 0]) f_335_74 (Nat.le_of_ble_eq_true rfl) rfl ?_
    exact (k3 c1)

theorem g_M_laysPlan_76 {Q : PQ} {h : HP} {x1 : Int} {x2 : Int} {x3 : Int} {x4 : Int} {x5 : Int} {x6 : Int} {x7 : Int} 
    (k1 : x5 < x7 → Wp true i_M_laysPlan 137 [vr 103, vi x1, vi x2, vi x3, vi x4, vi x5, vi x6, vi x7] [] h Q)
    (o2 : ¬ x5 < x7 → WR (rmM h 0))
    (o3 : ¬ x5 < x7 → 0 ≤ x4 ∧ x4 < h 104 1)
    (k4 : ¬ x5 < x7 → rIn (rmM h 0) x2 x4.toNat < x7 → Wp true i_M_laysPlan 137 [vr 103, vi x1, vi x2, vi x3, vi x4, vi x5, vi x6, vi x7] [] h Q)
    (k5 : ¬ x5 < x7 → ¬ rIn (rmM h 0) x2 x4.toNat < x7 → Wp true i_M_valueIn 0 [vr 103, vi x1, vi x2, vi x4, vi x7, vr 9999, vr 9999, vr 9999] [] h (fun r h' => Wp true i_M_laysPlan 107 [vr 103, vi x1, vi x2, vi x3, vi x4, vi x5, vi x6, vi x7] (r.toList ++ [vi x6]) h' Q)) :
    Wp true i_M_laysPlan 76 [vr 103, vi x1, vi x2, vi x3, vi x4, vi x5, vi x6, vi x7] [] h Q := by
  refine r_iload (v := x7) f_335_76 rfl ?_
  refine r_iload (v := x5) f_335_78 rfl ?_
  refine r_br2 (t := 137) f_335_80 rfl cb_gt (fun c1 => ?_) (fun c1 => ?_)
  · exact (k1 c1)
  · refine r_iload (v := x7) f_335_83 rfl ?_
    refine r_aload_n (v := 103) f_335_85 rfl (by decide) ?_
    refine r_iload_n (v := x2) f_335_86 rfl ?_
    refine r_iload (v := x4) f_335_87 rfl ?_
    refine r_callv (as := [vr 103, vi x2, vi x4]) (st' := [vi x7]) (ls0 := [vr 103, vi x2, vi x4]) f_335_89 (by decide) rfl rfl (Nat.le_of_ble_eq_true rfl) (Nat.le_of_ble_eq_true rfl) ⟨_, _, rfl, rfl⟩ rfl ?_
    refine c_M_hasIn (o2 c1) (o3 c1) ?_
    show Wp true i_M_laysPlan 92 [vr 103, vi x1, vi x2, vi x3, vi x4, vi x5, vi x6, vi x7] [vi (rIn (rmM h 0) x2 x4.toNat), vi x7] h Q
    refine r_br2 (t := 137) f_335_92 rfl cb_gt (fun c2 => ?_) (fun c2 => ?_)
    · exact (k4 c1 c2)
    · refine r_iload (v := x6) f_335_95 rfl ?_
      refine r_aload_n (v := 103) f_335_97 rfl (by decide) ?_
      refine r_iload_n (v := x1) f_335_98 rfl ?_
      refine r_iload_n (v := x2) f_335_99 rfl ?_
      refine r_iload (v := x4) f_335_100 rfl ?_
      refine r_iload (v := x7) f_335_102 rfl ?_
      exact r_callv (as := [vr 103, vi x1, vi x2, vi x4, vi x7]) (st' := [vi x6]) (ls0 := [vr 103, vi x1, vi x2, vi x4, vi x7, vr 9999, vr 9999, vr 9999]) f_335_104 (by decide) rfl rfl (Nat.le_of_ble_eq_true rfl) (Nat.le_of_ble_eq_true rfl) ⟨_, _, rfl, rfl⟩ rfl (k5 c1 c2)

theorem g_M_laysPlan_107 {Q : PQ} {h : HP} {x1 : Int} {x2 : Int} {x3 : Int} {x4 : Int} {x5 : Int} {x6 : Int} {x7 : Int} {s0 : Int} {s1 : Int} 
    (o1 : -2147483648 ≤ x4 + 1 ∧ x4 + 1 ≤ 2147483647)
    (o2 : -2147483648 ≤ 64 * (x4 + 1) ∧ 64 * (x4 + 1) ≤ 2147483647)
    (o3 : -2147483648 ≤ (64 * (x4 + 1)) + x5 ∧ (64 * (x4 + 1)) + x5 ≤ 2147483647)
    (o4 : -2147483648 ≤ ((64 * (x4 + 1)) + x5) - x7 ∧ ((64 * (x4 + 1)) + x5) - x7 ≤ 2147483647)
    (o5 : 0 ≤ ((64 * (x4 + 1)) + x5) - x7 ∧ ((64 * (x4 + 1)) + x5) - x7 < 520)
    (o6 : -2147483648 ≤ s1 + (h 114 (((64 * (x4 + 1)) + x5) - x7).toNat) ∧ s1 + (h 114 (((64 * (x4 + 1)) + x5) - x7).toNat) ≤ 2147483647)
    (o7 : -2147483648 ≤ x7 + 1 ∧ x7 + 1 ≤ 2147483647)
    (k8 : Wp true i_M_laysPlan 76 [vr 103, vi x1, vi x2, vi x3, vi x4, vi x5, vi (max s0 (s1 + (h 114 (((64 * (x4 + 1)) + x5) - x7).toNat))), vi (x7 + 1)] [] h Q) :
    Wp true i_M_laysPlan 107 [vr 103, vi x1, vi x2, vi x3, vi x4, vi x5, vi x6, vi x7] [vi s1, vi s0] h Q := by
  refine r_aload_n (v := 103) f_335_107 rfl (by decide) ?_
  refine r_getr (q := 114) f_335_108 rfl (by decide) (Or.inl rfl) rfl ?_
  refine r_bipush f_335_111 (by decide) ?_
  refine r_iload (v := x4) f_335_113 rfl ?_
  refine r_iconst f_335_115 (by decide) ?_
  refine r_iadd (u := x4 + 1) f_335_116 rfl o1 ?_
  refine r_imul (u := 64 * (x4 + 1)) f_335_117 rfl o2 ?_
  refine r_iload (v := x5) f_335_118 rfl ?_
  refine r_iadd (u := (64 * (x4 + 1)) + x5) f_335_120 rfl o3 ?_
  refine r_iload (v := x7) f_335_121 rfl ?_
  refine r_isub (u := ((64 * (x4 + 1)) + x5) - x7) f_335_123 rfl o4 ?_
  refine r_iaload (n := 520) (v := h 114 (((64 * (x4 + 1)) + x5) - x7).toNat) f_335_124 ⟨rfl, rfl⟩ o5 rfl ?_
  refine r_iadd (u := s1 + (h 114 (((64 * (x4 + 1)) + x5) - x7).toNat)) f_335_125 rfl o6 ?_
  refine r_calls (as := [vi s0, vi (s1 + (h 114 (((64 * (x4 + 1)) + x5) - x7).toNat))]) (st' := []) (ls0 := [vi s0, vi (s1 + (h 114 (((64 * (x4 + 1)) + x5) - x7).toNat))]) f_335_126 (by decide) (by decide) rfl rfl (Nat.le_of_ble_eq_true rfl) (Nat.le_of_ble_eq_true rfl) rfl ?_
  refine c_Ma_max  ?_
  show Wp true i_M_laysPlan 129 [vr 103, vi x1, vi x2, vi x3, vi x4, vi x5, vi x6, vi x7] [vi (max s0 (s1 + (h 114 (((64 * (x4 + 1)) + x5) - x7).toNat)))] h Q
  refine r_istore (ls' := [vr 103, vi x1, vi x2, vi x3, vi x4, vi x5, vi (max s0 (s1 + (h 114 (((64 * (x4 + 1)) + x5) - x7).toNat))), vi x7]) f_335_129 (Nat.le_of_ble_eq_true rfl) rfl ?_
  refine r_iinc (v := x7) (w := x7 + 1) (ls' := [vr 103, vi x1, vi x2, vi x3, vi x4, vi x5, vi (max s0 (s1 + (h 114 (((64 * (x4 + 1)) + x5) - x7).toNat))), vi (x7 + 1)]) f_335_131 rfl rfl o7 rfl ?_
  refine r_goto (t := 76) f_335_134 rfl ?_
  exact k8

theorem g_M_laysPlan_137 {Q : PQ} {h : HP} {x1 : Int} {x2 : Int} {x3 : Int} {x4 : Int} {x5 : Int} {x6 : Int} {x7 : Int} 
    (o1 : -2147483648 ≤ 64 * x4 ∧ 64 * x4 ≤ 2147483647)
    (o2 : -2147483648 ≤ (64 * x4) + x5 ∧ (64 * x4) + x5 ≤ 2147483647)
    (o3 : 0 ≤ (64 * x4) + x5 ∧ (64 * x4) + x5 < 520)
    (o4 : -2147483648 ≤ x5 + 1 ∧ x5 + 1 ≤ 2147483647)
    (k5 : Wp true i_M_laysPlan 62 [vr 103, vi x1, vi x2, vi x3, vi x4, vi (x5 + 1), vi x6, vi x7] [] (hs h 114 ((64 * x4) + x5).toNat x6) Q) :
    Wp true i_M_laysPlan 137 [vr 103, vi x1, vi x2, vi x3, vi x4, vi x5, vi x6, vi x7] [] h Q := by
  refine r_aload_n (v := 103) f_335_137 rfl (by decide) ?_
  refine r_getr (q := 114) f_335_138 rfl (by decide) (Or.inl rfl) rfl ?_
  refine r_bipush f_335_141 (by decide) ?_
  refine r_iload (v := x4) f_335_143 rfl ?_
  refine r_imul (u := 64 * x4) f_335_145 rfl o1 ?_
  refine r_iload (v := x5) f_335_146 rfl ?_
  refine r_iadd (u := (64 * x4) + x5) f_335_148 rfl o2 ?_
  refine r_iload (v := x6) f_335_149 rfl ?_
  refine r_iastore (n := 520) f_335_151 ⟨rfl, rfl⟩ o3 ?_
  refine r_iinc (v := x5) (w := x5 + 1) (ls' := [vr 103, vi x1, vi x2, vi x3, vi x4, vi (x5 + 1), vi x6, vi x7]) f_335_152 rfl rfl o4 rfl ?_
  refine r_goto (t := 62) f_335_155 rfl ?_
  exact k5

theorem g_M_hasInAll_0 {Q : PQ} {h : HP} {x1 : Int} 
    (k1 : Wp true i_M_hasInAll 4 [vr 103, vi x1, vi 0, vi 0] [] h Q) :
    Wp true i_M_hasInAll 0 [vr 103, vi x1, vr 9999, vr 9999] [] h Q := by
  refine r_iconst f_336_0 (by decide) ?_
  refine r_istore_n (ls' := [vr 103, vi x1, vi 0, vr 9999]) f_336_1 (Nat.le_of_ble_eq_true rfl) rfl ?_
  refine r_iconst f_336_2 (by decide) ?_
  refine r_istore_n (ls' := [vr 103, vi x1, vi 0, vi 0]) f_336_3 (Nat.le_of_ble_eq_true rfl) rfl ?_
  exact k1

theorem g_M_hasInAll_4 {Q : PQ} {h : HP} {x1 : Int} {x2 : Int} {x3 : Int} 
    (k1 : h 104 1 ≤ x3 → Q (some (vi x2)) h)
    (o2 : ¬ h 104 1 ≤ x3 → WR (rmM h 0))
    (o3 : ¬ h 104 1 ≤ x3 → 0 ≤ x3 ∧ x3 < h 104 1)
    (o4 : ¬ h 104 1 ≤ x3 → -2147483648 ≤ x2 + (rIn (rmM h 0) x1 x3.toNat) ∧ x2 + (rIn (rmM h 0) x1 x3.toNat) ≤ 2147483647)
    (o5 : ¬ h 104 1 ≤ x3 → -2147483648 ≤ x3 + 1 ∧ x3 + 1 ≤ 2147483647)
    (k6 : ¬ h 104 1 ≤ x3 → Wp true i_M_hasInAll 4 [vr 103, vi x1, vi (x2 + (rIn (rmM h 0) x1 x3.toNat)), vi (x3 + 1)] [] h Q) :
    Wp true i_M_hasInAll 4 [vr 103, vi x1, vi x2, vi x3] [] h Q := by
  refine r_iload_n (v := x3) f_336_4 rfl ?_
  refine r_aload_n (v := 103) f_336_5 rfl (by decide) ?_
  refine r_getr (q := 104) f_336_6 rfl (by decide) (Or.inl rfl) rfl ?_
  refine r_iconst f_336_9 (by decide) ?_
  refine r_iaload (n := 3000) (v := h 104 1) f_336_10 ⟨rfl, rfl⟩ (by decide) rfl ?_
  refine r_br2 (t := 29) f_336_11 rfl cb_ge (fun c1 => ?_) (fun c1 => ?_)
  · refine r_iload_n (v := x2) f_336_29 rfl ?_
    exact r_reti f_336_30 rfl (k1 c1)
  · refine r_iload_n (v := x2) f_336_14 rfl ?_
    refine r_aload_n (v := 103) f_336_15 rfl (by decide) ?_
    refine r_iload_n (v := x1) f_336_16 rfl ?_
    refine r_iload_n (v := x3) f_336_17 rfl ?_
    refine r_callv (as := [vr 103, vi x1, vi x3]) (st' := [vi x2]) (ls0 := [vr 103, vi x1, vi x3]) f_336_18 (by decide) rfl rfl (Nat.le_of_ble_eq_true rfl) (Nat.le_of_ble_eq_true rfl) ⟨_, _, rfl, rfl⟩ rfl ?_
    refine c_M_hasIn (o2 c1) (o3 c1) ?_
    show Wp true i_M_hasInAll 21 [vr 103, vi x1, vi x2, vi x3] [vi (rIn (rmM h 0) x1 x3.toNat), vi x2] h Q
    refine r_iadd (u := x2 + (rIn (rmM h 0) x1 x3.toNat)) f_336_21 rfl (o4 c1) ?_
    refine r_istore_n (ls' := [vr 103, vi x1, vi (x2 + (rIn (rmM h 0) x1 x3.toNat)), vi x3]) f_336_22 (Nat.le_of_ble_eq_true rfl) rfl ?_
    refine r_iinc (v := x3) (w := x3 + 1) (ls' := [vr 103, vi x1, vi (x2 + (rIn (rmM h 0) x1 x3.toNat)), vi (x3 + 1)]) f_336_23 rfl rfl (o5 c1) rfl ?_
    refine r_goto (t := 4) f_336_26 rfl ?_
    exact (k6 c1)

theorem g_M_givenIn_0 {Q : PQ} {h : HP} {x1 : Int} {x2 : Int} {x3 : Int} {x4 : Int} 
    (k1 : Wp true i_M_givenIn 9 [vr 103, vi x1, vi x2, vi x3, vi x4, vi x3, vi 0, vi 0] [] h Q) :
    Wp true i_M_givenIn 0 [vr 103, vi x1, vi x2, vi x3, vi x4, vr 9999, vr 9999, vr 9999] [] h Q := by
  refine r_iload_n (v := x3) f_337_0 rfl ?_
  refine r_istore (ls' := [vr 103, vi x1, vi x2, vi x3, vi x4, vi x3, vr 9999, vr 9999]) f_337_1 (Nat.le_of_ble_eq_true rfl) rfl ?_
  refine r_iconst f_337_3 (by decide) ?_
  refine r_istore (ls' := [vr 103, vi x1, vi x2, vi x3, vi x4, vi x3, vi 0, vr 9999]) f_337_4 (Nat.le_of_ble_eq_true rfl) rfl ?_
  refine r_iconst f_337_6 (by decide) ?_
  refine r_istore (ls' := [vr 103, vi x1, vi x2, vi x3, vi x4, vi x3, vi 0, vi 0]) f_337_7 (Nat.le_of_ble_eq_true rfl) rfl ?_
  exact k1

theorem g_M_givenIn_9 {Q : PQ} {h : HP} {x1 : Int} {x2 : Int} {x3 : Int} {x4 : Int} {x5 : Int} {x6 : Int} {x7 : Int} 
    (k1 : x4 < x7 → Q (some (vi x6)) h)
    (k2 : ¬ x4 < x7 → Wp true i_M_givenIn 19 [vr 103, vi x1, vi x2, vi x3, vi x4, vi x5, vi 0, vi x7] [] h Q) :
    Wp true i_M_givenIn 9 [vr 103, vi x1, vi x2, vi x3, vi x4, vi x5, vi x6, vi x7] [] h Q := by
  refine r_iload (v := x7) f_337_9 rfl ?_
  refine r_iload (v := x4) f_337_11 rfl ?_
  refine r_br2 (t := 83) f_337_13 rfl cb_gt (fun c1 => ?_) (fun c1 => ?_)
  · refine r_iload (v := x6) f_337_83 rfl ?_
    exact r_reti f_337_85 rfl (k1 c1)
  · refine r_iconst f_337_16 (by decide) ?_
    refine r_istore (ls' := [vr 103, vi x1, vi x2, vi x3, vi x4, vi x5, vi 0, vi x7]) f_337_17 (Nat.le_of_ble_eq_true rfl) rfl ?_
    exact (k2 c1)

theorem g_M_givenIn_19 {Q : PQ} {h : HP} {x1 : Int} {x2 : Int} {x3 : Int} {x4 : Int} {x5 : Int} {x6 : Int} {x7 : Int} 
    (k1 : Wp true i_M_valueIn 0 [vr 103, vi x1, vi x2, vi x7, vi x6, vr 9999, vr 9999, vr 9999] [] h (fun r h' => Wp true i_M_givenIn 29 [vr 103, vi x1, vi x2, vi x3, vi x4, vi x5, vi x6, vi x7] (r.toList ++ []) h' Q)) :
    Wp true i_M_givenIn 19 [vr 103, vi x1, vi x2, vi x3, vi x4, vi x5, vi x6, vi x7] [] h Q := by
  refine r_aload_n (v := 103) f_337_19 rfl (by decide) ?_
  refine r_iload_n (v := x1) f_337_20 rfl ?_
  refine r_iload_n (v := x2) f_337_21 rfl ?_
  refine r_iload (v := x7) f_337_22 rfl ?_
  refine r_iload (v := x6) f_337_24 rfl ?_
  exact r_callv (as := [vr 103, vi x1, vi x2, vi x7, vi x6]) (st' := []) (ls0 := [vr 103, vi x1, vi x2, vi x7, vi x6, vr 9999, vr 9999, vr 9999]) f_337_26 (by decide) rfl rfl (Nat.le_of_ble_eq_true rfl) (Nat.le_of_ble_eq_true rfl) ⟨_, _, rfl, rfl⟩ rfl k1

theorem g_M_givenIn_29 {Q : PQ} {h : HP} {x1 : Int} {x2 : Int} {x3 : Int} {x4 : Int} {x5 : Int} {x6 : Int} {x7 : Int} {s0 : Int} 
    (o1 : -2147483648 ≤ x7 + 1 ∧ x7 + 1 ≤ 2147483647)
    (o2 : -2147483648 ≤ 64 * (x7 + 1) ∧ 64 * (x7 + 1) ≤ 2147483647)
    (o3 : -2147483648 ≤ (64 * (x7 + 1)) + x5 ∧ (64 * (x7 + 1)) + x5 ≤ 2147483647)
    (o4 : -2147483648 ≤ ((64 * (x7 + 1)) + x5) - x6 ∧ ((64 * (x7 + 1)) + x5) - x6 ≤ 2147483647)
    (o5 : 0 ≤ ((64 * (x7 + 1)) + x5) - x6 ∧ ((64 * (x7 + 1)) + x5) - x6 < 520)
    (o6 : -2147483648 ≤ s0 + (h 114 (((64 * (x7 + 1)) + x5) - x6).toNat) ∧ s0 + (h 114 (((64 * (x7 + 1)) + x5) - x6).toNat) ≤ 2147483647)
    (o7 : -2147483648 ≤ 64 * x7 ∧ 64 * x7 ≤ 2147483647)
    (o8 : -2147483648 ≤ (64 * x7) + x5 ∧ (64 * x7) + x5 ≤ 2147483647)
    (o9 : 0 ≤ (64 * x7) + x5 ∧ (64 * x7) + x5 < 520)
    (o10 : s0 + (h 114 (((64 * (x7 + 1)) + x5) - x6).toNat) = h 114 ((64 * x7) + x5).toNat → -2147483648 ≤ x5 - x6 ∧ x5 - x6 ≤ 2147483647)
    (k11 : s0 + (h 114 (((64 * (x7 + 1)) + x5) - x6).toNat) = h 114 ((64 * x7) + x5).toNat → Wp true i_M_givenIn 9 [vr 103, vi x1, vi x2, vi x3, vi x4, vi (x5 - x6), vi x6, vi (x7 + 1)] [] h Q)
    (o12 : ¬ s0 + (h 114 (((64 * (x7 + 1)) + x5) - x6).toNat) = h 114 ((64 * x7) + x5).toNat → -2147483648 ≤ x6 + 1 ∧ x6 + 1 ≤ 2147483647)
    (k13 : ¬ s0 + (h 114 (((64 * (x7 + 1)) + x5) - x6).toNat) = h 114 ((64 * x7) + x5).toNat → Wp true i_M_givenIn 19 [vr 103, vi x1, vi x2, vi x3, vi x4, vi x5, vi (x6 + 1), vi x7] [] h Q) :
    Wp true i_M_givenIn 29 [vr 103, vi x1, vi x2, vi x3, vi x4, vi x5, vi x6, vi x7] [vi s0] h Q := by
  refine r_aload_n (v := 103) f_337_29 rfl (by decide) ?_
  refine r_getr (q := 114) f_337_30 rfl (by decide) (Or.inl rfl) rfl ?_
  refine r_bipush f_337_33 (by decide) ?_
  refine r_iload (v := x7) f_337_35 rfl ?_
  refine r_iconst f_337_37 (by decide) ?_
  refine r_iadd (u := x7 + 1) f_337_38 rfl o1 ?_
  refine r_imul (u := 64 * (x7 + 1)) f_337_39 rfl o2 ?_
  refine r_iload (v := x5) f_337_40 rfl ?_
  refine r_iadd (u := (64 * (x7 + 1)) + x5) f_337_42 rfl o3 ?_
  refine r_iload (v := x6) f_337_43 rfl ?_
  refine r_isub (u := ((64 * (x7 + 1)) + x5) - x6) f_337_45 rfl o4 ?_
  refine r_iaload (n := 520) (v := h 114 (((64 * (x7 + 1)) + x5) - x6).toNat) f_337_46 ⟨rfl, rfl⟩ o5 rfl ?_
  refine r_iadd (u := s0 + (h 114 (((64 * (x7 + 1)) + x5) - x6).toNat)) f_337_47 rfl o6 ?_
  refine r_aload_n (v := 103) f_337_48 rfl (by decide) ?_
  refine r_getr (q := 114) f_337_49 rfl (by decide) (Or.inl rfl) rfl ?_
  refine r_bipush f_337_52 (by decide) ?_
  refine r_iload (v := x7) f_337_54 rfl ?_
  refine r_imul (u := 64 * x7) f_337_56 rfl o7 ?_
  refine r_iload (v := x5) f_337_57 rfl ?_
  refine r_iadd (u := (64 * x7) + x5) f_337_59 rfl o8 ?_
  refine r_iaload (n := 520) (v := h 114 ((64 * x7) + x5).toNat) f_337_60 ⟨rfl, rfl⟩ o9 rfl ?_
  refine r_br2 (t := 70) f_337_61 rfl cb_eq (fun c1 => ?_) (fun c1 => ?_)
  · refine r_iload (v := x5) f_337_70 rfl ?_
    refine r_iload (v := x6) f_337_72 rfl ?_
    refine r_isub (u := x5 - x6) f_337_74 rfl (o10 c1) ?_
    refine r_istore (ls' := [vr 103, vi x1, vi x2, vi x3, vi x4, vi (x5 - x6), vi x6, vi x7]) f_337_75 (Nat.le_of_ble_eq_true rfl) rfl ?_
    refine r_iinc (v := x7) (w := x7 + 1) (ls' := [vr 103, vi x1, vi x2, vi x3, vi x4, vi (x5 - x6), vi x6, vi (x7 + 1)]) f_337_77 rfl rfl o1 rfl ?_
    refine r_goto (t := 9) f_337_80 rfl ?_
    exact (k11 c1)
  · refine r_iinc (v := x6) (w := x6 + 1) (ls' := [vr 103, vi x1, vi x2, vi x3, vi x4, vi x5, vi (x6 + 1), vi x7]) f_337_64 rfl rfl (o12 c1) rfl ?_
    refine r_goto (t := 19) f_337_67 rfl ?_
    exact (k13 c1)

theorem c_Ba_firstBest {Q : PQ} {h R : HP} {ld gv : Int} {f1 r n N : Nat} (h_f1 : isF f1) (eR : rmC h f1 = R) (W : WR R) (hl : ld = 0 ∨ ld = 1) (hg : gv = 0 ∨ gv = 1) (C : CH R ld gv h) (B : BR R ld gv N h 0) (hr : (r : Int) < R 0 1) (hn : n ≤ N) (hN : N ≤ 63) (ha : (n : Int) ≤ aG R gv r)
    (k : Q (some (vi (gK R ld gv r n : Nat))) h) : Wp true i_Ba_firstBest 0 [vr 89, vr f1, vi gv, vi (r : Int), vi (n : Int), vr 9999, vr 9999, vr 9999] [] h Q := by
  have w := W.1
  have dd := cdim eR
  have en : ((r : Int)).toNat = r := Int.toNat_natCast _
  have rb := rIn_b W (gv := gv) hr
  have s1 := sG_rg W ld gv (r + 1)
  have s0 := sG_s (ld := ld) (gv := gv) hr
  have v0 := vG_rg W ld gv r 0
  have G := gK_ok W (ld := ld) (gv := gv) hr ha
  have pn := (pP_rg W (ld := ld) (gv := gv) (r := r) (n := n) (by omega)).1 ha
  have b0 := (B r n (by omega) (by omega) hn).1 ha
  obtain ⟨t, et⟩ : ∃ t, t = gK R ld gv r n := ⟨_, rfl⟩
  rw [← et] at G k
  have gq : (t : Int) ≤ rIn R gv r := G.2.1
  have gl := G.1
  refine g_Ba_firstBest_0 h_f1 (by rw [eR]; exact W) (by omega) ?_
  rw [eR, en]
  obtain ⟨m, em⟩ : ∃ m : Nat, min (n : Int) (rIn R gv r) = m := ⟨(min (n : Int) (rIn R gv r)).toNat, by omega⟩
  rw [em]
  have key : ∀ (d i : Nat), i + d = t → Wp true i_Ba_firstBest 19 [vr 89, vr f1, vi gv, vi (r : Int), vi (n : Int), vi (m : Int), vi (vG R ld gv r (i - 1) - vG R ld gv r 0), vi (i : Int)] [] h Q := by
    intro d
    induction d with
    | zero =>
      intro i e
      have ei : i = t := by omega
      subst ei
      have va := vG_rg W ld gv r i
      have vb := vG_rg W ld gv r (i - 1)
      refine g_Ba_firstBest_19 h_f1 (fun q => by omega) (fun _ => ?_)
      refine c_Ba_changeOf h_f1 eR W hl hg C hr (by omega) (fun v hv => ?_)
      have ix : (((r : Int) + 1) * 64 + (n : Int) - (i : Int)).toNat = 64 * (r + 1) + (n - i) := by omega
      have iy : ((r : Int) * 64 + (n : Int)).toNat = 64 * r + n := by omega
      have hit := pP_hit W hr ha G.2.2.1
      have bb := (B (r + 1) (n - i) (by omega) (by omega) (by omega)).1 hit
      have pr := (pP_rg W (ld := ld) (gv := gv) (r := r + 1) (n := n - i) (by omega)).1 hit
      have fg : vG R ld gv r i + pP R ld gv (r + 1) (n - i) = pP R ld gv r n := G.2.2.1
      have eq : vG R ld gv r (i - 1) - vG R ld gv r 0 + v + h 91 (((r : Int) + 1) * 64 + (n : Int) - (i : Int)).toNat = h 91 ((r : Int) * 64 + (n : Int)).toNat := by
        rw [ix, iy, bb, b0]; omega
      exact g_Ba_firstBest_37 h_f1 (by omega) (by omega) (by omega) (by omega) (by omega) (by omega) (by rw [ix, bb]; omega) (by omega) (by omega) (by omega) (fun q => absurd eq q) (fun q => absurd eq q) (fun _ => k)
    | succ d ih =>
      intro i e
      have va := vG_rg W ld gv r i
      have vb := vG_rg W ld gv r (i - 1)
      refine g_Ba_firstBest_19 h_f1 (fun q => by omega) (fun _ => ?_)
      refine c_Ba_changeOf h_f1 eR W hl hg C hr (by omega) (fun v hv => ?_)
      have ix : (((r : Int) + 1) * 64 + (n : Int) - (i : Int)).toNat = 64 * (r + 1) + (n - i) := by omega
      have iy : ((r : Int) * 64 + (n : Int)).toNat = 64 * r + n := by omega
      have bb := B (r + 1) (n - i) (by omega) (by omega) (by omega)
      have pr := pP_rg W (ld := ld) (gv := gv) (r := r + 1) (n := n - i) (by omega)
      have ng : ¬ fG R ld gv r n i = pP R ld gv r n := G.2.2.2 i (by omega) (show (i : Int) ≤ rIn R gv r by omega)
      have ng' : ¬ vG R ld gv r i + pP R ld gv (r + 1) (n - i) = pP R ld gv r n := ng
      have hv91 : -1000000 - 6930 ≤ h 91 (64 * (r + 1) + (n - i)) ∧ h 91 (64 * (r + 1) + (n - i)) ≤ 6930 ∧ ¬ vG R ld gv r (i - 1) - vG R ld gv r 0 + v + h 91 (64 * (r + 1) + (n - i)) = h 91 (64 * r + n) := by
        by_cases z : ((n - i : Nat) : Int) ≤ aG R gv (r + 1)
        · have a := bb.1 z
          have b := pr.1 z
          rw [a, b0]; omega
        · have a := bb.2 z
          rw [a, b0]; omega
      have nx := ih (i + 1) (by omega)
      rw [show vG R ld gv r (i + 1 - 1) - vG R ld gv r 0 = vG R ld gv r (i - 1) - vG R ld gv r 0 + v by rw [show i + 1 - 1 = i by omega]; omega] at nx
      exact g_Ba_firstBest_37 h_f1 (by omega) (by omega) (by omega) (by omega) (by omega) (by omega) (by rw [ix]; omega) (by omega) (by omega) (by omega) (fun q => by omega) (fun _ => nx) (fun q => by rw [ix, iy] at q; omega)
  have st := key t 0 (by omega)
  rw [show vG R ld gv r (0 - 1) - vG R ld gv r 0 = 0 by simp] at st
  exact st
theorem c_Ba_givenIn {Q : PQ} {h R : HP} {ld gv : Int} {f1 r N : Nat} (h_f1 : isF f1) (eR : rmC h f1 = R) (W : WR R) (hl : ld = 0 ∨ ld = 1) (hg : gv = 0 ∨ gv = 1) (C : CH R ld gv h) (B : BR R ld gv N h 0) (hr : (r : Int) < R 0 1) (hN : N ≤ 63) (ha : (N : Int) ≤ aG R gv 0)
    (k : Q (some (vi (gK R ld gv r (lfG R ld gv N r) : Nat))) h) : Wp true i_Ba_givenIn 0 [vr 89, vr f1, vi gv, vi (N : Int), vi (r : Int), vr 9999, vr 9999, vr 9999] [] h Q := by
  have w := W.1
  refine g_Ba_givenIn_0 h_f1 ?_
  have key : ∀ (d i : Nat) (x6 : Int), i + d = r → Wp true i_Ba_givenIn 9 [vr 89, vr f1, vi gv, vi (N : Int), vi (r : Int), vi (lfG R ld gv N i : Nat), vi x6, vi (i : Int)] [] h Q := by
    intro d
    induction d with
    | zero =>
      intro i x6 e
      have ei : i = r := by omega
      subst ei
      have L := lfG_ok W (ld := ld) ha i (by omega)
      have G := gK_ok W (ld := ld) hr L.2
      have gl := G.1
      refine g_Ba_givenIn_9 h_f1 (fun q => by omega) (fun _ => ?_)
      refine c_Ba_firstBest h_f1 eR W hl hg C B hr L.1 hN L.2 ?_
      refine g_Ba_givenIn_26 h_f1 (by omega) (by omega) ?_
      exact g_Ba_givenIn_9 h_f1 (fun _ => k) (fun q => by omega)
    | succ d ih =>
      intro i x6 e
      have L := lfG_ok W (ld := ld) ha i (by omega)
      have G := gK_ok W (ld := ld) (r := i) (by omega) L.2
      have gl := G.1
      refine g_Ba_givenIn_9 h_f1 (fun q => by omega) (fun _ => ?_)
      refine c_Ba_firstBest h_f1 eR W hl hg C B (by omega) L.1 hN L.2 ?_
      refine g_Ba_givenIn_26 h_f1 (by omega) (by omega) ?_
      have nx := ih (i + 1) (gK R ld gv i (lfG R ld gv N i) : Nat) (by omega)
      rw [show ((lfG R ld gv N (i + 1) : Nat) : Int) = (lfG R ld gv N i : Nat) - (gK R ld gv i (lfG R ld gv N i) : Nat) by simp only [lfG]; omega] at nx
      exact nx
  exact key r 0 0 (by omega)
def FW (R : HP) (ld gv v : Int) (N : Nat) (a : Int) : Prop := (a = -1 ∧ ∀ n : Nat, n ≤ N → ¬ v ≤ pP R ld gv 0 n) ∨ (∃ m : Nat, a = m ∧ m ≤ N ∧ v ≤ pP R ld gv 0 m ∧ ∀ n : Nat, n < m → ¬ v ≤ pP R ld gv 0 n)
theorem FW_ex (R : HP) (ld gv v : Int) (N : Nat) : ∃ a, FW R ld gv v N a := by
  by_cases z : ∃ n, n < N + 1 ∧ v ≤ pP R ld gv 0 n ∧ (0 : Int) = 0
  · have F := FK_ex (p := fun n => v ≤ pP R ld gv 0 n) (f := fun _ => 0) z
    exact ⟨_, Or.inr ⟨_, rfl, by have := F.1; omega, F.2.1, fun n hn q => F.2.2.2 n hn q rfl⟩⟩
  · exact ⟨-1, Or.inl ⟨rfl, fun n hn q => z ⟨n, by omega, q, rfl⟩⟩⟩
theorem FW_un {R : HP} {ld gv v : Int} {N : Nat} {a b : Int} (x : FW R ld gv v N a) (y : FW R ld gv v N b) : a = b := by
  rcases x with ⟨x1, x2⟩ | ⟨m, x1, x2, x3, x4⟩ <;> rcases y with ⟨y1, y2⟩ | ⟨m', y1, y2, y3, y4⟩
  · rw [x1, y1]
  · exact absurd y3 (x2 m' y2)
  · exact absurd x3 (y2 m x2)
  · rcases Nat.lt_trichotomy m m' with z | z | z
    · exact absurd x3 (y4 m z)
    · rw [x1, y1, z]
    · exact absurd y3 (x4 m' z)
theorem FW_rg {R : HP} {ld gv v : Int} {N : Nat} {a : Int} (x : FW R ld gv v N a) : -1 ≤ a ∧ a ≤ N := by
  rcases x with ⟨x1, x2⟩ | ⟨m, x1, x2, x3, x4⟩ <;> omega
theorem c_Ba_fewestFor {Q : PQ} {h R : HP} {ld v a : Int} {f1 N : Nat} (h_f1 : isF f1) (eR : rmC h f1 = R) (W : WR R) (hl : ld = 0 ∨ ld = 1) (eN : rByLine R (1 - ld) = N) (hN : N ≤ 63) (F : FW R ld (1 - ld) v N a)
    (k : ∀ h', (∀ k, k ≠ 90 → k ≠ 91 → h' k = h k) → Q (some (vi a)) h') : Wp true i_Ba_fewestFor 0 [vr 89, vr f1, vi ld, vi v, vr 9999, vr 9999, vr 9999] [] h Q := by
  have w := W.1
  refine g_Ba_fewestFor_0 h_f1 (by omega) (by rw [eR]; exact W) hl ?_
  rw [eR, eN]
  refine c_Ba_weigh h_f1 eR W hl (by omega) hN (fun h' f C B => ?_)
  refine g_Ba_fewestFor_27 h_f1 ?_
  have k := k h' f
  have s0 := sG_0 W (ld := ld) (gv := 1 - ld)
  have sr := sG_rg W ld (1 - ld) 0
  have vv : ∀ n : Nat, n ≤ N → rVal R ld ld + h' 91 ((n : Int)).toNat = pP R ld (1 - ld) 0 n ∧ (-1000000 ≤ h' 91 ((n : Int)).toNat ∧ h' 91 ((n : Int)).toNat ≤ 6930) := by
    intro n hn
    have hq : (n : Int) ≤ aG R (1 - ld) 0 := by rw [aG_0, eN]; omega
    have b := (B 0 n (Nat.le_refl _) (by omega) hn).1 hq
    have p := (pP_rg W (ld := ld) (gv := 1 - ld) (r := 0) (n := n) (by omega)).1 hq
    rw [show ((n : Int)).toNat = 64 * 0 + n by omega, b, s0]
    rw [s0] at sr
    omega
  have key : ∀ (d i : Nat), i + d = N + 1 → (∀ n : Nat, n < i → ¬ v ≤ pP R ld (1 - ld) 0 n) → Wp true i_Ba_fewestFor 30 [vr 89, vr f1, vi ld, vi v, vi (N : Int), vi (rVal R ld ld), vi (i : Int)] [] h' Q := by
    intro d
    induction d with
    | zero =>
      intro i e I
      have ea : a = -1 := FW_un F (Or.inl ⟨rfl, fun n hn => I n (by omega)⟩)
      rw [ea] at k
      exact g_Ba_fewestFor_30 h_f1 (fun _ => k) (fun q => by omega) (fun q => by omega) (fun q => by omega) (fun q => by omega) (fun q => by omega)
    | succ d ih =>
      intro i e I
      have u := vv i (by omega)
      rw [s0] at sr
      refine g_Ba_fewestFor_30 h_f1 (fun q => by omega) (fun _ => by omega) (fun _ => by omega) (fun _ _ => by omega) (fun _ q => ?_) (fun _ q => ?_)
      · refine ih (i + 1) (by omega) (fun n hn => ?_)
        by_cases z : n = i
        · subst z; omega
        · exact I n (by omega)
      · have ea : a = (i : Int) := FW_un F (Or.inr ⟨i, rfl, by omega, by omega, I⟩)
        rw [ea] at k
        exact k
  exact key (N + 1) 0 (by omega) (fun n hn => by omega)
/-! ===== GIVE and ASK: the reference ===== -/
theorem hs_back {h : HP} {k i : Nat} {v w : Int} (e : w = h k i) : hs (hs h k i v) k i w = h := by
  subst e
  funext a b
  simp only [hs]
  by_cases q : a = k ∧ b = i
  · rw [if_pos q, q.1, q.2]
  · rw [if_neg q, if_neg q]
theorem c_M_valueIn {Q : PQ} {g R : HP} {ld gv : Int} {r k : Nat} (eR : rmM g 0 = R) (W : WR R) (hl : ld = 0 ∨ ld = 1) (hr : (r : Int) < R 0 1) (hk : (k : Int) ≤ rIn R gv r)
    (kk : Q (some (vi (vG R ld gv r k))) g) : Wp true i_M_valueIn 0 [vr 103, vi ld, vi gv, vi (r : Int), vi (k : Int), vr 9999, vr 9999, vr 9999] [] g Q := by
  have w := W.1
  have dd := mdim eR
  have wr := W.2.1 r hr
  have W0 : WR (rmM g 0) := by rw [eR]; exact W
  have lt : (r : Int) < g 104 1 := by omega
  have old : rmM g 0 1 r = g 104 (8 + r) := by simp [rmM, lt]
  have i8 : (8 + (r : Int)).toNat = 8 + r := by omega
  have e1 : g 104 (8 + r) = R 1 r := by rw [← old, eR]
  have lb : 0 ≤ lnG R gv r k ∧ lnG R gv r k ≤ R 0 0 := by
    unfold rIn at hk
    unfold lnG
    by_cases z : gv = 0
    · rw [if_pos z] at hk ⊢; omega
    · rw [if_neg z] at hk ⊢; omega
  have eR' : rmM (hs g 104 (8 + r) (lnG R gv r k)) 0 = hs R 1 r (lnG R gv r k) := by rw [rM_cut W0 lt, eR]
  have W' : WR (hs R 1 r (lnG R gv r k)) := WR_cut W lb
  have d' := mdim eR'
  have same : ∀ a i, a ≠ 1 → hs R 1 r (lnG R gv r k) a i = R a i := fun a i ha => by rw [hs_ne ha]
  have key : ∀ (d t : Nat), (t : Int) + d = R 0 3 → Wp true i_M_valueIn 37 [vr 103, vi ld, vi gv, vi (r : Int), vi (k : Int), vi (g 104 (8 + r)), vi (sumF (fun t => vT R ld (lnG R gv r k) r t) t 0), vi (t : Int)] [] (hs g 104 (8 + r) (lnG R gv r k)) Q := by
    intro d
    induction d with
    | zero =>
      intro t e
      have q3 : hs R 1 r (lnG R gv r k) 0 3 = R 0 3 := same 0 3 (by decide)
      have fin : Q (some (vi (sumF (fun t => vT R ld (lnG R gv r k) r t) t 0))) (hs (hs g 104 (8 + r) (lnG R gv r k)) 104 (8 + (r : Int)).toNat (g 104 (8 + r))) := by
        rw [i8, hs_back rfl, show t = (R 0 3).toNat by omega]
        exact kk
      exact g_M_valueIn_37 (fun _ => by omega) (fun _ => by omega) (fun _ => fin) (fun q => by omega) (fun q => by omega) (fun q => by omega) (fun q => by omega) (fun q => by omega) (fun q => by omega) (fun q => by omega) (fun q => by omega) (fun q => by omega) (fun q => by omega) (fun q => by omega) (fun q => by omega) (fun q => by omega) (fun q => by omega) (fun q => by omega)
    | succ d ih =>
      intro t e
      have q3 : hs R 1 r (lnG R gv r k) 0 3 = R 0 3 := same 0 3 (by decide)
      have en : ((t : Int)).toNat = t := Int.toNat_natCast _
      have mt := (mth eR' (t := t) (by omega)).2
      rw [same 3 t (by decide)] at mt
      have sr := sumF_rng (f := fun t => vT R ld (lnG R gv r k) r t) (a := 0) (b := 99) t 0 (fun j _ h => by
        have := rWo_b W (ld := ld) (t := j) (by omega)
        unfold vT
        split <;> omega)
      have wo := rWo_b W (ld := ld) (t := t) (by omega)
      have ho : R 3 t = (r : Int) → rHo (rmM (hs g 104 (8 + r) (lnG R gv r k)) 0) t = hoK R (lnG R gv r k) t := by
        intro z
        rw [eR']
        unfold rHo hoK
        rw [same 6 t (by decide), same 2 t (by decide), same 3 t (by decide), z, Int.toNat_natCast, hs_s]
      have wq : rWo (rmM (hs g 104 (8 + r) (lnG R gv r k)) 0) ld t = rWo R ld t := by
        rw [eR']
        unfold rWo
        rw [same 4 t (by decide), same 5 t (by decide)]
      have nx := ih (t + 1) (by omega)
      rw [sumF_last] at nx
      refine g_M_valueIn_37 (fun q => by omega) (fun q => by omega) (fun q => by omega) (fun _ => by omega) (fun _ => by omega) (fun _ => by omega) (fun _ _ => by omega) (fun _ _ => by omega) (fun _ z => ?_) (fun _ _ => by rw [eR']; exact W') (fun _ _ => by omega) (fun _ _ _ => by omega) (fun _ _ _ => by omega) (fun _ z1 z2 => ?_) (fun _ _ _ => hl) (fun _ _ _ => by rw [en, wq]; omega) (fun _ _ _ => by omega) (fun _ z1 z2 => ?_)
      · rw [mt] at z
        rw [show vT R ld (lnG R gv r k) r t = 0 from if_neg (fun y => z y.1)] at nx
        exact nx
      · rw [mt] at z1
        rw [en, ho z1] at z2
        rw [show vT R ld (lnG R gv r k) r t = 0 from if_neg (fun y => z2 y.2)] at nx
        exact nx
      · rw [mt] at z1
        rw [en, ho z1] at z2
        rw [show vT R ld (lnG R gv r k) r t = rWo R ld t from if_pos ⟨z1, z2⟩] at nx
        rw [en, wq]
        exact nx
  have st := key (R 0 3).toNat 0 (by omega)
  have rb := rIn_b W (gv := gv) hr
  refine g_M_valueIn_0 W0 (by omega) (by omega) (by omega) (fun _ => by rw [i8, e1]; omega) (fun z => ?_) (fun _ => by omega) (fun _ => by rw [i8, e1]; omega) (fun z => ?_)
  · rw [i8, show ((r : Int)).toNat = r from Int.toNat_natCast _, old, show g 104 (8 + r) + (k : Int) = lnG R gv r k by unfold lnG; rw [if_neg z, e1]]
    exact st
  · rw [i8, show ((r : Int)).toNat = r from Int.toNat_natCast _, old, show g 104 (8 + r) + -(k : Int) = lnG R gv r k by unfold lnG; rw [if_pos z, e1]]
    exact st
