theorem g_Is_join_0 {Q : PQ} {h : HP} {x1 : Int} {x2 : Int} {x3 : Int} 
    (o1 : 0 ≤ x1 ∧ x1 < 63)
    (o2 : 0 ≤ h 82 6 ∧ h 82 6 < 63)
    (o3 : -2147483648 ≤ (h 82 6) + 1 ∧ (h 82 6) + 1 ≤ 2147483647)
    (k4 : Q none (hs (hs (hs (hs h 84 x1.toNat x2) 88 x1.toNat x3) 87 (h 82 6).toNat x1) 82 6 ((h 82 6) + 1))) :
    Wp true i_Is_join 0 [vr 82, vi x1, vi x2, vi x3] [] h Q := by
  refine r_aload_n (v := 82) f_77_0 rfl (by decide) ?_
  refine r_getr (q := 84) f_77_1 rfl (by decide) (Or.inl rfl) rfl ?_
  refine r_iload_n (v := x1) f_77_4 rfl ?_
  refine r_iload_n (v := x2) f_77_5 rfl ?_
  refine r_iastore (n := 63) f_77_6 ⟨rfl, rfl⟩ o1 ?_
  refine r_aload_n (v := 82) f_77_7 rfl (by decide) ?_
  refine r_getr (q := 88) f_77_8 rfl (by decide) (Or.inl rfl) rfl ?_
  refine r_iload_n (v := x1) f_77_11 rfl ?_
  refine r_iload_n (v := x3) f_77_12 rfl ?_
  refine r_iastore (n := 63) f_77_13 ⟨rfl, rfl⟩ o1 ?_
  refine r_aload_n (v := 82) f_77_14 rfl (by decide) ?_
  refine r_getr (q := 87) f_77_15 rfl (by decide) (Or.inl rfl) rfl ?_
  refine r_aload_n (v := 82) f_77_18 rfl (by decide) ?_
  refine r_geti (v := h 82 6) f_77_19 rfl (by decide) (by simp [hs]) ?_
  refine r_iload_n (v := x1) f_77_22 rfl ?_
  refine r_iastore (n := 63) f_77_23 ⟨rfl, rfl⟩ o2 ?_
  refine r_aload_n (v := 82) f_77_24 rfl (by decide) ?_
  refine r_dupr f_77_25 ?_
  refine r_geti (v := h 82 6) f_77_26 rfl (by decide) (by simp [hs]) ?_
  refine r_iconst f_77_29 (by decide) ?_
  refine r_iadd (u := (h 82 6) + 1) f_77_30 rfl o3 ?_
  refine r_puti f_77_31 rfl (by decide) ?_
  exact r_retv f_77_34 rfl k4

theorem c_Is_join {Q : PQ} {h : HP} {x1 : Int} {x2 : Int} {x3 : Int} (o1 : 0 ≤ x1 ∧ x1 < 63) (o2 : 0 ≤ h 82 6 ∧ h 82 6 < 63) (k : Q (none) (hs (hs (hs (hs h 84 x1.toNat x2) 88 x1.toNat x3) 87 (h 82 6).toNat x1) 82 6 ((h 82 6) + 1))) :
    Wp true i_Is_join 0 [vr 82, vi x1, vi x2, vi x3] [] h Q := by
  refine g_Is_join_0 ?_ ?_ ?_ ?_
  · intros; first | omega | exact ⟨by omega, by omega⟩
  · intros; first | omega | exact ⟨by omega, by omega⟩
  · intros; first | omega | exact ⟨by omega, by omega⟩
  · intros; exact k

theorem g_Is_spreadIsles_0 {Q : PQ} {h : HP} {x2 : Int} {f1 : Nat} (h_f1 : isF f1)
    (k1 : Wp true i_Is_spreadIsles 7 [vr 82, vr f1, vi x2, vi 0, vr 9999, vr 9999] [] (hs h 82 6 0) Q) :
    Wp true i_Is_spreadIsles 0 [vr 82, vr f1, vi x2, vr 9999, vr 9999, vr 9999] [] h Q := by
  refine r_aload_n (v := 82) f_76_0 rfl (by decide) ?_
  refine r_iconst f_76_1 (by decide) ?_
  refine r_puti f_76_2 rfl (by decide) ?_
  refine r_iconst f_76_5 (by decide) ?_
  refine r_istore_n (ls' := [vr 82, vr f1, vi x2, vi 0, vr 9999, vr 9999]) f_76_6 (Nat.le_of_ble_eq_true rfl) rfl ?_
  exact k1

theorem g_Is_spreadIsles_7 {Q : PQ} {h : HP} {x2 : Int} {x3 : Int} {j4 : AV} {j5 : AV} {f1 : Nat} (h_f1 : isF f1)
    (k1 : h f1 1 ≤ x3 → Wp true i_Is_spreadIsles 85 [vr 82, vr f1, vi x2, vi 0, j4, j5] [] h Q)
    (k2 : ¬ h f1 1 ≤ x3 → Wp true i_Is_spreadIsles 18 [vr 82, vr f1, vi x2, vi x3, vi 0, j5] [] h Q) :
    Wp true i_Is_spreadIsles 7 [vr 82, vr f1, vi x2, vi x3, j4, j5] [] h Q := by
  refine r_iload_n (v := x3) f_76_7 rfl ?_
  refine r_aload_n (v := f1) f_76_8 rfl (F_n h_f1) ?_
  refine r_geti (v := h f1 1) f_76_9 (F_k h_f1) (by decide) rfl ?_
  refine r_br2 (t := 83) f_76_12 rfl cb_ge (fun c1 => ?_) (fun c1 => ?_)
  · refine r_iconst f_76_83 (by decide) ?_
    refine r_istore_n (ls' := [vr 82, vr f1, vi x2, vi 0, j4, j5]) f_76_84 (Nat.le_of_ble_eq_true rfl) rfl ?_
    exact (k1 c1)
  · refine r_iconst f_76_15 (by decide) ?_
    refine r_istore (ls' := [vr 82, vr f1, vi x2, vi x3, vi 0, j5]) f_76_16 (Nat.le_of_ble_eq_true rfl) rfl ?_
    exact (k2 c1)

theorem g_Is_spreadIsles_18 {Q : PQ} {h : HP} {x2 : Int} {x3 : Int} {x4 : Int} {j5 : AV} {f1 : Nat} (h_f1 : isF f1)
    (o1 : h f1 0 ≤ x4 → -2147483648 ≤ x3 + 1 ∧ x3 + 1 ≤ 2147483647)
    (k2 : h f1 0 ≤ x4 → Wp true i_Is_spreadIsles 7 [vr 82, vr f1, vi x2, vi (x3 + 1), vi x4, j5] [] h Q)
    (o3 : ¬ h f1 0 ≤ x4 → 0 ≤ x4 ∧ x4 < 100)
    (o4 : ¬ h f1 0 ≤ x4 → 0 ≤ x3 ∧ x3 < 100)
    (o5 : ¬ h f1 0 ≤ x4 → 0 ≤ x3 * 9 + x4 ∧ x3 * 9 + x4 < 63)
    (o6 : ¬ h f1 0 ≤ x4 → ¬ h 83 (x3 * 9 + x4).toNat = x2 → -2147483648 ≤ x4 + 1 ∧ x4 + 1 ≤ 2147483647)
    (k7 : ¬ h f1 0 ≤ x4 → ¬ h 83 (x3 * 9 + x4).toNat = x2 → Wp true i_Is_spreadIsles 18 [vr 82, vr f1, vi x2, vi x3, vi (x4 + 1), vi (x3 * 9 + x4)] [] (hs h 84 (x3 * 9 + x4).toNat (-1)) Q)
    (o8 : ¬ h f1 0 ≤ x4 → h 83 (x3 * 9 + x4).toNat = x2 → 0 ≤ (x3 * 9 + x4) ∧ (x3 * 9 + x4) < 63)
    (o9 : ¬ h f1 0 ≤ x4 → h 83 (x3 * 9 + x4).toNat = x2 → 0 ≤ h 82 6 ∧ h 82 6 < 63)
    (o10 : ¬ h f1 0 ≤ x4 → h 83 (x3 * 9 + x4).toNat = x2 → -2147483648 ≤ x4 + 1 ∧ x4 + 1 ≤ 2147483647)
    (k11 : ¬ h f1 0 ≤ x4 → h 83 (x3 * 9 + x4).toNat = x2 → Wp true i_Is_spreadIsles 18 [vr 82, vr f1, vi x2, vi x3, vi (x4 + 1), vi (x3 * 9 + x4)] [] (hs (hs (hs (hs h 84 (x3 * 9 + x4).toNat (h 84 (x3 * 9 + x4).toNat)) 88 (x3 * 9 + x4).toNat 0) 87 (h 82 6).toNat (x3 * 9 + x4)) 82 6 ((h 82 6) + 1)) Q) :
    Wp true i_Is_spreadIsles 18 [vr 82, vr f1, vi x2, vi x3, vi x4, j5] [] h Q := by
  refine r_iload (v := x4) f_76_18 rfl ?_
  refine r_aload_n (v := f1) f_76_20 rfl (F_n h_f1) ?_
  refine r_geti (v := h f1 0) f_76_21 (F_k h_f1) (by decide) rfl ?_
  refine r_br2 (t := 77) f_76_24 rfl cb_ge (fun c1 => ?_) (fun c1 => ?_)
  · refine r_iinc (v := x3) (w := x3 + 1) (ls' := [vr 82, vr f1, vi x2, vi (x3 + 1), vi x4, j5]) f_76_77 rfl rfl (o1 c1) rfl ?_
    refine r_goto (t := 7) f_76_80 rfl ?_
    exact (k2 c1)
  · refine r_iload (v := x4) f_76_27 rfl ?_
    refine r_iload_n (v := x3) f_76_29 rfl ?_
    refine r_calls (as := [vi x4, vi x3]) (st' := []) (ls0 := [vi x4, vi x3]) f_76_30 (by decide) (by decide) rfl rfl (Nat.le_of_ble_eq_true rfl) (Nat.le_of_ble_eq_true rfl) rfl ?_
    refine c_C_boardNumber (o3 c1) (o4 c1) ?_
    show Wp true i_Is_spreadIsles 33 [vr 82, vr f1, vi x2, vi x3, vi x4, j5] [vi (x3 * 9 + x4)] h Q
    refine r_istore (ls' := [vr 82, vr f1, vi x2, vi x3, vi x4, vi (x3 * 9 + x4)]) f_76_33 (Nat.le_of_ble_eq_true rfl) rfl ?_
    refine r_aload_n (v := 82) f_76_35 rfl (by decide) ?_
    refine r_getr (q := 83) f_76_36 rfl (by decide) (Or.inl rfl) rfl ?_
    refine r_iload (v := x3 * 9 + x4) f_76_39 rfl ?_
    refine r_iaload (n := 63) (v := h 83 (x3 * 9 + x4).toNat) f_76_41 ⟨rfl, rfl⟩ (o5 c1) rfl ?_
    refine r_iload_n (v := x2) f_76_42 rfl ?_
    refine r_br2 (t := 63) f_76_43 rfl cb_ne (fun c2 => ?_) (fun c2 => ?_)
    · refine r_aload_n (v := 82) f_76_63 rfl (by decide) ?_
      refine r_getr (q := 84) f_76_64 rfl (by decide) (Or.inl rfl) rfl ?_
      refine r_iload (v := x3 * 9 + x4) f_76_67 rfl ?_
      refine r_iconst f_76_69 (by decide) ?_
      refine r_iastore (n := 63) f_76_70 ⟨rfl, rfl⟩ (o5 c1) ?_
      refine r_iinc (v := x4) (w := x4 + 1) (ls' := [vr 82, vr f1, vi x2, vi x3, vi (x4 + 1), vi (x3 * 9 + x4)]) f_76_71 rfl rfl (o6 c1 c2) rfl ?_
      refine r_goto (t := 18) f_76_74 rfl ?_
      exact (k7 c1 c2)
    · have c2 := Decidable.not_not.mp c2
      refine r_aload_n (v := 82) f_76_46 rfl (by decide) ?_
      refine r_iload (v := x3 * 9 + x4) f_76_47 rfl ?_
      refine r_aload_n (v := 82) f_76_49 rfl (by decide) ?_
      refine r_getr (q := 84) f_76_50 rfl (by decide) (Or.inl rfl) rfl ?_
      refine r_iload (v := x3 * 9 + x4) f_76_53 rfl ?_
      refine r_iaload (n := 63) (v := h 84 (x3 * 9 + x4).toNat) f_76_55 ⟨rfl, rfl⟩ (o5 c1) rfl ?_
      refine r_iconst f_76_56 (by decide) ?_
      refine r_callv (as := [vr 82, vi (x3 * 9 + x4), vi (h 84 (x3 * 9 + x4).toNat), vi 0]) (st' := []) (ls0 := [vr 82, vi (x3 * 9 + x4), vi (h 84 (x3 * 9 + x4).toNat), vi 0]) f_76_57 (by decide) rfl rfl (Nat.le_of_ble_eq_true rfl) (Nat.le_of_ble_eq_true rfl) ⟨_, _, rfl, rfl⟩ rfl ?_
      refine c_Is_join (o8 c1 c2) (o9 c1 c2) ?_
      show Wp true i_Is_spreadIsles 60 [vr 82, vr f1, vi x2, vi x3, vi x4, vi (x3 * 9 + x4)] [] (hs (hs (hs (hs h 84 (x3 * 9 + x4).toNat (h 84 (x3 * 9 + x4).toNat)) 88 (x3 * 9 + x4).toNat 0) 87 (h 82 6).toNat (x3 * 9 + x4)) 82 6 ((h 82 6) + 1)) Q
      refine r_goto (t := 71) f_76_60 rfl ?_
      refine r_iinc (v := x4) (w := x4 + 1) (ls' := [vr 82, vr f1, vi x2, vi x3, vi (x4 + 1), vi (x3 * 9 + x4)]) f_76_71 rfl rfl (o10 c1 c2) rfl ?_
      refine r_goto (t := 18) f_76_74 rfl ?_
      exact (k11 c1 c2)

theorem g_Is_spreadIsles_85 {Q : PQ} {h : HP} {x2 : Int} {x3 : Int} {j4 : AV} {j5 : AV} {f1 : Nat} (h_f1 : isF f1)
    (k1 : h 82 6 ≤ x3 → Q none h)
    (k2 : ¬ h 82 6 ≤ x3 → Wp true i_Is_spreadIsles 96 [vr 82, vr f1, vi x2, vi x3, vi 0, j5] [] h Q) :
    Wp true i_Is_spreadIsles 85 [vr 82, vr f1, vi x2, vi x3, j4, j5] [] h Q := by
  refine r_iload_n (v := x3) f_76_85 rfl ?_
  refine r_aload_n (v := 82) f_76_86 rfl (by decide) ?_
  refine r_geti (v := h 82 6) f_76_87 rfl (by decide) rfl ?_
  refine r_br2 (t := 173) f_76_90 rfl cb_ge (fun c1 => ?_) (fun c1 => ?_)
  · exact r_retv f_76_173 rfl (k1 c1)
  · refine r_iconst f_76_93 (by decide) ?_
    refine r_istore (ls' := [vr 82, vr f1, vi x2, vi x3, vi 0, j5]) f_76_94 (Nat.le_of_ble_eq_true rfl) rfl ?_
    exact (k2 c1)

theorem g_Is_spreadIsles_96 {Q : PQ} {h : HP} {x2 : Int} {x3 : Int} {x4 : Int} {j5 : AV} {f1 : Nat} (h_f1 : isF f1)
    (o1 : 4 ≤ x4 → -2147483648 ≤ x3 + 1 ∧ x3 + 1 ≤ 2147483647)
    (k2 : 4 ≤ x4 → Wp true i_Is_spreadIsles 85 [vr 82, vr f1, vi x2, vi (x3 + 1), vi x4, j5] [] h Q)
    (o3 : ¬ 4 ≤ x4 → 0 ≤ x3 ∧ x3 < 63)
    (o4 : ¬ 4 ≤ x4 → 0 ≤ (h 87 x3.toNat) ∧ (h 87 x3.toNat) < 63)
    (o5 : ¬ 4 ≤ x4 → 0 ≤ x4 ∧ x4 < 4)
    (o6 : ¬ 4 ≤ x4 → bs (rmC h f1) (h 87 x3.toNat) x4 < 0 → -2147483648 ≤ x4 + 1 ∧ x4 + 1 ≤ 2147483647)
    (k7 : ¬ 4 ≤ x4 → bs (rmC h f1) (h 87 x3.toNat) x4 < 0 → Wp true i_Is_spreadIsles 96 [vr 82, vr f1, vi x2, vi x3, vi (x4 + 1), vi (bs (rmC h f1) (h 87 x3.toNat) x4)] [] h Q)
    (o8 : ¬ 4 ≤ x4 → ¬ bs (rmC h f1) (h 87 x3.toNat) x4 < 0 → 0 ≤ bs (rmC h f1) (h 87 x3.toNat) x4 ∧ bs (rmC h f1) (h 87 x3.toNat) x4 < 63)
    (o9 : ¬ 4 ≤ x4 → ¬ bs (rmC h f1) (h 87 x3.toNat) x4 < 0 → 0 ≤ h 84 (bs (rmC h f1) (h 87 x3.toNat) x4).toNat → -2147483648 ≤ x4 + 1 ∧ x4 + 1 ≤ 2147483647)
    (k10 : ¬ 4 ≤ x4 → ¬ bs (rmC h f1) (h 87 x3.toNat) x4 < 0 → 0 ≤ h 84 (bs (rmC h f1) (h 87 x3.toNat) x4).toNat → Wp true i_Is_spreadIsles 96 [vr 82, vr f1, vi x2, vi x3, vi (x4 + 1), vi (bs (rmC h f1) (h 87 x3.toNat) x4)] [] h Q)
    (o11 : ¬ 4 ≤ x4 → ¬ bs (rmC h f1) (h 87 x3.toNat) x4 < 0 → ¬ 0 ≤ h 84 (bs (rmC h f1) (h 87 x3.toNat) x4).toNat → 0 ≤ h 87 x3.toNat ∧ h 87 x3.toNat < 63)
    (o12 : ¬ 4 ≤ x4 → ¬ bs (rmC h f1) (h 87 x3.toNat) x4 < 0 → ¬ 0 ≤ h 84 (bs (rmC h f1) (h 87 x3.toNat) x4).toNat → -2147483648 ≤ (h 88 (h 87 x3.toNat).toNat) + 1 ∧ (h 88 (h 87 x3.toNat).toNat) + 1 ≤ 2147483647)
    (o13 : ¬ 4 ≤ x4 → ¬ bs (rmC h f1) (h 87 x3.toNat) x4 < 0 → ¬ 0 ≤ h 84 (bs (rmC h f1) (h 87 x3.toNat) x4).toNat → 0 ≤ (bs (rmC h f1) (h 87 x3.toNat) x4) ∧ (bs (rmC h f1) (h 87 x3.toNat) x4) < 63)
    (o14 : ¬ 4 ≤ x4 → ¬ bs (rmC h f1) (h 87 x3.toNat) x4 < 0 → ¬ 0 ≤ h 84 (bs (rmC h f1) (h 87 x3.toNat) x4).toNat → 0 ≤ h 82 6 ∧ h 82 6 < 63)
    (o15 : ¬ 4 ≤ x4 → ¬ bs (rmC h f1) (h 87 x3.toNat) x4 < 0 → ¬ 0 ≤ h 84 (bs (rmC h f1) (h 87 x3.toNat) x4).toNat → -2147483648 ≤ x4 + 1 ∧ x4 + 1 ≤ 2147483647)
    (k16 : ¬ 4 ≤ x4 → ¬ bs (rmC h f1) (h 87 x3.toNat) x4 < 0 → ¬ 0 ≤ h 84 (bs (rmC h f1) (h 87 x3.toNat) x4).toNat → Wp true i_Is_spreadIsles 96 [vr 82, vr f1, vi x2, vi x3, vi (x4 + 1), vi (bs (rmC h f1) (h 87 x3.toNat) x4)] [] (hs (hs (hs (hs h 84 (bs (rmC h f1) (h 87 x3.toNat) x4).toNat (h 84 (h 87 x3.toNat).toNat)) 88 (bs (rmC h f1) (h 87 x3.toNat) x4).toNat ((h 88 (h 87 x3.toNat).toNat) + 1)) 87 (h 82 6).toNat (bs (rmC h f1) (h 87 x3.toNat) x4)) 82 6 ((h 82 6) + 1)) Q) :
    Wp true i_Is_spreadIsles 96 [vr 82, vr f1, vi x2, vi x3, vi x4, j5] [] h Q := by
  refine r_iload (v := x4) f_76_96 rfl ?_
  refine r_iconst f_76_98 (by decide) ?_
  refine r_br2 (t := 167) f_76_99 rfl cb_ge (fun c1 => ?_) (fun c1 => ?_)
  · refine r_iinc (v := x3) (w := x3 + 1) (ls' := [vr 82, vr f1, vi x2, vi (x3 + 1), vi x4, j5]) f_76_167 rfl rfl (o1 c1) rfl ?_
    refine r_goto (t := 85) f_76_170 rfl ?_
    exact (k2 c1)
  · refine r_aload_n (v := f1) f_76_102 rfl (F_n h_f1) ?_
    refine r_aload_n (v := 82) f_76_103 rfl (by decide) ?_
    refine r_getr (q := 87) f_76_104 rfl (by decide) (Or.inl rfl) rfl ?_
    refine r_iload_n (v := x3) f_76_107 rfl ?_
    refine r_iaload (n := 63) (v := h 87 x3.toNat) f_76_108 ⟨rfl, rfl⟩ (o3 c1) rfl ?_
    refine r_iload (v := x4) f_76_109 rfl ?_
    refine r_calls (as := [vr f1, vi (h 87 x3.toNat), vi x4]) (st' := []) (ls0 := [vr f1, vi (h 87 x3.toNat), vi x4, vr 9999, vr 9999]) f_76_111 (by decide) (by decide) rfl rfl (Nat.le_of_ble_eq_true rfl) (Nat.le_of_ble_eq_true rfl) rfl ?_
    refine c_Is_beside h_f1 (o4 c1) (o5 c1) ?_
    show Wp true i_Is_spreadIsles 114 [vr 82, vr f1, vi x2, vi x3, vi x4, j5] [vi (bs (rmC h f1) (h 87 x3.toNat) x4)] h Q
    refine r_istore (ls' := [vr 82, vr f1, vi x2, vi x3, vi x4, vi (bs (rmC h f1) (h 87 x3.toNat) x4)]) f_76_114 (Nat.le_of_ble_eq_true rfl) rfl ?_
    refine r_iload (v := bs (rmC h f1) (h 87 x3.toNat) x4) f_76_116 rfl ?_
    refine r_br (t := 161) f_76_118 rfl cb_lt (fun c2 => ?_) (fun c2 => ?_)
    · refine r_iinc (v := x4) (w := x4 + 1) (ls' := [vr 82, vr f1, vi x2, vi x3, vi (x4 + 1), vi (bs (rmC h f1) (h 87 x3.toNat) x4)]) f_76_161 rfl rfl (o6 c1 c2) rfl ?_
      refine r_goto (t := 96) f_76_164 rfl ?_
      exact (k7 c1 c2)
    · refine r_aload_n (v := 82) f_76_121 rfl (by decide) ?_
      refine r_getr (q := 84) f_76_122 rfl (by decide) (Or.inl rfl) rfl ?_
      refine r_iload (v := bs (rmC h f1) (h 87 x3.toNat) x4) f_76_125 rfl ?_
      refine r_iaload (n := 63) (v := h 84 (bs (rmC h f1) (h 87 x3.toNat) x4).toNat) f_76_127 ⟨rfl, rfl⟩ (o8 c1 c2) rfl ?_
      refine r_br (t := 161) f_76_128 rfl cb_ge (fun c3 => ?_) (fun c3 => ?_)
      · refine r_iinc (v := x4) (w := x4 + 1) (ls' := [vr 82, vr f1, vi x2, vi x3, vi (x4 + 1), vi (bs (rmC h f1) (h 87 x3.toNat) x4)]) f_76_161 rfl rfl (o9 c1 c2 c3) rfl ?_
        refine r_goto (t := 96) f_76_164 rfl ?_
        exact (k10 c1 c2 c3)
      · refine r_aload_n (v := 82) f_76_131 rfl (by decide) ?_
        refine r_iload (v := bs (rmC h f1) (h 87 x3.toNat) x4) f_76_132 rfl ?_
        refine r_aload_n (v := 82) f_76_134 rfl (by decide) ?_
        refine r_getr (q := 84) f_76_135 rfl (by decide) (Or.inl rfl) rfl ?_
        refine r_aload_n (v := 82) f_76_138 rfl (by decide) ?_
        refine r_getr (q := 87) f_76_139 rfl (by decide) (Or.inl rfl) rfl ?_
        refine r_iload_n (v := x3) f_76_142 rfl ?_
        refine r_iaload (n := 63) (v := h 87 x3.toNat) f_76_143 ⟨rfl, rfl⟩ (o3 c1) rfl ?_
        refine r_iaload (n := 63) (v := h 84 (h 87 x3.toNat).toNat) f_76_144 ⟨rfl, rfl⟩ (o11 c1 c2 c3) rfl ?_
        refine r_aload_n (v := 82) f_76_145 rfl (by decide) ?_
        refine r_getr (q := 88) f_76_146 rfl (by decide) (Or.inl rfl) rfl ?_
        refine r_aload_n (v := 82) f_76_149 rfl (by decide) ?_
        refine r_getr (q := 87) f_76_150 rfl (by decide) (Or.inl rfl) rfl ?_
        refine r_iload_n (v := x3) f_76_153 rfl ?_
        refine r_iaload (n := 63) (v := h 87 x3.toNat) f_76_154 ⟨rfl, rfl⟩ (o3 c1) rfl ?_
        refine r_iaload (n := 63) (v := h 88 (h 87 x3.toNat).toNat) f_76_155 ⟨rfl, rfl⟩ (o11 c1 c2 c3) rfl ?_
        refine r_iconst f_76_156 (by decide) ?_
        refine r_iadd (u := (h 88 (h 87 x3.toNat).toNat) + 1) f_76_157 rfl (o12 c1 c2 c3) ?_
        refine r_callv (as := [vr 82, vi (bs (rmC h f1) (h 87 x3.toNat) x4), vi (h 84 (h 87 x3.toNat).toNat), vi ((h 88 (h 87 x3.toNat).toNat) + 1)]) (st' := []) (ls0 := [vr 82, vi (bs (rmC h f1) (h 87 x3.toNat) x4), vi (h 84 (h 87 x3.toNat).toNat), vi ((h 88 (h 87 x3.toNat).toNat) + 1)]) f_76_158 (by decide) rfl rfl (Nat.le_of_ble_eq_true rfl) (Nat.le_of_ble_eq_true rfl) ⟨_, _, rfl, rfl⟩ rfl ?_
        refine c_Is_join (o13 c1 c2 c3) (o14 c1 c2 c3) ?_
        show Wp true i_Is_spreadIsles 161 [vr 82, vr f1, vi x2, vi x3, vi x4, vi (bs (rmC h f1) (h 87 x3.toNat) x4)] [] (hs (hs (hs (hs h 84 (bs (rmC h f1) (h 87 x3.toNat) x4).toNat (h 84 (h 87 x3.toNat).toNat)) 88 (bs (rmC h f1) (h 87 x3.toNat) x4).toNat ((h 88 (h 87 x3.toNat).toNat) + 1)) 87 (h 82 6).toNat (bs (rmC h f1) (h 87 x3.toNat) x4)) 82 6 ((h 82 6) + 1)) Q
        refine r_iinc (v := x4) (w := x4 + 1) (ls' := [vr 82, vr f1, vi x2, vi x3, vi (x4 + 1), vi (bs (rmC h f1) (h 87 x3.toNat) x4)]) f_76_161 rfl rfl (o15 c1 c2 c3) rfl ?_
        refine r_goto (t := 96) f_76_164 rfl ?_
        exact (k16 c1 c2 c3)

theorem g_Is_narrowest_0 {Q : PQ} {h : HP} {x2 : Int} {f1 : Nat} (h_f1 : isF f1)
    (k1 : Wp true i_Is_spreadIsles 0 [vr 82, vr f1, vi x2, vr 9999, vr 9999, vr 9999] [] h (fun r h' => Wp true i_Is_narrowest 6 [vr 82, vr f1, vi x2, vr 9999, vr 9999, vr 9999, vr 9999, vr 9999] (r.toList ++ []) h' Q)) :
    Wp true i_Is_narrowest 0 [vr 82, vr f1, vi x2, vr 9999, vr 9999, vr 9999, vr 9999, vr 9999] [] h Q := by
  refine r_aload_n (v := 82) f_75_0 rfl (by decide) ?_
  refine r_aload_n (v := f1) f_75_1 rfl (F_n h_f1) ?_
  refine r_iload_n (v := x2) f_75_2 rfl ?_
  exact r_callv (as := [vr 82, vr f1, vi x2]) (st' := []) (ls0 := [vr 82, vr f1, vi x2, vr 9999, vr 9999, vr 9999]) f_75_3 (by decide) rfl rfl (Nat.le_of_ble_eq_true rfl) (Nat.le_of_ble_eq_true rfl) ⟨_, _, rfl, rfl⟩ rfl k1

theorem g_Is_narrowest_6 {Q : PQ} {h : HP} {x2 : Int} {f1 : Nat} (h_f1 : isF f1)
    (k1 : Wp true i_Is_narrowest 12 [vr 82, vr f1, vi x2, vi 63, vi 0, vr 9999, vr 9999, vr 9999] [] h Q) :
    Wp true i_Is_narrowest 6 [vr 82, vr f1, vi x2, vr 9999, vr 9999, vr 9999, vr 9999, vr 9999] [] h Q := by
  refine r_bipush f_75_6 (by decide) ?_
  refine r_istore_n (ls' := [vr 82, vr f1, vi x2, vi 63, vr 9999, vr 9999, vr 9999, vr 9999]) f_75_8 (Nat.le_of_ble_eq_true rfl) rfl ?_
  refine r_iconst f_75_9 (by decide) ?_
  refine r_istore (ls' := [vr 82, vr f1, vi x2, vi 63, vi 0, vr 9999, vr 9999, vr 9999]) f_75_10 (Nat.le_of_ble_eq_true rfl) rfl ?_
  exact k1

theorem g_Is_narrowest_12 {Q : PQ} {h : HP} {x2 : Int} {x3 : Int} {x4 : Int} {j5 : AV} {j6 : AV} {j7 : AV} {f1 : Nat} (h_f1 : isF f1)
    (k1 : h 82 6 ≤ x4 → Q (some (vi x3)) h)
    (o2 : ¬ h 82 6 ≤ x4 → 0 ≤ x4 ∧ x4 < 63)
    (k3 : ¬ h 82 6 ≤ x4 → Wp true i_Is_narrowest 33 [vr 82, vr f1, vi x2, vi x3, vi x4, vi (h 87 x4.toNat), vi 0, j7] [] h Q) :
    Wp true i_Is_narrowest 12 [vr 82, vr f1, vi x2, vi x3, vi x4, j5, j6, j7] [] h Q := by
  refine r_iload (v := x4) f_75_12 rfl ?_
  refine r_aload_n (v := 82) f_75_14 rfl (by decide) ?_
  refine r_geti (v := h 82 6) f_75_15 rfl (by decide) rfl ?_
  refine r_br2 (t := 103) f_75_18 rfl cb_ge (fun c1 => ?_) (fun c1 => ?_)
  · refine r_iload_n (v := x3) f_75_103 rfl ?_
    exact r_reti f_75_104 rfl (k1 c1)
  · refine r_aload_n (v := 82) f_75_21 rfl (by decide) ?_
    refine r_getr (q := 87) f_75_22 rfl (by decide) (Or.inl rfl) rfl ?_
    refine r_iload (v := x4) f_75_25 rfl ?_
    refine r_iaload (n := 63) (v := h 87 x4.toNat) f_75_27 ⟨rfl, rfl⟩ (o2 c1) rfl ?_
    refine r_istore (ls' := [vr 82, vr f1, vi x2, vi x3, vi x4, vi (h 87 x4.toNat), j6, j7]) f_75_28 (Nat.le_of_ble_eq_true rfl) rfl ?_
    refine r_iconst f_75_30 (by decide) ?_
    refine r_istore (ls' := [vr 82, vr f1, vi x2, vi x3, vi x4, vi (h 87 x4.toNat), vi 0, j7]) f_75_31 (Nat.le_of_ble_eq_true rfl) rfl ?_
    exact (k3 c1)

theorem g_Is_narrowest_33 {Q : PQ} {h : HP} {x2 : Int} {x3 : Int} {x4 : Int} {x5 : Int} {x6 : Int} {j7 : AV} {f1 : Nat} (h_f1 : isF f1)
    (o1 : 2 ≤ x6 → -2147483648 ≤ x4 + 1 ∧ x4 + 1 ≤ 2147483647)
    (k2 : 2 ≤ x6 → Wp true i_Is_narrowest 12 [vr 82, vr f1, vi x2, vi x3, vi (x4 + 1), vi x5, vi x6, j7] [] h Q)
    (o3 : ¬ 2 ≤ x6 → 0 ≤ x5 ∧ x5 < 63)
    (o4 : ¬ 2 ≤ x6 → 0 ≤ x6 ∧ x6 < 4)
    (o5 : ¬ 2 ≤ x6 → bs (rmC h f1) x5 x6 < 0 → -2147483648 ≤ x6 + 1 ∧ x6 + 1 ≤ 2147483647)
    (k6 : ¬ 2 ≤ x6 → bs (rmC h f1) x5 x6 < 0 → Wp true i_Is_narrowest 33 [vr 82, vr f1, vi x2, vi x3, vi x4, vi x5, vi (x6 + 1), vi (bs (rmC h f1) x5 x6)] [] h Q)
    (o7 : ¬ 2 ≤ x6 → ¬ bs (rmC h f1) x5 x6 < 0 → 0 ≤ bs (rmC h f1) x5 x6 ∧ bs (rmC h f1) x5 x6 < 63)
    (o8 : ¬ 2 ≤ x6 → ¬ bs (rmC h f1) x5 x6 < 0 → h 84 (bs (rmC h f1) x5 x6).toNat = h 84 x5.toNat → -2147483648 ≤ x6 + 1 ∧ x6 + 1 ≤ 2147483647)
    (k9 : ¬ 2 ≤ x6 → ¬ bs (rmC h f1) x5 x6 < 0 → h 84 (bs (rmC h f1) x5 x6).toNat = h 84 x5.toNat → Wp true i_Is_narrowest 33 [vr 82, vr f1, vi x2, vi x3, vi x4, vi x5, vi (x6 + 1), vi (bs (rmC h f1) x5 x6)] [] h Q)
    (o10 : ¬ 2 ≤ x6 → ¬ bs (rmC h f1) x5 x6 < 0 → ¬ h 84 (bs (rmC h f1) x5 x6).toNat = h 84 x5.toNat → -2147483648 ≤ (h 88 x5.toNat) + (h 88 (bs (rmC h f1) x5 x6).toNat) ∧ (h 88 x5.toNat) + (h 88 (bs (rmC h f1) x5 x6).toNat) ≤ 2147483647)
    (o11 : ¬ 2 ≤ x6 → ¬ bs (rmC h f1) x5 x6 < 0 → ¬ h 84 (bs (rmC h f1) x5 x6).toNat = h 84 x5.toNat → -2147483648 ≤ x6 + 1 ∧ x6 + 1 ≤ 2147483647)
    (k12 : ¬ 2 ≤ x6 → ¬ bs (rmC h f1) x5 x6 < 0 → ¬ h 84 (bs (rmC h f1) x5 x6).toNat = h 84 x5.toNat → Wp true i_Is_narrowest 33 [vr 82, vr f1, vi x2, vi (min x3 ((h 88 x5.toNat) + (h 88 (bs (rmC h f1) x5 x6).toNat))), vi x4, vi x5, vi (x6 + 1), vi (bs (rmC h f1) x5 x6)] [] h Q) :
    Wp true i_Is_narrowest 33 [vr 82, vr f1, vi x2, vi x3, vi x4, vi x5, vi x6, j7] [] h Q := by
  refine r_iload (v := x6) f_75_33 rfl ?_
  refine r_iconst f_75_35 (by decide) ?_
  refine r_br2 (t := 97) f_75_36 rfl cb_ge (fun c1 => ?_) (fun c1 => ?_)
  · refine r_iinc (v := x4) (w := x4 + 1) (ls' := [vr 82, vr f1, vi x2, vi x3, vi (x4 + 1), vi x5, vi x6, j7]) f_75_97 rfl rfl (o1 c1) rfl ?_
    refine r_goto (t := 12) f_75_100 rfl ?_
    exact (k2 c1)
  · refine r_aload_n (v := f1) f_75_39 rfl (F_n h_f1) ?_
    refine r_iload (v := x5) f_75_40 rfl ?_
    refine r_iload (v := x6) f_75_42 rfl ?_
    refine r_calls (as := [vr f1, vi x5, vi x6]) (st' := []) (ls0 := [vr f1, vi x5, vi x6, vr 9999, vr 9999]) f_75_44 (by decide) (by decide) rfl rfl (Nat.le_of_ble_eq_true rfl) (Nat.le_of_ble_eq_true rfl) rfl ?_
    refine c_Is_beside h_f1 (o3 c1) (o4 c1) ?_
    show Wp true i_Is_narrowest 47 [vr 82, vr f1, vi x2, vi x3, vi x4, vi x5, vi x6, j7] [vi (bs (rmC h f1) x5 x6)] h Q
    refine r_istore (ls' := [vr 82, vr f1, vi x2, vi x3, vi x4, vi x5, vi x6, vi (bs (rmC h f1) x5 x6)]) f_75_47 (Nat.le_of_ble_eq_true rfl) rfl ?_
    refine r_iload (v := bs (rmC h f1) x5 x6) f_75_49 rfl ?_
    refine r_br (t := 91) f_75_51 rfl cb_lt (fun c2 => ?_) (fun c2 => ?_)
    · refine r_iinc (v := x6) (w := x6 + 1) (ls' := [vr 82, vr f1, vi x2, vi x3, vi x4, vi x5, vi (x6 + 1), vi (bs (rmC h f1) x5 x6)]) f_75_91 rfl rfl (o5 c1 c2) rfl ?_
      refine r_goto (t := 33) f_75_94 rfl ?_
      exact (k6 c1 c2)
    · refine r_aload_n (v := 82) f_75_54 rfl (by decide) ?_
      refine r_getr (q := 84) f_75_55 rfl (by decide) (Or.inl rfl) rfl ?_
      refine r_iload (v := bs (rmC h f1) x5 x6) f_75_58 rfl ?_
      refine r_iaload (n := 63) (v := h 84 (bs (rmC h f1) x5 x6).toNat) f_75_60 ⟨rfl, rfl⟩ (o7 c1 c2) rfl ?_
      refine r_aload_n (v := 82) f_75_61 rfl (by decide) ?_
      refine r_getr (q := 84) f_75_62 rfl (by decide) (Or.inl rfl) rfl ?_
      refine r_iload (v := x5) f_75_65 rfl ?_
      refine r_iaload (n := 63) (v := h 84 x5.toNat) f_75_67 ⟨rfl, rfl⟩ (o3 c1) rfl ?_
      refine r_br2 (t := 91) f_75_68 rfl cb_eq (fun c3 => ?_) (fun c3 => ?_)
      · refine r_iinc (v := x6) (w := x6 + 1) (ls' := [vr 82, vr f1, vi x2, vi x3, vi x4, vi x5, vi (x6 + 1), vi (bs (rmC h f1) x5 x6)]) f_75_91 rfl rfl (o8 c1 c2 c3) rfl ?_
        refine r_goto (t := 33) f_75_94 rfl ?_
        exact (k9 c1 c2 c3)
      · refine r_iload_n (v := x3) f_75_71 rfl ?_
        refine r_aload_n (v := 82) f_75_72 rfl (by decide) ?_
        refine r_getr (q := 88) f_75_73 rfl (by decide) (Or.inl rfl) rfl ?_
        refine r_iload (v := x5) f_75_76 rfl ?_
        refine r_iaload (n := 63) (v := h 88 x5.toNat) f_75_78 ⟨rfl, rfl⟩ (o3 c1) rfl ?_
        refine r_aload_n (v := 82) f_75_79 rfl (by decide) ?_
        refine r_getr (q := 88) f_75_80 rfl (by decide) (Or.inl rfl) rfl ?_
        refine r_iload (v := bs (rmC h f1) x5 x6) f_75_83 rfl ?_
        refine r_iaload (n := 63) (v := h 88 (bs (rmC h f1) x5 x6).toNat) f_75_85 ⟨rfl, rfl⟩ (o7 c1 c2) rfl ?_
        refine r_iadd (u := (h 88 x5.toNat) + (h 88 (bs (rmC h f1) x5 x6).toNat)) f_75_86 rfl (o10 c1 c2 c3) ?_
        refine r_calls (as := [vi x3, vi ((h 88 x5.toNat) + (h 88 (bs (rmC h f1) x5 x6).toNat))]) (st' := []) (ls0 := [vi x3, vi ((h 88 x5.toNat) + (h 88 (bs (rmC h f1) x5 x6).toNat))]) f_75_87 (by decide) (by decide) rfl rfl (Nat.le_of_ble_eq_true rfl) (Nat.le_of_ble_eq_true rfl) rfl ?_
        refine c_Ma_min  ?_
        show Wp true i_Is_narrowest 90 [vr 82, vr f1, vi x2, vi x3, vi x4, vi x5, vi x6, vi (bs (rmC h f1) x5 x6)] [vi (min x3 ((h 88 x5.toNat) + (h 88 (bs (rmC h f1) x5 x6).toNat)))] h Q
        refine r_istore_n (ls' := [vr 82, vr f1, vi x2, vi (min x3 ((h 88 x5.toNat) + (h 88 (bs (rmC h f1) x5 x6).toNat))), vi x4, vi x5, vi x6, vi (bs (rmC h f1) x5 x6)]) f_75_90 (Nat.le_of_ble_eq_true rfl) rfl ?_
        refine r_iinc (v := x6) (w := x6 + 1) (ls' := [vr 82, vr f1, vi x2, vi (min x3 ((h 88 x5.toNat) + (h 88 (bs (rmC h f1) x5 x6).toNat))), vi x4, vi x5, vi (x6 + 1), vi (bs (rmC h f1) x5 x6)]) f_75_91 rfl rfl (o11 c1 c2 c3) rfl ?_
        refine r_goto (t := 33) f_75_94 rfl ?_
        exact (k12 c1 c2 c3)

theorem g_C_strait_0 {Q : PQ} {h : HP} {x1 : Int} 
    (k1 : (x1 = 0 ∨ x1 = 1) → Wp true i_Is_survey 0 [vr 82, vr 10, vr 9999, vr 9999, vr 9999] [] h (fun r h' => Wp true i_C_strait 24 [vr 0, vi x1] (r.toList ++ []) h' Q))
    (k2 : ¬ (x1 = 0 ∨ x1 = 1) → Q (some (vi (-1))) (hs h 0 0 1)) :
    Wp true i_C_strait 0 [vr 0, vi x1] [] h Q := by
  refine r_iload_n (v := x1) f_185_0 rfl ?_
  refine r_calls (as := [vi x1]) (st' := []) (ls0 := [vi x1]) f_185_1 (by decide) (by decide) rfl rfl (Nat.le_of_ble_eq_true rfl) (Nat.le_of_ble_eq_true rfl) rfl ?_
  refine c_C_isLand  ?_
  show Wp true i_C_strait 4 [vr 0, vi x1] [vi (bi (x1 = 0 ∨ x1 = 1))] h Q
  refine r_br (t := 13) f_185_4 rfl cb_bt (fun c1 => ?_) (fun c1 => ?_)
  · refine r_aload_n (v := 0) f_185_13 rfl (by decide) ?_
    refine r_getr (q := 82) f_185_14 rfl (by decide) (Or.inl rfl) rfl ?_
    refine r_aload_n (v := 0) f_185_17 rfl (by decide) ?_
    refine r_getr (q := 10) f_185_18 rfl (by decide) (Or.inl rfl) rfl ?_
    exact r_callv (as := [vr 82, vr 10]) (st' := []) (ls0 := [vr 82, vr 10, vr 9999, vr 9999, vr 9999]) f_185_21 (by decide) rfl rfl (Nat.le_of_ble_eq_true rfl) (Nat.le_of_ble_eq_true rfl) ⟨_, _, rfl, rfl⟩ rfl (k1 c1)
  · refine r_aload_n (v := 0) f_185_7 rfl (by decide) ?_
    refine r_iconst f_185_8 (by decide) ?_
    refine r_callv (as := [vr 0, vi 1]) (st' := []) (ls0 := [vr 0, vi 1]) f_185_9 (by decide) rfl rfl (Nat.le_of_ble_eq_true rfl) (Nat.le_of_ble_eq_true rfl) ⟨_, _, rfl, rfl⟩ rfl ?_
    refine c_C_refuse  ?_
    show Wp true i_C_strait 12 [vr 0, vi x1] [vi (-1)] (hs h 0 0 1) Q
    exact r_reti f_185_12 rfl (k2 c1)

theorem g_C_strait_24 {Q : PQ} {h : HP} {x1 : Int} 
    (o1 : 0 ≤ h 82 4 ∧ h 82 4 ≤ 63)
    (k2 : 2 ≤ sumF (fun k => if h 85 k = x1 then 1 else 0) (h 82 4).toNat 0 → Wp true i_Is_narrowest 0 [vr 82, vr 10, vi x1, vr 9999, vr 9999, vr 9999, vr 9999, vr 9999] [] h (fun r h' => Wp true i_C_strait 56 [vr 0, vi x1] (r.toList ++ [vr 0]) h' Q))
    (k3 : ¬ 2 ≤ sumF (fun k => if h 85 k = x1 then 1 else 0) (h 82 4).toNat 0 → Q (some (vi (-1))) (hs h 0 0 6)) :
    Wp true i_C_strait 24 [vr 0, vi x1] [] h Q := by
  refine r_aload_n (v := 0) f_185_24 rfl (by decide) ?_
  refine r_getr (q := 82) f_185_25 rfl (by decide) (Or.inl rfl) rfl ?_
  refine r_iload_n (v := x1) f_185_28 rfl ?_
  refine r_callv (as := [vr 82, vi x1]) (st' := []) (ls0 := [vr 82, vi x1, vr 9999, vr 9999]) f_185_29 (by decide) rfl rfl (Nat.le_of_ble_eq_true rfl) (Nat.le_of_ble_eq_true rfl) ⟨_, _, rfl, rfl⟩ rfl ?_
  refine c_Is_countOf o1 ?_
  show Wp true i_C_strait 32 [vr 0, vi x1] [vi (sumF (fun k => if h 85 k = x1 then 1 else 0) (h 82 4).toNat 0)] h Q
  refine r_iconst f_185_32 (by decide) ?_
  refine r_br2 (t := 43) f_185_33 rfl cb_ge (fun c1 => ?_) (fun c1 => ?_)
  · refine r_aload_n (v := 0) f_185_43 rfl (by decide) ?_
    refine r_aload_n (v := 0) f_185_44 rfl (by decide) ?_
    refine r_getr (q := 82) f_185_45 rfl (by decide) (Or.inl rfl) rfl ?_
    refine r_aload_n (v := 0) f_185_48 rfl (by decide) ?_
    refine r_getr (q := 10) f_185_49 rfl (by decide) (Or.inl rfl) rfl ?_
    refine r_iload_n (v := x1) f_185_52 rfl ?_
    exact r_callv (as := [vr 82, vr 10, vi x1]) (st' := [vr 0]) (ls0 := [vr 82, vr 10, vi x1, vr 9999, vr 9999, vr 9999, vr 9999, vr 9999]) f_185_53 (by decide) rfl rfl (Nat.le_of_ble_eq_true rfl) (Nat.le_of_ble_eq_true rfl) ⟨_, _, rfl, rfl⟩ rfl (k2 c1)
  · refine r_aload_n (v := 0) f_185_36 rfl (by decide) ?_
    refine r_bipush f_185_37 (by decide) ?_
    refine r_callv (as := [vr 0, vi 6]) (st' := []) (ls0 := [vr 0, vi 6]) f_185_39 (by decide) rfl rfl (Nat.le_of_ble_eq_true rfl) (Nat.le_of_ble_eq_true rfl) ⟨_, _, rfl, rfl⟩ rfl ?_
    refine c_C_refuse  ?_
    show Wp true i_C_strait 42 [vr 0, vi x1] [vi (-1)] (hs h 0 0 6) Q
    exact r_reti f_185_42 rfl (k3 c1)

theorem g_C_strait_56 {Q : PQ} {h : HP} {x1 : Int} {s1 : Int} 
    (k1 : Q (some (vi s1)) (hs h 0 0 0)) :
    Wp true i_C_strait 56 [vr 0, vi x1] [vi s1, vr 0] h Q := by
  refine r_callv (as := [vr 0, vi s1]) (st' := []) (ls0 := [vr 0, vi s1]) f_185_56 (by decide) rfl rfl (Nat.le_of_ble_eq_true rfl) (Nat.le_of_ble_eq_true rfl) ⟨_, _, rfl, rfl⟩ rfl ?_
  refine c_C_answer  ?_
  show Wp true i_C_strait 59 [vr 0, vi x1] [vi s1] (hs h 0 0 0) Q
  exact r_reti f_185_59 rfl k1

theorem wt0 {R : HP} {l : Int} {c r : Nat} (h : rLand R c r = l) : wtW R l 0 c r = 0 := by unfold wtW; rw [if_pos h]; rfl
theorem wt1 {R : HP} {l : Int} {c r : Nat} (h : ¬ rLand R c r = l) : wtW R l 0 c r = 100 := by unfold wtW; rw [if_neg h]; rfl
theorem Pth_B {R : HP} {l st d : Int} {F0 : Nat → Nat → Int} {Lv : Nat → Nat → Prop} {c r : Nat} (p : Pth R l st F0 Lv c r d) : isB R c r := p (fun c r _ => isB R c r) (fun _ _ b _ => b) (fun _ _ _ _ _ _ _ _ b => b)
/-- the way back -/
theorem Pth_rev {R : HP} {l d : Int} {F0 : Nat → Nat → Int} {x y c r : Nat} (hx : SL R l x y) (p : Pth R l 0 (src x y) Any c r d) : ∀ e, Pth R l 0 F0 Any c r e → Pth R l 0 F0 Any x y (e + d - wtW R l 0 c r) := by
  have := p (fun c r d => isB R c r ∧ ∀ e, Pth R l 0 F0 Any c r e → Pth R l 0 F0 Any x y (e + d - wtW R l 0 c r)) (fun a b bb q => ?_) (fun a b d a' b' q lv n bb => ?_)
  · exact this.2
  · refine ⟨bb, fun e pe => ?_⟩
    by_cases z : a = x ∧ b = y
    · rw [z.1, z.2] at pe ⊢
      rw [src_s, wt0 hx.2, show e + 0 - 0 = e by omega]
      exact pe
    · exact absurd (src_o z) q
  · refine ⟨bb, fun e pe => ?_⟩
    have := q.2 _ (Pth_s pe trivial (nb_sym n) q.1)
    rw [show e + wtW R l 0 a b + d - wtW R l 0 a b = e + (d + wtW R l 0 a' b') - wtW R l 0 a' b' by omega] at this
    exact this
theorem walk {R : HP} {l : Int} {F0 : Nat → Nat → Int} : ∀ (n c r c' r' : Nat) (e : Int), (c - c') + (c' - c) + (r - r') + (r' - r) = n → isB R c' r' → Pth R l 0 F0 Any c r e → ∃ d, Pth R l 0 F0 Any c' r' d ∧ d ≤ e + 100 * n
  | 0, c, r, c', r', e, hn, hb, p => by
    obtain ⟨rfl, rfl⟩ : c = c' ∧ r = r' := by omega
    exact ⟨e, p, by omega⟩
  | n + 1, c, r, c', r', e, hn, hb, p => by
    have bb := Pth_B p
    unfold isB at bb hb
    have go : ∀ a b, nb c r a b → isB R a b → (a - c') + (c' - a) + (b - r') + (r' - b) = n → ∃ d, Pth R l 0 F0 Any c' r' d ∧ d ≤ e + 100 * ((n + 1 : Nat) : Int) := by
      intro a b h1 h2 h3
      have ww := wtW_rg (R := R) (l := l) (st := 0) (c := a) (r := b) (by omega)
      have ww2 : wtW R l 0 a b ≤ 100 := by unfold wtW; split <;> omega
      obtain ⟨d, d1, d2⟩ := walk n a b c' r' _ h3 hb (Pth_s p trivial h1 h2)
      exact ⟨d, d1, by omega⟩
    rcases Nat.lt_trichotomy c c' with q | q | q
    · exact go (c + 1) r (Or.inl ⟨rfl, rfl⟩) ⟨by omega, by omega⟩ (by omega)
    · rcases Nat.lt_trichotomy r r' with z | z | z
      · exact go c (r + 1) (Or.inr (Or.inr (Or.inl ⟨rfl, rfl⟩))) ⟨by omega, by omega⟩ (by omega)
      · omega
      · exact go c (r - 1) (Or.inr (Or.inr (Or.inr ⟨rfl, by omega⟩))) ⟨by omega, by omega⟩ (by omega)
    · exact go (c - 1) r (Or.inr (Or.inl ⟨by omega, rfl⟩)) ⟨by omega, by omega⟩ (by omega)
/-- each board belongs to the ISLAND nearest to it -/
def Vor (R : HP) (l : Int) (L0 L C : Nat → Nat → Int) : Prop :=
  (∀ c r, SL R l c r → L c r = L0 c r ∧ C c r = 0) ∧ (∀ c r, isB R c r → 0 ≤ C c r ∧ C c r ≤ 63 ∧ ∃ x y, SL R l x y ∧ L0 x y = L c r ∧ Pth R l 0 (src x y) Any c r (100 * C c r)) ∧
  (∀ c r c' r', isB R c r → isB R c' r' → nb c r c' r' → ¬ rLand R c' r' = l → C c' r' ≤ C c r + 1)
theorem Vor_str {R : HP} (W : WR R) {l best : Int} {L0 L C : Nat → Nat → Int} (V : Vor R l L0 L C) (hL : ∀ c r c' r', SL R l c r → SL R l c' r' → (L0 c r = L0 c' r' ↔ Cn (SL R l) c r c' r'))
    (lo : ∀ c r c' r', isB R c r → isB R c' r' → nb c r c' r' → L c r ≠ L c' r' → best ≤ C c r + C c' r') (ex : best = 63 ∨ ∃ c r c' r', isB R c r ∧ isB R c' r' ∧ nb c r c' r' ∧ L c r ≠ L c' r' ∧ best = C c r + C c' r')
    (two : ∃ c r c' r', SL R l c r ∧ SL R l c' r' ∧ ¬ Cn (SL R l) c r c' r') : strV R l = 100 * best ∧ 0 ≤ best := by
  have w := W.1
  obtain ⟨V1, V2, V3⟩ := V
  have low : ∀ c r c' r' d, SL R l c r → SL R l c' r' → ¬ Cn (SL R l) c r c' r' → Pth R l 0 (src c r) Any c' r' d → 100 * best ≤ d := by
    intro c r c' r' d s1 s2 ncn p
    have := p (fun a b d => isB R a b ∧ ((L a b = L c r ∧ 100 * C a b ≤ d) ∨ 100 * best ≤ d + 100 * C a b - wtW R l 0 a b)) (fun a b bb q => ?_) (fun a b d a' b' q lv n bb => ?_)
    · have v2 := V1 c' r' s2
      rw [v2.2, wt0 s2.2] at this
      rcases this.2 with z | z
      · exfalso
        apply ncn
        rw [v2.1, (V1 c r s1).1] at z
        exact (hL c r c' r' s1 s2).mp z.1.symm
      · omega
    · refine ⟨bb, ?_⟩
      by_cases z : a = c ∧ b = r
      · rw [z.1, z.2]
        left
        exact ⟨rfl, by rw [(V1 c r s1).2, src_s]; omega⟩
      · exact absurd (src_o z) q
    · refine ⟨bb, ?_⟩
      have st : ∀ u v u' v', isB R u v → isB R u' v' → nb u v u' v' → 100 * C u' v' ≤ 100 * C u v + wtW R l 0 u' v' := by
        intro u v u' v' p1 p2 p3
        have c0 := V2 u v p1
        by_cases z : rLand R u' v' = l
        · rw [(V1 u' v' ⟨p2, z⟩).2, wt0 z]; omega
        · rw [wt1 z]
          have := V3 u v u' v' p1 p2 p3 z
          omega
      have f1 := st a b a' b' q.1 bb n
      have f2 := st a' b' a b bb q.1 (nb_sym n)
      rcases q.2 with z | z
      · by_cases y : L a' b' = L c r
        · left; exact ⟨y, by omega⟩
        · right
          have := lo a b a' b' q.1 bb n (fun u => y (by rw [← u]; exact z.1))
          omega
      · right; omega
  obtain ⟨c, r, c', r', s1, s2, ncn⟩ := two
  have p0 : Pth R l 0 (src c r) Any c r 0 := by
    have := Pth_0 (R := R) (l := l) (st := 0) (F0 := src c r) (Lv := Any) s1.1 (by rw [src_s]; decide)
    rw [src_s] at this
    exact this
  obtain ⟨d, d1, d2⟩ := walk _ c r c' r' 0 rfl s2.1 p0
  have b1 := s1.1.1
  have b2 := s1.1.2
  have b3 := s2.1.1
  have b4 := s2.1.2
  have l0 := low c r c' r' d s1 s2 ncn d1
  rcases ex with z | ⟨u, v, u', v', e1, e2, e3, e4, e5⟩
  · omega
  · obtain ⟨cu, -, x, y, x1, x2, x3⟩ := V2 u v e1
    obtain ⟨cv, -, x', y', y1, y2, y3⟩ := V2 u' v' e2
    refine ⟨mnV_eq ?_ (fun d t => ?_), by omega⟩
    · refine ⟨x, y, x', y', x1, y1, fun cn => e4 ?_, ?_⟩
      · rw [← x2, ← y2]; exact (hL x y x' y' x1 y1).mpr cn
      · have := Pth_rev y1 y3 _ (Pth_s x3 trivial e3 e2)
        rw [show 100 * C u v + wtW R l 0 u' v' + 100 * C u' v' - wtW R l 0 u' v' = 100 * best by omega] at this
        exact this
    · obtain ⟨c, r, c', r', a, b, e, p⟩ := t
      exact low c r c' r' d a b e p
/-- the search from all ISLANDS at once: q the queue, m its length -/
def Bfs (R : HP) (l : Int) (h h1 : HP) (nx : Int) : Prop :=
  (∀ k, k ≠ 82 → k ≠ 84 → k ≠ 87 → k ≠ 88 → h1 k = h k) ∧ (∀ c r, SL R l c r → h1 84 (9 * r + c) = h 84 (9 * r + c) ∧ h1 88 (9 * r + c) = 0) ∧
  (∀ c r, isB R c r → 0 ≤ h1 84 (9 * r + c) → 0 ≤ h1 88 (9 * r + c) ∧ h1 88 (9 * r + c) ≤ h1 82 6 ∧ ∃ x y, SL R l x y ∧ h 84 (9 * y + x) = h1 84 (9 * r + c) ∧ Pth R l 0 (src x y) Any c r (100 * h1 88 (9 * r + c))) ∧
  (∀ j : Nat, (j : Int) < h1 82 6 → ∃ c r, isB R c r ∧ h1 87 j = ((9 * r + c : Nat) : Int) ∧ 0 ≤ h1 84 (9 * r + c)) ∧ (∀ c r, isB R c r → 0 ≤ h1 84 (9 * r + c) → ∃ j : Nat, (j : Int) < h1 82 6 ∧ h1 87 j = ((9 * r + c : Nat) : Int)) ∧
  h1 82 6 = cnt R (fun c r => 0 ≤ h1 84 (9 * r + c)) ∧
  (∀ i j : Nat, i ≤ j → (j : Int) < h1 82 6 → h1 88 (h1 87 i).toNat ≤ h1 88 (h1 87 j).toNat) ∧ (∀ i j : Nat, (i : Int) = nx → (i : Int) < h1 82 6 → (j : Int) < h1 82 6 → h1 88 (h1 87 j).toNat ≤ h1 88 (h1 87 i).toNat + 1) ∧
  (∀ i : Nat, (i : Int) < nx → ∀ c r c' r', isB R c r → h1 87 i = ((9 * r + c : Nat) : Int) → isB R c' r' → nb c r c' r' → 0 ≤ h1 84 (9 * r' + c') ∧ h1 88 (9 * r' + c') ≤ h1 88 (9 * r + c) + 1)
