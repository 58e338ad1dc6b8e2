theorem g_Pl_run_0 {Q : PQ} {h : HP} {x3 : Int} {t1 : Nat} (h_t1 : isT t1) {f2 : Nat} (h_f2 : isF f2)
    (k1 : Wp true i_Pl_run 45 [vr 99, vr t1, vr f2, vi x3, vi 0, vi 0] [] (hs (hs (hs (hs (hs (hs (hs h 99 0 0) 99 1 0) 99 2 0) 99 3 0) 99 4 x3) 100 0 0) 100 1 0) Q) :
    Wp true i_Pl_run 0 [vr 99, vr t1, vr f2, vi x3, vr 9999, vr 9999] [] h Q := by
  refine r_aload_n (v := 99) f_85_0 rfl (by decide) ?_
  refine r_iconst f_85_1 (by decide) ?_
  refine r_puti f_85_2 rfl (by decide) ?_
  refine r_aload_n (v := 99) f_85_5 rfl (by decide) ?_
  refine r_iconst f_85_6 (by decide) ?_
  refine r_puti f_85_7 rfl (by decide) ?_
  refine r_aload_n (v := 99) f_85_10 rfl (by decide) ?_
  refine r_iconst f_85_11 (by decide) ?_
  refine r_puti f_85_12 rfl (by decide) ?_
  refine r_aload_n (v := 99) f_85_15 rfl (by decide) ?_
  refine r_iconst f_85_16 (by decide) ?_
  refine r_putz f_85_17 rfl (by decide) (by decide) ?_
  refine r_aload_n (v := 99) f_85_20 rfl (by decide) ?_
  refine r_iload_n (v := x3) f_85_21 rfl ?_
  refine r_puti f_85_22 rfl (by decide) ?_
  refine r_aload_n (v := 99) f_85_25 rfl (by decide) ?_
  refine r_getr (q := 100) f_85_26 rfl (by decide) (Or.inl rfl) rfl ?_
  refine r_iconst f_85_29 (by decide) ?_
  refine r_iconst f_85_30 (by decide) ?_
  refine r_iastore (n := 2) f_85_31 ⟨rfl, rfl⟩ (by decide) ?_
  refine r_aload_n (v := 99) f_85_32 rfl (by decide) ?_
  refine r_getr (q := 100) f_85_33 rfl (by decide) (Or.inl rfl) rfl ?_
  refine r_iconst f_85_36 (by decide) ?_
  refine r_iconst f_85_37 (by decide) ?_
  refine r_iastore (n := 2) f_85_38 ⟨rfl, rfl⟩ (by decide) ?_
  refine r_iconst f_85_39 (by decide) ?_
  refine r_istore (ls' := [vr 99, vr t1, vr f2, vi x3, vi 0, vr 9999]) f_85_40 (Nat.le_of_ble_eq_true rfl) rfl ?_
  refine r_iconst f_85_42 (by decide) ?_
  refine r_istore (ls' := [vr 99, vr t1, vr f2, vi x3, vi 0, vi 0]) f_85_43 (Nat.le_of_ble_eq_true rfl) rfl ?_
  exact k1

theorem g_Pl_run_45 {Q : PQ} {h : HP} {x3 : Int} {x4 : Int} {x5 : Int} {t1 : Nat} (h_t1 : isT t1) {f2 : Nat} (h_f2 : isF f2)
    (k1 : 1204 ≤ x5 → Q none h)
    (k2 : ¬ 1204 ≤ x5 → h t1 2 ≤ x4 → Q none h)
    (o3 : ¬ 1204 ≤ x5 → ¬ h t1 2 ≤ x4 → 0 ≤ x4 ∧ x4 < 60)
    (o4 : ¬ 1204 ≤ x5 → ¬ h t1 2 ≤ x4 → ¬ h (t1 + 1) x4.toNat = 20 → h 99 0 < 300 → -2147483648 ≤ (h 99 0) + 1 ∧ (h 99 0) + 1 ≤ 2147483647)
    (k5 : ¬ 1204 ≤ x5 → ¬ h t1 2 ≤ x4 → ¬ h (t1 + 1) x4.toNat = 20 → h 99 0 < 300 → Wp true i_Pl_afterStep 0 [vr 99, vr t1, vr f2, vi x4, vr 9999, vr 9999] [] (hs h 99 0 ((h 99 0) + 1)) (fun r h' => Wp true i_Pl_run 120 [vr 99, vr t1, vr f2, vi x3, vi x4, vi x5] (r.toList ++ []) h' Q))
    (k6 : ¬ 1204 ≤ x5 → ¬ h t1 2 ≤ x4 → ¬ h (t1 + 1) x4.toNat = 20 → ¬ h 99 0 < 300 → Q none (hs h 99 3 1))
    (k7 : ¬ 1204 ≤ x5 → ¬ h t1 2 ≤ x4 → h (t1 + 1) x4.toNat = 20 → Wp true i_Pl_afterEnd 0 [vr 99, vr t1, vi x4, vr 9999] [] h (fun r h' => Wp true i_Pl_run 81 [vr 99, vr t1, vr f2, vi x3, vi x4, vi x5] (r.toList ++ []) h' Q)) :
    Wp true i_Pl_run 45 [vr 99, vr t1, vr f2, vi x3, vi x4, vi x5] [] h Q := by
  refine r_iload (v := x5) f_85_45 rfl ?_
  refine r_sipush f_85_47 (by decide) ?_
  refine r_br2 (t := 128) f_85_50 rfl cb_ge (fun c1 => ?_) (fun c1 => ?_)
  · exact r_retv f_85_128 rfl (k1 c1)
  · refine r_iload (v := x4) f_85_53 rfl ?_
    refine r_aload_n (v := t1) f_85_55 rfl (T_n h_t1) ?_
    refine r_geti (v := h t1 2) f_85_56 (T_k h_t1) (by decide) rfl ?_
    refine r_br2 (t := 128) f_85_59 rfl cb_ge (fun c2 => ?_) (fun c2 => ?_)
    · exact r_retv f_85_128 rfl (k2 c1 c2)
    · refine r_aload_n (v := t1) f_85_62 rfl (T_n h_t1) ?_
      refine r_getr (q := (t1 + 1)) f_85_63 (T_k h_t1) (by decide) (Or.inl rfl) rfl ?_
      refine r_iload (v := x4) f_85_66 rfl ?_
      refine r_iaload (n := 60) (v := h (t1 + 1) x4.toNat) f_85_68 (T_1 h_t1) (o3 c1 c2) rfl ?_
      refine r_bipush f_85_69 (by decide) ?_
      refine r_br2 (t := 86) f_85_71 rfl cb_ne (fun c3 => ?_) (fun c3 => ?_)
      · refine r_aload_n (v := 99) f_85_86 rfl (by decide) ?_
        refine r_geti (v := h 99 0) f_85_87 rfl (by decide) rfl ?_
        refine r_sipush f_85_90 (by decide) ?_
        refine r_br2 (t := 102) f_85_93 rfl cb_lt (fun c4 => ?_) (fun c4 => ?_)
        · refine r_aload_n (v := 99) f_85_102 rfl (by decide) ?_
          refine r_dupr f_85_103 ?_
          refine r_geti (v := h 99 0) f_85_104 rfl (by decide) rfl ?_
          refine r_iconst f_85_107 (by decide) ?_
          refine r_iadd (u := (h 99 0) + 1) f_85_108 rfl (o4 c1 c2 c3 c4) ?_
          refine r_puti f_85_109 rfl (by decide) ?_
          refine r_aload_n (v := 99) f_85_112 rfl (by decide) ?_
          refine r_aload_n (v := t1) f_85_113 rfl (T_n h_t1) ?_
          refine r_aload_n (v := f2) f_85_114 rfl (F_n h_f2) ?_
          refine r_iload (v := x4) f_85_115 rfl ?_
          exact r_callv (as := [vr 99, vr t1, vr f2, vi x4]) (st' := []) (ls0 := [vr 99, vr t1, vr f2, vi x4, vr 9999, vr 9999]) f_85_117 (by decide) rfl rfl (Nat.le_of_ble_eq_true rfl) (Nat.le_of_ble_eq_true rfl) ⟨_, _, rfl, rfl⟩ rfl (k5 c1 c2 c3 c4)
        · refine r_aload_n (v := 99) f_85_96 rfl (by decide) ?_
          refine r_iconst f_85_97 (by decide) ?_
          refine r_putz f_85_98 rfl (by decide) (by decide) ?_
          exact r_retv f_85_101 rfl (k6 c1 c2 c3 c4)
      · have c3 := Decidable.not_not.mp c3
        refine r_aload_n (v := 99) f_85_74 rfl (by decide) ?_
        refine r_aload_n (v := t1) f_85_75 rfl (T_n h_t1) ?_
        refine r_iload (v := x4) f_85_76 rfl ?_
        exact r_callv (as := [vr 99, vr t1, vi x4]) (st' := []) (ls0 := [vr 99, vr t1, vi x4, vr 9999]) f_85_78 (by decide) rfl rfl (Nat.le_of_ble_eq_true rfl) (Nat.le_of_ble_eq_true rfl) ⟨_, _, rfl, rfl⟩ rfl (k7 c1 c2 c3)

theorem g_Pl_run_81 {Q : PQ} {h : HP} {x3 : Int} {x4 : Int} {x5 : Int} {s0 : Int} {t1 : Nat} (h_t1 : isT t1) {f2 : Nat} (h_f2 : isF f2)
    (o1 : -2147483648 ≤ x5 + 1 ∧ x5 + 1 ≤ 2147483647)
    (k2 : Wp true i_Pl_run 45 [vr 99, vr t1, vr f2, vi x3, vi s0, vi (x5 + 1)] [] h Q) :
    Wp true i_Pl_run 81 [vr 99, vr t1, vr f2, vi x3, vi x4, vi x5] [vi s0] h Q := by
  refine r_istore (ls' := [vr 99, vr t1, vr f2, vi x3, vi s0, vi x5]) f_85_81 (Nat.le_of_ble_eq_true rfl) rfl ?_
  refine r_goto (t := 122) f_85_83 rfl ?_
  refine r_iinc (v := x5) (w := x5 + 1) (ls' := [vr 99, vr t1, vr f2, vi x3, vi s0, vi (x5 + 1)]) f_85_122 rfl rfl o1 rfl ?_
  refine r_goto (t := 45) f_85_125 rfl ?_
  exact k2

theorem g_Pl_run_120 {Q : PQ} {h : HP} {x3 : Int} {x4 : Int} {x5 : Int} {s0 : Int} {t1 : Nat} (h_t1 : isT t1) {f2 : Nat} (h_f2 : isF f2)
    (o1 : -2147483648 ≤ x5 + 1 ∧ x5 + 1 ≤ 2147483647)
    (k2 : Wp true i_Pl_run 45 [vr 99, vr t1, vr f2, vi x3, vi s0, vi (x5 + 1)] [] h Q) :
    Wp true i_Pl_run 120 [vr 99, vr t1, vr f2, vi x3, vi x4, vi x5] [vi s0] h Q := by
  refine r_istore (ls' := [vr 99, vr t1, vr f2, vi x3, vi s0, vi x5]) f_85_120 (Nat.le_of_ble_eq_true rfl) rfl ?_
  refine r_iinc (v := x5) (w := x5 + 1) (ls' := [vr 99, vr t1, vr f2, vi x3, vi s0, vi (x5 + 1)]) f_85_122 rfl rfl o1 rfl ?_
  refine r_goto (t := 45) f_85_125 rfl ?_
  exact k2

theorem g_Pl_afterEnd_0 {Q : PQ} {h : HP} {x2 : Int} {t1 : Nat} (h_t1 : isT t1)
    (o1 : 0 ≤ x2 ∧ x2 < 60)
    (o2 : h (t1 + 5) x2.toNat < 0 → -2147483648 ≤ x2 + 1 ∧ x2 + 1 ≤ 2147483647)
    (k3 : h (t1 + 5) x2.toNat < 0 → Q (some (vi (x2 + 1))) h)
    (o4 : ¬ h (t1 + 5) x2.toNat < 0 → 0 ≤ h (t1 + 5) x2.toNat ∧ h (t1 + 5) x2.toNat < 60)
    (o5 : ¬ h (t1 + 5) x2.toNat < 0 → ¬ h (t1 + 1) (h (t1 + 5) x2.toNat).toNat = 19 → -2147483648 ≤ x2 + 1 ∧ x2 + 1 ≤ 2147483647)
    (k6 : ¬ h (t1 + 5) x2.toNat < 0 → ¬ h (t1 + 1) (h (t1 + 5) x2.toNat).toNat = 19 → Q (some (vi (x2 + 1))) h)
    (o7 : ¬ h (t1 + 5) x2.toNat < 0 → h (t1 + 1) (h (t1 + 5) x2.toNat).toNat = 19 → -2147483648 ≤ (h 101 (h (t1 + 5) x2.toNat).toNat) - 1 ∧ (h 101 (h (t1 + 5) x2.toNat).toNat) - 1 ≤ 2147483647)
    (o8 : ¬ h (t1 + 5) x2.toNat < 0 → h (t1 + 1) (h (t1 + 5) x2.toNat).toNat = 19 → (h 101 (h (t1 + 5) x2.toNat).toNat) - 1 ≤ 0 → -2147483648 ≤ x2 + 1 ∧ x2 + 1 ≤ 2147483647)
    (k9 : ¬ h (t1 + 5) x2.toNat < 0 → h (t1 + 1) (h (t1 + 5) x2.toNat).toNat = 19 → (h 101 (h (t1 + 5) x2.toNat).toNat) - 1 ≤ 0 → Q (some (vi (x2 + 1))) (hs h 101 (h (t1 + 5) x2.toNat).toNat ((h 101 (h (t1 + 5) x2.toNat).toNat) - 1)))
    (o10 : ¬ h (t1 + 5) x2.toNat < 0 → h (t1 + 1) (h (t1 + 5) x2.toNat).toNat = 19 → ¬ (h 101 (h (t1 + 5) x2.toNat).toNat) - 1 ≤ 0 → -2147483648 ≤ (h (t1 + 5) x2.toNat) + 1 ∧ (h (t1 + 5) x2.toNat) + 1 ≤ 2147483647)
    (k11 : ¬ h (t1 + 5) x2.toNat < 0 → h (t1 + 1) (h (t1 + 5) x2.toNat).toNat = 19 → ¬ (h 101 (h (t1 + 5) x2.toNat).toNat) - 1 ≤ 0 → Q (some (vi ((h (t1 + 5) x2.toNat) + 1))) (hs h 101 (h (t1 + 5) x2.toNat).toNat ((h 101 (h (t1 + 5) x2.toNat).toNat) - 1))) :
    Wp true i_Pl_afterEnd 0 [vr 99, vr t1, vi x2, vr 9999] [] h Q := by
  refine r_aload_n (v := t1) f_86_0 rfl (T_n h_t1) ?_
  refine r_getr (q := (t1 + 5)) f_86_1 (T_k h_t1) (by decide) (Or.inl rfl) rfl ?_
  refine r_iload_n (v := x2) f_86_4 rfl ?_
  refine r_iaload (n := 60) (v := h (t1 + 5) x2.toNat) f_86_5 (T_5 h_t1) o1 rfl ?_
  refine r_istore_n (ls' := [vr 99, vr t1, vi x2, vi (h (t1 + 5) x2.toNat)]) f_86_6 (Nat.le_of_ble_eq_true rfl) rfl ?_
  refine r_iload_n (v := h (t1 + 5) x2.toNat) f_86_7 rfl ?_
  refine r_br (t := 45) f_86_8 rfl cb_lt (fun c1 => ?_) (fun c1 => ?_)
  · refine r_iload_n (v := x2) f_86_45 rfl ?_
    refine r_iconst f_86_46 (by decide) ?_
    refine r_iadd (u := x2 + 1) f_86_47 rfl (o2 c1) ?_
    exact r_reti f_86_48 rfl (k3 c1)
  · refine r_aload_n (v := t1) f_86_11 rfl (T_n h_t1) ?_
    refine r_getr (q := (t1 + 1)) f_86_12 (T_k h_t1) (by decide) (Or.inl rfl) rfl ?_
    refine r_iload_n (v := h (t1 + 5) x2.toNat) f_86_15 rfl ?_
    refine r_iaload (n := 60) (v := h (t1 + 1) (h (t1 + 5) x2.toNat).toNat) f_86_16 (T_1 h_t1) (o4 c1) rfl ?_
    refine r_bipush f_86_17 (by decide) ?_
    refine r_br2 (t := 45) f_86_19 rfl cb_ne (fun c2 => ?_) (fun c2 => ?_)
    · refine r_iload_n (v := x2) f_86_45 rfl ?_
      refine r_iconst f_86_46 (by decide) ?_
      refine r_iadd (u := x2 + 1) f_86_47 rfl (o5 c1 c2) ?_
      exact r_reti f_86_48 rfl (k6 c1 c2)
    · have c2 := Decidable.not_not.mp c2
      refine r_aload_n (v := 99) f_86_22 rfl (by decide) ?_
      refine r_getr (q := 101) f_86_23 rfl (by decide) (Or.inl rfl) rfl ?_
      refine r_iload_n (v := h (t1 + 5) x2.toNat) f_86_26 rfl ?_
      refine r_dup2ir f_86_27 ?_
      refine r_iaload (n := 60) (v := h 101 (h (t1 + 5) x2.toNat).toNat) f_86_28 ⟨rfl, rfl⟩ (o4 c1) rfl ?_
      refine r_iconst f_86_29 (by decide) ?_
      refine r_isub (u := (h 101 (h (t1 + 5) x2.toNat).toNat) - 1) f_86_30 rfl (o7 c1 c2) ?_
      refine r_iastore (n := 60) f_86_31 ⟨rfl, rfl⟩ (o4 c1) ?_
      refine r_aload_n (v := 99) f_86_32 rfl (by decide) ?_
      refine r_getr (q := 101) f_86_33 rfl (by decide) (Or.inl rfl) rfl ?_
      refine r_iload_n (v := h (t1 + 5) x2.toNat) f_86_36 rfl ?_
      refine r_iaload (n := 60) (v := (h 101 (h (t1 + 5) x2.toNat).toNat) - 1) f_86_37 ⟨rfl, rfl⟩ (o4 c1) (by simp [hs]) ?_
      refine r_br (t := 45) f_86_38 rfl cb_le (fun c3 => ?_) (fun c3 => ?_)
      · refine r_iload_n (v := x2) f_86_45 rfl ?_
        refine r_iconst f_86_46 (by decide) ?_
        refine r_iadd (u := x2 + 1) f_86_47 rfl (o8 c1 c2 c3) ?_
        exact r_reti f_86_48 rfl (k9 c1 c2 c3)
      · refine r_iload_n (v := h (t1 + 5) x2.toNat) f_86_41 rfl ?_
        refine r_iconst f_86_42 (by decide) ?_
        refine r_iadd (u := (h (t1 + 5) x2.toNat) + 1) f_86_43 rfl (o10 c1 c2 c3) ?_
        exact r_reti f_86_44 rfl (k11 c1 c2 c3)

theorem g_Pl_afterStep_0 {Q : PQ} {h : HP} {x3 : Int} {t1 : Nat} (h_t1 : isT t1) {f2 : Nat} (h_f2 : isF f2)
    (o1 : 0 ≤ x3 ∧ x3 < 60)
    (k2 : ¬ h (t1 + 1) x3.toNat = 21 → ¬ h (t1 + 1) x3.toNat = 19 → h (t1 + 1) x3.toNat = 16 → Wp true i_Pl_holdsTrue 0 [vr t1, vr f2, vi x3, vr 9999, vr 9999] [] h (fun r h' => Wp true i_Pl_afterStep 98 [vr 99, vr t1, vr f2, vi x3, vi (h (t1 + 1) x3.toNat), vr 9999] (r.toList ++ []) h' Q))
    (k3 : ¬ h (t1 + 1) x3.toNat = 21 → ¬ h (t1 + 1) x3.toNat = 19 → ¬ h (t1 + 1) x3.toNat = 16 → h (t1 + 1) x3.toNat = 17 → Wp true i_Pl_holdsTrue 0 [vr t1, vr f2, vi x3, vr 9999, vr 9999] [] h (fun r h' => Wp true i_Pl_afterStep 98 [vr 99, vr t1, vr f2, vi x3, vi (h (t1 + 1) x3.toNat), vr 9999] (r.toList ++ []) h' Q))
    (k4 : ¬ h (t1 + 1) x3.toNat = 21 → ¬ h (t1 + 1) x3.toNat = 19 → ¬ h (t1 + 1) x3.toNat = 16 → ¬ h (t1 + 1) x3.toNat = 17 → ¬ h (t1 + 1) x3.toNat = 18 → Wp true i_Pl_doStep 0 [vr 99, vr t1, vr f2, vi x3] [] h (fun r h' => Wp true i_Pl_afterStep 123 [vr 99, vr t1, vr f2, vi x3, vi (h (t1 + 1) x3.toNat), vr 9999] (r.toList ++ []) h' Q))
    (k5 : ¬ h (t1 + 1) x3.toNat = 21 → ¬ h (t1 + 1) x3.toNat = 19 → ¬ h (t1 + 1) x3.toNat = 16 → ¬ h (t1 + 1) x3.toNat = 17 → h (t1 + 1) x3.toNat = 18 → Wp true i_Pl_holdsTrue 0 [vr t1, vr f2, vi x3, vr 9999, vr 9999] [] h (fun r h' => Wp true i_Pl_afterStep 98 [vr 99, vr t1, vr f2, vi x3, vi (h (t1 + 1) x3.toNat), vr 9999] (r.toList ++ []) h' Q))
    (o6 : ¬ h (t1 + 1) x3.toNat = 21 → h (t1 + 1) x3.toNat = 19 → -2147483648 ≤ x3 + 1 ∧ x3 + 1 ≤ 2147483647)
    (k7 : ¬ h (t1 + 1) x3.toNat = 21 → h (t1 + 1) x3.toNat = 19 → ¬ h (t1 + 5) x3.toNat = x3 + 1 → Wp true i_Pl_afterStep 44 [vr 99, vr t1, vr f2, vi x3, vi (h (t1 + 1) x3.toNat), vr 9999] [vi 0] h Q)
    (k8 : ¬ h (t1 + 1) x3.toNat = 21 → h (t1 + 1) x3.toNat = 19 → h (t1 + 5) x3.toNat = x3 + 1 → Wp true i_Pl_afterStep 44 [vr 99, vr t1, vr f2, vi x3, vi (h (t1 + 1) x3.toNat), vr 9999] [vi 1] h Q)
    (k9 : h (t1 + 1) x3.toNat = 21 → Q (some (vi (h t1 2))) h) :
    Wp true i_Pl_afterStep 0 [vr 99, vr t1, vr f2, vi x3, vr 9999, vr 9999] [] h Q := by
  refine r_aload_n (v := t1) f_87_0 rfl (T_n h_t1) ?_
  refine r_getr (q := (t1 + 1)) f_87_1 (T_k h_t1) (by decide) (Or.inl rfl) rfl ?_
  refine r_iload_n (v := x3) f_87_4 rfl ?_
  refine r_iaload (n := 60) (v := h (t1 + 1) x3.toNat) f_87_5 (T_1 h_t1) o1 rfl ?_
  refine r_istore (ls' := [vr 99, vr t1, vr f2, vi x3, vi (h (t1 + 1) x3.toNat), vr 9999]) f_87_6 (Nat.le_of_ble_eq_true rfl) rfl ?_
  refine r_iload (v := h (t1 + 1) x3.toNat) f_87_8 rfl ?_
  refine r_bipush f_87_10 (by decide) ?_
  refine r_br2 (t := 20) f_87_12 rfl cb_ne (fun c1 => ?_) (fun c1 => ?_)
  · refine r_iload (v := h (t1 + 1) x3.toNat) f_87_20 rfl ?_
    refine r_bipush f_87_22 (by decide) ?_
    refine r_br2 (t := 71) f_87_24 rfl cb_ne (fun c2 => ?_) (fun c2 => ?_)
    · refine r_iload (v := h (t1 + 1) x3.toNat) f_87_71 rfl ?_
      refine r_bipush f_87_73 (by decide) ?_
      refine r_br2 (t := 92) f_87_75 rfl cb_eq (fun c3 => ?_) (fun c3 => ?_)
      · refine r_aload_n (v := t1) f_87_92 rfl (T_n h_t1) ?_
        refine r_aload_n (v := f2) f_87_93 rfl (F_n h_f2) ?_
        refine r_iload_n (v := x3) f_87_94 rfl ?_
        exact r_calls (as := [vr t1, vr f2, vi x3]) (st' := []) (ls0 := [vr t1, vr f2, vi x3, vr 9999, vr 9999]) f_87_95 (by decide) (by decide) rfl rfl (Nat.le_of_ble_eq_true rfl) (Nat.le_of_ble_eq_true rfl) rfl (k2 c1 c2 c3)
      · refine r_iload (v := h (t1 + 1) x3.toNat) f_87_78 rfl ?_
        refine r_bipush f_87_80 (by decide) ?_
        refine r_br2 (t := 92) f_87_82 rfl cb_eq (fun c4 => ?_) (fun c4 => ?_)
        · refine r_aload_n (v := t1) f_87_92 rfl (T_n h_t1) ?_
          refine r_aload_n (v := f2) f_87_93 rfl (F_n h_f2) ?_
          refine r_iload_n (v := x3) f_87_94 rfl ?_
          exact r_calls (as := [vr t1, vr f2, vi x3]) (st' := []) (ls0 := [vr t1, vr f2, vi x3, vr 9999, vr 9999]) f_87_95 (by decide) (by decide) rfl rfl (Nat.le_of_ble_eq_true rfl) (Nat.le_of_ble_eq_true rfl) rfl (k3 c1 c2 c3 c4)
        · refine r_iload (v := h (t1 + 1) x3.toNat) f_87_85 rfl ?_
          refine r_bipush f_87_87 (by decide) ?_
          refine r_br2 (t := 116) f_87_89 rfl cb_ne (fun c5 => ?_) (fun c5 => ?_)
          · refine r_aload_n (v := 99) f_87_116 rfl (by decide) ?_
            refine r_aload_n (v := t1) f_87_117 rfl (T_n h_t1) ?_
            refine r_aload_n (v := f2) f_87_118 rfl (F_n h_f2) ?_
            refine r_iload_n (v := x3) f_87_119 rfl ?_
            exact r_callv (as := [vr 99, vr t1, vr f2, vi x3]) (st' := []) (ls0 := [vr 99, vr t1, vr f2, vi x3]) f_87_120 (by decide) rfl rfl (Nat.le_of_ble_eq_true rfl) (Nat.le_of_ble_eq_true rfl) ⟨_, _, rfl, rfl⟩ rfl (k4 c1 c2 c3 c4 c5)
          · have c5 := Decidable.not_not.mp c5
            refine r_aload_n (v := t1) f_87_92 rfl (T_n h_t1) ?_
            refine r_aload_n (v := f2) f_87_93 rfl (F_n h_f2) ?_
            refine r_iload_n (v := x3) f_87_94 rfl ?_
            exact r_calls (as := [vr t1, vr f2, vi x3]) (st' := []) (ls0 := [vr t1, vr f2, vi x3, vr 9999, vr 9999]) f_87_95 (by decide) (by decide) rfl rfl (Nat.le_of_ble_eq_true rfl) (Nat.le_of_ble_eq_true rfl) rfl (k5 c1 c2 c3 c4 c5)
    · have c2 := Decidable.not_not.mp c2
      refine r_aload_n (v := t1) f_87_27 rfl (T_n h_t1) ?_
      refine r_getr (q := (t1 + 5)) f_87_28 (T_k h_t1) (by decide) (Or.inl rfl) rfl ?_
      refine r_iload_n (v := x3) f_87_31 rfl ?_
      refine r_iaload (n := 60) (v := h (t1 + 5) x3.toNat) f_87_32 (T_5 h_t1) o1 rfl ?_
      refine r_iload_n (v := x3) f_87_33 rfl ?_
      refine r_iconst f_87_34 (by decide) ?_
      refine r_iadd (u := x3 + 1) f_87_35 rfl (o6 c1 c2) ?_
      refine r_br2 (t := 43) f_87_36 rfl cb_ne (fun c3 => ?_) (fun c3 => ?_)
      · refine r_iconst f_87_43 (by decide) ?_
        exact (k7 c1 c2 c3)
      · have c3 := Decidable.not_not.mp c3
        refine r_iconst f_87_39 (by decide) ?_
        refine r_goto (t := 44) f_87_40 rfl ?_
        exact (k8 c1 c2 c3)
  · have c1 := Decidable.not_not.mp c1
    refine r_aload_n (v := t1) f_87_15 rfl (T_n h_t1) ?_
    refine r_geti (v := h t1 2) f_87_16 (T_k h_t1) (by decide) rfl ?_
    exact r_reti f_87_19 rfl (k9 c1)

theorem g_Pl_afterStep_44 {Q : PQ} {h : HP} {x3 : Int} {x4 : Int} {s0 : Int} {t1 : Nat} (h_t1 : isT t1) {f2 : Nat} (h_f2 : isF f2)
    (o1 : s0 = 0 → 0 ≤ x3 ∧ x3 < 60)
    (o2 : s0 = 0 → -2147483648 ≤ x3 + 1 ∧ x3 + 1 ≤ 2147483647)
    (k3 : s0 = 0 → Q (some (vi (x3 + 1))) (hs h 101 x3.toNat (h (t1 + 2) x3.toNat)))
    (o4 : ¬ s0 = 0 → 0 ≤ x3 ∧ x3 < 60)
    (o5 : ¬ s0 = 0 → -2147483648 ≤ x3 + 1 ∧ x3 + 1 ≤ 2147483647)
    (k6 : ¬ s0 = 0 → Q (some (vi (x3 + 1))) (hs h 101 x3.toNat 1)) :
    Wp true i_Pl_afterStep 44 [vr 99, vr t1, vr f2, vi x3, vi x4, vr 9999] [vi s0] h Q := by
  refine r_istore (ls' := [vr 99, vr t1, vr f2, vi x3, vi x4, vi s0]) f_87_44 (Nat.le_of_ble_eq_true rfl) rfl ?_
  refine r_aload_n (v := 99) f_87_46 rfl (by decide) ?_
  refine r_getr (q := 101) f_87_47 rfl (by decide) (Or.inl rfl) rfl ?_
  refine r_iload_n (v := x3) f_87_50 rfl ?_
  refine r_iload (v := s0) f_87_51 rfl ?_
  refine r_br (t := 60) f_87_53 rfl cb_eq (fun c1 => ?_) (fun c1 => ?_)
  · refine r_aload_n (v := t1) f_87_60 rfl (T_n h_t1) ?_
    refine r_getr (q := (t1 + 2)) f_87_61 (T_k h_t1) (by decide) (Or.inl rfl) rfl ?_
    refine r_iload_n (v := x3) f_87_64 rfl ?_
    refine r_iaload (n := 60) (v := h (t1 + 2) x3.toNat) f_87_65 (T_2 h_t1) (o1 c1) rfl ?_
    refine r_iastore (n := 60) f_87_66 ⟨rfl, rfl⟩ (o1 c1) ?_
    refine r_iload_n (v := x3) f_87_67 rfl ?_
    refine r_iconst f_87_68 (by decide) ?_
    refine r_iadd (u := x3 + 1) f_87_69 rfl (o2 c1) ?_
    exact r_reti f_87_70 rfl (k3 c1)
  · refine r_iconst f_87_56 (by decide) ?_
    refine r_goto (t := 66) f_87_57 rfl ?_
    refine r_iastore (n := 60) f_87_66 ⟨rfl, rfl⟩ (o4 c1) ?_
    refine r_iload_n (v := x3) f_87_67 rfl ?_
    refine r_iconst f_87_68 (by decide) ?_
    refine r_iadd (u := x3 + 1) f_87_69 rfl (o5 c1) ?_
    exact r_reti f_87_70 rfl (k6 c1)

theorem g_Pl_afterStep_98 {Q : PQ} {h : HP} {x3 : Int} {x4 : Int} {s0 : Int} {t1 : Nat} (h_t1 : isT t1) {f2 : Nat} (h_f2 : isF f2)
    (o1 : s0 = 0 → 0 ≤ x3 ∧ x3 < 60)
    (o2 : s0 = 0 → -2147483648 ≤ (h (t1 + 5) x3.toNat) + 1 ∧ (h (t1 + 5) x3.toNat) + 1 ≤ 2147483647)
    (k3 : s0 = 0 → Q (some (vi ((h (t1 + 5) x3.toNat) + 1))) h)
    (o4 : ¬ s0 = 0 → -2147483648 ≤ x3 + 1 ∧ x3 + 1 ≤ 2147483647)
    (k5 : ¬ s0 = 0 → Q (some (vi (x3 + 1))) h) :
    Wp true i_Pl_afterStep 98 [vr 99, vr t1, vr f2, vi x3, vi x4, vr 9999] [vi s0] h Q := by
  refine r_br (t := 107) f_87_98 rfl cb_eq (fun c1 => ?_) (fun c1 => ?_)
  · refine r_aload_n (v := t1) f_87_107 rfl (T_n h_t1) ?_
    refine r_getr (q := (t1 + 5)) f_87_108 (T_k h_t1) (by decide) (Or.inl rfl) rfl ?_
    refine r_iload_n (v := x3) f_87_111 rfl ?_
    refine r_iaload (n := 60) (v := h (t1 + 5) x3.toNat) f_87_112 (T_5 h_t1) (o1 c1) rfl ?_
    refine r_iconst f_87_113 (by decide) ?_
    refine r_iadd (u := (h (t1 + 5) x3.toNat) + 1) f_87_114 rfl (o2 c1) ?_
    exact r_reti f_87_115 rfl (k3 c1)
  · refine r_iload_n (v := x3) f_87_101 rfl ?_
    refine r_iconst f_87_102 (by decide) ?_
    refine r_iadd (u := x3 + 1) f_87_103 rfl (o4 c1) ?_
    refine r_goto (t := 115) f_87_104 rfl ?_
    exact r_reti f_87_115 rfl (k5 c1)

theorem g_Pl_afterStep_123 {Q : PQ} {h : HP} {x3 : Int} {x4 : Int} {s0 : Int} {t1 : Nat} (h_t1 : isT t1) {f2 : Nat} (h_f2 : isF f2)
    (o1 : ¬ s0 = 0 → -2147483648 ≤ x3 + 1 ∧ x3 + 1 ≤ 2147483647)
    (k2 : ¬ s0 = 0 → Q (some (vi (x3 + 1))) h)
    (o3 : s0 = 0 → -2147483648 ≤ (h 99 1) + 1 ∧ (h 99 1) + 1 ≤ 2147483647)
    (o4 : s0 = 0 → -2147483648 ≤ x3 + 1 ∧ x3 + 1 ≤ 2147483647)
    (k5 : s0 = 0 → Q (some (vi (x3 + 1))) (hs h 99 1 ((h 99 1) + 1))) :
    Wp true i_Pl_afterStep 123 [vr 99, vr t1, vr f2, vi x3, vi x4, vr 9999] [vi s0] h Q := by
  refine r_br (t := 136) f_87_123 rfl cb_ne (fun c1 => ?_) (fun c1 => ?_)
  · refine r_iload_n (v := x3) f_87_136 rfl ?_
    refine r_iconst f_87_137 (by decide) ?_
    refine r_iadd (u := x3 + 1) f_87_138 rfl (o1 c1) ?_
    exact r_reti f_87_139 rfl (k2 c1)
  · have c1 := Decidable.not_not.mp c1
    refine r_aload_n (v := 99) f_87_126 rfl (by decide) ?_
    refine r_dupr f_87_127 ?_
    refine r_geti (v := h 99 1) f_87_128 rfl (by decide) rfl ?_
    refine r_iconst f_87_131 (by decide) ?_
    refine r_iadd (u := (h 99 1) + 1) f_87_132 rfl (o3 c1) ?_
    refine r_puti f_87_133 rfl (by decide) ?_
    refine r_iload_n (v := x3) f_87_136 rfl ?_
    refine r_iconst f_87_137 (by decide) ?_
    refine r_iadd (u := x3 + 1) f_87_138 rfl (o4 c1) ?_
    exact r_reti f_87_139 rfl (k5 c1)

theorem g_Pl_holdsTrue_0 {Q : PQ} {h : HP} {x2 : Int} {t0 : Nat} (h_t0 : isT t0) {f1 : Nat} (h_f1 : isF f1)
    (o1 : 0 ≤ x2 ∧ x2 < 60)
    (o2 : ¬ h (t0 + 1) x2.toNat = 18 → ¬ h (t0 + 1) x2.toNat = 16 → WR (rmC h f1))
    (o3 : ¬ h (t0 + 1) x2.toNat = 18 → ¬ h (t0 + 1) x2.toNat = 16 → (h (t0 + 2) x2.toNat) = 0 ∨ (h (t0 + 2) x2.toNat) = 1)
    (k4 : ¬ h (t0 + 1) x2.toNat = 18 → ¬ h (t0 + 1) x2.toNat = 16 → Wp true i_Pl_holdsTrue 62 [vr t0, vr f1, vi x2, vi (h (t0 + 2) x2.toNat), vr 9999] [vi (rVal (rmC h f1) (h (t0 + 2) x2.toNat) (h (t0 + 2) x2.toNat))] h Q)
    (o5 : ¬ h (t0 + 1) x2.toNat = 18 → h (t0 + 1) x2.toNat = 16 → WR (rmC h f1))
    (k6 : ¬ h (t0 + 1) x2.toNat = 18 → h (t0 + 1) x2.toNat = 16 → Wp true i_Pl_holdsTrue 62 [vr t0, vr f1, vi x2, vi (h (t0 + 2) x2.toNat), vr 9999] [vi (rBoards (rmC h f1) (h (t0 + 2) x2.toNat))] h Q)
    (o7 : h (t0 + 1) x2.toNat = 18 → WR (rmC h f1))
    (o8 : h (t0 + 1) x2.toNat = 18 → 0 ≤ (h (t0 + 3) x2.toNat) ∧ (h (t0 + 3) x2.toNat) < h f1 3)
    (k9 : h (t0 + 1) x2.toNat = 18 → ¬ rHo (rmC h f1) (h (t0 + 3) x2.toNat).toNat = h (t0 + 2) x2.toNat → Q (some (vi 0)) h)
    (k10 : h (t0 + 1) x2.toNat = 18 → rHo (rmC h f1) (h (t0 + 3) x2.toNat).toNat = h (t0 + 2) x2.toNat → Q (some (vi 1)) h) :
    Wp true i_Pl_holdsTrue 0 [vr t0, vr f1, vi x2, vr 9999, vr 9999] [] h Q := by
  refine r_aload_n (v := t0) f_88_0 rfl (T_n h_t0) ?_
  refine r_getr (q := (t0 + 2)) f_88_1 (T_k h_t0) (by decide) (Or.inl rfl) rfl ?_
  refine r_iload_n (v := x2) f_88_4 rfl ?_
  refine r_iaload (n := 60) (v := h (t0 + 2) x2.toNat) f_88_5 (T_2 h_t0) o1 rfl ?_
  refine r_istore_n (ls' := [vr t0, vr f1, vi x2, vi (h (t0 + 2) x2.toNat), vr 9999]) f_88_6 (Nat.le_of_ble_eq_true rfl) rfl ?_
  refine r_aload_n (v := t0) f_88_7 rfl (T_n h_t0) ?_
  refine r_getr (q := (t0 + 1)) f_88_8 (T_k h_t0) (by decide) (Or.inl rfl) rfl ?_
  refine r_iload_n (v := x2) f_88_11 rfl ?_
  refine r_iaload (n := 60) (v := h (t0 + 1) x2.toNat) f_88_12 (T_1 h_t0) o1 rfl ?_
  refine r_bipush f_88_13 (by decide) ?_
  refine r_br2 (t := 38) f_88_15 rfl cb_ne (fun c1 => ?_) (fun c1 => ?_)
  · refine r_aload_n (v := t0) f_88_38 rfl (T_n h_t0) ?_
    refine r_getr (q := (t0 + 1)) f_88_39 (T_k h_t0) (by decide) (Or.inl rfl) rfl ?_
    refine r_iload_n (v := x2) f_88_42 rfl ?_
    refine r_iaload (n := 60) (v := h (t0 + 1) x2.toNat) f_88_43 (T_1 h_t0) o1 rfl ?_
    refine r_bipush f_88_44 (by decide) ?_
    refine r_br2 (t := 57) f_88_46 rfl cb_ne (fun c2 => ?_) (fun c2 => ?_)
    · refine r_aload_n (v := f1) f_88_57 rfl (F_n h_f1) ?_
      refine r_iload_n (v := h (t0 + 2) x2.toNat) f_88_58 rfl ?_
      refine r_callv (as := [vr f1, vi (h (t0 + 2) x2.toNat)]) (st' := []) (ls0 := [vr f1, vi (h (t0 + 2) x2.toNat)]) f_88_59 (by decide) rfl rfl (Nat.le_of_ble_eq_true rfl) (Nat.le_of_ble_eq_true rfl) ⟨_, _, rfl, (F_k h_f1)⟩ rfl ?_
      refine c_Fl_valueOf h_f1 (o2 c1 c2) (o3 c1 c2) ?_
      show Wp true i_Pl_holdsTrue 62 [vr t0, vr f1, vi x2, vi (h (t0 + 2) x2.toNat), vr 9999] [vi (rVal (rmC h f1) (h (t0 + 2) x2.toNat) (h (t0 + 2) x2.toNat))] h Q
      exact (k4 c1 c2)
    · have c2 := Decidable.not_not.mp c2
      refine r_aload_n (v := f1) f_88_49 rfl (F_n h_f1) ?_
      refine r_iload_n (v := h (t0 + 2) x2.toNat) f_88_50 rfl ?_
      refine r_callv (as := [vr f1, vi (h (t0 + 2) x2.toNat)]) (st' := []) (ls0 := [vr f1, vi (h (t0 + 2) x2.toNat), vr 9999, vr 9999, vr 9999, vr 9999]) f_88_51 (by decide) rfl rfl (Nat.le_of_ble_eq_true rfl) (Nat.le_of_ble_eq_true rfl) ⟨_, _, rfl, (F_k h_f1)⟩ rfl ?_
      refine c_Fl_boardsOf h_f1 (o5 c1 c2) ?_
      show Wp true i_Pl_holdsTrue 54 [vr t0, vr f1, vi x2, vi (h (t0 + 2) x2.toNat), vr 9999] [vi (rBoards (rmC h f1) (h (t0 + 2) x2.toNat))] h Q
      refine r_goto (t := 62) f_88_54 rfl ?_
      exact (k6 c1 c2)
  · have c1 := Decidable.not_not.mp c1
    refine r_aload_n (v := f1) f_88_18 rfl (F_n h_f1) ?_
    refine r_aload_n (v := t0) f_88_19 rfl (T_n h_t0) ?_
    refine r_getr (q := (t0 + 3)) f_88_20 (T_k h_t0) (by decide) (Or.inl rfl) rfl ?_
    refine r_iload_n (v := x2) f_88_23 rfl ?_
    refine r_iaload (n := 60) (v := h (t0 + 3) x2.toNat) f_88_24 (T_3 h_t0) o1 rfl ?_
    refine r_callv (as := [vr f1, vi (h (t0 + 3) x2.toNat)]) (st' := []) (ls0 := [vr f1, vi (h (t0 + 3) x2.toNat)]) f_88_25 (by decide) rfl rfl (Nat.le_of_ble_eq_true rfl) (Nat.le_of_ble_eq_true rfl) ⟨_, _, rfl, (F_k h_f1)⟩ rfl ?_
    refine c_Fl_holderOf h_f1 (o7 c1) (o8 c1) ?_
    show Wp true i_Pl_holdsTrue 28 [vr t0, vr f1, vi x2, vi (h (t0 + 2) x2.toNat), vr 9999] [vi (rHo (rmC h f1) (h (t0 + 3) x2.toNat).toNat)] h Q
    refine r_iload_n (v := h (t0 + 2) x2.toNat) f_88_28 rfl ?_
    refine r_br2 (t := 36) f_88_29 rfl cb_ne (fun c2 => ?_) (fun c2 => ?_)
    · refine r_iconst f_88_36 (by decide) ?_
      exact r_retz f_88_37 rfl (by decide) (k9 c1 c2)
    · have c2 := Decidable.not_not.mp c2
      refine r_iconst f_88_32 (by decide) ?_
      refine r_goto (t := 37) f_88_33 rfl ?_
      exact r_retz f_88_37 rfl (by decide) (k10 c1 c2)

theorem g_Pl_holdsTrue_62 {Q : PQ} {h : HP} {x2 : Int} {x3 : Int} {s0 : Int} {t0 : Nat} (h_t0 : isT t0) {f1 : Nat} (h_f1 : isF f1)
    (o1 : 0 ≤ x2 ∧ x2 < 60)
    (k2 : h (t0 + 3) x2.toNat = 60 → h (t0 + 4) x2.toNat ≤ s0 → Q (some (vi 0)) h)
    (k3 : h (t0 + 3) x2.toNat = 60 → ¬ h (t0 + 4) x2.toNat ≤ s0 → Q (some (vi 1)) h)
    (k4 : h (t0 + 3) x2.toNat = 62 → s0 ≤ h (t0 + 4) x2.toNat → Q (some (vi 0)) h)
    (k5 : h (t0 + 3) x2.toNat = 62 → ¬ s0 ≤ h (t0 + 4) x2.toNat → Q (some (vi 1)) h)
    (k6 : ¬ h (t0 + 3) x2.toNat = 60 → ¬ h (t0 + 3) x2.toNat = 62 → ¬ s0 = h (t0 + 4) x2.toNat → Q (some (vi 0)) h)
    (k7 : ¬ h (t0 + 3) x2.toNat = 60 → ¬ h (t0 + 3) x2.toNat = 62 → s0 = h (t0 + 4) x2.toNat → Q (some (vi 1)) h) :
    Wp true i_Pl_holdsTrue 62 [vr t0, vr f1, vi x2, vi x3, vr 9999] [vi s0] h Q := by
  refine r_istore (ls' := [vr t0, vr f1, vi x2, vi x3, vi s0]) f_88_62 (Nat.le_of_ble_eq_true rfl) rfl ?_
  refine r_aload_n (v := t0) f_88_64 rfl (T_n h_t0) ?_
  refine r_getr (q := (t0 + 3)) f_88_65 (T_k h_t0) (by decide) (Or.inl rfl) rfl ?_
  refine r_iload_n (v := x2) f_88_68 rfl ?_
  refine r_iaload (n := 60) (v := h (t0 + 3) x2.toNat) f_88_69 (T_3 h_t0) o1 rfl ?_
  by_cases c1 : h (t0 + 3) x2.toNat = 60
  · refine r_lki (t := 96) f_88_70 (by rw [c1]; rfl) ?_
    refine r_iload (v := s0) f_88_96 rfl ?_
    refine r_aload_n (v := t0) f_88_98 rfl (T_n h_t0) ?_
    refine r_getr (q := (t0 + 4)) f_88_99 (T_k h_t0) (by decide) (Or.inl rfl) rfl ?_
    refine r_iload_n (v := x2) f_88_102 rfl ?_
    refine r_iaload (n := 60) (v := h (t0 + 4) x2.toNat) f_88_103 (T_4 h_t0) o1 rfl ?_
    refine r_br2 (t := 111) f_88_104 rfl cb_ge (fun c2 => ?_) (fun c2 => ?_)
    · refine r_iconst f_88_111 (by decide) ?_
      exact r_retz f_88_112 rfl (by decide) (k2 c1 c2)
    · refine r_iconst f_88_107 (by decide) ?_
      refine r_goto (t := 112) f_88_108 rfl ?_
      exact r_retz f_88_112 rfl (by decide) (k3 c1 c2)
  by_cases c2 : h (t0 + 3) x2.toNat = 62
  · refine r_lki (t := 113) f_88_70 (by rw [c2]; rfl) ?_
    refine r_iload (v := s0) f_88_113 rfl ?_
    refine r_aload_n (v := t0) f_88_115 rfl (T_n h_t0) ?_
    refine r_getr (q := (t0 + 4)) f_88_116 (T_k h_t0) (by decide) (Or.inl rfl) rfl ?_
    refine r_iload_n (v := x2) f_88_119 rfl ?_
    refine r_iaload (n := 60) (v := h (t0 + 4) x2.toNat) f_88_120 (T_4 h_t0) o1 rfl ?_
    refine r_br2 (t := 128) f_88_121 rfl cb_le (fun c3 => ?_) (fun c3 => ?_)
    · refine r_iconst f_88_128 (by decide) ?_
      exact r_retz f_88_129 rfl (by decide) (k4 c2 c3)
    · refine r_iconst f_88_124 (by decide) ?_
      refine r_goto (t := 129) f_88_125 rfl ?_
      exact r_retz f_88_129 rfl (by decide) (k5 c2 c3)
  refine r_lki (t := 130) f_88_70 (by simp [Op.lookupswitch.offset_cons, Op.lookupswitch.offset, Ne.symm c1, Ne.symm c2]; rfl) ?_
  refine r_iload (v := s0) f_88_130 rfl ?_
  refine r_aload_n (v := t0) f_88_132 rfl (T_n h_t0) ?_
  refine r_getr (q := (t0 + 4)) f_88_133 (T_k h_t0) (by decide) (Or.inl rfl) rfl ?_
  refine r_iload_n (v := x2) f_88_136 rfl ?_
  refine r_iaload (n := 60) (v := h (t0 + 4) x2.toNat) f_88_137 (T_4 h_t0) o1 rfl ?_
  refine r_br2 (t := 145) f_88_138 rfl cb_ne (fun c3 => ?_) (fun c3 => ?_)
  · refine r_iconst f_88_145 (by decide) ?_
    exact r_retz f_88_146 rfl (by decide) (k6 c1 c2 c3)
  · have c3 := Decidable.not_not.mp c3
    refine r_iconst f_88_141 (by decide) ?_
    refine r_goto (t := 146) f_88_142 rfl ?_
    exact r_retz f_88_146 rfl (by decide) (k7 c1 c2 c3)

theorem g_Pl_doStep_0 {Q : PQ} {h : HP} {x3 : Int} {t1 : Nat} (h_t1 : isT t1) {f2 : Nat} (h_f2 : isF f2)
    (o1 : 0 ≤ x3 ∧ x3 < 60)
    (k2 : h (t1 + 1) x3.toNat = 9 → Wp true i_Pl_doYield 0 [vr 99, vr f2, vi (h (t1 + 2) x3.toNat), vi (h (t1 + 3) x3.toNat), vi (h (t1 + 4) x3.toNat), vr 9999] [] h (fun r h' => Wp true i_Pl_doStep 67 [vr 99, vr t1, vr f2, vi x3] (r.toList ++ []) h' Q))
    (k3 : h (t1 + 1) x3.toNat = 11 → Wp true i_Fl_sweepRow 0 [vr f2, vi (h (t1 + 2) x3.toNat), vr 9999] [] h (fun r h' => Wp true i_Pl_doStep 78 [vr 99, vr t1, vr f2, vi x3] (r.toList ++ []) h' Q))
    (k4 : h (t1 + 1) x3.toNat = 12 → Wp true i_Fl_moveThing 0 [vr f2, vi (h (t1 + 2) x3.toNat), vi (h (t1 + 3) x3.toNat), vi (h (t1 + 4) x3.toNat)] [] h (fun r h' => Wp true i_Pl_doStep 101 [vr 99, vr t1, vr f2, vi x3] (r.toList ++ []) h' Q))
    (k5 : h (t1 + 1) x3.toNat = 14 → h f2 1 ≤ 0 → Q (some (vi 0)) h)
    (k6 : h (t1 + 1) x3.toNat = 14 → ¬ h f2 1 ≤ 0 → Wp true i_Pl_nextDraw 0 [vr 99, vi (h f2 1)] [] h (fun r h' => Wp true i_Pl_doStep 125 [vr 99, vr t1, vr f2, vi x3] (r.toList ++ [vi (h (t1 + 2) x3.toNat), vr f2, vr 99]) h' Q))
    (k7 : h (t1 + 1) x3.toNat = 10 → Wp true i_Fl_passNight 0 [vr f2, vr 9999, vr 9999] [] h (fun r h' => Wp true i_Pl_doStep 142 [vr 99, vr t1, vr f2, vi x3] (r.toList ++ []) h' Q))
    (k8 : h (t1 + 1) x3.toNat = 13 → Wp true i_Fl_passNight 0 [vr f2, vr 9999, vr 9999] [] h (fun r h' => Wp true i_Pl_doStep 142 [vr 99, vr t1, vr f2, vi x3] (r.toList ++ []) h' Q))
    (k9 : ¬ h (t1 + 1) x3.toNat = 9 → ¬ h (t1 + 1) x3.toNat = 11 → ¬ h (t1 + 1) x3.toNat = 12 → ¬ h (t1 + 1) x3.toNat = 14 → ¬ h (t1 + 1) x3.toNat = 10 → ¬ h (t1 + 1) x3.toNat = 13 → Wp true i_Fl_passNight 0 [vr f2, vr 9999, vr 9999] [] h (fun r h' => Wp true i_Pl_doStep 142 [vr 99, vr t1, vr f2, vi x3] (r.toList ++ []) h' Q)) :
    Wp true i_Pl_doStep 0 [vr 99, vr t1, vr f2, vi x3] [] h Q := by
  refine r_aload_n (v := t1) f_89_0 rfl (T_n h_t1) ?_
  refine r_getr (q := (t1 + 1)) f_89_1 (T_k h_t1) (by decide) (Or.inl rfl) rfl ?_
  refine r_iload_n (v := x3) f_89_4 rfl ?_
  refine r_iaload (n := 60) (v := h (t1 + 1) x3.toNat) f_89_5 (T_1 h_t1) o1 rfl ?_
  by_cases c1 : h (t1 + 1) x3.toNat = 9
  · refine r_swi (t := 44) f_89_6 9 c1 (by decide) rfl rfl ?_
    refine r_aload_n (v := 99) f_89_44 rfl (by decide) ?_
    refine r_aload_n (v := f2) f_89_45 rfl (F_n h_f2) ?_
    refine r_aload_n (v := t1) f_89_46 rfl (T_n h_t1) ?_
    refine r_getr (q := (t1 + 2)) f_89_47 (T_k h_t1) (by decide) (Or.inl rfl) rfl ?_
    refine r_iload_n (v := x3) f_89_50 rfl ?_
    refine r_iaload (n := 60) (v := h (t1 + 2) x3.toNat) f_89_51 (T_2 h_t1) o1 rfl ?_
    refine r_aload_n (v := t1) f_89_52 rfl (T_n h_t1) ?_
    refine r_getr (q := (t1 + 3)) f_89_53 (T_k h_t1) (by decide) (Or.inl rfl) rfl ?_
    refine r_iload_n (v := x3) f_89_56 rfl ?_
    refine r_iaload (n := 60) (v := h (t1 + 3) x3.toNat) f_89_57 (T_3 h_t1) o1 rfl ?_
    refine r_aload_n (v := t1) f_89_58 rfl (T_n h_t1) ?_
    refine r_getr (q := (t1 + 4)) f_89_59 (T_k h_t1) (by decide) (Or.inl rfl) rfl ?_
    refine r_iload_n (v := x3) f_89_62 rfl ?_
    refine r_iaload (n := 60) (v := h (t1 + 4) x3.toNat) f_89_63 (T_4 h_t1) o1 rfl ?_
    exact r_callv (as := [vr 99, vr f2, vi (h (t1 + 2) x3.toNat), vi (h (t1 + 3) x3.toNat), vi (h (t1 + 4) x3.toNat)]) (st' := []) (ls0 := [vr 99, vr f2, vi (h (t1 + 2) x3.toNat), vi (h (t1 + 3) x3.toNat), vi (h (t1 + 4) x3.toNat), vr 9999]) f_89_64 (by decide) rfl rfl (Nat.le_of_ble_eq_true rfl) (Nat.le_of_ble_eq_true rfl) ⟨_, _, rfl, rfl⟩ rfl (k2 c1)
  by_cases c2 : h (t1 + 1) x3.toNat = 11
  · refine r_swi (t := 68) f_89_6 11 c2 (by decide) rfl rfl ?_
    refine r_aload_n (v := f2) f_89_68 rfl (F_n h_f2) ?_
    refine r_aload_n (v := t1) f_89_69 rfl (T_n h_t1) ?_
    refine r_getr (q := (t1 + 2)) f_89_70 (T_k h_t1) (by decide) (Or.inl rfl) rfl ?_
    refine r_iload_n (v := x3) f_89_73 rfl ?_
    refine r_iaload (n := 60) (v := h (t1 + 2) x3.toNat) f_89_74 (T_2 h_t1) o1 rfl ?_
    exact r_callv (as := [vr f2, vi (h (t1 + 2) x3.toNat)]) (st' := []) (ls0 := [vr f2, vi (h (t1 + 2) x3.toNat), vr 9999]) f_89_75 (by decide) rfl rfl (Nat.le_of_ble_eq_true rfl) (Nat.le_of_ble_eq_true rfl) ⟨_, _, rfl, (F_k h_f2)⟩ rfl (k3 c2)
  by_cases c3 : h (t1 + 1) x3.toNat = 12
  · refine r_swi (t := 79) f_89_6 12 c3 (by decide) rfl rfl ?_
    refine r_aload_n (v := f2) f_89_79 rfl (F_n h_f2) ?_
    refine r_aload_n (v := t1) f_89_80 rfl (T_n h_t1) ?_
    refine r_getr (q := (t1 + 2)) f_89_81 (T_k h_t1) (by decide) (Or.inl rfl) rfl ?_
    refine r_iload_n (v := x3) f_89_84 rfl ?_
    refine r_iaload (n := 60) (v := h (t1 + 2) x3.toNat) f_89_85 (T_2 h_t1) o1 rfl ?_
    refine r_aload_n (v := t1) f_89_86 rfl (T_n h_t1) ?_
    refine r_getr (q := (t1 + 3)) f_89_87 (T_k h_t1) (by decide) (Or.inl rfl) rfl ?_
    refine r_iload_n (v := x3) f_89_90 rfl ?_
    refine r_iaload (n := 60) (v := h (t1 + 3) x3.toNat) f_89_91 (T_3 h_t1) o1 rfl ?_
    refine r_aload_n (v := t1) f_89_92 rfl (T_n h_t1) ?_
    refine r_getr (q := (t1 + 4)) f_89_93 (T_k h_t1) (by decide) (Or.inl rfl) rfl ?_
    refine r_iload_n (v := x3) f_89_96 rfl ?_
    refine r_iaload (n := 60) (v := h (t1 + 4) x3.toNat) f_89_97 (T_4 h_t1) o1 rfl ?_
    exact r_callv (as := [vr f2, vi (h (t1 + 2) x3.toNat), vi (h (t1 + 3) x3.toNat), vi (h (t1 + 4) x3.toNat)]) (st' := []) (ls0 := [vr f2, vi (h (t1 + 2) x3.toNat), vi (h (t1 + 3) x3.toNat), vi (h (t1 + 4) x3.toNat)]) f_89_98 (by decide) rfl rfl (Nat.le_of_ble_eq_true rfl) (Nat.le_of_ble_eq_true rfl) ⟨_, _, rfl, (F_k h_f2)⟩ rfl (k4 c3)
  by_cases c4 : h (t1 + 1) x3.toNat = 14
  · refine r_swi (t := 102) f_89_6 14 c4 (by decide) rfl rfl ?_
    refine r_aload_n (v := f2) f_89_102 rfl (F_n h_f2) ?_
    refine r_geti (v := h f2 1) f_89_103 (F_k h_f2) (by decide) rfl ?_
    refine r_br (t := 136) f_89_106 rfl cb_le (fun c5 => ?_) (fun c5 => ?_)
    · refine r_iconst f_89_136 (by decide) ?_
      exact r_retz f_89_137 rfl (by decide) (k5 c4 c5)
    · refine r_aload_n (v := 99) f_89_109 rfl (by decide) ?_
      refine r_aload_n (v := f2) f_89_110 rfl (F_n h_f2) ?_
      refine r_aload_n (v := t1) f_89_111 rfl (T_n h_t1) ?_
      refine r_getr (q := (t1 + 2)) f_89_112 (T_k h_t1) (by decide) (Or.inl rfl) rfl ?_
      refine r_iload_n (v := x3) f_89_115 rfl ?_
      refine r_iaload (n := 60) (v := h (t1 + 2) x3.toNat) f_89_116 (T_2 h_t1) o1 rfl ?_
      refine r_aload_n (v := 99) f_89_117 rfl (by decide) ?_
      refine r_aload_n (v := f2) f_89_118 rfl (F_n h_f2) ?_
      refine r_geti (v := h f2 1) f_89_119 (F_k h_f2) (by decide) rfl ?_
      exact r_callv (as := [vr 99, vi (h f2 1)]) (st' := [vi (h (t1 + 2) x3.toNat), vr f2, vr 99]) (ls0 := [vr 99, vi (h f2 1)]) f_89_122 (by decide) rfl rfl (Nat.le_of_ble_eq_true rfl) (Nat.le_of_ble_eq_true rfl) ⟨_, _, rfl, rfl⟩ rfl (k6 c4 c5)
  by_cases c5 : h (t1 + 1) x3.toNat = 10
  · refine r_swi (t := 138) f_89_6 10 c5 (by decide) rfl rfl ?_
    refine r_aload_n (v := f2) f_89_138 rfl (F_n h_f2) ?_
    exact r_callv (as := [vr f2]) (st' := []) (ls0 := [vr f2, vr 9999, vr 9999]) f_89_139 (by decide) rfl rfl (Nat.le_of_ble_eq_true rfl) (Nat.le_of_ble_eq_true rfl) ⟨_, _, rfl, (F_k h_f2)⟩ rfl (k7 c5)
  by_cases c6 : h (t1 + 1) x3.toNat = 13
  · refine r_swi (t := 138) f_89_6 13 c6 (by decide) rfl rfl ?_
    refine r_aload_n (v := f2) f_89_138 rfl (F_n h_f2) ?_
    exact r_callv (as := [vr f2]) (st' := []) (ls0 := [vr f2, vr 9999, vr 9999]) f_89_139 (by decide) rfl rfl (Nat.le_of_ble_eq_true rfl) (Nat.le_of_ble_eq_true rfl) ⟨_, _, rfl, (F_k h_f2)⟩ rfl (k8 c6)
  refine r_swo (t := 138) f_89_6 (by omega) rfl ?_
  refine r_aload_n (v := f2) f_89_138 rfl (F_n h_f2) ?_
  exact r_callv (as := [vr f2]) (st' := []) (ls0 := [vr f2, vr 9999, vr 9999]) f_89_139 (by decide) rfl rfl (Nat.le_of_ble_eq_true rfl) (Nat.le_of_ble_eq_true rfl) ⟨_, _, rfl, (F_k h_f2)⟩ rfl (k9 c1 c2 c3 c4 c5 c6)

theorem g_Pl_doStep_67 {Q : PQ} {h : HP} {x3 : Int} {s0 : Int} {t1 : Nat} (h_t1 : isT t1) {f2 : Nat} (h_f2 : isF f2)
    (o1 : s0 = 0 ∨ s0 = 1)
    (k2 : Q (some (vi s0)) h) :
    Wp true i_Pl_doStep 67 [vr 99, vr t1, vr f2, vi x3] [vi s0] h Q := by
  exact r_retz f_89_67 rfl o1 k2

theorem g_Pl_doStep_78 {Q : PQ} {h : HP} {x3 : Int} {s0 : Int} {t1 : Nat} (h_t1 : isT t1) {f2 : Nat} (h_f2 : isF f2)
    (o1 : s0 = 0 ∨ s0 = 1)
    (k2 : Q (some (vi s0)) h) :
    Wp true i_Pl_doStep 78 [vr 99, vr t1, vr f2, vi x3] [vi s0] h Q := by
  exact r_retz f_89_78 rfl o1 k2

theorem g_Pl_doStep_101 {Q : PQ} {h : HP} {x3 : Int} {s0 : Int} {t1 : Nat} (h_t1 : isT t1) {f2 : Nat} (h_f2 : isF f2)
    (o1 : s0 = 0 ∨ s0 = 1)
    (k2 : Q (some (vi s0)) h) :
    Wp true i_Pl_doStep 101 [vr 99, vr t1, vr f2, vi x3] [vi s0] h Q := by
  exact r_retz f_89_101 rfl o1 k2

theorem g_Pl_doStep_125 {Q : PQ} {h : HP} {x3 : Int} {s2 : Int} {s3 : Int} {t1 : Nat} (h_t1 : isT t1) {f2 : Nat} (h_f2 : isF f2)
    (k1 : Wp true i_Pl_doYield 0 [vr 99, vr f2, vi s2, vi s3, vi 1, vr 9999] [] h (fun r h' => Wp true i_Pl_doStep 129 [vr 99, vr t1, vr f2, vi x3] (r.toList ++ []) h' Q)) :
    Wp true i_Pl_doStep 125 [vr 99, vr t1, vr f2, vi x3] [vi s3, vi s2, vr f2, vr 99] h Q := by
  refine r_iconst f_89_125 (by decide) ?_
  exact r_callv (as := [vr 99, vr f2, vi s2, vi s3, vi 1]) (st' := []) (ls0 := [vr 99, vr f2, vi s2, vi s3, vi 1, vr 9999]) f_89_126 (by decide) rfl rfl (Nat.le_of_ble_eq_true rfl) (Nat.le_of_ble_eq_true rfl) ⟨_, _, rfl, rfl⟩ rfl k1

theorem g_Pl_doStep_129 {Q : PQ} {h : HP} {x3 : Int} {s0 : Int} {t1 : Nat} (h_t1 : isT t1) {f2 : Nat} (h_f2 : isF f2)
    (k1 : s0 = 0 → Q (some (vi 0)) h)
    (k2 : ¬ s0 = 0 → Q (some (vi 1)) h) :
    Wp true i_Pl_doStep 129 [vr 99, vr t1, vr f2, vi x3] [vi s0] h Q := by
  refine r_br (t := 136) f_89_129 rfl cb_eq (fun c1 => ?_) (fun c1 => ?_)
  · refine r_iconst f_89_136 (by decide) ?_
    exact r_retz f_89_137 rfl (by decide) (k1 c1)
  · refine r_iconst f_89_132 (by decide) ?_
    refine r_goto (t := 137) f_89_133 rfl ?_
    exact r_retz f_89_137 rfl (by decide) (k2 c1)

theorem g_Pl_doStep_142 {Q : PQ} {h : HP} {x3 : Int} {s0 : Int} {t1 : Nat} (h_t1 : isT t1) {f2 : Nat} (h_f2 : isF f2)
    (o1 : -2147483648 ≤ (h 99 2) + 1 ∧ (h 99 2) + 1 ≤ 2147483647)
    (k2 : Q (some (vi 1)) (hs h 99 2 ((h 99 2) + 1))) :
    Wp true i_Pl_doStep 142 [vr 99, vr t1, vr f2, vi x3] [vi s0] h Q := by
  refine r_popi f_89_142 ?_
  refine r_aload_n (v := 99) f_89_143 rfl (by decide) ?_
  refine r_dupr f_89_144 ?_
  refine r_geti (v := h 99 2) f_89_145 rfl (by decide) rfl ?_
  refine r_iconst f_89_148 (by decide) ?_
  refine r_iadd (u := (h 99 2) + 1) f_89_149 rfl o1 ?_
  refine r_puti f_89_150 rfl (by decide) ?_
  refine r_iconst f_89_153 (by decide) ?_
  exact r_retz f_89_154 rfl (by decide) k2

theorem g_Pl_doYield_0 {Q : PQ} {h : HP} {x2 : Int} {x3 : Int} {x4 : Int} {f1 : Nat} (h_f1 : isF f1)
    (k1 : Wp true i_Fl_yieldBoards 0 [vr f1, vi x2, vi x3, vi x4, vr 9999] [] h (fun r h' => Wp true i_Pl_doYield 8 [vr 99, vr f1, vi x2, vi x3, vi x4, vr 9999] (r.toList ++ []) h' Q)) :
    Wp true i_Pl_doYield 0 [vr 99, vr f1, vi x2, vi x3, vi x4, vr 9999] [] h Q := by
  refine r_aload_n (v := f1) f_90_0 rfl (F_n h_f1) ?_
  refine r_iload_n (v := x2) f_90_1 rfl ?_
  refine r_iload_n (v := x3) f_90_2 rfl ?_
  refine r_iload (v := x4) f_90_3 rfl ?_
  exact r_callv (as := [vr f1, vi x2, vi x3, vi x4]) (st' := []) (ls0 := [vr f1, vi x2, vi x3, vi x4, vr 9999]) f_90_5 (by decide) rfl rfl (Nat.le_of_ble_eq_true rfl) (Nat.le_of_ble_eq_true rfl) ⟨_, _, rfl, (F_k h_f1)⟩ rfl k1

theorem g_Pl_doYield_8 {Q : PQ} {h : HP} {x2 : Int} {x3 : Int} {x4 : Int} {s0 : Int} {f1 : Nat} (h_f1 : isF f1)
    (o1 : 0 ≤ x2 ∧ x2 < 2)
    (o2 : -2147483648 ≤ (h 100 x2.toNat) + s0 ∧ (h 100 x2.toNat) + s0 ≤ 2147483647)
    (k3 : s0 ≤ 0 → Q (some (vi 0)) (hs h 100 x2.toNat ((h 100 x2.toNat) + s0)))
    (k4 : ¬ s0 ≤ 0 → Q (some (vi 1)) (hs h 100 x2.toNat ((h 100 x2.toNat) + s0))) :
    Wp true i_Pl_doYield 8 [vr 99, vr f1, vi x2, vi x3, vi x4, vr 9999] [vi s0] h Q := by
  refine r_istore (ls' := [vr 99, vr f1, vi x2, vi x3, vi x4, vi s0]) f_90_8 (Nat.le_of_ble_eq_true rfl) rfl ?_
  refine r_aload_n (v := 99) f_90_10 rfl (by decide) ?_
  refine r_getr (q := 100) f_90_11 rfl (by decide) (Or.inl rfl) rfl ?_
  refine r_iload_n (v := x2) f_90_14 rfl ?_
  refine r_dup2ir f_90_15 ?_
  refine r_iaload (n := 2) (v := h 100 x2.toNat) f_90_16 ⟨rfl, rfl⟩ o1 rfl ?_
  refine r_iload (v := s0) f_90_17 rfl ?_
  refine r_iadd (u := (h 100 x2.toNat) + s0) f_90_19 rfl o2 ?_
  refine r_iastore (n := 2) f_90_20 ⟨rfl, rfl⟩ o1 ?_
  refine r_iload (v := s0) f_90_21 rfl ?_
  refine r_br (t := 30) f_90_23 rfl cb_le (fun c1 => ?_) (fun c1 => ?_)
  · refine r_iconst f_90_30 (by decide) ?_
    exact r_retz f_90_31 rfl (by decide) (k3 c1)
  · refine r_iconst f_90_26 (by decide) ?_
    refine r_goto (t := 31) f_90_27 rfl ?_
    exact r_retz f_90_31 rfl (by decide) (k4 c1)

theorem g_Pl_nextDraw_0 {Q : PQ} {h : HP} {x1 : Int} 
    (o1 : -2147483648 ≤ (h 99 4) * 2957 ∧ (h 99 4) * 2957 ≤ 2147483647)
    (o2 : -2147483648 ≤ ((h 99 4) * 2957) + 11159 ∧ ((h 99 4) * 2957) + 11159 ≤ 2147483647)
    (o3 : 0 ≤ ((h 99 4) * 2957) + 11159)
    (k4 : x1 ≤ 0 → Q (some (vi 0)) (hs h 99 4 ((((h 99 4) * 2957) + 11159) % 65536)))
    (o5 : ¬ x1 ≤ 0 → 0 ≤ (((h 99 4) * 2957) + 11159) % 65536 ∧ (((h 99 4) * 2957) + 11159) % 65536 ≤ 2147483647)
    (o6 : ¬ x1 ≤ 0 → 0 ≤ ((((h 99 4) * 2957) + 11159) % 65536) / 8)
    (o7 : ¬ x1 ≤ 0 → 0 < x1)
    (k8 : ¬ x1 ≤ 0 → Q (some (vi ((((((h 99 4) * 2957) + 11159) % 65536) / 8) % x1))) (hs h 99 4 ((((h 99 4) * 2957) + 11159) % 65536))) :
    Wp true i_Pl_nextDraw 0 [vr 99, vi x1] [] h Q := by
  refine r_aload_n (v := 99) f_91_0 rfl (by decide) ?_
  refine r_aload_n (v := 99) f_91_1 rfl (by decide) ?_
  refine r_geti (v := h 99 4) f_91_2 rfl (by decide) rfl ?_
  refine r_sipush f_91_5 (by decide) ?_
  refine r_imul (u := (h 99 4) * 2957) f_91_8 rfl o1 ?_
  refine r_sipush f_91_9 (by decide) ?_
  refine r_iadd (u := ((h 99 4) * 2957) + 11159) f_91_12 rfl o2 ?_
  refine r_ldc f_91_13 (by decide) ?_
  refine r_irem f_91_15 o3 (by decide) ?_
  refine r_puti f_91_16 rfl (by decide) ?_
  refine r_iload_n (v := x1) f_91_19 rfl ?_
  refine r_br (t := 35) f_91_20 rfl cb_le (fun c1 => ?_) (fun c1 => ?_)
  · refine r_iconst f_91_35 (by decide) ?_
    exact r_reti f_91_36 rfl (k4 c1)
  · refine r_aload_n (v := 99) f_91_23 rfl (by decide) ?_
    refine r_geti (v := (((h 99 4) * 2957) + 11159) % 65536) f_91_24 rfl (by decide) (by simp [hs]) ?_
    refine r_bipush f_91_27 (by decide) ?_
    refine r_idiv f_91_29 (o5 c1) (by decide) ?_
    refine r_iload_n (v := x1) f_91_30 rfl ?_
    refine r_irem f_91_31 (o6 c1) (o7 c1) ?_
    refine r_goto (t := 36) f_91_32 rfl ?_
    exact r_reti f_91_36 rfl (k8 c1)

theorem g_Pl_record_0 {Q : PQ} {h : HP}  
    (k1 : h 99 3 = 0 → Q none (hs (hs (hs (hs (hs (hs h 99 7 1) 102 0 (h 99 1)) 102 1 (h 100 0)) 102 2 (h 100 1)) 102 3 (h 99 2)) 102 4 0))
    (k2 : ¬ h 99 3 = 0 → Q none (hs (hs (hs (hs (hs (hs h 99 7 1) 102 0 (h 99 1)) 102 1 (h 100 0)) 102 2 (h 100 1)) 102 3 (h 99 2)) 102 4 1)) :
    Wp true i_Pl_record 0 [vr 99] [] h Q := by
  refine r_aload_n (v := 99) f_84_0 rfl (by decide) ?_
  refine r_iconst f_84_1 (by decide) ?_
  refine r_putz f_84_2 rfl (by decide) (by decide) ?_
  refine r_aload_n (v := 99) f_84_5 rfl (by decide) ?_
  refine r_getr (q := 102) f_84_6 rfl (by decide) (Or.inl rfl) rfl ?_
  refine r_iconst f_84_9 (by decide) ?_
  refine r_aload_n (v := 99) f_84_10 rfl (by decide) ?_
  refine r_geti (v := h 99 1) f_84_11 rfl (by decide) (by simp [hs]) ?_
  refine r_iastore (n := 5) f_84_14 ⟨rfl, rfl⟩ (by decide) ?_
  refine r_aload_n (v := 99) f_84_15 rfl (by decide) ?_
  refine r_getr (q := 102) f_84_16 rfl (by decide) (Or.inl rfl) rfl ?_
  refine r_iconst f_84_19 (by decide) ?_
  refine r_aload_n (v := 99) f_84_20 rfl (by decide) ?_
  refine r_getr (q := 100) f_84_21 rfl (by decide) (Or.inl rfl) rfl ?_
  refine r_iconst f_84_24 (by decide) ?_
  refine r_iaload (n := 2) (v := h 100 0) f_84_25 ⟨rfl, rfl⟩ (by decide) (by simp [hs]) ?_
  refine r_iastore (n := 5) f_84_26 ⟨rfl, rfl⟩ (by decide) ?_
  refine r_aload_n (v := 99) f_84_27 rfl (by decide) ?_
  refine r_getr (q := 102) f_84_28 rfl (by decide) (Or.inl rfl) rfl ?_
  refine r_iconst f_84_31 (by decide) ?_
  refine r_aload_n (v := 99) f_84_32 rfl (by decide) ?_
  refine r_getr (q := 100) f_84_33 rfl (by decide) (Or.inl rfl) rfl ?_
  refine r_iconst f_84_36 (by decide) ?_
  refine r_iaload (n := 2) (v := h 100 1) f_84_37 ⟨rfl, rfl⟩ (by decide) (by simp [hs]) ?_
  refine r_iastore (n := 5) f_84_38 ⟨rfl, rfl⟩ (by decide) ?_
  refine r_aload_n (v := 99) f_84_39 rfl (by decide) ?_
  refine r_getr (q := 102) f_84_40 rfl (by decide) (Or.inl rfl) rfl ?_
  refine r_iconst f_84_43 (by decide) ?_
  refine r_aload_n (v := 99) f_84_44 rfl (by decide) ?_
  refine r_geti (v := h 99 2) f_84_45 rfl (by decide) (by simp [hs]) ?_
  refine r_iastore (n := 5) f_84_48 ⟨rfl, rfl⟩ (by decide) ?_
  refine r_aload_n (v := 99) f_84_49 rfl (by decide) ?_
  refine r_getr (q := 102) f_84_50 rfl (by decide) (Or.inl rfl) rfl ?_
  refine r_iconst f_84_53 (by decide) ?_
  refine r_aload_n (v := 99) f_84_54 rfl (by decide) ?_
  refine r_geti (v := h 99 3) f_84_55 rfl (by decide) (by simp [hs]) ?_
  refine r_br (t := 65) f_84_58 rfl cb_eq (fun c1 => ?_) (fun c1 => ?_)
  · refine r_iconst f_84_65 (by decide) ?_
    refine r_iastore (n := 5) f_84_66 ⟨rfl, rfl⟩ (by decide) ?_
    exact r_retv f_84_67 rfl (k1 c1)
  · refine r_iconst f_84_61 (by decide) ?_
    refine r_goto (t := 66) f_84_62 rfl ?_
    refine r_iastore (n := 5) f_84_66 ⟨rfl, rfl⟩ (by decide) ?_
    exact r_retv f_84_67 rfl (k2 c1)

theorem wd_a (w : Int) : (w = 9 ∧ wdM w = 9) ∨ (w = 10 ∧ wdM w = 10) ∨ (w = 11 ∧ wdM w = 11) ∨ (w = 12 ∧ wdM w = 12) ∨ (w = 14 ∧ wdM w = 13) ∨ (w = 19 ∧ wdM w = 16) ∨ (w = 20 ∧ wdM w = 17) ∨ (w = 21 ∧ wdM w = 18) ∨ (w = 16 ∧ wdM w = 1519) ∨ (w = 17 ∧ wdM w = 1520) ∨ (w = 18 ∧ wdM w = 1521) ∨ wdM w = 0 := by
  unfold wdM
  (repeat' split) <;> omega
theorem wd_z {w : Int} (h : wdM w = 0) : w < 9 ∨ 21 < w ∨ w = 13 ∨ w = 15 := by
  by_cases c : w < 9 ∨ 21 < w ∨ w = 13 ∨ w = 15
  · exact c
  · exfalso
    have d : w = 9 ∨ w = 10 ∨ w = 11 ∨ w = 12 ∨ w = 14 ∨ w = 16 ∨ w = 17 ∨ w = 18 ∨ w = 19 ∨ w = 20 ∨ w = 21 := by omega
    rcases d with rfl | rfl | rfl | rfl | rfl | rfl | rfl | rfl | rfl | rfl | rfl <;> exact absurd h (by decide)
theorem wd_cases (w : Int) : (w = 9 ∧ wdM w = 9) ∨ (w = 10 ∧ wdM w = 10) ∨ (w = 11 ∧ wdM w = 11) ∨ (w = 12 ∧ wdM w = 12) ∨ (w = 14 ∧ wdM w = 13) ∨ (w = 19 ∧ wdM w = 16) ∨ (w = 20 ∧ wdM w = 17) ∨ (w = 21 ∧ wdM w = 18) ∨ (w = 16 ∧ wdM w = 1519) ∨ (w = 17 ∧ wdM w = 1520) ∨ (w = 18 ∧ wdM w = 1521) ∨ (wdM w = 0 ∧ (w < 9 ∨ 21 < w ∨ w = 13 ∨ w = 15)) := by
  rcases wd_a w with h | h | h | h | h | h | h | h | h | h | h | h
  · exact Or.inl h
  · exact Or.inr (Or.inl h)
  · exact Or.inr (Or.inr (Or.inl h))
  · exact Or.inr (Or.inr (Or.inr (Or.inl h)))
  · exact Or.inr (Or.inr (Or.inr (Or.inr (Or.inl h))))
  · exact Or.inr (Or.inr (Or.inr (Or.inr (Or.inr (Or.inl h)))))
  · exact Or.inr (Or.inr (Or.inr (Or.inr (Or.inr (Or.inr (Or.inl h))))))
  · exact Or.inr (Or.inr (Or.inr (Or.inr (Or.inr (Or.inr (Or.inr (Or.inl h)))))))
  · exact Or.inr (Or.inr (Or.inr (Or.inr (Or.inr (Or.inr (Or.inr (Or.inr (Or.inl h))))))))
  · exact Or.inr (Or.inr (Or.inr (Or.inr (Or.inr (Or.inr (Or.inr (Or.inr (Or.inr (Or.inl h)))))))))
  · exact Or.inr (Or.inr (Or.inr (Or.inr (Or.inr (Or.inr (Or.inr (Or.inr (Or.inr (Or.inr (Or.inl h))))))))))
  · exact Or.inr (Or.inr (Or.inr (Or.inr (Or.inr (Or.inr (Or.inr (Or.inr (Or.inr (Or.inr (Or.inr (⟨h, wd_z h⟩)))))))))))
theorem tk_26 {h T : HP} {e : Nat} (eT : tkC h 26 = T) (he : (e : Int) < h 26 2) : T 0 e = wdM (h 27 e) ∧ T 1 e = h 28 e ∧ T 2 e = (if h 27 e = 16 ∨ h 27 e = 17 then h 30 e else h 29 e) ∧ T 3 e = (if h 27 e = 16 ∨ h 27 e = 17 then 0 else h 30 e) ∧ T 4 e = (if 16 ≤ h 27 e ∧ h 27 e ≤ 20 then h 31 e else 0) ∧ T 5 e = (if h 27 e = 16 ∨ h 27 e = 17 then h 29 e else 0) := by
  rw [← eT]
  simp [tkC, he]
theorem tk_ne {h T : HP} {e : Nat} (eT : tkC h 26 = T) (he : ¬ (e : Int) < h 26 2) (k : Nat) : T k e = 0 := by
  rw [← eT]
  simp [tkC, he]
theorem c_Pl_doYield {Q : PQ} {h R : HP} {l r n : Int} (eR : rmC h 10 = R) (W : WR R) (hl : l = 0 ∨ l = 1) (hr : 0 ≤ r ∧ r < R 0 1) (hn : 1 ≤ n ∧ n ≤ 9) (hy : (0 ≤ R 0 4 ∧ R 0 4 ≤ 2000000000) ∧ (0 ≤ R 0 5 ∧ R 0 5 ≤ 2000000000)) (hi : ∀ i, 0 ≤ h 100 i ∧ h 100 i ≤ 1000000 ∨ 2 ≤ i)
    (kk : ∀ h', ActC 10 h h' (aYield R l r.toNat n) → Q (some (vi (bi (0 < mvd R l r.toNat n)))) (hs h' 100 l.toNat (h 100 l.toNat + mvd R l r.toNat n))) : Wp true i_Pl_doYield 0 [vr 99, vr 10, vi l, vi r, vi n, vr 9999] [] h Q := by
  have m := mvd_rg W (l := l) (r := r.toNat) (n := n) (by omega) hn
  have b := hi l.toNat
  refine g_Pl_doYield_0 isF_10 (c_Fl_yieldBoards isF_10 eR W hl hr hn (by rcases hl with rfl | rfl; exact hy.1; exact hy.2) (fun h' A => ?_))
  have e : h' 100 = h 100 := A.2.1 100 (by omega)
  have k := kk h' A
  refine g_Pl_doYield_8 isF_10 (by omega) (by rw [e]; omega) (fun q => ?_) (fun q => ?_)
  · rw [bi_f (by omega)] at k; rw [e]; exact k
  · rw [bi_t (by omega)] at k; rw [e]; exact k
def DoC (T R h : HP) (e : Nat) (h' : HP) : Prop :=
  rmC h' 10 = acR T R (h 99 4) e ∧ (∀ k, ¬ (10 ≤ k ∧ k < 18) → k ≠ 99 → k ≠ 100 → h' k = h k) ∧ h' 13 = h 13 ∧ h' 99 2 = h 99 2 + (if T 0 e = 10 then 1 else 0) ∧ h' 99 4 = acD T R (h 99 4) e ∧ (∀ i, i ≠ 2 → i ≠ 4 → h' 99 i = h 99 i) ∧
  h' 100 0 = h 100 0 + (if T 1 e = 0 then acM T R (h 99 4) e else 0) ∧ h' 100 1 = h 100 1 + (if T 1 e = 0 then 0 else acM T R (h 99 4) e)
theorem c_Pl_doStep {Q : PQ} {h T R : HP} {n : Int} {e : Nat} (eR : rmC h 10 = R) (W : WR R) (eT : tkC h 26 = T) (en : h 26 2 = n) (hT : WT T n R) (he : (e : Int) < n) (h9 : 9 ≤ T 0 e ∧ T 0 e ≤ 13)
    (hz : 0 ≤ h 99 4 ∧ h 99 4 ≤ 65535) (h2 : 0 ≤ h 99 2 ∧ h 99 2 ≤ 1000000) (hy : (0 ≤ R 0 4 ∧ R 0 4 ≤ 2000000000) ∧ (0 ≤ R 0 5 ∧ R 0 5 ≤ 2000000000)) (h6 : 0 ≤ R 0 6 ∧ R 0 6 ≤ 2000000000) (hi : ∀ i, 0 ≤ h 100 i ∧ h 100 i ≤ 1000000 ∨ 2 ≤ i)
    (kk : ∀ h', DoC T R h e h' → Q (some (vi (acK T R (h 99 4) e))) h') : Wp true i_Pl_doStep 0 [vr 99, vr 26, vr 10, vi (e : Int)] [] h Q := by
  have w := W.1
  have t := hT.2.2.1 e he
  have tk := tk_26 eT (e := e) (by omega)
  have wc := wd_cases (h 27 e)
  have ei : ((e : Int)).toNat = e := Int.toNat_natCast _
  have n60 := hT.2.1
  have f27 : h (26 + 1) = h 27 := rfl
  have dd := cdim eR
  by_cases c9 : T 0 e = 9
  · have t9 : (T 1 e = 0 ∨ T 1 e = 1) ∧ (0 ≤ T 2 e ∧ T 2 e < R 0 1) ∧ (1 ≤ T 3 e ∧ T 3 e ≤ 9) := by
      rcases t with t | t | t | t | t | t | t | t | t <;> first | exact t.2 | omega
    have w9 : h 27 e = 9 := by omega
    have e1 := tk.2.1
    have e2 : T 2 e = h 29 e := by rw [tk.2.2.1, if_neg (by omega)]
    have e3 : T 3 e = h 30 e := by rw [tk.2.2.2.1, if_neg (by omega)]
    refine g_Pl_doStep_0 isT_26 isF_10 (by omega) (fun q => ?_) (fun q => by rw [ei, f27] at q; omega) (fun q => by rw [ei, f27] at q; omega) (fun q => by rw [ei, f27] at q; omega) (fun q => by rw [ei, f27] at q; omega) (fun q => by rw [ei, f27] at q; omega) (fun q => by rw [ei, f27] at q; omega) (fun q => by rw [ei, f27] at q; omega)
    rw [ei]
    show Wp true i_Pl_doYield 0 [vr 99, vr 10, vi (h 28 e), vi (h 29 e), vi (h 30 e), vr 9999] [] h _
    rw [← e1, ← e2, ← e3]
    refine c_Pl_doYield eR W t9.1 t9.2.1 t9.2.2 hy hi (fun h' A => g_Pl_doStep_67 isT_26 isF_10 (bi_01 _) ?_)
    have eM : acM T R (h 99 4) e = mvd R (T 1 e) (T 2 e).toNat (T 3 e) := if_pos c9
    have eK : acK T R (h 99 4) e = bi (0 < mvd R (T 1 e) (T 2 e).toNat (T 3 e)) := if_pos c9
    have k := kk (hs h' 100 (T 1 e).toNat (h 100 (T 1 e).toNat + mvd R (T 1 e) (T 2 e).toNat (T 3 e))) ?_
    · rw [eK] at k; exact k
    · have e100 : h' 100 = h 100 := A.2.1 100 (by omega)
      have e99 : h' 99 = h 99 := A.2.1 99 (by omega)
      refine ⟨?_, fun k k1 k2 k3 => by rw [hs_ne k3]; exact A.2.1 k k1, by rw [hs_ne (by decide)]; exact A.2.2, ?_, ?_, fun i _ _ => by rw [hs_ne (by decide), e99], ?_, ?_⟩
      · rw [rC_frame isF_10 (fun k hk => hs_ne (by omega)), A.1]
        exact (if_pos c9).symm
      · rw [hs_ne (by decide), e99, if_neg (by omega), Int.add_zero]
      · rw [hs_ne (by decide), e99]; unfold acD; rw [if_neg (by omega)]
      · rw [eM]
        rcases t9.1 with q | q
        · rw [if_pos q, q]; exact hs_s
        · rw [if_neg (by omega), q, hs_o (Or.inr (by decide)), e100, Int.add_zero]
      · rw [eM]
        rcases t9.1 with q | q
        · rw [if_pos q, q, hs_o (Or.inr (by decide)), e100, Int.add_zero]
        · rw [if_neg (by omega), q]; exact hs_s
  by_cases c10 : T 0 e = 10
  · have w9 : h 27 e = 10 := by omega
    have nt : ∀ h', ActC 10 h h' (aNight R) → Q (some (vi 1)) (hs h' 99 2 (h' 99 2 + 1)) := by
      intro h' A
      have e100 : h' 100 = h 100 := A.2.1 100 (by omega)
      have e99 : h' 99 = h 99 := A.2.1 99 (by omega)
      have eM : acM T R (h 99 4) e = 0 := by unfold acM; rw [if_neg c9, if_neg (by omega)]
      have eK : acK T R (h 99 4) e = 1 := by unfold acK; rw [if_neg c9, if_neg (by omega), if_neg (by omega), if_neg (by omega)]
      have k := kk (hs h' 99 2 (h' 99 2 + 1)) ?_
      · rw [eK] at k; exact k
      · refine ⟨?_, fun k k1 k2 k3 => by rw [hs_ne k2]; exact A.2.1 k k1, by rw [hs_ne (by decide)]; exact A.2.2, ?_, ?_, fun i i1 _ => by rw [hs_o (Or.inr i1), e99], ?_, ?_⟩
        · rw [rC_frame isF_10 (fun k hk => hs_ne (by omega)), A.1]
          unfold acR; rw [if_neg c9, if_pos c10]
        · rw [hs_s, e99, if_pos c10]
        · rw [hs_o (Or.inr (by decide)), e99]; unfold acD; rw [if_neg (by omega)]
        · rw [hs_ne (by decide), e100, eM]; split <;> omega
        · rw [hs_ne (by decide), e100, eM]; split <;> omega
    refine g_Pl_doStep_0 isT_26 isF_10 (by omega) (fun q => by rw [ei, f27] at q; omega) (fun q => by rw [ei, f27] at q; omega) (fun q => by rw [ei, f27] at q; omega) (fun q => by rw [ei, f27] at q; omega) (fun q => by rw [ei, f27] at q; omega) (fun q => ?_) (fun q => by rw [ei, f27] at q; omega) (fun _ _ _ _ q => by rw [ei, f27] at q; omega)
    refine c_Fl_passNight isF_10 eR W h6 (fun h' A => g_Pl_doStep_142 isT_26 isF_10 ?_ (nt h' A))
    rw [A.2.1 99 (by omega)]; omega
  by_cases c11 : T 0 e = 11
  · have t11 : 0 ≤ T 1 e ∧ T 1 e < R 0 1 := by
      rcases t with t | t | t | t | t | t | t | t | t <;> first | omega | exact t.2
    have w9 : h 27 e = 11 := by omega
    have e1 := tk.2.1
    refine g_Pl_doStep_0 isT_26 isF_10 (by omega) (fun q => by rw [ei, f27] at q; omega) (fun q => ?_) (fun q => by rw [ei, f27] at q; omega) (fun q => by rw [ei, f27] at q; omega) (fun q => by rw [ei, f27] at q; omega) (fun q => by rw [ei, f27] at q; omega) (fun q => by rw [ei, f27] at q; omega) (fun _ q => by rw [ei, f27] at q; omega)
    rw [ei]
    show Wp true i_Fl_sweepRow 0 [vr 10, vi (h 28 e), vr 9999] [] h _
    rw [← e1]
    refine c_Fl_sweepRow isF_10 eR W t11 (fun h' A => g_Pl_doStep_78 isT_26 isF_10 (bi_01 _) ?_)
    have e100 : h' 100 = h 100 := A.2.1 100 (by omega)
    have e99 : h' 99 = h 99 := A.2.1 99 (by omega)
    have eM : acM T R (h 99 4) e = 0 := by unfold acM; rw [if_neg c9, if_neg (by omega)]
    have eK : acK T R (h 99 4) e = bi (¬ swp R (T 1 e).toNat = R 1 (T 1 e).toNat) := by unfold acK; rw [if_neg c9, if_pos c11]
    have k := kk h' ?_
    · rw [eK] at k; exact k
    · refine ⟨?_, fun k k1 k2 k3 => A.2.1 k k1, A.2.2, ?_, ?_, fun i i1 _ => by rw [e99], ?_, ?_⟩
      · rw [A.1]; unfold acR; rw [if_neg c9, if_neg c10, if_pos c11]
      · rw [e99, if_neg c10, Int.add_zero]
      · rw [e99]; unfold acD; rw [if_neg (by omega)]
      · rw [e100, eM]; split <;> omega
      · rw [e100, eM]; split <;> omega
  by_cases c12 : T 0 e = 12
  · have t12 : (0 ≤ T 1 e ∧ T 1 e < R 0 3) ∧ (0 ≤ T 2 e ∧ T 2 e < R 0 0) ∧ (0 ≤ T 3 e ∧ T 3 e < R 0 1) := by
      rcases t with t | t | t | t | t | t | t | t | t <;> first | omega | exact t.2
    have w9 : h 27 e = 12 := by omega
    have e1 := tk.2.1
    have e2 : T 2 e = h 29 e := by rw [tk.2.2.1, if_neg (by omega)]
    have e3 : T 3 e = h 30 e := by rw [tk.2.2.2.1, if_neg (by omega)]
    have eM : acM T R (h 99 4) e = 0 := by unfold acM; rw [if_neg c9, if_neg (by omega)]
    have eK : acK T R (h 99 4) e = bi (rOn R (T 2 e) (T 3 e) = -1) := by unfold acK; rw [if_neg c9, if_neg c11, if_pos c12]
    refine g_Pl_doStep_0 isT_26 isF_10 (by omega) (fun q => by rw [ei, f27] at q; omega) (fun q => by rw [ei, f27] at q; omega) (fun q => ?_) (fun q => by rw [ei, f27] at q; omega) (fun q => by rw [ei, f27] at q; omega) (fun q => by rw [ei, f27] at q; omega) (fun q => by rw [ei, f27] at q; omega) (fun _ _ q => by rw [ei, f27] at q; omega)
    rw [ei]
    show Wp true i_Fl_moveThing 0 [vr 10, vi (h 28 e), vi (h 29 e), vi (h 30 e)] [] h _
    rw [← e1, ← e2, ← e3]
    refine c_Fl_moveThing isF_10 eR W t12.1 (fun y h' A => g_Pl_doStep_101 isT_26 isF_10 (Or.inr rfl) ?_) (fun y => g_Pl_doStep_101 isT_26 isF_10 (Or.inl rfl) ?_)
    · have e100 : h' 100 = h 100 := A.2.1 100 (by omega)
      have e99 : h' 99 = h 99 := A.2.1 99 (by omega)
      have k := kk h' ?_
      · rw [eK, bi_t y] at k; exact k
      · refine ⟨?_, fun k k1 k2 k3 => A.2.1 k k1, A.2.2, ?_, ?_, fun i i1 _ => by rw [e99], ?_, ?_⟩
        · rw [A.1]; unfold acR; rw [if_neg c9, if_neg c10, if_neg c11, if_pos c12, if_pos y]
        · rw [e99, if_neg c10, Int.add_zero]
        · rw [e99]; unfold acD; rw [if_neg (by omega)]
        · rw [e100, eM]; split <;> omega
        · rw [e100, eM]; split <;> omega
    · have k := kk h ?_
      · rw [eK, bi_f y] at k; exact k
      · refine ⟨?_, fun k k1 k2 k3 => rfl, rfl, ?_, ?_, fun i i1 _ => rfl, ?_, ?_⟩
        · rw [eR]; unfold acR; rw [if_neg c9, if_neg c10, if_neg c11, if_pos c12, if_neg y]
        · rw [if_neg c10, Int.add_zero]
        · unfold acD; rw [if_neg (by omega)]
        · rw [eM]; split <;> omega
        · rw [eM]; split <;> omega
  have c13 : T 0 e = 13 := by omega
  have t13 : T 1 e = 0 ∨ T 1 e = 1 := by
    rcases t with t | t | t | t | t | t | t | t | t <;> first | omega | exact t.2
  have w9 : h 27 e = 14 := by omega
  have e1 := tk.2.1
  refine g_Pl_doStep_0 isT_26 isF_10 (by omega) (fun q => by rw [ei, f27] at q; omega) (fun q => by rw [ei, f27] at q; omega) (fun q => by rw [ei, f27] at q; omega) (fun _ y => ?_) (fun _ y => ?_) (fun q => by rw [ei, f27] at q; omega) (fun q => by rw [ei, f27] at q; omega) (fun _ _ _ q => by rw [ei, f27] at q; omega)
  · have y' : R 0 1 ≤ 0 := by omega
    have k := kk h ?_
    · rw [show acK T R (h 99 4) e = 0 by unfold acK; rw [if_neg c9, if_neg c11, if_neg c12, if_pos c13, if_pos y']] at k; exact k
    · have eM : acM T R (h 99 4) e = 0 := by unfold acM; rw [if_neg c9, if_pos c13, if_pos y']
      refine ⟨?_, fun k k1 k2 k3 => rfl, rfl, ?_, ?_, fun i i1 _ => rfl, ?_, ?_⟩
      · rw [eR]; unfold acR; rw [if_neg c9, if_neg c10, if_neg c11, if_neg c12, if_pos c13, if_pos y']
      · rw [if_neg c10, Int.add_zero]
      · unfold acD; rw [if_neg (fun q => q.2 y')]
      · rw [eM]; split <;> omega
      · rw [eM]; split <;> omega
  · have y' : ¬ R 0 1 ≤ 0 := by omega
    have rr := rwA_rg (h 99 4) y'
    have eM : acM T R (h 99 4) e = mvd R (T 1 e) (rwA R (h 99 4)) 1 := by unfold acM; rw [if_neg c9, if_pos c13, if_neg y']
    have eK : acK T R (h 99 4) e = bi (0 < mvd R (T 1 e) (rwA R (h 99 4)) 1) := by unfold acK; rw [if_neg c9, if_neg c11, if_neg c12, if_pos c13, if_neg y']
    have dr := drw_rg (h 99 4)
    rw [ei, dd.2.1]
    refine g_Pl_nextDraw_0 (by omega) (by omega) (by omega) (fun q => absurd q y') (fun _ => by omega) (fun _ => by omega) (fun _ => by omega) (fun _ => ?_)
    show Wp true i_Pl_doStep 125 [vr 99, vr 26, vr 10, vi (e : Int)] [vi (drw (h 99 4) / 8 % R 0 1), vi (h 28 e), vr 10, vr 99] (hs h 99 4 (drw (h 99 4))) Q
    rw [← rr.2, ← e1]
    refine g_Pl_doStep_125 isT_26 isF_10 ?_
    have eR' : rmC (hs h 99 4 (drw (h 99 4))) 10 = R := (rC_frame isF_10 (fun k hk => hs_ne (by omega))).trans eR
    have f100 : hs h 99 4 (drw (h 99 4)) 100 = h 100 := hs_ne (by decide)
    refine c_Pl_doYield eR' W t13 (by omega) (by omega) hy (fun i => by rw [f100]; exact hi i) (fun h' A => ?_)
    rw [f100, Int.toNat_natCast] at *
    have e100 : h' 100 = h 100 := (A.2.1 100 (by omega)).trans f100
    have e99 : h' 99 = hs h 99 4 (drw (h 99 4)) 99 := A.2.1 99 (by omega)
    have k := kk (hs h' 100 (T 1 e).toNat (h 100 (T 1 e).toNat + mvd R (T 1 e) (rwA R (h 99 4)) 1)) ?_
    · rw [eK] at k
      refine g_Pl_doStep_129 isT_26 isF_10 (fun q => ?_) (fun q => ?_)
      · rw [q] at k; exact k
      · have : bi (0 < mvd R (T 1 e) (rwA R (h 99 4)) 1) = 1 := by have := bi_01 (0 < mvd R (T 1 e) (rwA R (h 99 4)) 1); omega
        rw [this] at k; exact k
    · refine ⟨?_, fun k k1 k2 k3 => by rw [hs_ne k3, A.2.1 k k1, hs_ne k2], by rw [hs_ne (by decide), A.2.2, hs_ne (by decide)], ?_, ?_, fun i _ i4 => by rw [hs_ne (by decide), e99, hs_o (Or.inr i4)], ?_, ?_⟩
      · rw [rC_frame isF_10 (fun k hk => hs_ne (by omega)), A.1]
        unfold acR; rw [if_neg c9, if_neg c10, if_neg c11, if_neg c12, if_pos c13, if_neg y']
      · rw [hs_ne (by decide), e99, hs_o (Or.inr (by decide)), if_neg c10, Int.add_zero]
      · rw [hs_ne (by decide), e99, hs_s]; unfold acD; rw [if_pos ⟨c13, y'⟩]
      · rw [eM]
        rcases t13 with q | q
        · rw [if_pos q, q]; exact hs_s
        · rw [if_neg (by omega), q, hs_o (Or.inr (by decide)), e100, Int.add_zero]
      · rw [eM]
        rcases t13 with q | q
        · rw [if_pos q, q, hs_o (Or.inr (by decide)), e100, Int.add_zero]
        · rw [if_neg (by omega), q]; exact hs_s
