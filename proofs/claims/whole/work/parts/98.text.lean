theorem g_To_lookAtWord_0 {Q : PQ} {h : HP}  
    (k1 : Wp true i_To_lookAtWord 10 [vr 5, vr 9999] [] (hs (hs h 5 5 1) 5 9 0) Q) :
    Wp true i_To_lookAtWord 0 [vr 5, vr 9999] [] h Q := by
  refine r_aload_n (v := 5) f_123_0 rfl (by decide) ?_
  refine r_iconst f_123_1 (by decide) ?_
  refine r_puti f_123_2 rfl (by decide) ?_
  refine r_aload_n (v := 5) f_123_5 rfl (by decide) ?_
  refine r_lconst (v := 0) f_123_6 rfl ?_
  refine r_putj f_123_7 rfl (by decide) ?_
  exact k1

theorem g_To_lookAtWord_10 {Q : PQ} {h : HP}  
    (k1 : h 5 10 ≤ h 5 12 → Wp true i_To_lookAtWord 106 [vr 5, vi 0] [] h Q)
    (o2 : ¬ h 5 10 ≤ h 5 12 → 0 ≤ h 5 12 ∧ h 5 12 < 900)
    (k3 : ¬ h 5 10 ≤ h 5 12 → h 6 (h 5 12).toNat < 97 → Wp true i_To_lookAtWord 106 [vr 5, vi 0] [] h Q)
    (k4 : ¬ h 5 10 ≤ h 5 12 → ¬ h 6 (h 5 12).toNat < 97 → 122 < h 6 (h 5 12).toNat → Wp true i_To_lookAtWord 106 [vr 5, vi 0] [] h Q)
    (o5 : ¬ h 5 10 ≤ h 5 12 → ¬ h 6 (h 5 12).toNat < 97 → ¬ 122 < h 6 (h 5 12).toNat → -2147483648 ≤ (h 5 12) - (h 5 11) ∧ (h 5 12) - (h 5 11) ≤ 2147483647)
    (o6 : ¬ h 5 10 ≤ h 5 12 → ¬ h 6 (h 5 12).toNat < 97 → ¬ 122 < h 6 (h 5 12).toNat → 8 ≤ (h 5 12) - (h 5 11) → -2147483648 ≤ (h 5 12) + 1 ∧ (h 5 12) + 1 ≤ 2147483647)
    (k7 : ¬ h 5 10 ≤ h 5 12 → ¬ h 6 (h 5 12).toNat < 97 → ¬ 122 < h 6 (h 5 12).toNat → 8 ≤ (h 5 12) - (h 5 11) → Wp true i_To_lookAtWord 10 [vr 5, vr 9999] [] (hs h 5 12 ((h 5 12) + 1)) Q)
    (o8 : ¬ h 5 10 ≤ h 5 12 → ¬ h 6 (h 5 12).toNat < 97 → ¬ 122 < h 6 (h 5 12).toNat → ¬ 8 ≤ (h 5 12) - (h 5 11) → -9223372036854775808 ≤ (h 5 9) * 32 ∧ (h 5 9) * 32 ≤ 9223372036854775807)
    (o9 : ¬ h 5 10 ≤ h 5 12 → ¬ h 6 (h 5 12).toNat < 97 → ¬ 122 < h 6 (h 5 12).toNat → ¬ 8 ≤ (h 5 12) - (h 5 11) → -2147483648 ≤ (h 6 (h 5 12).toNat) - 97 ∧ (h 6 (h 5 12).toNat) - 97 ≤ 2147483647)
    (o10 : ¬ h 5 10 ≤ h 5 12 → ¬ h 6 (h 5 12).toNat < 97 → ¬ 122 < h 6 (h 5 12).toNat → ¬ 8 ≤ (h 5 12) - (h 5 11) → -2147483648 ≤ ((h 6 (h 5 12).toNat) - 97) + 1 ∧ ((h 6 (h 5 12).toNat) - 97) + 1 ≤ 2147483647)
    (o11 : ¬ h 5 10 ≤ h 5 12 → ¬ h 6 (h 5 12).toNat < 97 → ¬ 122 < h 6 (h 5 12).toNat → ¬ 8 ≤ (h 5 12) - (h 5 11) → -9223372036854775808 ≤ ((h 5 9) * 32) + (((h 6 (h 5 12).toNat) - 97) + 1) ∧ ((h 5 9) * 32) + (((h 6 (h 5 12).toNat) - 97) + 1) ≤ 9223372036854775807)
    (o12 : ¬ h 5 10 ≤ h 5 12 → ¬ h 6 (h 5 12).toNat < 97 → ¬ 122 < h 6 (h 5 12).toNat → ¬ 8 ≤ (h 5 12) - (h 5 11) → -2147483648 ≤ (h 5 12) + 1 ∧ (h 5 12) + 1 ≤ 2147483647)
    (k13 : ¬ h 5 10 ≤ h 5 12 → ¬ h 6 (h 5 12).toNat < 97 → ¬ 122 < h 6 (h 5 12).toNat → ¬ 8 ≤ (h 5 12) - (h 5 11) → Wp true i_To_lookAtWord 10 [vr 5, vr 9999] [] (hs (hs h 5 9 (((h 5 9) * 32) + (((h 6 (h 5 12).toNat) - 97) + 1))) 5 12 ((h 5 12) + 1)) Q) :
    Wp true i_To_lookAtWord 10 [vr 5, vr 9999] [] h Q := by
  refine r_aload_n (v := 5) f_123_10 rfl (by decide) ?_
  refine r_geti (v := h 5 12) f_123_11 rfl (by decide) rfl ?_
  refine r_aload_n (v := 5) f_123_14 rfl (by decide) ?_
  refine r_geti (v := h 5 10) f_123_15 rfl (by decide) rfl ?_
  refine r_br2 (t := 104) f_123_18 rfl cb_ge (fun c1 => ?_) (fun c1 => ?_)
  · refine r_iconst f_123_104 (by decide) ?_
    refine r_istore_n (ls' := [vr 5, vi 0]) f_123_105 (Nat.le_of_ble_eq_true rfl) rfl ?_
    exact (k1 c1)
  · refine r_aload_n (v := 5) f_123_21 rfl (by decide) ?_
    refine r_getr (q := 6) f_123_22 rfl (by decide) (Or.inl rfl) rfl ?_
    refine r_aload_n (v := 5) f_123_25 rfl (by decide) ?_
    refine r_geti (v := h 5 12) f_123_26 rfl (by decide) rfl ?_
    refine r_baload (n := 900) (v := h 6 (h 5 12).toNat) f_123_29 ⟨rfl, rfl⟩ (o2 c1) rfl ?_
    refine r_bipush f_123_30 (by decide) ?_
    refine r_br2 (t := 104) f_123_32 rfl cb_lt (fun c2 => ?_) (fun c2 => ?_)
    · refine r_iconst f_123_104 (by decide) ?_
      refine r_istore_n (ls' := [vr 5, vi 0]) f_123_105 (Nat.le_of_ble_eq_true rfl) rfl ?_
      exact (k3 c1 c2)
    · refine r_aload_n (v := 5) f_123_35 rfl (by decide) ?_
      refine r_getr (q := 6) f_123_36 rfl (by decide) (Or.inl rfl) rfl ?_
      refine r_aload_n (v := 5) f_123_39 rfl (by decide) ?_
      refine r_geti (v := h 5 12) f_123_40 rfl (by decide) rfl ?_
      refine r_baload (n := 900) (v := h 6 (h 5 12).toNat) f_123_43 ⟨rfl, rfl⟩ (o2 c1) rfl ?_
      refine r_bipush f_123_44 (by decide) ?_
      refine r_br2 (t := 104) f_123_46 rfl cb_gt (fun c3 => ?_) (fun c3 => ?_)
      · refine r_iconst f_123_104 (by decide) ?_
        refine r_istore_n (ls' := [vr 5, vi 0]) f_123_105 (Nat.le_of_ble_eq_true rfl) rfl ?_
        exact (k4 c1 c2 c3)
      · refine r_aload_n (v := 5) f_123_49 rfl (by decide) ?_
        refine r_geti (v := h 5 12) f_123_50 rfl (by decide) rfl ?_
        refine r_aload_n (v := 5) f_123_53 rfl (by decide) ?_
        refine r_geti (v := h 5 11) f_123_54 rfl (by decide) rfl ?_
        refine r_isub (u := (h 5 12) - (h 5 11)) f_123_57 rfl (o5 c1 c2 c3) ?_
        refine r_bipush f_123_58 (by decide) ?_
        refine r_br2 (t := 91) f_123_60 rfl cb_ge (fun c4 => ?_) (fun c4 => ?_)
        · refine r_aload_n (v := 5) f_123_91 rfl (by decide) ?_
          refine r_dupr f_123_92 ?_
          refine r_geti (v := h 5 12) f_123_93 rfl (by decide) rfl ?_
          refine r_iconst f_123_96 (by decide) ?_
          refine r_iadd (u := (h 5 12) + 1) f_123_97 rfl (o6 c1 c2 c3 c4) ?_
          refine r_puti f_123_98 rfl (by decide) ?_
          refine r_goto (t := 10) f_123_101 rfl ?_
          exact (k7 c1 c2 c3 c4)
        · refine r_aload_n (v := 5) f_123_63 rfl (by decide) ?_
          refine r_aload_n (v := 5) f_123_64 rfl (by decide) ?_
          refine r_getj (v := h 5 9) f_123_65 rfl (by decide) rfl ?_
          refine r_ldc2_w f_123_68 (by decide) ?_
          refine r_lmul (u := (h 5 9) * 32) f_123_71 rfl (o8 c1 c2 c3 c4) ?_
          refine r_aload_n (v := 5) f_123_72 rfl (by decide) ?_
          refine r_getr (q := 6) f_123_73 rfl (by decide) (Or.inl rfl) rfl ?_
          refine r_aload_n (v := 5) f_123_76 rfl (by decide) ?_
          refine r_geti (v := h 5 12) f_123_77 rfl (by decide) rfl ?_
          refine r_baload (n := 900) (v := h 6 (h 5 12).toNat) f_123_80 ⟨rfl, rfl⟩ (o2 c1) rfl ?_
          refine r_bipush f_123_81 (by decide) ?_
          refine r_isub (u := (h 6 (h 5 12).toNat) - 97) f_123_83 rfl (o9 c1 c2 c3 c4) ?_
          refine r_iconst f_123_84 (by decide) ?_
          refine r_iadd (u := ((h 6 (h 5 12).toNat) - 97) + 1) f_123_85 rfl (o10 c1 c2 c3 c4) ?_
          refine r_i2l f_123_86 ?_
          refine r_ladd (u := ((h 5 9) * 32) + (((h 6 (h 5 12).toNat) - 97) + 1)) f_123_87 rfl (o11 c1 c2 c3 c4) ?_
          refine r_putj f_123_88 rfl (by decide) ?_
          refine r_aload_n (v := 5) f_123_91 rfl (by decide) ?_
          refine r_dupr f_123_92 ?_
          refine r_geti (v := h 5 12) f_123_93 rfl (by decide) (by simp [hs]) ?_
          refine r_iconst f_123_96 (by decide) ?_
          refine r_iadd (u := (h 5 12) + 1) f_123_97 rfl (o12 c1 c2 c3 c4) ?_
          refine r_puti f_123_98 rfl (by decide) ?_
          refine r_goto (t := 10) f_123_101 rfl ?_
          exact (k13 c1 c2 c3 c4)

theorem g_To_lookAtWord_106 {Q : PQ} {h : HP} {x1 : Int} 
    (k1 : 22 ≤ x1 → Q none h)
    (o2 : ¬ 22 ≤ x1 → 0 ≤ x1 ∧ x1 < 22)
    (o3 : ¬ 22 ≤ x1 → ¬ h 7 x1.toNat = h 5 9 → -2147483648 ≤ x1 + 1 ∧ x1 + 1 ≤ 2147483647)
    (k4 : ¬ 22 ≤ x1 → ¬ h 7 x1.toNat = h 5 9 → Wp true i_To_lookAtWord 106 [vr 5, vi (x1 + 1)] [] h Q)
    (o5 : ¬ 22 ≤ x1 → h 7 x1.toNat = h 5 9 → -2147483648 ≤ x1 + 1 ∧ x1 + 1 ≤ 2147483647)
    (k6 : ¬ 22 ≤ x1 → h 7 x1.toNat = h 5 9 → Wp true i_To_lookAtWord 106 [vr 5, vi (x1 + 1)] [] (hs h 5 6 x1) Q) :
    Wp true i_To_lookAtWord 106 [vr 5, vi x1] [] h Q := by
  refine r_iload_n (v := x1) f_123_106 rfl ?_
  refine r_bipush f_123_107 (by decide) ?_
  refine r_br2 (t := 137) f_123_109 rfl cb_ge (fun c1 => ?_) (fun c1 => ?_)
  · exact r_retv f_123_137 rfl (k1 c1)
  · refine r_aload_n (v := 5) f_123_112 rfl (by decide) ?_
    refine r_getr (q := 7) f_123_113 rfl (by decide) (Or.inl rfl) rfl ?_
    refine r_iload_n (v := x1) f_123_116 rfl ?_
    refine r_laload (n := 22) (v := h 7 x1.toNat) f_123_117 ⟨rfl, rfl⟩ (o2 c1) rfl ?_
    refine r_aload_n (v := 5) f_123_118 rfl (by decide) ?_
    refine r_getj (v := h 5 9) f_123_119 rfl (by decide) rfl ?_
    refine r_lcmp f_123_122 ?_
    refine r_br (t := 131) f_123_123 rfl lc_ne (fun c2 => ?_) (fun c2 => ?_)
    · refine r_iinc (v := x1) (w := x1 + 1) (ls' := [vr 5, vi (x1 + 1)]) f_123_131 rfl rfl (o3 c1 c2) rfl ?_
      refine r_goto (t := 106) f_123_134 rfl ?_
      exact (k4 c1 c2)
    · have c2 := Decidable.not_not.mp c2
      refine r_aload_n (v := 5) f_123_126 rfl (by decide) ?_
      refine r_iload_n (v := x1) f_123_127 rfl ?_
      refine r_puti f_123_128 rfl (by decide) ?_
      refine r_iinc (v := x1) (w := x1 + 1) (ls' := [vr 5, vi (x1 + 1)]) f_123_131 rfl rfl (o5 c1 c2) rfl ?_
      refine r_goto (t := 106) f_123_134 rfl ?_
      exact (k6 c1 c2)

theorem g_To_lookAtNumber_0 {Q : PQ} {h : HP}  
    (k1 : Wp true i_To_lookAtNumber 5 [vr 5] [] (hs h 5 7 0) Q) :
    Wp true i_To_lookAtNumber 0 [vr 5] [] h Q := by
  refine r_aload_n (v := 5) f_124_0 rfl (by decide) ?_
  refine r_iconst f_124_1 (by decide) ?_
  refine r_puti f_124_2 rfl (by decide) ?_
  exact k1

theorem g_To_lookAtNumber_5 {Q : PQ} {h : HP}  
    (k1 : h 5 10 ≤ h 5 12 → Wp true i_To_lookAtNumber 94 [vr 5] [] h Q)
    (o2 : ¬ h 5 10 ≤ h 5 12 → 0 ≤ h 5 12 ∧ h 5 12 < 900)
    (k3 : ¬ h 5 10 ≤ h 5 12 → h 6 (h 5 12).toNat < 48 → Wp true i_To_lookAtNumber 94 [vr 5] [] h Q)
    (k4 : ¬ h 5 10 ≤ h 5 12 → ¬ h 6 (h 5 12).toNat < 48 → 57 < h 6 (h 5 12).toNat → Wp true i_To_lookAtNumber 94 [vr 5] [] h Q)
    (o5 : ¬ h 5 10 ≤ h 5 12 → ¬ h 6 (h 5 12).toNat < 48 → ¬ 57 < h 6 (h 5 12).toNat → -2147483648 ≤ (h 5 12) - (h 5 11) ∧ (h 5 12) - (h 5 11) ≤ 2147483647)
    (o6 : ¬ h 5 10 ≤ h 5 12 → ¬ h 6 (h 5 12).toNat < 48 → ¬ 57 < h 6 (h 5 12).toNat → 4 ≤ (h 5 12) - (h 5 11) → -2147483648 ≤ (h 5 12) + 1 ∧ (h 5 12) + 1 ≤ 2147483647)
    (k7 : ¬ h 5 10 ≤ h 5 12 → ¬ h 6 (h 5 12).toNat < 48 → ¬ 57 < h 6 (h 5 12).toNat → 4 ≤ (h 5 12) - (h 5 11) → Wp true i_To_lookAtNumber 5 [vr 5] [] (hs h 5 12 ((h 5 12) + 1)) Q)
    (o8 : ¬ h 5 10 ≤ h 5 12 → ¬ h 6 (h 5 12).toNat < 48 → ¬ 57 < h 6 (h 5 12).toNat → ¬ 4 ≤ (h 5 12) - (h 5 11) → -2147483648 ≤ (h 5 7) * 10 ∧ (h 5 7) * 10 ≤ 2147483647)
    (o9 : ¬ h 5 10 ≤ h 5 12 → ¬ h 6 (h 5 12).toNat < 48 → ¬ 57 < h 6 (h 5 12).toNat → ¬ 4 ≤ (h 5 12) - (h 5 11) → -2147483648 ≤ (h 6 (h 5 12).toNat) - 48 ∧ (h 6 (h 5 12).toNat) - 48 ≤ 2147483647)
    (o10 : ¬ h 5 10 ≤ h 5 12 → ¬ h 6 (h 5 12).toNat < 48 → ¬ 57 < h 6 (h 5 12).toNat → ¬ 4 ≤ (h 5 12) - (h 5 11) → -2147483648 ≤ ((h 5 7) * 10) + ((h 6 (h 5 12).toNat) - 48) ∧ ((h 5 7) * 10) + ((h 6 (h 5 12).toNat) - 48) ≤ 2147483647)
    (o11 : ¬ h 5 10 ≤ h 5 12 → ¬ h 6 (h 5 12).toNat < 48 → ¬ 57 < h 6 (h 5 12).toNat → ¬ 4 ≤ (h 5 12) - (h 5 11) → -2147483648 ≤ (h 5 12) + 1 ∧ (h 5 12) + 1 ≤ 2147483647)
    (k12 : ¬ h 5 10 ≤ h 5 12 → ¬ h 6 (h 5 12).toNat < 48 → ¬ 57 < h 6 (h 5 12).toNat → ¬ 4 ≤ (h 5 12) - (h 5 11) → Wp true i_To_lookAtNumber 5 [vr 5] [] (hs (hs h 5 7 (((h 5 7) * 10) + ((h 6 (h 5 12).toNat) - 48))) 5 12 ((h 5 12) + 1)) Q) :
    Wp true i_To_lookAtNumber 5 [vr 5] [] h Q := by
  refine r_aload_n (v := 5) f_124_5 rfl (by decide) ?_
  refine r_geti (v := h 5 12) f_124_6 rfl (by decide) rfl ?_
  refine r_aload_n (v := 5) f_124_9 rfl (by decide) ?_
  refine r_geti (v := h 5 10) f_124_10 rfl (by decide) rfl ?_
  refine r_br2 (t := 94) f_124_13 rfl cb_ge (fun c1 => ?_) (fun c1 => ?_)
  · exact (k1 c1)
  · refine r_aload_n (v := 5) f_124_16 rfl (by decide) ?_
    refine r_getr (q := 6) f_124_17 rfl (by decide) (Or.inl rfl) rfl ?_
    refine r_aload_n (v := 5) f_124_20 rfl (by decide) ?_
    refine r_geti (v := h 5 12) f_124_21 rfl (by decide) rfl ?_
    refine r_baload (n := 900) (v := h 6 (h 5 12).toNat) f_124_24 ⟨rfl, rfl⟩ (o2 c1) rfl ?_
    refine r_bipush f_124_25 (by decide) ?_
    refine r_br2 (t := 94) f_124_27 rfl cb_lt (fun c2 => ?_) (fun c2 => ?_)
    · exact (k3 c1 c2)
    · refine r_aload_n (v := 5) f_124_30 rfl (by decide) ?_
      refine r_getr (q := 6) f_124_31 rfl (by decide) (Or.inl rfl) rfl ?_
      refine r_aload_n (v := 5) f_124_34 rfl (by decide) ?_
      refine r_geti (v := h 5 12) f_124_35 rfl (by decide) rfl ?_
      refine r_baload (n := 900) (v := h 6 (h 5 12).toNat) f_124_38 ⟨rfl, rfl⟩ (o2 c1) rfl ?_
      refine r_bipush f_124_39 (by decide) ?_
      refine r_br2 (t := 94) f_124_41 rfl cb_gt (fun c3 => ?_) (fun c3 => ?_)
      · exact (k4 c1 c2 c3)
      · refine r_aload_n (v := 5) f_124_44 rfl (by decide) ?_
        refine r_geti (v := h 5 12) f_124_45 rfl (by decide) rfl ?_
        refine r_aload_n (v := 5) f_124_48 rfl (by decide) ?_
        refine r_geti (v := h 5 11) f_124_49 rfl (by decide) rfl ?_
        refine r_isub (u := (h 5 12) - (h 5 11)) f_124_52 rfl (o5 c1 c2 c3) ?_
        refine r_iconst f_124_53 (by decide) ?_
        refine r_br2 (t := 81) f_124_54 rfl cb_ge (fun c4 => ?_) (fun c4 => ?_)
        · refine r_aload_n (v := 5) f_124_81 rfl (by decide) ?_
          refine r_dupr f_124_82 ?_
          refine r_geti (v := h 5 12) f_124_83 rfl (by decide) rfl ?_
          refine r_iconst f_124_86 (by decide) ?_
          refine r_iadd (u := (h 5 12) + 1) f_124_87 rfl (o6 c1 c2 c3 c4) ?_
          refine r_puti f_124_88 rfl (by decide) ?_
          refine r_goto (t := 5) f_124_91 rfl ?_
          exact (k7 c1 c2 c3 c4)
        · refine r_aload_n (v := 5) f_124_57 rfl (by decide) ?_
          refine r_aload_n (v := 5) f_124_58 rfl (by decide) ?_
          refine r_geti (v := h 5 7) f_124_59 rfl (by decide) rfl ?_
          refine r_bipush f_124_62 (by decide) ?_
          refine r_imul (u := (h 5 7) * 10) f_124_64 rfl (o8 c1 c2 c3 c4) ?_
          refine r_aload_n (v := 5) f_124_65 rfl (by decide) ?_
          refine r_getr (q := 6) f_124_66 rfl (by decide) (Or.inl rfl) rfl ?_
          refine r_aload_n (v := 5) f_124_69 rfl (by decide) ?_
          refine r_geti (v := h 5 12) f_124_70 rfl (by decide) rfl ?_
          refine r_baload (n := 900) (v := h 6 (h 5 12).toNat) f_124_73 ⟨rfl, rfl⟩ (o2 c1) rfl ?_
          refine r_bipush f_124_74 (by decide) ?_
          refine r_isub (u := (h 6 (h 5 12).toNat) - 48) f_124_76 rfl (o9 c1 c2 c3 c4) ?_
          refine r_iadd (u := ((h 5 7) * 10) + ((h 6 (h 5 12).toNat) - 48)) f_124_77 rfl (o10 c1 c2 c3 c4) ?_
          refine r_puti f_124_78 rfl (by decide) ?_
          refine r_aload_n (v := 5) f_124_81 rfl (by decide) ?_
          refine r_dupr f_124_82 ?_
          refine r_geti (v := h 5 12) f_124_83 rfl (by decide) (by simp [hs]) ?_
          refine r_iconst f_124_86 (by decide) ?_
          refine r_iadd (u := (h 5 12) + 1) f_124_87 rfl (o11 c1 c2 c3 c4) ?_
          refine r_puti f_124_88 rfl (by decide) ?_
          refine r_goto (t := 5) f_124_91 rfl ?_
          exact (k12 c1 c2 c3 c4)

theorem g_To_lookAtNumber_94 {Q : PQ} {h : HP}  
    (o1 : -2147483648 ≤ (h 5 12) - (h 5 11) ∧ (h 5 12) - (h 5 11) ≤ 2147483647)
    (k2 : (h 5 12) - (h 5 11) ≤ 4 → Q none (hs h 5 5 2))
    (k3 : ¬ (h 5 12) - (h 5 11) ≤ 4 → Q none (hs h 5 5 4)) :
    Wp true i_To_lookAtNumber 94 [vr 5] [] h Q := by
  refine r_aload_n (v := 5) f_124_94 rfl (by decide) ?_
  refine r_aload_n (v := 5) f_124_95 rfl (by decide) ?_
  refine r_geti (v := h 5 12) f_124_96 rfl (by decide) rfl ?_
  refine r_aload_n (v := 5) f_124_99 rfl (by decide) ?_
  refine r_geti (v := h 5 11) f_124_100 rfl (by decide) rfl ?_
  refine r_isub (u := (h 5 12) - (h 5 11)) f_124_103 rfl o1 ?_
  refine r_iconst f_124_104 (by decide) ?_
  refine r_br2 (t := 112) f_124_105 rfl cb_le (fun c1 => ?_) (fun c1 => ?_)
  · refine r_iconst f_124_112 (by decide) ?_
    refine r_puti f_124_113 rfl (by decide) ?_
    exact r_retv f_124_116 rfl (k2 c1)
  · refine r_iconst f_124_108 (by decide) ?_
    refine r_goto (t := 113) f_124_109 rfl ?_
    refine r_puti f_124_113 rfl (by decide) ?_
    exact r_retv f_124_116 rfl (k3 c1)

theorem g_To_isCompare_0 {Q : PQ} {h : HP}  
    (k1 : h 5 8 = 60 → Q (some (vi 1)) h)
    (k2 : ¬ h 5 8 = 60 → h 5 8 = 62 → Q (some (vi 1)) h)
    (k3 : ¬ h 5 8 = 60 → ¬ h 5 8 = 62 → ¬ h 5 8 = 61 → Q (some (vi 0)) h)
    (k4 : ¬ h 5 8 = 60 → ¬ h 5 8 = 62 → h 5 8 = 61 → Q (some (vi 1)) h) :
    Wp true i_To_isCompare 0 [vr 5] [] h Q := by
  refine r_aload_n (v := 5) f_126_0 rfl (by decide) ?_
  refine r_geti (v := h 5 8) f_126_1 rfl (by decide) rfl ?_
  refine r_bipush f_126_4 (by decide) ?_
  refine r_br2 (t := 27) f_126_6 rfl cb_eq (fun c1 => ?_) (fun c1 => ?_)
  · refine r_iconst f_126_27 (by decide) ?_
    refine r_goto (t := 32) f_126_28 rfl ?_
    exact r_retz f_126_32 rfl (by decide) (k1 c1)
  · refine r_aload_n (v := 5) f_126_9 rfl (by decide) ?_
    refine r_geti (v := h 5 8) f_126_10 rfl (by decide) rfl ?_
    refine r_bipush f_126_13 (by decide) ?_
    refine r_br2 (t := 27) f_126_15 rfl cb_eq (fun c2 => ?_) (fun c2 => ?_)
    · refine r_iconst f_126_27 (by decide) ?_
      refine r_goto (t := 32) f_126_28 rfl ?_
      exact r_retz f_126_32 rfl (by decide) (k2 c1 c2)
    · refine r_aload_n (v := 5) f_126_18 rfl (by decide) ?_
      refine r_geti (v := h 5 8) f_126_19 rfl (by decide) rfl ?_
      refine r_bipush f_126_22 (by decide) ?_
      refine r_br2 (t := 31) f_126_24 rfl cb_ne (fun c3 => ?_) (fun c3 => ?_)
      · refine r_iconst f_126_31 (by decide) ?_
        exact r_retz f_126_32 rfl (by decide) (k3 c1 c2 c3)
      · have c3 := Decidable.not_not.mp c3
        refine r_iconst f_126_27 (by decide) ?_
        refine r_goto (t := 32) f_126_28 rfl ?_
        exact r_retz f_126_32 rfl (by decide) (k4 c1 c2 c3)

theorem g_To_next_0 {Q : PQ} {h : HP}  
    (k1 : h 5 10 ≤ h 5 12 → Wp true i_To_next 52 [vr 5] [] h Q)
    (o2 : ¬ h 5 10 ≤ h 5 12 → 0 ≤ h 5 12 ∧ h 5 12 < 900)
    (o3 : ¬ h 5 10 ≤ h 5 12 → h 6 (h 5 12).toNat = 32 → -2147483648 ≤ (h 5 12) + 1 ∧ (h 5 12) + 1 ≤ 2147483647)
    (k4 : ¬ h 5 10 ≤ h 5 12 → h 6 (h 5 12).toNat = 32 → Wp true i_To_next 0 [vr 5] [] (hs h 5 12 ((h 5 12) + 1)) Q)
    (k5 : ¬ h 5 10 ≤ h 5 12 → ¬ h 6 (h 5 12).toNat = 32 → ¬ h 6 (h 5 12).toNat = 10 → Wp true i_To_next 52 [vr 5] [] h Q)
    (o6 : ¬ h 5 10 ≤ h 5 12 → ¬ h 6 (h 5 12).toNat = 32 → h 6 (h 5 12).toNat = 10 → -2147483648 ≤ (h 5 12) + 1 ∧ (h 5 12) + 1 ≤ 2147483647)
    (k7 : ¬ h 5 10 ≤ h 5 12 → ¬ h 6 (h 5 12).toNat = 32 → h 6 (h 5 12).toNat = 10 → Wp true i_To_next 0 [vr 5] [] (hs h 5 12 ((h 5 12) + 1)) Q) :
    Wp true i_To_next 0 [vr 5] [] h Q := by
  refine r_aload_n (v := 5) f_122_0 rfl (by decide) ?_
  refine r_geti (v := h 5 12) f_122_1 rfl (by decide) rfl ?_
  refine r_aload_n (v := 5) f_122_4 rfl (by decide) ?_
  refine r_geti (v := h 5 10) f_122_5 rfl (by decide) rfl ?_
  refine r_br2 (t := 52) f_122_8 rfl cb_ge (fun c1 => ?_) (fun c1 => ?_)
  · exact (k1 c1)
  · refine r_aload_n (v := 5) f_122_11 rfl (by decide) ?_
    refine r_getr (q := 6) f_122_12 rfl (by decide) (Or.inl rfl) rfl ?_
    refine r_aload_n (v := 5) f_122_15 rfl (by decide) ?_
    refine r_geti (v := h 5 12) f_122_16 rfl (by decide) rfl ?_
    refine r_baload (n := 900) (v := h 6 (h 5 12).toNat) f_122_19 ⟨rfl, rfl⟩ (o2 c1) rfl ?_
    refine r_bipush f_122_20 (by decide) ?_
    refine r_br2 (t := 39) f_122_22 rfl cb_eq (fun c2 => ?_) (fun c2 => ?_)
    · refine r_aload_n (v := 5) f_122_39 rfl (by decide) ?_
      refine r_dupr f_122_40 ?_
      refine r_geti (v := h 5 12) f_122_41 rfl (by decide) rfl ?_
      refine r_iconst f_122_44 (by decide) ?_
      refine r_iadd (u := (h 5 12) + 1) f_122_45 rfl (o3 c1 c2) ?_
      refine r_puti f_122_46 rfl (by decide) ?_
      refine r_goto (t := 0) f_122_49 rfl ?_
      exact (k4 c1 c2)
    · refine r_aload_n (v := 5) f_122_25 rfl (by decide) ?_
      refine r_getr (q := 6) f_122_26 rfl (by decide) (Or.inl rfl) rfl ?_
      refine r_aload_n (v := 5) f_122_29 rfl (by decide) ?_
      refine r_geti (v := h 5 12) f_122_30 rfl (by decide) rfl ?_
      refine r_baload (n := 900) (v := h 6 (h 5 12).toNat) f_122_33 ⟨rfl, rfl⟩ (o2 c1) rfl ?_
      refine r_bipush f_122_34 (by decide) ?_
      refine r_br2 (t := 52) f_122_36 rfl cb_ne (fun c3 => ?_) (fun c3 => ?_)
      · exact (k5 c1 c2 c3)
      · have c3 := Decidable.not_not.mp c3
        refine r_aload_n (v := 5) f_122_39 rfl (by decide) ?_
        refine r_dupr f_122_40 ?_
        refine r_geti (v := h 5 12) f_122_41 rfl (by decide) rfl ?_
        refine r_iconst f_122_44 (by decide) ?_
        refine r_iadd (u := (h 5 12) + 1) f_122_45 rfl (o6 c1 c2 c3) ?_
        refine r_puti f_122_46 rfl (by decide) ?_
        refine r_goto (t := 0) f_122_49 rfl ?_
        exact (k7 c1 c2 c3)

theorem g_To_next_52 {Q : PQ} {h : HP}  
    (o1 : h 5 12 < h 5 10 → 0 ≤ h 5 12 ∧ h 5 12 < 900)
    (k2 : h 5 12 < h 5 10 → h 6 (h 5 12).toNat < 97 → Wp true i_To_next 119 [vr 5] [] (hs (hs h 5 11 (h 5 12)) 5 6 (-1)) Q)
    (k3 : h 5 12 < h 5 10 → ¬ h 6 (h 5 12).toNat < 97 → 122 < h 6 (h 5 12).toNat → Wp true i_To_next 119 [vr 5] [] (hs (hs h 5 11 (h 5 12)) 5 6 (-1)) Q)
    (k4 : h 5 12 < h 5 10 → ¬ h 6 (h 5 12).toNat < 97 → ¬ 122 < h 6 (h 5 12).toNat → Wp true i_To_lookAtWord 0 [vr 5, vr 9999] [] (hs (hs h 5 11 (h 5 12)) 5 6 (-1)) (fun r h' => Wp true i_To_next 116 [vr 5] (r.toList ++ []) h' Q))
    (k5 : ¬ h 5 12 < h 5 10 → Q none (hs (hs (hs h 5 11 (h 5 12)) 5 6 (-1)) 5 5 0)) :
    Wp true i_To_next 52 [vr 5] [] h Q := by
  refine r_aload_n (v := 5) f_122_52 rfl (by decide) ?_
  refine r_aload_n (v := 5) f_122_53 rfl (by decide) ?_
  refine r_geti (v := h 5 12) f_122_54 rfl (by decide) rfl ?_
  refine r_puti f_122_57 rfl (by decide) ?_
  refine r_aload_n (v := 5) f_122_60 rfl (by decide) ?_
  refine r_iconst f_122_61 (by decide) ?_
  refine r_puti f_122_62 rfl (by decide) ?_
  refine r_aload_n (v := 5) f_122_65 rfl (by decide) ?_
  refine r_geti (v := h 5 12) f_122_66 rfl (by decide) (by simp [hs]) ?_
  refine r_aload_n (v := 5) f_122_69 rfl (by decide) ?_
  refine r_geti (v := h 5 10) f_122_70 rfl (by decide) (by simp [hs]) ?_
  refine r_br2 (t := 84) f_122_73 rfl cb_lt (fun c1 => ?_) (fun c1 => ?_)
  · refine r_aload_n (v := 5) f_122_84 rfl (by decide) ?_
    refine r_getr (q := 6) f_122_85 rfl (by decide) (Or.inl rfl) rfl ?_
    refine r_aload_n (v := 5) f_122_88 rfl (by decide) ?_
    refine r_geti (v := h 5 12) f_122_89 rfl (by decide) (by simp [hs]) ?_
    refine r_baload (n := 900) (v := h 6 (h 5 12).toNat) f_122_92 ⟨rfl, rfl⟩ (o1 c1) (by simp [hs]) ?_
    refine r_bipush f_122_93 (by decide) ?_
    refine r_br2 (t := 119) f_122_95 rfl cb_lt (fun c2 => ?_) (fun c2 => ?_)
    · exact (k2 c1 c2)
    · refine r_aload_n (v := 5) f_122_98 rfl (by decide) ?_
      refine r_getr (q := 6) f_122_99 rfl (by decide) (Or.inl rfl) rfl ?_
      refine r_aload_n (v := 5) f_122_102 rfl (by decide) ?_
      refine r_geti (v := h 5 12) f_122_103 rfl (by decide) (by simp [hs]) ?_
      refine r_baload (n := 900) (v := h 6 (h 5 12).toNat) f_122_106 ⟨rfl, rfl⟩ (o1 c1) (by simp [hs]) ?_
      refine r_bipush f_122_107 (by decide) ?_
      refine r_br2 (t := 119) f_122_109 rfl cb_gt (fun c3 => ?_) (fun c3 => ?_)
      · exact (k3 c1 c2 c3)
      · refine r_aload_n (v := 5) f_122_112 rfl (by decide) ?_
        exact r_callv (as := [vr 5]) (st' := []) (ls0 := [vr 5, vr 9999]) f_122_113 (by decide) rfl rfl (Nat.le_of_ble_eq_true rfl) (Nat.le_of_ble_eq_true rfl) ⟨_, _, rfl, rfl⟩ rfl (k4 c1 c2 c3)
  · refine r_aload_n (v := 5) f_122_76 rfl (by decide) ?_
    refine r_iconst f_122_77 (by decide) ?_
    refine r_puti f_122_78 rfl (by decide) ?_
    refine r_goto (t := 202) f_122_81 rfl ?_
    exact r_retv f_122_202 rfl (k5 c1)

theorem g_To_next_116 {Q : PQ} {h : HP}  
    (k1 : Q none h) :
    Wp true i_To_next 116 [vr 5] [] h Q := by
  refine r_goto (t := 202) f_122_116 rfl ?_
  exact r_retv f_122_202 rfl k1

theorem g_To_next_119 {Q : PQ} {h : HP}  
    (o1 : 0 ≤ h 5 12 ∧ h 5 12 < 900)
    (k2 : h 6 (h 5 12).toNat < 48 → Wp true i_To_next 154 [vr 5] [] h Q)
    (k3 : ¬ h 6 (h 5 12).toNat < 48 → 57 < h 6 (h 5 12).toNat → Wp true i_To_next 154 [vr 5] [] h Q)
    (k4 : ¬ h 6 (h 5 12).toNat < 48 → ¬ 57 < h 6 (h 5 12).toNat → Wp true i_To_lookAtNumber 0 [vr 5] [] h (fun r h' => Wp true i_To_next 151 [vr 5] (r.toList ++ []) h' Q)) :
    Wp true i_To_next 119 [vr 5] [] h Q := by
  refine r_aload_n (v := 5) f_122_119 rfl (by decide) ?_
  refine r_getr (q := 6) f_122_120 rfl (by decide) (Or.inl rfl) rfl ?_
  refine r_aload_n (v := 5) f_122_123 rfl (by decide) ?_
  refine r_geti (v := h 5 12) f_122_124 rfl (by decide) rfl ?_
  refine r_baload (n := 900) (v := h 6 (h 5 12).toNat) f_122_127 ⟨rfl, rfl⟩ o1 rfl ?_
  refine r_bipush f_122_128 (by decide) ?_
  refine r_br2 (t := 154) f_122_130 rfl cb_lt (fun c1 => ?_) (fun c1 => ?_)
  · exact (k2 c1)
  · refine r_aload_n (v := 5) f_122_133 rfl (by decide) ?_
    refine r_getr (q := 6) f_122_134 rfl (by decide) (Or.inl rfl) rfl ?_
    refine r_aload_n (v := 5) f_122_137 rfl (by decide) ?_
    refine r_geti (v := h 5 12) f_122_138 rfl (by decide) rfl ?_
    refine r_baload (n := 900) (v := h 6 (h 5 12).toNat) f_122_141 ⟨rfl, rfl⟩ o1 rfl ?_
    refine r_bipush f_122_142 (by decide) ?_
    refine r_br2 (t := 154) f_122_144 rfl cb_gt (fun c2 => ?_) (fun c2 => ?_)
    · exact (k3 c1 c2)
    · refine r_aload_n (v := 5) f_122_147 rfl (by decide) ?_
      exact r_callv (as := [vr 5]) (st' := []) (ls0 := [vr 5]) f_122_148 (by decide) rfl rfl (Nat.le_of_ble_eq_true rfl) (Nat.le_of_ble_eq_true rfl) ⟨_, _, rfl, rfl⟩ rfl (k4 c1 c2)

theorem g_To_next_151 {Q : PQ} {h : HP}  
    (k1 : Q none h) :
    Wp true i_To_next 151 [vr 5] [] h Q := by
  refine r_goto (t := 202) f_122_151 rfl ?_
  exact r_retv f_122_202 rfl k1

theorem g_To_next_154 {Q : PQ} {h : HP}  
    (o1 : 0 ≤ h 5 12 ∧ h 5 12 < 900)
    (k2 : h 6 (h 5 12).toNat = 59 → Wp true i_To_next 184 [vr 5] [vr 5] (hs h 5 8 (h 6 (h 5 12).toNat)) Q)
    (k3 : ¬ h 6 (h 5 12).toNat = 59 → Wp true i_To_isCompare 0 [vr 5] [] (hs h 5 8 (h 6 (h 5 12).toNat)) (fun r h' => Wp true i_To_next 181 [vr 5] (r.toList ++ [vr 5]) h' Q)) :
    Wp true i_To_next 154 [vr 5] [] h Q := by
  refine r_aload_n (v := 5) f_122_154 rfl (by decide) ?_
  refine r_aload_n (v := 5) f_122_155 rfl (by decide) ?_
  refine r_getr (q := 6) f_122_156 rfl (by decide) (Or.inl rfl) rfl ?_
  refine r_aload_n (v := 5) f_122_159 rfl (by decide) ?_
  refine r_geti (v := h 5 12) f_122_160 rfl (by decide) rfl ?_
  refine r_baload (n := 900) (v := h 6 (h 5 12).toNat) f_122_163 ⟨rfl, rfl⟩ o1 rfl ?_
  refine r_puti f_122_164 rfl (by decide) ?_
  refine r_aload_n (v := 5) f_122_167 rfl (by decide) ?_
  refine r_aload_n (v := 5) f_122_168 rfl (by decide) ?_
  refine r_geti (v := h 6 (h 5 12).toNat) f_122_169 rfl (by decide) (by simp [hs]) ?_
  refine r_bipush f_122_172 (by decide) ?_
  refine r_br2 (t := 184) f_122_174 rfl cb_eq (fun c1 => ?_) (fun c1 => ?_)
  · exact (k2 c1)
  · refine r_aload_n (v := 5) f_122_177 rfl (by decide) ?_
    exact r_callv (as := [vr 5]) (st' := [vr 5]) (ls0 := [vr 5]) f_122_178 (by decide) rfl rfl (Nat.le_of_ble_eq_true rfl) (Nat.le_of_ble_eq_true rfl) ⟨_, _, rfl, rfl⟩ rfl (k3 c1)

theorem g_To_next_181 {Q : PQ} {h : HP} {s1 : Int} 
    (o1 : s1 = 0 → -2147483648 ≤ (h 5 12) + 1 ∧ (h 5 12) + 1 ≤ 2147483647)
    (k2 : s1 = 0 → Q none (hs (hs h 5 5 4) 5 12 ((h 5 12) + 1)))
    (k3 : ¬ s1 = 0 → Wp true i_To_next 184 [vr 5] [vr 5] h Q) :
    Wp true i_To_next 181 [vr 5] [vi s1, vr 5] h Q := by
  refine r_br (t := 188) f_122_181 rfl cb_eq (fun c1 => ?_) (fun c1 => ?_)
  · refine r_iconst f_122_188 (by decide) ?_
    refine r_puti f_122_189 rfl (by decide) ?_
    refine r_aload_n (v := 5) f_122_192 rfl (by decide) ?_
    refine r_dupr f_122_193 ?_
    refine r_geti (v := h 5 12) f_122_194 rfl (by decide) (by simp [hs]) ?_
    refine r_iconst f_122_197 (by decide) ?_
    refine r_iadd (u := (h 5 12) + 1) f_122_198 rfl (o1 c1) ?_
    refine r_puti f_122_199 rfl (by decide) ?_
    exact r_retv f_122_202 rfl (k2 c1)
  · exact (k3 c1)

theorem g_To_next_184 {Q : PQ} {h : HP}  
    (o1 : -2147483648 ≤ (h 5 12) + 1 ∧ (h 5 12) + 1 ≤ 2147483647)
    (k2 : Q none (hs (hs h 5 5 3) 5 12 ((h 5 12) + 1))) :
    Wp true i_To_next 184 [vr 5] [vr 5] h Q := by
  refine r_iconst f_122_184 (by decide) ?_
  refine r_goto (t := 189) f_122_185 rfl ?_
  refine r_puti f_122_189 rfl (by decide) ?_
  refine r_aload_n (v := 5) f_122_192 rfl (by decide) ?_
  refine r_dupr f_122_193 ?_
  refine r_geti (v := h 5 12) f_122_194 rfl (by decide) (by simp [hs]) ?_
  refine r_iconst f_122_197 (by decide) ?_
  refine r_iadd (u := (h 5 12) + 1) f_122_198 rfl o1 ?_
  refine r_puti f_122_199 rfl (by decide) ?_
  exact r_retv f_122_202 rfl k2

theorem g_To_begin_0 {Q : PQ} {h : HP} {x1 : Int} 
    (k1 : Wp true i_To_next 0 [vr 5] [] (hs (hs (hs (hs h 5 10 x1) 5 12 0) 5 3 0) 5 4 (-1)) (fun r h' => Wp true i_To_begin 24 [vr 5, vi x1] (r.toList ++ []) h' Q)) :
    Wp true i_To_begin 0 [vr 5, vi x1] [] h Q := by
  refine r_aload_n (v := 5) f_121_0 rfl (by decide) ?_
  refine r_iload_n (v := x1) f_121_1 rfl ?_
  refine r_puti f_121_2 rfl (by decide) ?_
  refine r_aload_n (v := 5) f_121_5 rfl (by decide) ?_
  refine r_iconst f_121_6 (by decide) ?_
  refine r_puti f_121_7 rfl (by decide) ?_
  refine r_aload_n (v := 5) f_121_10 rfl (by decide) ?_
  refine r_iconst f_121_11 (by decide) ?_
  refine r_puti f_121_12 rfl (by decide) ?_
  refine r_aload_n (v := 5) f_121_15 rfl (by decide) ?_
  refine r_iconst f_121_16 (by decide) ?_
  refine r_puti f_121_17 rfl (by decide) ?_
  refine r_aload_n (v := 5) f_121_20 rfl (by decide) ?_
  exact r_callv (as := [vr 5]) (st' := []) (ls0 := [vr 5]) f_121_21 (by decide) rfl rfl (Nat.le_of_ble_eq_true rfl) (Nat.le_of_ble_eq_true rfl) ⟨_, _, rfl, rfl⟩ rfl k1

theorem g_To_begin_24 {Q : PQ} {h : HP} {x1 : Int} 
    (k1 : Q none h) :
    Wp true i_To_begin 24 [vr 5, vi x1] [] h Q := by
  exact r_retv f_121_24 rfl k1

theorem g_To_isName_0 {Q : PQ} {h : HP}  
    (k1 : ¬ h 5 5 = 1 → Q (some (vi 0)) h)
    (k2 : h 5 5 = 1 → ¬ h 5 6 = -1 → Q (some (vi 0)) h)
    (o3 : h 5 5 = 1 → h 5 6 = -1 → -2147483648 ≤ (h 5 12) - (h 5 11) ∧ (h 5 12) - (h 5 11) ≤ 2147483647)
    (k4 : h 5 5 = 1 → h 5 6 = -1 → 8 < (h 5 12) - (h 5 11) → Q (some (vi 0)) h)
    (k5 : h 5 5 = 1 → h 5 6 = -1 → ¬ 8 < (h 5 12) - (h 5 11) → Q (some (vi 1)) h) :
    Wp true i_To_isName 0 [vr 5] [] h Q := by
  refine r_aload_n (v := 5) f_125_0 rfl (by decide) ?_
  refine r_geti (v := h 5 5) f_125_1 rfl (by decide) rfl ?_
  refine r_iconst f_125_4 (by decide) ?_
  refine r_br2 (t := 34) f_125_5 rfl cb_ne (fun c1 => ?_) (fun c1 => ?_)
  · refine r_iconst f_125_34 (by decide) ?_
    exact r_retz f_125_35 rfl (by decide) (k1 c1)
  · have c1 := Decidable.not_not.mp c1
    refine r_aload_n (v := 5) f_125_8 rfl (by decide) ?_
    refine r_geti (v := h 5 6) f_125_9 rfl (by decide) rfl ?_
    refine r_iconst f_125_12 (by decide) ?_
    refine r_br2 (t := 34) f_125_13 rfl cb_ne (fun c2 => ?_) (fun c2 => ?_)
    · refine r_iconst f_125_34 (by decide) ?_
      exact r_retz f_125_35 rfl (by decide) (k2 c1 c2)
    · have c2 := Decidable.not_not.mp c2
      refine r_aload_n (v := 5) f_125_16 rfl (by decide) ?_
      refine r_geti (v := h 5 12) f_125_17 rfl (by decide) rfl ?_
      refine r_aload_n (v := 5) f_125_20 rfl (by decide) ?_
      refine r_geti (v := h 5 11) f_125_21 rfl (by decide) rfl ?_
      refine r_isub (u := (h 5 12) - (h 5 11)) f_125_24 rfl (o3 c1 c2) ?_
      refine r_bipush f_125_25 (by decide) ?_
      refine r_br2 (t := 34) f_125_27 rfl cb_gt (fun c3 => ?_) (fun c3 => ?_)
      · refine r_iconst f_125_34 (by decide) ?_
        exact r_retz f_125_35 rfl (by decide) (k4 c1 c2 c3)
      · refine r_iconst f_125_30 (by decide) ?_
        refine r_goto (t := 35) f_125_31 rfl ?_
        exact r_retz f_125_35 rfl (by decide) (k5 c1 c2 c3)

theorem g_To_fail_0 {Q : PQ} {h : HP} {x1 : Int} 
    (k1 : ¬ h 5 5 = 4 → Q (some (vi 0)) (hs (hs h 5 3 x1) 5 4 (h 5 11)))
    (k2 : h 5 5 = 4 → Q (some (vi 0)) (hs (hs h 5 3 1) 5 4 (h 5 11))) :
    Wp true i_To_fail 0 [vr 5, vi x1] [] h Q := by
  refine r_aload_n (v := 5) f_127_0 rfl (by decide) ?_
  refine r_aload_n (v := 5) f_127_1 rfl (by decide) ?_
  refine r_geti (v := h 5 5) f_127_2 rfl (by decide) rfl ?_
  refine r_iconst f_127_5 (by decide) ?_
  refine r_br2 (t := 13) f_127_6 rfl cb_ne (fun c1 => ?_) (fun c1 => ?_)
  · refine r_iload_n (v := x1) f_127_13 rfl ?_
    refine r_puti f_127_14 rfl (by decide) ?_
    refine r_aload_n (v := 5) f_127_17 rfl (by decide) ?_
    refine r_aload_n (v := 5) f_127_18 rfl (by decide) ?_
    refine r_geti (v := h 5 11) f_127_19 rfl (by decide) (by simp [hs]) ?_
    refine r_puti f_127_22 rfl (by decide) ?_
    refine r_iconst f_127_25 (by decide) ?_
    exact r_retz f_127_26 rfl (by decide) (k1 c1)
  · have c1 := Decidable.not_not.mp c1
    refine r_iconst f_127_9 (by decide) ?_
    refine r_goto (t := 14) f_127_10 rfl ?_
    refine r_puti f_127_14 rfl (by decide) ?_
    refine r_aload_n (v := 5) f_127_17 rfl (by decide) ?_
    refine r_aload_n (v := 5) f_127_18 rfl (by decide) ?_
    refine r_geti (v := h 5 11) f_127_19 rfl (by decide) (by simp [hs]) ?_
    refine r_puti f_127_22 rfl (by decide) ?_
    refine r_iconst f_127_25 (by decide) ?_
    exact r_retz f_127_26 rfl (by decide) (k2 c1)

theorem g_To_takeWord_0 {Q : PQ} {h : HP} {x1 : Int} 
    (k1 : h 5 6 = x1 → Wp true i_To_next 0 [vr 5] [] h (fun r h' => Wp true i_To_takeWord 18 [vr 5, vi x1] (r.toList ++ []) h' Q))
    (k2 : ¬ h 5 6 = x1 → Wp true i_To_fail 0 [vr 5, vi 2] [] h (fun r h' => Wp true i_To_takeWord 13 [vr 5, vi x1] (r.toList ++ []) h' Q)) :
    Wp true i_To_takeWord 0 [vr 5, vi x1] [] h Q := by
  refine r_aload_n (v := 5) f_128_0 rfl (by decide) ?_
  refine r_geti (v := h 5 6) f_128_1 rfl (by decide) rfl ?_
  refine r_iload_n (v := x1) f_128_4 rfl ?_
  refine r_br2 (t := 14) f_128_5 rfl cb_eq (fun c1 => ?_) (fun c1 => ?_)
  · refine r_aload_n (v := 5) f_128_14 rfl (by decide) ?_
    exact r_callv (as := [vr 5]) (st' := []) (ls0 := [vr 5]) f_128_15 (by decide) rfl rfl (Nat.le_of_ble_eq_true rfl) (Nat.le_of_ble_eq_true rfl) ⟨_, _, rfl, rfl⟩ rfl (k1 c1)
  · refine r_aload_n (v := 5) f_128_8 rfl (by decide) ?_
    refine r_iconst f_128_9 (by decide) ?_
    exact r_callv (as := [vr 5, vi 2]) (st' := []) (ls0 := [vr 5, vi 2]) f_128_10 (by decide) rfl rfl (Nat.le_of_ble_eq_true rfl) (Nat.le_of_ble_eq_true rfl) ⟨_, _, rfl, rfl⟩ rfl (k2 c1)

theorem g_To_takeWord_13 {Q : PQ} {h : HP} {x1 : Int} {s0 : Int} 
    (o1 : s0 = 0 ∨ s0 = 1)
    (k2 : Q (some (vi s0)) h) :
    Wp true i_To_takeWord 13 [vr 5, vi x1] [vi s0] h Q := by
  exact r_retz f_128_13 rfl o1 k2

theorem g_To_takeWord_18 {Q : PQ} {h : HP} {x1 : Int} 
    (k1 : Q (some (vi 1)) h) :
    Wp true i_To_takeWord 18 [vr 5, vi x1] [] h Q := by
  refine r_iconst f_128_18 (by decide) ?_
  exact r_retz f_128_19 rfl (by decide) k1

theorem g_To_takeEndOfPart_0 {Q : PQ} {h : HP}  
    (k1 : ¬ h 5 5 = 3 → Wp true i_To_fail 0 [vr 5, vi 2] [] h (fun r h' => Wp true i_To_takeEndOfPart 22 [vr 5] (r.toList ++ []) h' Q))
    (k2 : h 5 5 = 3 → h 5 8 = 59 → Wp true i_To_next 0 [vr 5] [] h (fun r h' => Wp true i_To_takeEndOfPart 27 [vr 5] (r.toList ++ []) h' Q))
    (k3 : h 5 5 = 3 → ¬ h 5 8 = 59 → Wp true i_To_fail 0 [vr 5, vi 2] [] h (fun r h' => Wp true i_To_takeEndOfPart 22 [vr 5] (r.toList ++ []) h' Q)) :
    Wp true i_To_takeEndOfPart 0 [vr 5] [] h Q := by
  refine r_aload_n (v := 5) f_129_0 rfl (by decide) ?_
  refine r_geti (v := h 5 5) f_129_1 rfl (by decide) rfl ?_
  refine r_iconst f_129_4 (by decide) ?_
  refine r_br2 (t := 17) f_129_5 rfl cb_ne (fun c1 => ?_) (fun c1 => ?_)
  · refine r_aload_n (v := 5) f_129_17 rfl (by decide) ?_
    refine r_iconst f_129_18 (by decide) ?_
    exact r_callv (as := [vr 5, vi 2]) (st' := []) (ls0 := [vr 5, vi 2]) f_129_19 (by decide) rfl rfl (Nat.le_of_ble_eq_true rfl) (Nat.le_of_ble_eq_true rfl) ⟨_, _, rfl, rfl⟩ rfl (k1 c1)
  · have c1 := Decidable.not_not.mp c1
    refine r_aload_n (v := 5) f_129_8 rfl (by decide) ?_
    refine r_geti (v := h 5 8) f_129_9 rfl (by decide) rfl ?_
    refine r_bipush f_129_12 (by decide) ?_
    refine r_br2 (t := 23) f_129_14 rfl cb_eq (fun c2 => ?_) (fun c2 => ?_)
    · refine r_aload_n (v := 5) f_129_23 rfl (by decide) ?_
      exact r_callv (as := [vr 5]) (st' := []) (ls0 := [vr 5]) f_129_24 (by decide) rfl rfl (Nat.le_of_ble_eq_true rfl) (Nat.le_of_ble_eq_true rfl) ⟨_, _, rfl, rfl⟩ rfl (k2 c1 c2)
    · refine r_aload_n (v := 5) f_129_17 rfl (by decide) ?_
      refine r_iconst f_129_18 (by decide) ?_
      exact r_callv (as := [vr 5, vi 2]) (st' := []) (ls0 := [vr 5, vi 2]) f_129_19 (by decide) rfl rfl (Nat.le_of_ble_eq_true rfl) (Nat.le_of_ble_eq_true rfl) ⟨_, _, rfl, rfl⟩ rfl (k3 c1 c2)

theorem g_To_takeEndOfPart_22 {Q : PQ} {h : HP} {s0 : Int} 
    (o1 : s0 = 0 ∨ s0 = 1)
    (k2 : Q (some (vi s0)) h) :
    Wp true i_To_takeEndOfPart 22 [vr 5] [vi s0] h Q := by
  exact r_retz f_129_22 rfl o1 k2

theorem g_To_takeEndOfPart_27 {Q : PQ} {h : HP}  
    (k1 : Q (some (vi 1)) h) :
    Wp true i_To_takeEndOfPart 27 [vr 5] [] h Q := by
  refine r_iconst f_129_27 (by decide) ?_
  exact r_retz f_129_28 rfl (by decide) k1

theorem g_To_lookForNumber_0 {Q : PQ} {h : HP} {x1 : Int} {x2 : Int} 
    (k1 : h 5 5 = 2 → h 5 7 < x1 → Wp true i_To_fail 0 [vr 5, vi 4] [] h (fun r h' => Wp true i_To_lookForNumber 37 [vr 5, vi x1, vi x2] (r.toList ++ []) h' Q))
    (k2 : h 5 5 = 2 → ¬ h 5 7 < x1 → h 5 7 ≤ x2 → Q (some (vi (h 5 7))) h)
    (k3 : h 5 5 = 2 → ¬ h 5 7 < x1 → ¬ h 5 7 ≤ x2 → Wp true i_To_fail 0 [vr 5, vi 4] [] h (fun r h' => Wp true i_To_lookForNumber 37 [vr 5, vi x1, vi x2] (r.toList ++ []) h' Q))
    (k4 : ¬ h 5 5 = 2 → Wp true i_To_fail 0 [vr 5, vi 2] [] h (fun r h' => Wp true i_To_lookForNumber 13 [vr 5, vi x1, vi x2] (r.toList ++ []) h' Q)) :
    Wp true i_To_lookForNumber 0 [vr 5, vi x1, vi x2] [] h Q := by
  refine r_aload_n (v := 5) f_130_0 rfl (by decide) ?_
  refine r_geti (v := h 5 5) f_130_1 rfl (by decide) rfl ?_
  refine r_iconst f_130_4 (by decide) ?_
  refine r_br2 (t := 16) f_130_5 rfl cb_eq (fun c1 => ?_) (fun c1 => ?_)
  · refine r_aload_n (v := 5) f_130_16 rfl (by decide) ?_
    refine r_geti (v := h 5 7) f_130_17 rfl (by decide) rfl ?_
    refine r_iload_n (v := x1) f_130_20 rfl ?_
    refine r_br2 (t := 32) f_130_21 rfl cb_lt (fun c2 => ?_) (fun c2 => ?_)
    · refine r_aload_n (v := 5) f_130_32 rfl (by decide) ?_
      refine r_iconst f_130_33 (by decide) ?_
      exact r_callv (as := [vr 5, vi 4]) (st' := []) (ls0 := [vr 5, vi 4]) f_130_34 (by decide) rfl rfl (Nat.le_of_ble_eq_true rfl) (Nat.le_of_ble_eq_true rfl) ⟨_, _, rfl, rfl⟩ rfl (k1 c1 c2)
    · refine r_aload_n (v := 5) f_130_24 rfl (by decide) ?_
      refine r_geti (v := h 5 7) f_130_25 rfl (by decide) rfl ?_
      refine r_iload_n (v := x2) f_130_28 rfl ?_
      refine r_br2 (t := 40) f_130_29 rfl cb_le (fun c3 => ?_) (fun c3 => ?_)
      · refine r_aload_n (v := 5) f_130_40 rfl (by decide) ?_
        refine r_geti (v := h 5 7) f_130_41 rfl (by decide) rfl ?_
        exact r_reti f_130_44 rfl (k2 c1 c2 c3)
      · refine r_aload_n (v := 5) f_130_32 rfl (by decide) ?_
        refine r_iconst f_130_33 (by decide) ?_
        exact r_callv (as := [vr 5, vi 4]) (st' := []) (ls0 := [vr 5, vi 4]) f_130_34 (by decide) rfl rfl (Nat.le_of_ble_eq_true rfl) (Nat.le_of_ble_eq_true rfl) ⟨_, _, rfl, rfl⟩ rfl (k3 c1 c2 c3)
  · refine r_aload_n (v := 5) f_130_8 rfl (by decide) ?_
    refine r_iconst f_130_9 (by decide) ?_
    exact r_callv (as := [vr 5, vi 2]) (st' := []) (ls0 := [vr 5, vi 2]) f_130_10 (by decide) rfl rfl (Nat.le_of_ble_eq_true rfl) (Nat.le_of_ble_eq_true rfl) ⟨_, _, rfl, rfl⟩ rfl (k4 c1)

theorem g_To_lookForNumber_13 {Q : PQ} {h : HP} {x1 : Int} {x2 : Int} {s0 : Int} 
    (k1 : Q (some (vi (-1))) h) :
    Wp true i_To_lookForNumber 13 [vr 5, vi x1, vi x2] [vi s0] h Q := by
  refine r_popi f_130_13 ?_
  refine r_iconst f_130_14 (by decide) ?_
  exact r_reti f_130_15 rfl k1

theorem g_To_lookForNumber_37 {Q : PQ} {h : HP} {x1 : Int} {x2 : Int} {s0 : Int} 
    (k1 : Q (some (vi (-1))) h) :
    Wp true i_To_lookForNumber 37 [vr 5, vi x1, vi x2] [vi s0] h Q := by
  refine r_popi f_130_37 ?_
  refine r_iconst f_130_38 (by decide) ?_
  exact r_reti f_130_39 rfl k1

theorem g_To_takeNumber_0 {Q : PQ} {h : HP} {x1 : Int} {x2 : Int} 
    (k1 : Wp true i_To_lookForNumber 0 [vr 5, vi x1, vi x2] [] h (fun r h' => Wp true i_To_takeNumber 6 [vr 5, vi x1, vi x2, vr 9999] (r.toList ++ []) h' Q)) :
    Wp true i_To_takeNumber 0 [vr 5, vi x1, vi x2, vr 9999] [] h Q := by
  refine r_aload_n (v := 5) f_131_0 rfl (by decide) ?_
  refine r_iload_n (v := x1) f_131_1 rfl ?_
  refine r_iload_n (v := x2) f_131_2 rfl ?_
  exact r_callv (as := [vr 5, vi x1, vi x2]) (st' := []) (ls0 := [vr 5, vi x1, vi x2]) f_131_3 (by decide) rfl rfl (Nat.le_of_ble_eq_true rfl) (Nat.le_of_ble_eq_true rfl) ⟨_, _, rfl, rfl⟩ rfl k1

theorem g_To_takeNumber_6 {Q : PQ} {h : HP} {x1 : Int} {x2 : Int} {s0 : Int} 
    (k1 : s0 = -1 → Wp true i_To_takeNumber 16 [vr 5, vi x1, vi x2, vi s0] [] h Q)
    (k2 : ¬ s0 = -1 → Wp true i_To_next 0 [vr 5] [] h (fun r h' => Wp true i_To_takeNumber 16 [vr 5, vi x1, vi x2, vi s0] (r.toList ++ []) h' Q)) :
    Wp true i_To_takeNumber 6 [vr 5, vi x1, vi x2, vr 9999] [vi s0] h Q := by
  refine r_istore_n (ls' := [vr 5, vi x1, vi x2, vi s0]) f_131_6 (Nat.le_of_ble_eq_true rfl) rfl ?_
  refine r_iload_n (v := s0) f_131_7 rfl ?_
  refine r_iconst f_131_8 (by decide) ?_
  refine r_br2 (t := 16) f_131_9 rfl cb_eq (fun c1 => ?_) (fun c1 => ?_)
  · exact (k1 c1)
  · refine r_aload_n (v := 5) f_131_12 rfl (by decide) ?_
    exact r_callv (as := [vr 5]) (st' := []) (ls0 := [vr 5]) f_131_13 (by decide) rfl rfl (Nat.le_of_ble_eq_true rfl) (Nat.le_of_ble_eq_true rfl) ⟨_, _, rfl, rfl⟩ rfl (k2 c1)

theorem g_To_takeNumber_16 {Q : PQ} {h : HP} {x1 : Int} {x2 : Int} {x3 : Int} 
    (k1 : Q (some (vi x3)) h) :
    Wp true i_To_takeNumber 16 [vr 5, vi x1, vi x2, vi x3] [] h Q := by
  refine r_iload_n (v := x3) f_131_16 rfl ?_
  exact r_reti f_131_17 rfl k1

theorem g_To_emptyTape_0 {Q : PQ} {h : HP}  
    (k1 : Q none (hs h 5 2 0)) :
    Wp true i_To_emptyTape 0 [vr 5] [] h Q := by
  refine r_aload_n (v := 5) f_120_0 rfl (by decide) ?_
  refine r_iconst f_120_1 (by decide) ?_
  refine r_puti f_120_2 rfl (by decide) ?_
  exact r_retv f_120_5 rfl k1

/-! ===== TOKENS of the class ===== -/
def TpC (B : Bt) (n : Nat) (h : HP) : Prop := n ≤ 900 ∧ (∀ p, p < n → h 6 p = B p) ∧ (∀ i, i < 22 → h 7 i = kwC.getD i 0) ∧ h 5 10 = n
def TkC (B : Bt) (n s : Nat) (h : HP) : Prop := s ≤ n ∧ h 5 11 = s ∧ h 5 12 = tE B n s ∧ h 5 5 = tK B n s ∧ h 5 6 = tW B n s ∧ (tK B n s = 2 → h 5 7 = tN B n s) ∧ (tK B n s = 3 → h 5 8 = B s) ∧ (tK B n s = 1 → h 5 9 = nm32 (ltr B (min 8 (tE B n s - s)) s))
def CS (B : Bt) (n s : Nat) (h : HP) : Prop := TpC B n h ∧ TkC B n s h
abbrev TLC : List Nat := [5, 6, 7, 8, 9, 11, 12]
theorem TpC_o {B : Bt} {n : Nat} {h g : HP} {L : List Nat} (T : TpC B n h) (o : Oth 5 L h g) (hL : 10 ∉ L) : TpC B n g := by
  refine ⟨T.1, ?_, ?_, ?_⟩
  · rw [o.1 6 (by decide)]; exact T.2.1
  · rw [o.1 7 (by decide)]; exact T.2.2.1
  · rw [o.2 10 hL]; exact T.2.2.2
theorem fnd_nx {p : Nat → Prop} [DecidablePred p] {i : Nat} (h : ¬ p i) (hu : ∀ a b, a < i + 1 → b < i + 1 → p a → p b → a = b) : fnd p (i + 1) 0 = fnd p i 0 := by
  rcases fnd_at (p := p) i 0 with ⟨a, b⟩ | ⟨j, a, b1, b2, b3, b4⟩
  · rw [a]
    refine fnd_no (fun q hq => ?_)
    by_cases z : q = i
    · rw [z]; exact h
    · exact b q (by omega) (by omega)
  · rw [a]
    exact fnd_one (by omega) b3 (fun q hq pq => hu q j hq (by omega) pq b3)
theorem c_To_lookAtWord {Q : PQ} {h : HP} {B : Bt} {n s : Nat} (T : TpC B n h) (hs0 : s < n) (hl : isL (B s)) (e11 : h 5 11 = s) (e12 : h 5 12 = s) (e6 : h 5 6 = -1)
    (k : ∀ g, Oth 5 [5, 6, 9, 12] h g → g 5 5 = 1 → g 5 6 = tW B n s → g 5 9 = nm32 (ltr B (min 8 (tE B n s - s)) s) → g 5 12 = tE B n s → Q none g) : Wp true i_To_lookAtWord 0 [vr 5, vr 9999] [] h Q := by
  have K1 : tK B n s = 1 := tK_w.mpr ⟨hs0, hl⟩
  have n900 := T.1
  have rgL : ∀ c ∈ ltr B (min 8 (tE B n s - s)) s, 1 ≤ c ∧ c ≤ 26 := ltr_rg _ (fun p h1 h2 => tW_all K1 p h1 (by omega))
  have un : ∀ a b, a < 22 → b < 22 → KL.getD a [] = tL B n s → KL.getD b [] = tL B n s → a = b := fun a b ha hb h1 h2 => KL_inj a ha b hb (h1.trans h2.symm)
  have kw : ∀ (d i : Nat) (g : HP), i + d = 22 → Oth 5 [5, 6, 9, 12] h g → g 5 5 = 1 → g 5 9 = nm32 (ltr B (min 8 (tE B n s - s)) s) → g 5 12 = tE B n s → g 5 6 = fnd (fun j => KL.getD j [] = tL B n s) i 0 → Wp true i_To_lookAtWord 106 [vr 5, vi (i : Int)] [] g Q := by
    intro d
    induction d with
    | zero =>
      intro i g hi o g5 g9 g12 g6
      have i22 : i = 22 := by omega
      have fin : Q none g := k g o g5 (by rw [g6, i22]; unfold tW; rw [if_pos K1]) g9 g12
      refine g_To_lookAtWord_106 ?_ ?_ ?_ ?_ ?_ ?_
      · intro c1; (try simp only [Int.toNat_natCast] at c1); first | (exfalso; omega) | exact absurd trivial ‹¬ True› | (exact fin)
      · intro c1; (try simp only [Int.toNat_natCast] at c1); first | omega | (exfalso; omega) | exact ⟨by omega, by omega⟩ | (omega) | exact absurd trivial ‹¬ True›
      · intro c1 c2; (try simp only [Int.toNat_natCast] at c1 c2); first | omega | (exfalso; omega) | exact ⟨by omega, by omega⟩ | (omega) | exact absurd trivial ‹¬ True›
      · intro c1 c2; (try simp only [Int.toNat_natCast] at c1 c2); first | (exfalso; omega) | exact absurd trivial ‹¬ True› | (skip)
      · intro c1 c2; (try simp only [Int.toNat_natCast] at c1 c2); first | omega | (exfalso; omega) | exact ⟨by omega, by omega⟩ | (omega) | exact absurd trivial ‹¬ True›
      · intro c1 c2; (try simp only [Int.toNat_natCast] at c1 c2); first | (exfalso; omega) | exact absurd trivial ‹¬ True› | (skip)
    | succ d ih =>
      intro i g hi o g5 g9 g12 g6
      have m : g 7 i = g 5 9 ↔ KL.getD i [] = tL B n s := by
        have r := KL_rg i (by omega)
        rw [g9, o.1 7 (by decide), T.2.2.1 i (by omega), ← KL_kw i (by omega)]
        unfold tL
        by_cases c : tE B n s - s ≤ 8
        · rw [show min 8 (tE B n s - s) = tE B n s - s by omega] at rgL ⊢
          exact ⟨fun q => nm32_inj _ _ r.1 rgL q, fun q => by rw [q]⟩
        · constructor
          · intro q
            have := congrArg List.length (nm32_inj _ _ r.1 rgL q)
            rw [ltr_len] at this
            omega
          · intro q
            have := congrArg List.length q
            rw [ltr_len] at this
            omega
      have no : ¬ g 7 i = g 5 9 → Wp true i_To_lookAtWord 106 [vr 5, vi ((i : Int) + 1)] [] g Q := by
        intro c
        refine ih (i + 1) g (by omega) o g5 g9 g12 ?_
        rw [g6, fnd_nx (fun q => c (m.mpr q)) (fun a b ha hb => un a b (by omega) (by omega))]
      have ys : g 7 i = g 5 9 → Wp true i_To_lookAtWord 106 [vr 5, vi ((i : Int) + 1)] [] (hs g 5 6 (i : Int)) Q := by
        intro c
        refine ih (i + 1) _ (by omega) (Oth_hs o (by decide)) (by rw [hs_o (by decide)]; exact g5) (by rw [hs_o (by decide)]; exact g9) (by rw [hs_o (by decide)]; exact g12) ?_
        rw [hs_s]
        exact (fnd_one (by omega) (m.mp c) (fun q hq pq => un q i (by omega) (by omega) pq (m.mp c))).symm
      refine g_To_lookAtWord_106 ?_ ?_ ?_ ?_ ?_ ?_
      · intro c1; (try simp only [Int.toNat_natCast] at c1); first | (exfalso; omega) | exact absurd trivial ‹¬ True› | (skip)
      · intro c1; (try simp only [Int.toNat_natCast] at c1); first | omega | (exfalso; omega) | exact ⟨by omega, by omega⟩ | (omega) | exact absurd trivial ‹¬ True›
      · intro c1 c2; (try simp only [Int.toNat_natCast] at c1 c2); first | omega | (exfalso; omega) | exact ⟨by omega, by omega⟩ | (omega) | exact absurd trivial ‹¬ True›
      · intro c1 c2; (try simp only [Int.toNat_natCast] at c1 c2); first | (exfalso; omega) | exact absurd trivial ‹¬ True› | (exact no c2)
      · intro c1 c2; (try simp only [Int.toNat_natCast] at c1 c2); first | omega | (exfalso; omega) | exact ⟨by omega, by omega⟩ | (omega) | exact absurd trivial ‹¬ True›
      · intro c1 c2; (try simp only [Int.toNat_natCast] at c1 c2); first | (exfalso; omega) | exact absurd trivial ‹¬ True› | (exact ys c2)
  have lp : ∀ (d p : Nat) (g : HP), n - p = d → s ≤ p → p ≤ n → Oth 5 [5, 6, 9, 12] h g → g 5 5 = 1 → g 5 6 = -1 → g 5 9 = nm32 (ltr B (min 8 (p - s)) s) → g 5 12 = p → (∀ q, s ≤ q → q < p → isL (B q)) → rn isL B (n - p) p = tE B n s → Wp true i_To_lookAtWord 10 [vr 5, vr 9999] [] g Q := by
    intro d
    induction d with
    | zero =>
      intro p g hd h1 h2 o g5 g6 g9 g12 al e
      have e10 : g 5 10 = n := (o.2 10 (by decide)).trans T.2.2.2
      have ep : p = tE B n s := by rw [← e, rn_n (Or.inl (by omega))]
      have fin : Wp true i_To_lookAtWord 106 [vr 5, vi 0] [] g Q := kw 22 0 g rfl o g5 (by rw [g9, ep]) (by rw [g12, ep]) (by rw [g6]; rfl)
      refine g_To_lookAtWord_10 ?_ ?_ ?_ ?_ ?_ ?_ ?_ ?_ ?_ ?_ ?_ ?_ ?_
      · intro c1; (try simp only [Int.toNat_natCast] at c1); first | (exfalso; omega) | exact absurd trivial ‹¬ True› | (exact fin)
      · intro c1; (try simp only [Int.toNat_natCast] at c1); first | omega | (exfalso; omega) | exact ⟨by omega, by omega⟩ | (omega) | exact absurd trivial ‹¬ True›
      · intro c1 c2; (try simp only [Int.toNat_natCast] at c1 c2); first | (exfalso; omega) | exact absurd trivial ‹¬ True› | (skip)
      · intro c1 c2 c3; (try simp only [Int.toNat_natCast] at c1 c2 c3); first | (exfalso; omega) | exact absurd trivial ‹¬ True› | (skip)
      · intro c1 c2 c3; (try simp only [Int.toNat_natCast] at c1 c2 c3); first | omega | (exfalso; omega) | exact ⟨by omega, by omega⟩ | (omega) | exact absurd trivial ‹¬ True›
      · intro c1 c2 c3 c4; (try simp only [Int.toNat_natCast] at c1 c2 c3 c4); first | omega | (exfalso; omega) | exact ⟨by omega, by omega⟩ | (omega) | exact absurd trivial ‹¬ True›
      · intro c1 c2 c3 c4; (try simp only [Int.toNat_natCast] at c1 c2 c3 c4); first | (exfalso; omega) | exact absurd trivial ‹¬ True› | (skip)
      · intro c1 c2 c3 c4; (try simp only [Int.toNat_natCast] at c1 c2 c3 c4); first | omega | (exfalso; omega) | exact ⟨by omega, by omega⟩ | (omega) | exact absurd trivial ‹¬ True›
      · intro c1 c2 c3 c4; (try simp only [Int.toNat_natCast] at c1 c2 c3 c4); first | omega | (exfalso; omega) | exact ⟨by omega, by omega⟩ | (omega) | exact absurd trivial ‹¬ True›
      · intro c1 c2 c3 c4; (try simp only [Int.toNat_natCast] at c1 c2 c3 c4); first | omega | (exfalso; omega) | exact ⟨by omega, by omega⟩ | (omega) | exact absurd trivial ‹¬ True›
      · intro c1 c2 c3 c4; (try simp only [Int.toNat_natCast] at c1 c2 c3 c4); first | omega | (exfalso; omega) | exact ⟨by omega, by omega⟩ | (omega) | exact absurd trivial ‹¬ True›
      · intro c1 c2 c3 c4; (try simp only [Int.toNat_natCast] at c1 c2 c3 c4); first | omega | (exfalso; omega) | exact ⟨by omega, by omega⟩ | (omega) | exact absurd trivial ‹¬ True›
      · intro c1 c2 c3 c4; (try simp only [Int.toNat_natCast] at c1 c2 c3 c4); first | (exfalso; omega) | exact absurd trivial ‹¬ True› | (skip)
    | succ d ih =>
      intro p g hd h1 h2 o g5 g6 g9 g12 al e
      have e10 : g 5 10 = n := (o.2 10 (by decide)).trans T.2.2.2
      have e11 : g 5 11 = s := (o.2 11 (by decide)).trans e11
      have tb : g 6 (g 5 12).toNat = B p := by rw [g12, Int.toNat_natCast, o.1 6 (by decide)]; exact T.2.1 p (by omega)
      have b0 : 0 ≤ g 5 9 := by rw [g9]; exact nm32_0 _
      have b1 : g 5 9 < 1099511627776 := by
        rw [g9]
        have q := nm32_lt (ltr B (min 8 (p - s)) s) (ltr_rg _ (fun q h1 h2 => al q h1 (by omega)))
        rw [ltr_len] at q
        have := p32 (d := min 8 (p - s)) (by omega)
        omega
      by_cases c : 97 ≤ B p ∧ B p ≤ 122
      · have al' : ∀ q, s ≤ q → q < p + 1 → isL (B q) := by
          intro q q1 q2
          by_cases z : q = p
          · rw [z]; exact c
          · exact al q q1 (by omega)
        have e' : rn isL B (n - (p + 1)) (p + 1) = tE B n s := (rn_y (by omega) c).symm.trans e
        have st : ¬ 8 ≤ (p : Int) - s → Wp true i_To_lookAtWord 10 [vr 5, vr 9999] [] (hs (hs g 5 9 (((g 5 9) * 32) + (((g 6 (g 5 12).toNat) - 97) + 1))) 5 12 ((g 5 12) + 1)) Q := by
          intro z
          refine ih (p + 1) _ (by omega) (by omega) (by omega) (Oth_hs (Oth_hs o (by decide)) (by decide)) (by rw [hs_o (by decide), hs_o (by decide)]; exact g5) (by rw [hs_o (by decide), hs_o (by decide)]; exact g6) ?_ (by rw [hs_s, g12]; omega) al' e'
          rw [hs_o (by decide), hs_s, tb, g9, show min 8 (p + 1 - s) = (p - s) + 1 by omega, show min 8 (p - s) = p - s by omega, ltr, nm32, show s + (p - s) = p by omega]
          omega
        have st2 : 8 ≤ (p : Int) - s → Wp true i_To_lookAtWord 10 [vr 5, vr 9999] [] (hs g 5 12 ((g 5 12) + 1)) Q := by
          intro z
          refine ih (p + 1) _ (by omega) (by omega) (by omega) (Oth_hs o (by decide)) (by rw [hs_o (by decide)]; exact g5) (by rw [hs_o (by decide)]; exact g6) ?_ (by rw [hs_s, g12]; omega) al' e'
          rw [hs_o (by decide), g9, show min 8 (p + 1 - s) = 8 by omega, show min 8 (p - s) = 8 by omega]
        refine g_To_lookAtWord_10 ?_ ?_ ?_ ?_ ?_ ?_ ?_ ?_ ?_ ?_ ?_ ?_ ?_
        · intro c1; (try simp only [Int.toNat_natCast] at c1); first | (exfalso; omega) | exact absurd trivial ‹¬ True› | (skip)
        · intro c1; (try simp only [Int.toNat_natCast] at c1); first | omega | (exfalso; omega) | exact ⟨by omega, by omega⟩ | (omega) | exact absurd trivial ‹¬ True›
        · intro c1 c2; (try simp only [Int.toNat_natCast] at c1 c2); first | (exfalso; omega) | exact absurd trivial ‹¬ True› | (skip)
        · intro c1 c2 c3; (try simp only [Int.toNat_natCast] at c1 c2 c3); first | (exfalso; omega) | exact absurd trivial ‹¬ True› | (skip)
        · intro c1 c2 c3; (try simp only [Int.toNat_natCast] at c1 c2 c3); first | omega | (exfalso; omega) | exact ⟨by omega, by omega⟩ | (omega) | exact absurd trivial ‹¬ True›
        · intro c1 c2 c3 c4; (try simp only [Int.toNat_natCast] at c1 c2 c3 c4); first | omega | (exfalso; omega) | exact ⟨by omega, by omega⟩ | (omega) | exact absurd trivial ‹¬ True›
        · intro c1 c2 c3 c4; (try simp only [Int.toNat_natCast] at c1 c2 c3 c4); first | (exfalso; omega) | exact absurd trivial ‹¬ True› | (exact st2 (by omega))
        · intro c1 c2 c3 c4; (try simp only [Int.toNat_natCast] at c1 c2 c3 c4); first | omega | (exfalso; omega) | exact ⟨by omega, by omega⟩ | (omega) | exact absurd trivial ‹¬ True›
        · intro c1 c2 c3 c4; (try simp only [Int.toNat_natCast] at c1 c2 c3 c4); first | omega | (exfalso; omega) | exact ⟨by omega, by omega⟩ | (omega) | exact absurd trivial ‹¬ True›
        · intro c1 c2 c3 c4; (try simp only [Int.toNat_natCast] at c1 c2 c3 c4); first | omega | (exfalso; omega) | exact ⟨by omega, by omega⟩ | (omega) | exact absurd trivial ‹¬ True›
        · intro c1 c2 c3 c4; (try simp only [Int.toNat_natCast] at c1 c2 c3 c4); first | omega | (exfalso; omega) | exact ⟨by omega, by omega⟩ | (omega) | exact absurd trivial ‹¬ True›
        · intro c1 c2 c3 c4; (try simp only [Int.toNat_natCast] at c1 c2 c3 c4); first | omega | (exfalso; omega) | exact ⟨by omega, by omega⟩ | (omega) | exact absurd trivial ‹¬ True›
        · intro c1 c2 c3 c4; (try simp only [Int.toNat_natCast] at c1 c2 c3 c4); first | (exfalso; omega) | exact absurd trivial ‹¬ True› | (exact st (by omega))
      · have ep : p = tE B n s := by rw [← e, rn_n (Or.inr c)]
        have fin : Wp true i_To_lookAtWord 106 [vr 5, vi 0] [] g Q := kw 22 0 g rfl o g5 (by rw [g9, ep]) (by rw [g12, ep]) (by rw [g6]; rfl)
        refine g_To_lookAtWord_10 ?_ ?_ ?_ ?_ ?_ ?_ ?_ ?_ ?_ ?_ ?_ ?_ ?_
        · intro c1; (try simp only [Int.toNat_natCast] at c1); first | (exfalso; omega) | exact absurd trivial ‹¬ True› | (exact fin)
        · intro c1; (try simp only [Int.toNat_natCast] at c1); first | omega | (exfalso; omega) | exact ⟨by omega, by omega⟩ | (omega) | exact absurd trivial ‹¬ True›
        · intro c1 c2; (try simp only [Int.toNat_natCast] at c1 c2); first | (exfalso; omega) | exact absurd trivial ‹¬ True› | (exact fin)
        · intro c1 c2 c3; (try simp only [Int.toNat_natCast] at c1 c2 c3); first | (exfalso; omega) | exact absurd trivial ‹¬ True› | (exact fin)
        · intro c1 c2 c3; (try simp only [Int.toNat_natCast] at c1 c2 c3); first | omega | (exfalso; omega) | exact ⟨by omega, by omega⟩ | (omega) | exact absurd trivial ‹¬ True›
        · intro c1 c2 c3 c4; (try simp only [Int.toNat_natCast] at c1 c2 c3 c4); first | omega | (exfalso; omega) | exact ⟨by omega, by omega⟩ | (omega) | exact absurd trivial ‹¬ True›
        · intro c1 c2 c3 c4; (try simp only [Int.toNat_natCast] at c1 c2 c3 c4); first | (exfalso; omega) | exact absurd trivial ‹¬ True› | (skip)
        · intro c1 c2 c3 c4; (try simp only [Int.toNat_natCast] at c1 c2 c3 c4); first | omega | (exfalso; omega) | exact ⟨by omega, by omega⟩ | (omega) | exact absurd trivial ‹¬ True›
        · intro c1 c2 c3 c4; (try simp only [Int.toNat_natCast] at c1 c2 c3 c4); first | omega | (exfalso; omega) | exact ⟨by omega, by omega⟩ | (omega) | exact absurd trivial ‹¬ True›
        · intro c1 c2 c3 c4; (try simp only [Int.toNat_natCast] at c1 c2 c3 c4); first | omega | (exfalso; omega) | exact ⟨by omega, by omega⟩ | (omega) | exact absurd trivial ‹¬ True›
        · intro c1 c2 c3 c4; (try simp only [Int.toNat_natCast] at c1 c2 c3 c4); first | omega | (exfalso; omega) | exact ⟨by omega, by omega⟩ | (omega) | exact absurd trivial ‹¬ True›
        · intro c1 c2 c3 c4; (try simp only [Int.toNat_natCast] at c1 c2 c3 c4); first | omega | (exfalso; omega) | exact ⟨by omega, by omega⟩ | (omega) | exact absurd trivial ‹¬ True›
        · intro c1 c2 c3 c4; (try simp only [Int.toNat_natCast] at c1 c2 c3 c4); first | (exfalso; omega) | exact absurd trivial ‹¬ True› | (skip)
  refine g_To_lookAtWord_0 (lp (n - s) s _ rfl (Nat.le_refl _) (by omega) (Oth_hs (Oth_hs Oth_r (by decide)) (by decide)) ?_ ?_ ?_ ?_ (fun q h1 h2 => by omega) (tE_w K1).symm)
  · rw [hs_o (by decide), hs_s]
  · rw [hs_o (by decide), hs_o (by decide)]; exact e6
  · rw [hs_s, Nat.sub_self]; rfl
  · rw [hs_o (by decide), hs_o (by decide)]; exact e12
theorem c_To_lookAtNumber {Q : PQ} {h : HP} {B : Bt} {n s : Nat} (T : TpC B n h) (hs0 : s < n) (hl : ¬ isL (B s)) (hdg : isD (B s)) (e11 : h 5 11 = s) (e12 : h 5 12 = s)
    (k : ∀ g, Oth 5 [5, 7, 12] h g → g 5 5 = tK B n s → (tK B n s = 2 → g 5 7 = tN B n s) → g 5 12 = tE B n s → Q none g) : Wp true i_To_lookAtNumber 0 [vr 5] [] h Q := by
  have n900 := T.1
  have eE : tE B n s = rn isD B (n - s) s := by unfold tE; rw [if_neg (by omega), if_neg hl, if_pos hdg]
  have eK : tK B n s = if tE B n s - s ≤ 4 then 2 else 4 := by unfold tK; rw [if_neg (by omega), if_neg hl, if_pos hdg]
  have fi : ∀ (g : HP), Oth 5 [5, 7, 12] h g → g 5 7 = dg B (min 4 (tE B n s - s)) s → g 5 12 = tE B n s → s ≤ tE B n s → tE B n s ≤ n → Wp true i_To_lookAtNumber 94 [vr 5] [] g Q := by
    intro g o g7 g12 b1 b2
    have e11 : g 5 11 = s := (o.2 11 (by decide)).trans e11
    refine g_To_lookAtNumber_94 (by omega) (fun c => ?_) (fun c => ?_)
    · refine k _ (Oth_hs o (by decide)) (by rw [hs_s, eK, if_pos (by omega)]) (fun _ => ?_) (by rw [hs_o (by decide)]; exact g12)
      rw [hs_o (by decide), g7, show min 4 (tE B n s - s) = tE B n s - s by omega]; rfl
    · refine k _ (Oth_hs o (by decide)) (by rw [hs_s, eK, if_neg (by omega)]) (fun q => ?_) (by rw [hs_o (by decide)]; exact g12)
      rw [eK, if_neg (by omega)] at q
      omega
  have lp : ∀ (d p : Nat) (g : HP), n - p = d → s ≤ p → p ≤ n → Oth 5 [5, 7, 12] h g → g 5 7 = dg B (min 4 (p - s)) s → g 5 12 = p → (∀ q, s ≤ q → q < p → isD (B q)) → rn isD B (n - p) p = tE B n s → Wp true i_To_lookAtNumber 5 [vr 5] [] g Q := by
    intro d
    induction d with
    | zero =>
      intro p g hd h1 h2 o g7 g12 al e
      have e10 : g 5 10 = n := (o.2 10 (by decide)).trans T.2.2.2
      have ep : p = tE B n s := by rw [← e, rn_n (Or.inl (by omega))]
      have fin : Wp true i_To_lookAtNumber 94 [vr 5] [] g Q := fi g o (by rw [g7, ep]) (by rw [g12, ep]) (by omega) (by omega)
      refine g_To_lookAtNumber_5 ?_ ?_ ?_ ?_ ?_ ?_ ?_ ?_ ?_ ?_ ?_ ?_
      · intro c1; (try simp only [Int.toNat_natCast] at c1); first | (exfalso; omega) | exact absurd trivial ‹¬ True› | (exact fin)
      · intro c1; (try simp only [Int.toNat_natCast] at c1); first | omega | (exfalso; omega) | exact ⟨by omega, by omega⟩ | (omega) | exact absurd trivial ‹¬ True›
      · intro c1 c2; (try simp only [Int.toNat_natCast] at c1 c2); first | (exfalso; omega) | exact absurd trivial ‹¬ True› | (skip)
      · intro c1 c2 c3; (try simp only [Int.toNat_natCast] at c1 c2 c3); first | (exfalso; omega) | exact absurd trivial ‹¬ True› | (skip)
      · intro c1 c2 c3; (try simp only [Int.toNat_natCast] at c1 c2 c3); first | omega | (exfalso; omega) | exact ⟨by omega, by omega⟩ | (omega) | exact absurd trivial ‹¬ True›
      · intro c1 c2 c3 c4; (try simp only [Int.toNat_natCast] at c1 c2 c3 c4); first | omega | (exfalso; omega) | exact ⟨by omega, by omega⟩ | (omega) | exact absurd trivial ‹¬ True›
      · intro c1 c2 c3 c4; (try simp only [Int.toNat_natCast] at c1 c2 c3 c4); first | (exfalso; omega) | exact absurd trivial ‹¬ True› | (skip)
      · intro c1 c2 c3 c4; (try simp only [Int.toNat_natCast] at c1 c2 c3 c4); first | omega | (exfalso; omega) | exact ⟨by omega, by omega⟩ | (omega) | exact absurd trivial ‹¬ True›
      · intro c1 c2 c3 c4; (try simp only [Int.toNat_natCast] at c1 c2 c3 c4); first | omega | (exfalso; omega) | exact ⟨by omega, by omega⟩ | (omega) | exact absurd trivial ‹¬ True›
      · intro c1 c2 c3 c4; (try simp only [Int.toNat_natCast] at c1 c2 c3 c4); first | omega | (exfalso; omega) | exact ⟨by omega, by omega⟩ | (omega) | exact absurd trivial ‹¬ True›
      · intro c1 c2 c3 c4; (try simp only [Int.toNat_natCast] at c1 c2 c3 c4); first | omega | (exfalso; omega) | exact ⟨by omega, by omega⟩ | (omega) | exact absurd trivial ‹¬ True›
      · intro c1 c2 c3 c4; (try simp only [Int.toNat_natCast] at c1 c2 c3 c4); first | (exfalso; omega) | exact absurd trivial ‹¬ True› | (skip)
    | succ d ih =>
      intro p g hd h1 h2 o g7 g12 al e
      have e10 : g 5 10 = n := (o.2 10 (by decide)).trans T.2.2.2
      have e11 : g 5 11 = s := (o.2 11 (by decide)).trans e11
      have tb : g 6 (g 5 12).toNat = B p := by rw [g12, Int.toNat_natCast, o.1 6 (by decide)]; exact T.2.1 p (by omega)
      have b1 : 0 ≤ g 5 7 ∧ g 5 7 < 10000 := by
        rw [g7]
        have q := dg_rg (B := B) (s := s) (min 4 (p - s)) (by omega) (fun q h1 h2 => al q h1 (by omega))
        have := p10 (d := min 4 (p - s)) (by omega)
        omega
      by_cases c : 48 ≤ B p ∧ B p ≤ 57
      · have al' : ∀ q, s ≤ q → q < p + 1 → isD (B q) := by
          intro q q1 q2
          by_cases z : q = p
          · rw [z]; exact c
          · exact al q q1 (by omega)
        have e' : rn isD B (n - (p + 1)) (p + 1) = tE B n s := (rn_y (by omega) c).symm.trans e
        have st : ¬ 4 ≤ (p : Int) - s → Wp true i_To_lookAtNumber 5 [vr 5] [] (hs (hs g 5 7 (((g 5 7) * 10) + ((g 6 (g 5 12).toNat) - 48))) 5 12 ((g 5 12) + 1)) Q := by
          intro z
          refine ih (p + 1) _ (by omega) (by omega) (by omega) (Oth_hs (Oth_hs o (by decide)) (by decide)) ?_ (by rw [hs_s, g12]; omega) al' e'
          rw [hs_o (by decide), hs_s, tb, g7, show min 4 (p + 1 - s) = (p - s) + 1 by omega, show min 4 (p - s) = p - s by omega, dg, show s + (p - s) = p by omega]
        have st2 : 4 ≤ (p : Int) - s → Wp true i_To_lookAtNumber 5 [vr 5] [] (hs g 5 12 ((g 5 12) + 1)) Q := by
          intro z
          refine ih (p + 1) _ (by omega) (by omega) (by omega) (Oth_hs o (by decide)) ?_ (by rw [hs_s, g12]; omega) al' e'
          rw [hs_o (by decide), g7, show min 4 (p + 1 - s) = 4 by omega, show min 4 (p - s) = 4 by omega]
        refine g_To_lookAtNumber_5 ?_ ?_ ?_ ?_ ?_ ?_ ?_ ?_ ?_ ?_ ?_ ?_
        · intro c1; (try simp only [Int.toNat_natCast] at c1); first | (exfalso; omega) | exact absurd trivial ‹¬ True› | (skip)
        · intro c1; (try simp only [Int.toNat_natCast] at c1); first | omega | (exfalso; omega) | exact ⟨by omega, by omega⟩ | (omega) | exact absurd trivial ‹¬ True›
        · intro c1 c2; (try simp only [Int.toNat_natCast] at c1 c2); first | (exfalso; omega) | exact absurd trivial ‹¬ True› | (skip)
        · intro c1 c2 c3; (try simp only [Int.toNat_natCast] at c1 c2 c3); first | (exfalso; omega) | exact absurd trivial ‹¬ True› | (skip)
        · intro c1 c2 c3; (try simp only [Int.toNat_natCast] at c1 c2 c3); first | omega | (exfalso; omega) | exact ⟨by omega, by omega⟩ | (omega) | exact absurd trivial ‹¬ True›
        · intro c1 c2 c3 c4; (try simp only [Int.toNat_natCast] at c1 c2 c3 c4); first | omega | (exfalso; omega) | exact ⟨by omega, by omega⟩ | (omega) | exact absurd trivial ‹¬ True›
        · intro c1 c2 c3 c4; (try simp only [Int.toNat_natCast] at c1 c2 c3 c4); first | (exfalso; omega) | exact absurd trivial ‹¬ True› | (exact st2 (by omega))
        · intro c1 c2 c3 c4; (try simp only [Int.toNat_natCast] at c1 c2 c3 c4); first | omega | (exfalso; omega) | exact ⟨by omega, by omega⟩ | (omega) | exact absurd trivial ‹¬ True›
        · intro c1 c2 c3 c4; (try simp only [Int.toNat_natCast] at c1 c2 c3 c4); first | omega | (exfalso; omega) | exact ⟨by omega, by omega⟩ | (omega) | exact absurd trivial ‹¬ True›
        · intro c1 c2 c3 c4; (try simp only [Int.toNat_natCast] at c1 c2 c3 c4); first | omega | (exfalso; omega) | exact ⟨by omega, by omega⟩ | (omega) | exact absurd trivial ‹¬ True›
        · intro c1 c2 c3 c4; (try simp only [Int.toNat_natCast] at c1 c2 c3 c4); first | omega | (exfalso; omega) | exact ⟨by omega, by omega⟩ | (omega) | exact absurd trivial ‹¬ True›
        · intro c1 c2 c3 c4; (try simp only [Int.toNat_natCast] at c1 c2 c3 c4); first | (exfalso; omega) | exact absurd trivial ‹¬ True› | (exact st (by omega))
      · have ep : p = tE B n s := by rw [← e, rn_n (Or.inr c)]
        have fin : Wp true i_To_lookAtNumber 94 [vr 5] [] g Q := fi g o (by rw [g7, ep]) (by rw [g12, ep]) (by omega) (by omega)
        refine g_To_lookAtNumber_5 ?_ ?_ ?_ ?_ ?_ ?_ ?_ ?_ ?_ ?_ ?_ ?_
        · intro c1; (try simp only [Int.toNat_natCast] at c1); first | (exfalso; omega) | exact absurd trivial ‹¬ True› | (exact fin)
        · intro c1; (try simp only [Int.toNat_natCast] at c1); first | omega | (exfalso; omega) | exact ⟨by omega, by omega⟩ | (omega) | exact absurd trivial ‹¬ True›
        · intro c1 c2; (try simp only [Int.toNat_natCast] at c1 c2); first | (exfalso; omega) | exact absurd trivial ‹¬ True› | (exact fin)
        · intro c1 c2 c3; (try simp only [Int.toNat_natCast] at c1 c2 c3); first | (exfalso; omega) | exact absurd trivial ‹¬ True› | (exact fin)
        · intro c1 c2 c3; (try simp only [Int.toNat_natCast] at c1 c2 c3); first | omega | (exfalso; omega) | exact ⟨by omega, by omega⟩ | (omega) | exact absurd trivial ‹¬ True›
        · intro c1 c2 c3 c4; (try simp only [Int.toNat_natCast] at c1 c2 c3 c4); first | omega | (exfalso; omega) | exact ⟨by omega, by omega⟩ | (omega) | exact absurd trivial ‹¬ True›
        · intro c1 c2 c3 c4; (try simp only [Int.toNat_natCast] at c1 c2 c3 c4); first | (exfalso; omega) | exact absurd trivial ‹¬ True› | (skip)
        · intro c1 c2 c3 c4; (try simp only [Int.toNat_natCast] at c1 c2 c3 c4); first | omega | (exfalso; omega) | exact ⟨by omega, by omega⟩ | (omega) | exact absurd trivial ‹¬ True›
        · intro c1 c2 c3 c4; (try simp only [Int.toNat_natCast] at c1 c2 c3 c4); first | omega | (exfalso; omega) | exact ⟨by omega, by omega⟩ | (omega) | exact absurd trivial ‹¬ True›
        · intro c1 c2 c3 c4; (try simp only [Int.toNat_natCast] at c1 c2 c3 c4); first | omega | (exfalso; omega) | exact ⟨by omega, by omega⟩ | (omega) | exact absurd trivial ‹¬ True›
        · intro c1 c2 c3 c4; (try simp only [Int.toNat_natCast] at c1 c2 c3 c4); first | omega | (exfalso; omega) | exact ⟨by omega, by omega⟩ | (omega) | exact absurd trivial ‹¬ True›
        · intro c1 c2 c3 c4; (try simp only [Int.toNat_natCast] at c1 c2 c3 c4); first | (exfalso; omega) | exact absurd trivial ‹¬ True› | (skip)
  refine g_To_lookAtNumber_0 (lp (n - s) s _ rfl (Nat.le_refl _) (by omega) (Oth_hs Oth_r (by decide)) ?_ ?_ (fun q h1 h2 => by omega) eE.symm)
  · rw [hs_s, Nat.sub_self]; rfl
  · rw [hs_o (by decide)]; exact e12
theorem c_To_next {Q : PQ} {h : HP} {B : Bt} {n p : Nat} (T : TpC B n h) (hp : p ≤ n) (e12 : h 5 12 = p)
    (k : ∀ g, CS B n (rn isBk B (n - p) p) g → Oth 5 TLC h g → Q none g) : Wp true i_To_next 0 [vr 5] [] h Q := by
  have n900 := T.1
  obtain ⟨s, es⟩ : ∃ s, s = rn isBk B (n - p) p := ⟨_, rfl⟩
  rw [← es] at k
  have hsn : s ≤ n := by rw [es]; exact (rn_b hp).2
  have fi : ∀ g : HP, Oth 5 TLC h g → g 5 12 = s → Wp true i_To_next 52 [vr 5] [] g Q := by
    intro g o g12
    have e10 : g 5 10 = n := (o.2 10 (by decide)).trans T.2.2.2
    have Tg : TpC B n g := TpC_o T o (by decide)
    by_cases c : s < n
    · have tb : g 6 (g 5 12).toNat = B s := by rw [g12, Int.toNat_natCast]; exact Tg.2.1 s c
      have o1 : Oth 5 TLC h (hs (hs g 5 11 (g 5 12)) 5 6 (-1)) := Oth_hs (Oth_hs o (by decide)) (by decide)
      have T1 : TpC B n (hs (hs g 5 11 (g 5 12)) 5 6 (-1)) := TpC_o T o1 (by decide)
      have a11 : (hs (hs g 5 11 (g 5 12)) 5 6 (-1)) 5 11 = s := by rw [hs_o (by decide), hs_s, g12]
      have a12 : (hs (hs g 5 11 (g 5 12)) 5 6 (-1)) 5 12 = s := by rw [hs_o (by decide), hs_o (by decide), g12]
      have a6 : (hs (hs g 5 11 (g 5 12)) 5 6 (-1)) 5 6 = -1 := hs_s
      have tb1 : (hs (hs g 5 11 (g 5 12)) 5 6 (-1)) 6 ((hs (hs g 5 11 (g 5 12)) 5 6 (-1)) 5 12).toNat = B s := by rw [a12, Int.toNat_natCast]; exact T1.2.1 s c
      obtain ⟨u, eu⟩ : ∃ u, u = hs (hs g 5 11 (g 5 12)) 5 6 (-1) := ⟨_, rfl⟩
      rw [← eu] at o1 T1 a11 a12 a6 tb1
      have wd : isL (B s) → Wp true i_To_lookAtWord 0 [vr 5, vr 9999] [] u (fun r h' => Wp true i_To_next 116 [vr 5] (r.toList ++ []) h' Q) := by
        intro l
        have K1 : tK B n s = 1 := tK_w.mpr ⟨c, l⟩
        refine c_To_lookAtWord T1 c l a11 a12 a6 (fun f fo f5 f6 f9 f12 => ?_)
        refine g_To_next_116 (k f ⟨TpC_o T1 fo (by decide), hsn, (fo.2 11 (by decide)).trans a11, f12, by rw [f5, K1], f6, fun q => by omega, fun q => by omega, fun _ => f9⟩ (Oth_t o1 fo (by decide)))
      have ot : ¬ isL (B s) → Wp true i_To_next 119 [vr 5] [] u Q := by
        intro l
        by_cases dd : isD (B s)
        · have nu : Wp true i_To_lookAtNumber 0 [vr 5] [] u (fun r h' => Wp true i_To_next 151 [vr 5] (r.toList ++ []) h' Q) := by
            refine c_To_lookAtNumber T1 c l dd a11 a12 (fun f fo f5 f7 f12 => ?_)
            have K1 : ¬ tK B n s = 1 := fun q => l (tK_w.mp q).2
            have K3 : ¬ tK B n s = 3 := by unfold tK; rw [if_neg (by omega), if_neg l, if_pos dd]; split <;> omega
            refine g_To_next_151 (k f ⟨TpC_o T1 fo (by decide), hsn, (fo.2 11 (by decide)).trans a11, f12, f5, ?_, f7, fun q => absurd q K3, fun q => absurd q K1⟩ (Oth_t o1 fo (by decide)))
            rw [tW_n K1, fo.2 6 (by decide)]; exact a6
          have d1 := dd.1
          have d2 := dd.2
          exact g_To_next_119 (by omega) (fun q => by omega) (fun _ q => by omega) (fun _ _ => nu)
        · have eE : tE B n s = s + 1 := by unfold tE; rw [if_neg (by omega), if_neg l, if_neg dd]
          have eK : tK B n s = if 59 ≤ B s ∧ B s ≤ 62 then 3 else 4 := by unfold tK; rw [if_neg (by omega), if_neg l, if_neg dd]
          have K1 : ¬ tK B n s = 1 := fun q => l (tK_w.mp q).2
          have K2 : ¬ tK B n s = 2 := by rw [eK]; split <;> omega
          obtain ⟨w, ew⟩ : ∃ w, w = hs u 5 8 (u 6 (u 5 12).toNat) := ⟨_, rfl⟩
          have w8 : w 5 8 = B s := by rw [ew, hs_s]; exact tb1
          have w12 : w 5 12 = s := by rw [ew, hs_o (by decide)]; exact a12
          have wo : Oth 5 TLC h w := by rw [ew]; exact Oth_hs o1 (by decide)
          have w11 : w 5 11 = s := by rw [ew, hs_o (by decide)]; exact a11
          have w6 : w 5 6 = -1 := by rw [ew, hs_o (by decide)]; exact a6
          have en : ∀ v, v = tK B n s → Q none (hs (hs w 5 5 v) 5 12 ((w 5 12) + 1)) := by
            intro v ev
            refine k _ ⟨TpC_o T (Oth_hs (Oth_hs wo (by decide)) (by decide)) (by decide), hsn, ?_, ?_, ?_, ?_, fun q => absurd q K2, fun q => ?_, fun q => absurd q K1⟩ (Oth_hs (Oth_hs wo (by decide)) (by decide))
            · rw [hs_o (by decide), hs_o (by decide)]; exact w11
            · rw [hs_s, eE, w12]; omega
            · rw [hs_o (by decide), hs_s]; exact ev
            · rw [hs_o (by decide), hs_o (by decide), tW_n K1]; exact w6
            · rw [hs_o (by decide), hs_o (by decide)]; exact w8
          have n154 : Wp true i_To_next 154 [vr 5] [] u Q := by
            refine g_To_next_154 (by omega) (fun q => ?_) (fun q => ?_)
            · rw [← ew]
              exact g_To_next_184 (by omega) (en 3 (by rw [eK, if_pos (by omega)]))
            · rw [← ew]
              refine g_To_isCompare_0 (fun z => ?_) (fun _ z => ?_) (fun z1 z2 z3 => ?_) (fun z1 z2 z3 => ?_)
              · exact g_To_next_181 (fun y => by omega) (fun y => by omega) (fun _ => g_To_next_184 (by omega) (en 3 (by rw [eK, if_pos (by omega)])))
              · exact g_To_next_181 (fun y => by omega) (fun y => by omega) (fun _ => g_To_next_184 (by omega) (en 3 (by rw [eK, if_pos (by omega)])))
              · exact g_To_next_181 (fun y => by omega) (fun y => en 4 (by rw [eK, if_neg (by omega)])) (fun y => absurd rfl y)
              · exact g_To_next_181 (fun y => by omega) (fun y => by omega) (fun _ => g_To_next_184 (by omega) (en 3 (by rw [eK, if_pos (by omega)])))
          have dd' : ¬ (48 ≤ B s ∧ B s ≤ 57) := dd
          exact g_To_next_119 (by omega) (fun _ => n154) (fun _ _ => n154) (fun y1 y2 => by omega)
      refine g_To_next_52 (fun _ => by omega) (fun _ q => ?_) (fun _ q1 q2 => ?_) (fun _ q1 q2 => ?_) (fun q => by omega)
      · rw [← eu]; exact ot (fun z => by have := z.1; omega)
      · rw [← eu]; exact ot (fun z => by have := z.2; omega)
      · rw [← eu]; exact wd ⟨by omega, by omega⟩
    · have eE : tE B n s = s := by unfold tE; rw [if_pos (by omega)]
      have eK : tK B n s = 0 := by unfold tK; rw [if_pos (by omega)]
      refine g_To_next_52 (fun q => by omega) (fun q => by omega) (fun q => by omega) (fun q => by omega) (fun q => ?_)
      refine k _ ⟨TpC_o T (Oth_hs (Oth_hs (Oth_hs o (by decide)) (by decide)) (by decide)) (by decide), hsn, ?_, ?_, ?_, ?_, fun q => by omega, fun q => by omega, fun q => by omega⟩ (Oth_hs (Oth_hs (Oth_hs o (by decide)) (by decide)) (by decide))
      · rw [hs_o (by decide), hs_o (by decide), hs_s, g12]
      · rw [hs_o (by decide), hs_o (by decide), hs_o (by decide), eE, g12]
      · rw [hs_s, eK]
      · rw [hs_o (by decide), hs_s, tW_n (by omega)]
  have lp : ∀ (d q : Nat) (g : HP), n - q = d → q ≤ n → Oth 5 TLC h g → g 5 12 = q → rn isBk B (n - q) q = s → Wp true i_To_next 0 [vr 5] [] g Q := by
    intro d
    induction d with
    | zero =>
      intro q g hd h1 o g12 e
      have e10 : g 5 10 = n := (o.2 10 (by decide)).trans T.2.2.2
      have eq : q = s := by rw [← e, rn_n (Or.inl (by omega))]
      have fin := fi g o (by rw [g12, eq])
      refine g_To_next_0 ?_ ?_ ?_ ?_ ?_ ?_ ?_
      · intro c1; (try simp only [Int.toNat_natCast] at c1); first | (exfalso; omega) | exact absurd trivial ‹¬ True› | (exact fin)
      · intro c1; (try simp only [Int.toNat_natCast] at c1); first | omega | (exfalso; omega) | exact ⟨by omega, by omega⟩ | (omega) | exact absurd trivial ‹¬ True›
      · intro c1 c2; (try simp only [Int.toNat_natCast] at c1 c2); first | omega | (exfalso; omega) | exact ⟨by omega, by omega⟩ | (omega) | exact absurd trivial ‹¬ True›
      · intro c1 c2; (try simp only [Int.toNat_natCast] at c1 c2); first | (exfalso; omega) | exact absurd trivial ‹¬ True› | (skip)
      · intro c1 c2 c3; (try simp only [Int.toNat_natCast] at c1 c2 c3); first | (exfalso; omega) | exact absurd trivial ‹¬ True› | (skip)
      · intro c1 c2 c3; (try simp only [Int.toNat_natCast] at c1 c2 c3); first | omega | (exfalso; omega) | exact ⟨by omega, by omega⟩ | (omega) | exact absurd trivial ‹¬ True›
      · intro c1 c2 c3; (try simp only [Int.toNat_natCast] at c1 c2 c3); first | (exfalso; omega) | exact absurd trivial ‹¬ True› | (skip)
    | succ d ih =>
      intro q g hd h1 o g12 e
      have e10 : g 5 10 = n := (o.2 10 (by decide)).trans T.2.2.2
      have tb : g 6 (g 5 12).toNat = B q := by rw [g12, Int.toNat_natCast, o.1 6 (by decide)]; exact T.2.1 q (by omega)
      by_cases c : B q = 32 ∨ B q = 10
      · have st : Wp true i_To_next 0 [vr 5] [] (hs g 5 12 ((g 5 12) + 1)) Q := ih (q + 1) _ (by omega) (by omega) (Oth_hs o (by decide)) (by rw [hs_s, g12]; omega) ((rn_y (by omega) c).symm.trans e)
        refine g_To_next_0 ?_ ?_ ?_ ?_ ?_ ?_ ?_
        · intro c1; (try simp only [Int.toNat_natCast] at c1); first | (exfalso; omega) | exact absurd trivial ‹¬ True› | (skip)
        · intro c1; (try simp only [Int.toNat_natCast] at c1); first | omega | (exfalso; omega) | exact ⟨by omega, by omega⟩ | (omega) | exact absurd trivial ‹¬ True›
        · intro c1 c2; (try simp only [Int.toNat_natCast] at c1 c2); first | omega | (exfalso; omega) | exact ⟨by omega, by omega⟩ | (omega) | exact absurd trivial ‹¬ True›
        · intro c1 c2; (try simp only [Int.toNat_natCast] at c1 c2); first | (exfalso; omega) | exact absurd trivial ‹¬ True› | (exact st)
        · intro c1 c2 c3; (try simp only [Int.toNat_natCast] at c1 c2 c3); first | (exfalso; omega) | exact absurd trivial ‹¬ True› | (skip)
        · intro c1 c2 c3; (try simp only [Int.toNat_natCast] at c1 c2 c3); first | omega | (exfalso; omega) | exact ⟨by omega, by omega⟩ | (omega) | exact absurd trivial ‹¬ True›
        · intro c1 c2 c3; (try simp only [Int.toNat_natCast] at c1 c2 c3); first | (exfalso; omega) | exact absurd trivial ‹¬ True› | (exact st)
      · have eq : q = s := by rw [← e, rn_n (Or.inr c)]
        have fin := fi g o (by rw [g12, eq])
        refine g_To_next_0 ?_ ?_ ?_ ?_ ?_ ?_ ?_
        · intro c1; (try simp only [Int.toNat_natCast] at c1); first | (exfalso; omega) | exact absurd trivial ‹¬ True› | (exact fin)
        · intro c1; (try simp only [Int.toNat_natCast] at c1); first | omega | (exfalso; omega) | exact ⟨by omega, by omega⟩ | (omega) | exact absurd trivial ‹¬ True›
        · intro c1 c2; (try simp only [Int.toNat_natCast] at c1 c2); first | omega | (exfalso; omega) | exact ⟨by omega, by omega⟩ | (omega) | exact absurd trivial ‹¬ True›
        · intro c1 c2; (try simp only [Int.toNat_natCast] at c1 c2); first | (exfalso; omega) | exact absurd trivial ‹¬ True› | (skip)
        · intro c1 c2 c3; (try simp only [Int.toNat_natCast] at c1 c2 c3); first | (exfalso; omega) | exact absurd trivial ‹¬ True› | (exact fin)
        · intro c1 c2 c3; (try simp only [Int.toNat_natCast] at c1 c2 c3); first | omega | (exfalso; omega) | exact ⟨by omega, by omega⟩ | (omega) | exact absurd trivial ‹¬ True›
        · intro c1 c2 c3; (try simp only [Int.toNat_natCast] at c1 c2 c3); first | (exfalso; omega) | exact absurd trivial ‹¬ True› | (skip)
  exact lp (n - p) p h rfl hp Oth_r e12 es.symm
theorem c_To_nx {Q : PQ} {h : HP} {B : Bt} {n s : Nat} (S : CS B n s h) (k : ∀ g, CS B n (nx B n s) g → Oth 5 TLC h g → Q none g) : Wp true i_To_next 0 [vr 5] [] h Q :=
  c_To_next S.1 (tE_b S.2.1).2 S.2.2.2.1 k
theorem c_To_begin {Q : PQ} {h : HP} {B : Bt} {n : Nat} (n9 : n ≤ 900) (hb : ∀ p, p < n → h 6 p = B p) (hk : ∀ i, i < 22 → h 7 i = kwC.getD i 0) (k : ∀ g, CS B n (rn isBk B (n - 0) 0) g → Oth 5 [3, 4, 5, 6, 7, 8, 9, 10, 11, 12] h g → g 5 3 = 0 → g 5 4 = -1 → Q none g) : Wp true i_To_begin 0 [vr 5, vi (n : Int)] [] h Q := by
  have o : Oth 5 [3, 4, 5, 6, 7, 8, 9, 10, 11, 12] h (hs (hs (hs (hs h 5 10 (n : Int)) 5 12 0) 5 3 0) 5 4 (-1)) := Oth_hs (Oth_hs (Oth_hs (Oth_hs Oth_r (by decide)) (by decide)) (by decide)) (by decide)
  refine g_To_begin_0 (c_To_next (B := B) (n := n) (p := 0) ⟨n9, ?_, ?_, ?_⟩ (Nat.zero_le _) ?_ (fun g S og => g_To_begin_24 (k g S (Oth_t o og (by decide)) ?_ ?_)))
  · rw [o.1 6 (by decide)]; exact hb
  · rw [o.1 7 (by decide)]; exact hk
  · rw [hs_o (by decide), hs_o (by decide), hs_o (by decide), hs_s]
  · rw [hs_o (by decide), hs_o (by decide), hs_s]; rfl
  · rw [og.2 3 (by decide), hs_o (by decide), hs_s]
  · rw [og.2 4 (by decide), hs_s]
/-- the class has told a FAULT -/
def FtC (h g : HP) (fk : Int) (fp : Nat) : Prop := g 5 3 = fk ∧ g 5 4 = fp ∧ g 5 2 = h 5 2 ∧ ∀ k, k ≠ 5 → g k = h k
theorem FtC_o {h g f : HP} {L : List Nat} {fk : Int} {fp : Nat} (o : Oth 5 L h g) (hL : 2 ∉ L) (F : FtC g f fk fp) : FtC h f fk fp := ⟨F.1, F.2.1, F.2.2.1.trans (o.2 2 hL), fun k hk => (F.2.2.2 k hk).trans (o.1 k hk)⟩
theorem c_To_fail {Q : PQ} {h : HP} {B : Bt} {n s : Nat} {x1 : Int} {α : Type} (S : CS B n s h) {K : α → Prop} (k : hd (fl B n s x1 : PR α) (fun fk fp => ∀ g, FtC h g fk fp → Q (some (vi 0)) g) K) : Wp true i_To_fail 0 [vr 5, vi x1] [] h Q := by
  have k : ∀ g, FtC h g (if tK B n s = 4 then 1 else x1) s → Q (some (vi 0)) g := k
  have e5 := S.2.2.2.2.1
  have e11 := S.2.2.1
  refine g_To_fail_0 (fun c => k _ ⟨?_, ?_, ?_, fun j hj => ?_⟩) (fun c => k _ ⟨?_, ?_, ?_, fun j hj => ?_⟩)
  · rw [hs_o (by decide), hs_s, if_neg (by omega)]
  · rw [hs_s, e11]
  · rw [hs_o (by decide), hs_o (by decide)]
  · rw [hs_ne hj, hs_ne hj]
  · rw [hs_o (by decide), hs_s, if_pos (by omega)]
  · rw [hs_s, e11]
  · rw [hs_o (by decide), hs_o (by decide)]
  · rw [hs_ne hj, hs_ne hj]
theorem c_To_takeWord {Q : PQ} {h : HP} {B : Bt} {n s : Nat} {w : Int} (S : CS B n s h) (k : hd (sWord B n s w) (fun fk fp => ∀ g, FtC h g fk fp → Q (some (vi 0)) g) (fun s' => ∀ g, CS B n s' g → Oth 5 TLC h g → Q (some (vi 1)) g)) : Wp true i_To_takeWord 0 [vr 5, vi w] [] h Q := by
  have e6 := S.2.2.2.2.2.1
  refine g_To_takeWord_0 (fun c => ?_) (fun c => ?_)
  · unfold sWord at k
    rw [if_pos (by omega)] at k
    exact c_To_nx S (fun g S' o => g_To_takeWord_18 (k g S' o))
  · unfold sWord at k
    rw [if_neg (by omega)] at k
    exact c_To_fail S (hd_m k (fun fk fp q g f => g_To_takeWord_13 (Or.inl rfl) (q g f)) (fun a q => q))
theorem c_To_takeEnd {Q : PQ} {h : HP} {B : Bt} {n s : Nat} (S : CS B n s h) (k : hd (sEnd B n s) (fun fk fp => ∀ g, FtC h g fk fp → Q (some (vi 0)) g) (fun s' => ∀ g, CS B n s' g → Oth 5 TLC h g → Q (some (vi 1)) g)) : Wp true i_To_takeEndOfPart 0 [vr 5] [] h Q := by
  have e5 := S.2.2.2.2.1
  have e8 := S.2.2.2.2.2.2.2.1
  unfold sEnd at k
  refine g_To_takeEndOfPart_0 (fun c => ?_) (fun c c2 => ?_) (fun c c2 => ?_)
  · rw [if_neg (by omega)] at k
    exact c_To_fail S (hd_m k (fun fk fp q g f => g_To_takeEndOfPart_22 (Or.inl rfl) (q g f)) (fun a q => q))
  · have e8 := e8 (by omega)
    rw [if_pos (by omega)] at k
    exact c_To_nx S (fun g S' o => g_To_takeEndOfPart_27 (k g S' o))
  · have e8 := e8 (by omega)
    rw [if_neg (by omega)] at k
    exact c_To_fail S (hd_m k (fun fk fp q g f => g_To_takeEndOfPart_22 (Or.inl rfl) (q g f)) (fun a q => q))
theorem c_To_lookFor {Q : PQ} {h : HP} {B : Bt} {n s : Nat} {lo hi : Int} (S : CS B n s h) (k : hd (sNum B n s lo hi) (fun fk fp => ∀ g, FtC h g fk fp → Q (some (vi (-1))) g) (fun a => Q (some (vi a.1)) h)) : Wp true i_To_lookForNumber 0 [vr 5, vi lo, vi hi] [] h Q := by
  have e5 := S.2.2.2.2.1
  have e7 := S.2.2.2.2.2.2.1
  unfold sNum at k
  refine g_To_lookForNumber_0 (fun c c2 => ?_) (fun c c2 c3 => ?_) (fun c c2 c3 => ?_) (fun c => ?_)
  · have e7 := e7 (by omega)
    rw [if_pos (by omega), if_neg (by omega)] at k
    exact c_To_fail S (hd_m k (fun fk fp q g f => g_To_lookForNumber_37 (q g f)) (fun a q => q))
  · have e7 := e7 (by omega)
    rw [if_pos (by omega), if_pos (by omega)] at k
    rw [e7]; exact k
  · have e7 := e7 (by omega)
    rw [if_pos (by omega), if_neg (by omega)] at k
    exact c_To_fail S (hd_m k (fun fk fp q g f => g_To_lookForNumber_37 (q g f)) (fun a q => q))
  · rw [if_neg (by omega)] at k
    exact c_To_fail S (hd_m k (fun fk fp q g f => g_To_lookForNumber_13 (q g f)) (fun a q => q))
theorem sNum_c {B : Bt} {n s : Nat} {lo hi : Int} : (∃ fk fp, sNum B n s lo hi = .inl (fk, fp)) ∨ (sNum B n s lo hi = .inr (tN B n s, nx B n s) ∧ lo ≤ tN B n s ∧ tN B n s ≤ hi ∧ tK B n s = 2) := by
  unfold sNum
  by_cases c : tK B n s = 2
  · rw [if_pos c]
    by_cases d : lo ≤ tN B n s ∧ tN B n s ≤ hi
    · rw [if_pos d]; exact Or.inr ⟨rfl, d.1, d.2, c⟩
    · rw [if_neg d]; exact Or.inl ⟨_, _, rfl⟩
  · rw [if_neg c]; exact Or.inl ⟨_, _, rfl⟩
theorem c_To_takeNumber {Q : PQ} {h : HP} {B : Bt} {n s : Nat} {lo hi : Int} (S : CS B n s h) (lo0 : 0 ≤ lo) (k : hd (sNum B n s lo hi) (fun fk fp => ∀ g, FtC h g fk fp → Q (some (vi (-1))) g) (fun a => lo ≤ a.1 → a.1 ≤ hi → ∀ g, CS B n a.2 g → Oth 5 TLC h g → Q (some (vi a.1)) g)) : Wp true i_To_takeNumber 0 [vr 5, vi lo, vi hi, vr 9999] [] h Q := by
  refine g_To_takeNumber_0 (c_To_lookFor S ?_)
  rcases sNum_c (B := B) (n := n) (s := s) (lo := lo) (hi := hi) with ⟨fk, fp, e⟩ | ⟨e, l1, l2, -⟩
  · rw [e] at k ⊢
    intro g f
    exact g_To_takeNumber_6 (fun _ => g_To_takeNumber_16 (k g f)) (fun q => absurd rfl q)
  · rw [e] at k ⊢
    refine g_To_takeNumber_6 (fun q => ?_) (fun q => c_To_nx S (fun g S' o => g_To_takeNumber_16 (k l1 l2 g S' o)))
    have : tN B n s = -1 := q
    omega
abbrev isNm (B : Bt) (n s : Nat) : Prop := tK B n s = 1 ∧ tW B n s = -1 ∧ tE B n s - s ≤ 8
theorem c_To_isName {Q : PQ} {h : HP} {B : Bt} {n s : Nat} (S : CS B n s h) (k1 : isNm B n s → h 5 9 = nm32 (tL B n s) → Q (some (vi 1)) h) (k0 : ¬ isNm B n s → Q (some (vi 0)) h) : Wp true i_To_isName 0 [vr 5] [] h Q := by
  have e11 := S.2.2.1
  have e12 := S.2.2.2.1
  have e5 := S.2.2.2.2.1
  have e6 := S.2.2.2.2.2.1
  have e9 := S.2.2.2.2.2.2.2.2
  have b := tE_b (B := B) S.2.1
  have n9 := S.1.1
  have hn := S.2.1
  unfold isNm at k1 k0
  refine g_To_isName_0 (fun c => k0 (by omega)) (fun c c2 => k0 (by omega)) (fun _ _ => by omega) (fun c c2 c3 => k0 (by omega)) (fun c c2 c3 => k1 (by omega) ?_)
  rw [e9 (by omega), show min 8 (tE B n s - s) = tE B n s - s by omega]; rfl
