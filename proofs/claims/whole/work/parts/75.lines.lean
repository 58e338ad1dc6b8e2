theorem g_Bo_addCuts_0 {Q : PQ} {h : HP} {x2 : Int} {f1 : Nat} (h_f1 : isF f1)
    (k1 : Wp true i_Bo_addCuts 5 [vr 92, vr f1, vi x2, vj 0, vr 9999, vi 0] [] h Q) :
    Wp true i_Bo_addCuts 0 [vr 92, vr f1, vi x2, vr 9999, vr 9999, vr 9999] [] h Q := by
  refine r_lconst (v := 0) f_16_0 rfl ?_
  refine r_lstore_n (ls' := [vr 92, vr f1, vi x2, vj 0, vr 9999, vr 9999]) f_16_1 (Nat.le_of_ble_eq_true rfl) rfl ?_
  refine r_iconst f_16_2 (by decide) ?_
  refine r_istore (ls' := [vr 92, vr f1, vi x2, vj 0, vr 9999, vi 0]) f_16_3 (Nat.le_of_ble_eq_true rfl) rfl ?_
  exact k1

theorem g_Bo_addCuts_5 {Q : PQ} {h : HP} {x2 : Int} {y3 : Int} {x5 : Int} {f1 : Nat} (h_f1 : isF f1)
    (k1 : h f1 2 ≤ x5 → Wp true i_Bo_addCuts 47 [vr 92, vr f1, vi x2, vj y3, vr 9999, vi 0] [] h Q)
    (k2 : ¬ h f1 2 ≤ x5 → h f1 0 < x5 → Wp true i_Bo_addCuts 47 [vr 92, vr f1, vi x2, vj y3, vr 9999, vi 0] [] h Q)
    (o3 : ¬ h f1 2 ≤ x5 → ¬ h f1 0 < x5 → -2147483648 ≤ x5 * 64 ∧ x5 * 64 ≤ 2147483647)
    (o4 : ¬ h f1 2 ≤ x5 → ¬ h f1 0 < x5 → -2147483648 ≤ (x5 * 64) + x2 ∧ (x5 * 64) + x2 ≤ 2147483647)
    (o5 : ¬ h f1 2 ≤ x5 → ¬ h f1 0 < x5 → 0 ≤ (x5 * 64) + x2 ∧ (x5 * 64) + x2 < 640)
    (o6 : ¬ h f1 2 ≤ x5 → ¬ h f1 0 < x5 → -9223372036854775808 ≤ y3 + (h 95 ((x5 * 64) + x2).toNat) ∧ y3 + (h 95 ((x5 * 64) + x2).toNat) ≤ 9223372036854775807)
    (o7 : ¬ h f1 2 ≤ x5 → ¬ h f1 0 < x5 → -2147483648 ≤ x5 + 1 ∧ x5 + 1 ≤ 2147483647)
    (k8 : ¬ h f1 2 ≤ x5 → ¬ h f1 0 < x5 → Wp true i_Bo_addCuts 5 [vr 92, vr f1, vi x2, vj (y3 + (h 95 ((x5 * 64) + x2).toNat)), vr 9999, vi (x5 + 1)] [] h Q) :
    Wp true i_Bo_addCuts 5 [vr 92, vr f1, vi x2, vj y3, vr 9999, vi x5] [] h Q := by
  refine r_iload (v := x5) f_16_5 rfl ?_
  refine r_aload_n (v := f1) f_16_7 rfl (F_n h_f1) ?_
  refine r_geti (v := h f1 2) f_16_8 (F_k h_f1) (by decide) rfl ?_
  refine r_br2 (t := 44) f_16_11 rfl cb_ge (fun c1 => ?_) (fun c1 => ?_)
  · refine r_iconst f_16_44 (by decide) ?_
    refine r_istore (ls' := [vr 92, vr f1, vi x2, vj y3, vr 9999, vi 0]) f_16_45 (Nat.le_of_ble_eq_true rfl) rfl ?_
    exact (k1 c1)
  · refine r_iload (v := x5) f_16_14 rfl ?_
    refine r_aload_n (v := f1) f_16_16 rfl (F_n h_f1) ?_
    refine r_geti (v := h f1 0) f_16_17 (F_k h_f1) (by decide) rfl ?_
    refine r_br2 (t := 44) f_16_20 rfl cb_gt (fun c2 => ?_) (fun c2 => ?_)
    · refine r_iconst f_16_44 (by decide) ?_
      refine r_istore (ls' := [vr 92, vr f1, vi x2, vj y3, vr 9999, vi 0]) f_16_45 (Nat.le_of_ble_eq_true rfl) rfl ?_
      exact (k2 c1 c2)
    · refine r_lload_n (v := y3) f_16_23 rfl ?_
      refine r_aload_n (v := 92) f_16_24 rfl (by decide) ?_
      refine r_getr (q := 95) f_16_25 rfl (by decide) (Or.inl rfl) rfl ?_
      refine r_iload (v := x5) f_16_28 rfl ?_
      refine r_bipush f_16_30 (by decide) ?_
      refine r_imul (u := x5 * 64) f_16_32 rfl (o3 c1 c2) ?_
      refine r_iload_n (v := x2) f_16_33 rfl ?_
      refine r_iadd (u := (x5 * 64) + x2) f_16_34 rfl (o4 c1 c2) ?_
      refine r_laload (n := 640) (v := h 95 ((x5 * 64) + x2).toNat) f_16_35 ⟨rfl, rfl⟩ (o5 c1 c2) rfl ?_
      refine r_ladd (u := y3 + (h 95 ((x5 * 64) + x2).toNat)) f_16_36 rfl (o6 c1 c2) ?_
      refine r_lstore_n (ls' := [vr 92, vr f1, vi x2, vj (y3 + (h 95 ((x5 * 64) + x2).toNat)), vr 9999, vi x5]) f_16_37 (Nat.le_of_ble_eq_true rfl) rfl ?_
      refine r_iinc (v := x5) (w := x5 + 1) (ls' := [vr 92, vr f1, vi x2, vj (y3 + (h 95 ((x5 * 64) + x2).toNat)), vr 9999, vi (x5 + 1)]) f_16_38 rfl rfl (o7 c1 c2) rfl ?_
      refine r_goto (t := 5) f_16_41 rfl ?_
      exact (k8 c1 c2)

theorem g_Bo_addCuts_47 {Q : PQ} {h : HP} {x2 : Int} {y3 : Int} {x5 : Int} {f1 : Nat} (h_f1 : isF f1)
    (k1 : h f1 0 < x5 → Q none h)
    (o2 : ¬ h f1 0 < x5 → -2147483648 ≤ x2 + x5 ∧ x2 + x5 ≤ 2147483647)
    (k3 : ¬ h f1 0 < x5 → 64 ≤ x2 + x5 → Q none h)
    (o4 : ¬ h f1 0 < x5 → ¬ 64 ≤ x2 + x5 → -2147483648 ≤ x5 + (h f1 2) ∧ x5 + (h f1 2) ≤ 2147483647)
    (k5 : ¬ h f1 0 < x5 → ¬ 64 ≤ x2 + x5 → h f1 0 < x5 + (h f1 2) → Wp true i_Bo_addCuts 99 [vr 92, vr f1, vi x2, vj y3, vr 9999, vi x5] [] h Q)
    (o6 : ¬ h f1 0 < x5 → ¬ 64 ≤ x2 + x5 → ¬ h f1 0 < x5 + (h f1 2) → -2147483648 ≤ (x5 + (h f1 2)) * 64 ∧ (x5 + (h f1 2)) * 64 ≤ 2147483647)
    (o7 : ¬ h f1 0 < x5 → ¬ 64 ≤ x2 + x5 → ¬ h f1 0 < x5 + (h f1 2) → -2147483648 ≤ ((x5 + (h f1 2)) * 64) + x2 ∧ ((x5 + (h f1 2)) * 64) + x2 ≤ 2147483647)
    (o8 : ¬ h f1 0 < x5 → ¬ 64 ≤ x2 + x5 → ¬ h f1 0 < x5 + (h f1 2) → 0 ≤ ((x5 + (h f1 2)) * 64) + x2 ∧ ((x5 + (h f1 2)) * 64) + x2 < 640)
    (o9 : ¬ h f1 0 < x5 → ¬ 64 ≤ x2 + x5 → ¬ h f1 0 < x5 + (h f1 2) → -9223372036854775808 ≤ y3 + (h 95 (((x5 + (h f1 2)) * 64) + x2).toNat) ∧ y3 + (h 95 (((x5 + (h f1 2)) * 64) + x2).toNat) ≤ 9223372036854775807)
    (k10 : ¬ h f1 0 < x5 → ¬ 64 ≤ x2 + x5 → ¬ h f1 0 < x5 + (h f1 2) → Wp true i_Bo_addCuts 99 [vr 92, vr f1, vi x2, vj (y3 + (h 95 (((x5 + (h f1 2)) * 64) + x2).toNat)), vr 9999, vi x5] [] h Q) :
    Wp true i_Bo_addCuts 47 [vr 92, vr f1, vi x2, vj y3, vr 9999, vi x5] [] h Q := by
  refine r_iload (v := x5) f_16_47 rfl ?_
  refine r_aload_n (v := f1) f_16_49 rfl (F_n h_f1) ?_
  refine r_geti (v := h f1 0) f_16_50 (F_k h_f1) (by decide) rfl ?_
  refine r_br2 (t := 153) f_16_53 rfl cb_gt (fun c1 => ?_) (fun c1 => ?_)
  · exact r_retv f_16_153 rfl (k1 c1)
  · refine r_iload_n (v := x2) f_16_56 rfl ?_
    refine r_iload (v := x5) f_16_57 rfl ?_
    refine r_iadd (u := x2 + x5) f_16_59 rfl (o2 c1) ?_
    refine r_bipush f_16_60 (by decide) ?_
    refine r_br2 (t := 153) f_16_62 rfl cb_ge (fun c2 => ?_) (fun c2 => ?_)
    · exact r_retv f_16_153 rfl (k3 c1 c2)
    · refine r_iload (v := x5) f_16_65 rfl ?_
      refine r_aload_n (v := f1) f_16_67 rfl (F_n h_f1) ?_
      refine r_geti (v := h f1 2) f_16_68 (F_k h_f1) (by decide) rfl ?_
      refine r_iadd (u := x5 + (h f1 2)) f_16_71 rfl (o4 c1 c2) ?_
      refine r_aload_n (v := f1) f_16_72 rfl (F_n h_f1) ?_
      refine r_geti (v := h f1 0) f_16_73 (F_k h_f1) (by decide) rfl ?_
      refine r_br2 (t := 99) f_16_76 rfl cb_gt (fun c3 => ?_) (fun c3 => ?_)
      · exact (k5 c1 c2 c3)
      · refine r_lload_n (v := y3) f_16_79 rfl ?_
        refine r_aload_n (v := 92) f_16_80 rfl (by decide) ?_
        refine r_getr (q := 95) f_16_81 rfl (by decide) (Or.inl rfl) rfl ?_
        refine r_iload (v := x5) f_16_84 rfl ?_
        refine r_aload_n (v := f1) f_16_86 rfl (F_n h_f1) ?_
        refine r_geti (v := h f1 2) f_16_87 (F_k h_f1) (by decide) rfl ?_
        refine r_iadd (u := x5 + (h f1 2)) f_16_90 rfl (o4 c1 c2) ?_
        refine r_bipush f_16_91 (by decide) ?_
        refine r_imul (u := (x5 + (h f1 2)) * 64) f_16_93 rfl (o6 c1 c2 c3) ?_
        refine r_iload_n (v := x2) f_16_94 rfl ?_
        refine r_iadd (u := ((x5 + (h f1 2)) * 64) + x2) f_16_95 rfl (o7 c1 c2 c3) ?_
        refine r_laload (n := 640) (v := h 95 (((x5 + (h f1 2)) * 64) + x2).toNat) f_16_96 ⟨rfl, rfl⟩ (o8 c1 c2 c3) rfl ?_
        refine r_ladd (u := y3 + (h 95 (((x5 + (h f1 2)) * 64) + x2).toNat)) f_16_97 rfl (o9 c1 c2 c3) ?_
        refine r_lstore_n (ls' := [vr 92, vr f1, vi x2, vj (y3 + (h 95 (((x5 + (h f1 2)) * 64) + x2).toNat)), vr 9999, vi x5]) f_16_98 (Nat.le_of_ble_eq_true rfl) rfl ?_
        exact (k10 c1 c2 c3)

theorem g_Bo_addCuts_99 {Q : PQ} {h : HP} {x2 : Int} {y3 : Int} {x5 : Int} {f1 : Nat} (h_f1 : isF f1)
    (o1 : -2147483648 ≤ x5 - (h f1 2) ∧ x5 - (h f1 2) ≤ 2147483647)
    (k2 : x5 - (h f1 2) ≤ 0 → Wp true i_Bo_addCuts 131 [vr 92, vr f1, vi x2, vj y3, vr 9999, vi x5] [] h Q)
    (o3 : ¬ x5 - (h f1 2) ≤ 0 → -2147483648 ≤ (x5 - (h f1 2)) - 1 ∧ (x5 - (h f1 2)) - 1 ≤ 2147483647)
    (o4 : ¬ x5 - (h f1 2) ≤ 0 → -2147483648 ≤ ((x5 - (h f1 2)) - 1) * 64 ∧ ((x5 - (h f1 2)) - 1) * 64 ≤ 2147483647)
    (o5 : ¬ x5 - (h f1 2) ≤ 0 → -2147483648 ≤ (((x5 - (h f1 2)) - 1) * 64) + x2 ∧ (((x5 - (h f1 2)) - 1) * 64) + x2 ≤ 2147483647)
    (o6 : ¬ x5 - (h f1 2) ≤ 0 → 0 ≤ (((x5 - (h f1 2)) - 1) * 64) + x2 ∧ (((x5 - (h f1 2)) - 1) * 64) + x2 < 640)
    (o7 : ¬ x5 - (h f1 2) ≤ 0 → -9223372036854775808 ≤ y3 - (h 95 ((((x5 - (h f1 2)) - 1) * 64) + x2).toNat) ∧ y3 - (h 95 ((((x5 - (h f1 2)) - 1) * 64) + x2).toNat) ≤ 9223372036854775807)
    (k8 : ¬ x5 - (h f1 2) ≤ 0 → Wp true i_Bo_addCuts 131 [vr 92, vr f1, vi x2, vj (y3 - (h 95 ((((x5 - (h f1 2)) - 1) * 64) + x2).toNat)), vr 9999, vi x5] [] h Q) :
    Wp true i_Bo_addCuts 99 [vr 92, vr f1, vi x2, vj y3, vr 9999, vi x5] [] h Q := by
  refine r_iload (v := x5) f_16_99 rfl ?_
  refine r_aload_n (v := f1) f_16_101 rfl (F_n h_f1) ?_
  refine r_geti (v := h f1 2) f_16_102 (F_k h_f1) (by decide) rfl ?_
  refine r_isub (u := x5 - (h f1 2)) f_16_105 rfl o1 ?_
  refine r_br (t := 131) f_16_106 rfl cb_le (fun c1 => ?_) (fun c1 => ?_)
  · exact (k2 c1)
  · refine r_lload_n (v := y3) f_16_109 rfl ?_
    refine r_aload_n (v := 92) f_16_110 rfl (by decide) ?_
    refine r_getr (q := 95) f_16_111 rfl (by decide) (Or.inl rfl) rfl ?_
    refine r_iload (v := x5) f_16_114 rfl ?_
    refine r_aload_n (v := f1) f_16_116 rfl (F_n h_f1) ?_
    refine r_geti (v := h f1 2) f_16_117 (F_k h_f1) (by decide) rfl ?_
    refine r_isub (u := x5 - (h f1 2)) f_16_120 rfl o1 ?_
    refine r_iconst f_16_121 (by decide) ?_
    refine r_isub (u := (x5 - (h f1 2)) - 1) f_16_122 rfl (o3 c1) ?_
    refine r_bipush f_16_123 (by decide) ?_
    refine r_imul (u := ((x5 - (h f1 2)) - 1) * 64) f_16_125 rfl (o4 c1) ?_
    refine r_iload_n (v := x2) f_16_126 rfl ?_
    refine r_iadd (u := (((x5 - (h f1 2)) - 1) * 64) + x2) f_16_127 rfl (o5 c1) ?_
    refine r_laload (n := 640) (v := h 95 ((((x5 - (h f1 2)) - 1) * 64) + x2).toNat) f_16_128 ⟨rfl, rfl⟩ (o6 c1) rfl ?_
    refine r_lsub (u := y3 - (h 95 ((((x5 - (h f1 2)) - 1) * 64) + x2).toNat)) f_16_129 rfl (o7 c1) ?_
    refine r_lstore_n (ls' := [vr 92, vr f1, vi x2, vj (y3 - (h 95 ((((x5 - (h f1 2)) - 1) * 64) + x2).toNat)), vr 9999, vi x5]) f_16_130 (Nat.le_of_ble_eq_true rfl) rfl ?_
    exact (k8 c1)

theorem g_Bo_addCuts_131 {Q : PQ} {h : HP} {x2 : Int} {y3 : Int} {x5 : Int} {f1 : Nat} (h_f1 : isF f1)
    (o1 : -2147483648 ≤ x5 * 64 ∧ x5 * 64 ≤ 2147483647)
    (o2 : -2147483648 ≤ (x5 * 64) + x2 ∧ (x5 * 64) + x2 ≤ 2147483647)
    (o3 : -2147483648 ≤ ((x5 * 64) + x2) + x5 ∧ ((x5 * 64) + x2) + x5 ≤ 2147483647)
    (o4 : 0 ≤ ((x5 * 64) + x2) + x5 ∧ ((x5 * 64) + x2) + x5 < 640)
    (o5 : -2147483648 ≤ x5 + 1 ∧ x5 + 1 ≤ 2147483647)
    (k6 : Wp true i_Bo_addCuts 47 [vr 92, vr f1, vi x2, vj y3, vr 9999, vi (x5 + 1)] [] (hs h 94 (((x5 * 64) + x2) + x5).toNat y3) Q) :
    Wp true i_Bo_addCuts 131 [vr 92, vr f1, vi x2, vj y3, vr 9999, vi x5] [] h Q := by
  refine r_aload_n (v := 92) f_16_131 rfl (by decide) ?_
  refine r_getr (q := 94) f_16_132 rfl (by decide) (Or.inl rfl) rfl ?_
  refine r_iload (v := x5) f_16_135 rfl ?_
  refine r_bipush f_16_137 (by decide) ?_
  refine r_imul (u := x5 * 64) f_16_139 rfl o1 ?_
  refine r_iload_n (v := x2) f_16_140 rfl ?_
  refine r_iadd (u := (x5 * 64) + x2) f_16_141 rfl o2 ?_
  refine r_iload (v := x5) f_16_142 rfl ?_
  refine r_iadd (u := ((x5 * 64) + x2) + x5) f_16_144 rfl o3 ?_
  refine r_lload_n (v := y3) f_16_145 rfl ?_
  refine r_lastore (n := 640) f_16_146 ⟨rfl, rfl⟩ o4 ?_
  refine r_iinc (v := x5) (w := x5 + 1) (ls' := [vr 92, vr f1, vi x2, vj y3, vr 9999, vi (x5 + 1)]) f_16_147 rfl rfl o5 rfl ?_
  refine r_goto (t := 47) f_16_150 rfl ?_
  exact k6

theorem g_Bo_addRow_0 {Q : PQ} {h : HP} {x2 : Int} {f1 : Nat} (h_f1 : isF f1)
    (k1 : Wp true i_Ar_fillJ 0 [vr 94, vj 0, vr 9999, vr 9999, vr 9999] [] (cpy h 94 0 95 0 640) (fun r h' => Wp true i_Bo_addRow 24 [vr 92, vr f1, vi x2, vr 9999] (r.toList ++ []) h' Q)) :
    Wp true i_Bo_addRow 0 [vr 92, vr f1, vi x2, vr 9999] [] h Q := by
  refine r_aload_n (v := 92) f_15_0 rfl (by decide) ?_
  refine r_getr (q := 94) f_15_1 rfl (by decide) (Or.inl rfl) rfl ?_
  refine r_iconst f_15_4 (by decide) ?_
  refine r_aload_n (v := 92) f_15_5 rfl (by decide) ?_
  refine r_getr (q := 95) f_15_6 rfl (by decide) (Or.inl rfl) rfl ?_
  refine r_iconst f_15_9 (by decide) ?_
  refine r_sipush f_15_10 (by decide) ?_
  refine r_copy (na := 640) (nb := 640) f_15_13 ⟨by rw [show zck 94 = 21 from rfl, show zck 95 = 21 from rfl], by rw [show zck 94 = 21 from rfl]; decide⟩ ⟨rfl, rfl⟩ (by decide) (by decide) ?_
  refine r_aload_n (v := 92) f_15_16 rfl (by decide) ?_
  refine r_getr (q := 94) f_15_17 rfl (by decide) (Or.inl rfl) rfl ?_
  refine r_lconst (v := 0) f_15_20 rfl ?_
  exact r_calls (as := [vr 94, vj 0]) (st' := []) (ls0 := [vr 94, vj 0, vr 9999, vr 9999, vr 9999]) f_15_21 (by decide) (by decide) rfl rfl (Nat.le_of_ble_eq_true rfl) (Nat.le_of_ble_eq_true rfl) rfl k1

theorem g_Bo_addRow_24 {Q : PQ} {h : HP} {x2 : Int} {f1 : Nat} (h_f1 : isF f1)
    (k1 : Wp true i_Bo_addRow 26 [vr 92, vr f1, vi x2, vi 0] [] h Q) :
    Wp true i_Bo_addRow 24 [vr 92, vr f1, vi x2, vr 9999] [] h Q := by
  refine r_iconst f_15_24 (by decide) ?_
  refine r_istore_n (ls' := [vr 92, vr f1, vi x2, vi 0]) f_15_25 (Nat.le_of_ble_eq_true rfl) rfl ?_
  exact k1

theorem g_Bo_addRow_26 {Q : PQ} {h : HP} {x2 : Int} {x3 : Int} {f1 : Nat} (h_f1 : isF f1)
    (o1 : -2147483648 ≤ x2 * (h f1 0) ∧ x2 * (h f1 0) ≤ 2147483647)
    (k2 : x2 * (h f1 0) < x3 → Q none h)
    (k3 : ¬ x2 * (h f1 0) < x3 → Wp true i_Bo_addCuts 0 [vr 92, vr f1, vi x3, vr 9999, vr 9999, vr 9999] [] h (fun r h' => Wp true i_Bo_addRow 42 [vr 92, vr f1, vi x2, vi x3] (r.toList ++ []) h' Q)) :
    Wp true i_Bo_addRow 26 [vr 92, vr f1, vi x2, vi x3] [] h Q := by
  refine r_iload_n (v := x3) f_15_26 rfl ?_
  refine r_iload_n (v := x2) f_15_27 rfl ?_
  refine r_aload_n (v := f1) f_15_28 rfl (F_n h_f1) ?_
  refine r_geti (v := h f1 0) f_15_29 (F_k h_f1) (by decide) rfl ?_
  refine r_imul (u := x2 * (h f1 0)) f_15_32 rfl o1 ?_
  refine r_br2 (t := 48) f_15_33 rfl cb_gt (fun c1 => ?_) (fun c1 => ?_)
  · exact r_retv f_15_48 rfl (k2 c1)
  · refine r_aload_n (v := 92) f_15_36 rfl (by decide) ?_
    refine r_aload_n (v := f1) f_15_37 rfl (F_n h_f1) ?_
    refine r_iload_n (v := x3) f_15_38 rfl ?_
    exact r_callv (as := [vr 92, vr f1, vi x3]) (st' := []) (ls0 := [vr 92, vr f1, vi x3, vr 9999, vr 9999, vr 9999]) f_15_39 (by decide) rfl rfl (Nat.le_of_ble_eq_true rfl) (Nat.le_of_ble_eq_true rfl) ⟨_, _, rfl, rfl⟩ rfl (k3 c1)

theorem g_Bo_addRow_42 {Q : PQ} {h : HP} {x2 : Int} {x3 : Int} {f1 : Nat} (h_f1 : isF f1)
    (o1 : -2147483648 ≤ x3 + 1 ∧ x3 + 1 ≤ 2147483647)
    (k2 : Wp true i_Bo_addRow 26 [vr 92, vr f1, vi x2, vi (x3 + 1)] [] h Q) :
    Wp true i_Bo_addRow 42 [vr 92, vr f1, vi x2, vi x3] [] h Q := by
  refine r_iinc (v := x3) (w := x3 + 1) (ls' := [vr 92, vr f1, vi x2, vi (x3 + 1)]) f_15_42 rfl rfl o1 rfl ?_
  refine r_goto (t := 26) f_15_45 rfl ?_
  exact k2

theorem g_Bo_howMany_0 {Q : PQ} {h : HP} {x2 : Int} {f1 : Nat} (h_f1 : isF f1)
    (k1 : 0 < h f1 1 → Wp true i_Ar_fillJ 0 [vr 94, vj 0, vr 9999, vr 9999, vr 9999] [] h (fun r h' => Wp true i_Bo_howMany 25 [vr 92, vr f1, vi x2, vr 9999, vr 9999, vr 9999] (r.toList ++ []) h' Q))
    (k2 : ¬ 0 < h f1 1 → ¬ x2 = 0 → Q (some (vj 0)) h)
    (k3 : ¬ 0 < h f1 1 → x2 = 0 → Q (some (vj 1)) h) :
    Wp true i_Bo_howMany 0 [vr 92, vr f1, vi x2, vr 9999, vr 9999, vr 9999] [] h Q := by
  refine r_aload_n (v := f1) f_14_0 rfl (F_n h_f1) ?_
  refine r_geti (v := h f1 1) f_14_1 (F_k h_f1) (by decide) rfl ?_
  refine r_br (t := 17) f_14_4 rfl cb_gt (fun c1 => ?_) (fun c1 => ?_)
  · refine r_aload_n (v := 92) f_14_17 rfl (by decide) ?_
    refine r_getr (q := 94) f_14_18 rfl (by decide) (Or.inl rfl) rfl ?_
    refine r_lconst (v := 0) f_14_21 rfl ?_
    exact r_calls (as := [vr 94, vj 0]) (st' := []) (ls0 := [vr 94, vj 0, vr 9999, vr 9999, vr 9999]) f_14_22 (by decide) (by decide) rfl rfl (Nat.le_of_ble_eq_true rfl) (Nat.le_of_ble_eq_true rfl) rfl (k1 c1)
  · refine r_iload_n (v := x2) f_14_7 rfl ?_
    refine r_br (t := 15) f_14_8 rfl cb_ne (fun c2 => ?_) (fun c2 => ?_)
    · refine r_lconst (v := 0) f_14_15 rfl ?_
      exact r_retj f_14_16 rfl (k2 c1 c2)
    · have c2 := Decidable.not_not.mp c2
      refine r_lconst (v := 1) f_14_11 rfl ?_
      refine r_goto (t := 16) f_14_12 rfl ?_
      exact r_retj f_14_16 rfl (k3 c1 c2)

theorem g_Bo_howMany_25 {Q : PQ} {h : HP} {x2 : Int} {f1 : Nat} (h_f1 : isF f1)
    (k1 : Wp true i_Bo_howMany 27 [vr 92, vr f1, vi x2, vi 0, vr 9999, vr 9999] [] h Q) :
    Wp true i_Bo_howMany 25 [vr 92, vr f1, vi x2, vr 9999, vr 9999, vr 9999] [] h Q := by
  refine r_iconst f_14_25 (by decide) ?_
  refine r_istore_n (ls' := [vr 92, vr f1, vi x2, vi 0, vr 9999, vr 9999]) f_14_26 (Nat.le_of_ble_eq_true rfl) rfl ?_
  exact k1

theorem g_Bo_howMany_27 {Q : PQ} {h : HP} {x2 : Int} {x3 : Int} {f1 : Nat} (h_f1 : isF f1)
    (k1 : h f1 0 < x3 → Wp true i_Bo_howMany 55 [vr 92, vr f1, vi x2, vi 1, vr 9999, vr 9999] [] h Q)
    (o2 : ¬ h f1 0 < x3 → -2147483648 ≤ x3 * 64 ∧ x3 * 64 ≤ 2147483647)
    (o3 : ¬ h f1 0 < x3 → -2147483648 ≤ (x3 * 64) + x3 ∧ (x3 * 64) + x3 ≤ 2147483647)
    (o4 : ¬ h f1 0 < x3 → 0 ≤ (x3 * 64) + x3 ∧ (x3 * 64) + x3 < 640)
    (o5 : ¬ h f1 0 < x3 → -2147483648 ≤ x3 + 1 ∧ x3 + 1 ≤ 2147483647)
    (k6 : ¬ h f1 0 < x3 → Wp true i_Bo_howMany 27 [vr 92, vr f1, vi x2, vi (x3 + 1), vr 9999, vr 9999] [] (hs h 94 ((x3 * 64) + x3).toNat 1) Q) :
    Wp true i_Bo_howMany 27 [vr 92, vr f1, vi x2, vi x3, vr 9999, vr 9999] [] h Q := by
  refine r_iload_n (v := x3) f_14_27 rfl ?_
  refine r_aload_n (v := f1) f_14_28 rfl (F_n h_f1) ?_
  refine r_geti (v := h f1 0) f_14_29 (F_k h_f1) (by decide) rfl ?_
  refine r_br2 (t := 53) f_14_32 rfl cb_gt (fun c1 => ?_) (fun c1 => ?_)
  · refine r_iconst f_14_53 (by decide) ?_
    refine r_istore_n (ls' := [vr 92, vr f1, vi x2, vi 1, vr 9999, vr 9999]) f_14_54 (Nat.le_of_ble_eq_true rfl) rfl ?_
    exact (k1 c1)
  · refine r_aload_n (v := 92) f_14_35 rfl (by decide) ?_
    refine r_getr (q := 94) f_14_36 rfl (by decide) (Or.inl rfl) rfl ?_
    refine r_iload_n (v := x3) f_14_39 rfl ?_
    refine r_bipush f_14_40 (by decide) ?_
    refine r_imul (u := x3 * 64) f_14_42 rfl (o2 c1) ?_
    refine r_iload_n (v := x3) f_14_43 rfl ?_
    refine r_iadd (u := (x3 * 64) + x3) f_14_44 rfl (o3 c1) ?_
    refine r_lconst (v := 1) f_14_45 rfl ?_
    refine r_lastore (n := 640) f_14_46 ⟨rfl, rfl⟩ (o4 c1) ?_
    refine r_iinc (v := x3) (w := x3 + 1) (ls' := [vr 92, vr f1, vi x2, vi (x3 + 1), vr 9999, vr 9999]) f_14_47 rfl rfl (o5 c1) rfl ?_
    refine r_goto (t := 27) f_14_50 rfl ?_
    exact (k6 c1)

theorem g_Bo_howMany_55 {Q : PQ} {h : HP} {x2 : Int} {x3 : Int} {f1 : Nat} (h_f1 : isF f1)
    (k1 : h f1 1 ≤ x3 → Wp true i_Bo_howMany 80 [vr 92, vr f1, vi x2, vj 0, vr 9999, vi 0] [] h Q)
    (k2 : ¬ h f1 1 ≤ x3 → Wp true i_Bo_addRow 0 [vr 92, vr f1, vi x3, vr 9999] [] h (fun r h' => Wp true i_Bo_howMany 69 [vr 92, vr f1, vi x2, vi x3, vr 9999, vr 9999] (r.toList ++ []) h' Q)) :
    Wp true i_Bo_howMany 55 [vr 92, vr f1, vi x2, vi x3, vr 9999, vr 9999] [] h Q := by
  refine r_iload_n (v := x3) f_14_55 rfl ?_
  refine r_aload_n (v := f1) f_14_56 rfl (F_n h_f1) ?_
  refine r_geti (v := h f1 1) f_14_57 (F_k h_f1) (by decide) rfl ?_
  refine r_br2 (t := 75) f_14_60 rfl cb_ge (fun c1 => ?_) (fun c1 => ?_)
  · refine r_lconst (v := 0) f_14_75 rfl ?_
    refine r_lstore_n (ls' := [vr 92, vr f1, vi x2, vj 0, vr 9999, vr 9999]) f_14_76 (Nat.le_of_ble_eq_true rfl) rfl ?_
    refine r_iconst f_14_77 (by decide) ?_
    refine r_istore (ls' := [vr 92, vr f1, vi x2, vj 0, vr 9999, vi 0]) f_14_78 (Nat.le_of_ble_eq_true rfl) rfl ?_
    exact (k1 c1)
  · refine r_aload_n (v := 92) f_14_63 rfl (by decide) ?_
    refine r_aload_n (v := f1) f_14_64 rfl (F_n h_f1) ?_
    refine r_iload_n (v := x3) f_14_65 rfl ?_
    exact r_callv (as := [vr 92, vr f1, vi x3]) (st' := []) (ls0 := [vr 92, vr f1, vi x3, vr 9999]) f_14_66 (by decide) rfl rfl (Nat.le_of_ble_eq_true rfl) (Nat.le_of_ble_eq_true rfl) ⟨_, _, rfl, rfl⟩ rfl (k2 c1)

theorem g_Bo_howMany_69 {Q : PQ} {h : HP} {x2 : Int} {x3 : Int} {f1 : Nat} (h_f1 : isF f1)
    (o1 : -2147483648 ≤ x3 + 1 ∧ x3 + 1 ≤ 2147483647)
    (k2 : Wp true i_Bo_howMany 55 [vr 92, vr f1, vi x2, vi (x3 + 1), vr 9999, vr 9999] [] h Q) :
    Wp true i_Bo_howMany 69 [vr 92, vr f1, vi x2, vi x3, vr 9999, vr 9999] [] h Q := by
  refine r_iinc (v := x3) (w := x3 + 1) (ls' := [vr 92, vr f1, vi x2, vi (x3 + 1), vr 9999, vr 9999]) f_14_69 rfl rfl o1 rfl ?_
  refine r_goto (t := 55) f_14_72 rfl ?_
  exact k2

theorem g_Bo_howMany_80 {Q : PQ} {h : HP} {x2 : Int} {y3 : Int} {x5 : Int} {f1 : Nat} (h_f1 : isF f1)
    (k1 : h f1 0 < x5 → Q (some (vj y3)) h)
    (o2 : ¬ h f1 0 < x5 → -2147483648 ≤ x5 * 64 ∧ x5 * 64 ≤ 2147483647)
    (o3 : ¬ h f1 0 < x5 → -2147483648 ≤ (x5 * 64) + x2 ∧ (x5 * 64) + x2 ≤ 2147483647)
    (o4 : ¬ h f1 0 < x5 → 0 ≤ (x5 * 64) + x2 ∧ (x5 * 64) + x2 < 640)
    (o5 : ¬ h f1 0 < x5 → -9223372036854775808 ≤ y3 + (h 94 ((x5 * 64) + x2).toNat) ∧ y3 + (h 94 ((x5 * 64) + x2).toNat) ≤ 9223372036854775807)
    (o6 : ¬ h f1 0 < x5 → -2147483648 ≤ x5 + 1 ∧ x5 + 1 ≤ 2147483647)
    (k7 : ¬ h f1 0 < x5 → Wp true i_Bo_howMany 80 [vr 92, vr f1, vi x2, vj (y3 + (h 94 ((x5 * 64) + x2).toNat)), vr 9999, vi (x5 + 1)] [] h Q) :
    Wp true i_Bo_howMany 80 [vr 92, vr f1, vi x2, vj y3, vr 9999, vi x5] [] h Q := by
  refine r_iload (v := x5) f_14_80 rfl ?_
  refine r_aload_n (v := f1) f_14_82 rfl (F_n h_f1) ?_
  refine r_geti (v := h f1 0) f_14_83 (F_k h_f1) (by decide) rfl ?_
  refine r_br2 (t := 110) f_14_86 rfl cb_gt (fun c1 => ?_) (fun c1 => ?_)
  · refine r_lload_n (v := y3) f_14_110 rfl ?_
    exact r_retj f_14_111 rfl (k1 c1)
  · refine r_lload_n (v := y3) f_14_89 rfl ?_
    refine r_aload_n (v := 92) f_14_90 rfl (by decide) ?_
    refine r_getr (q := 94) f_14_91 rfl (by decide) (Or.inl rfl) rfl ?_
    refine r_iload (v := x5) f_14_94 rfl ?_
    refine r_bipush f_14_96 (by decide) ?_
    refine r_imul (u := x5 * 64) f_14_98 rfl (o2 c1) ?_
    refine r_iload_n (v := x2) f_14_99 rfl ?_
    refine r_iadd (u := (x5 * 64) + x2) f_14_100 rfl (o3 c1) ?_
    refine r_laload (n := 640) (v := h 94 ((x5 * 64) + x2).toNat) f_14_101 ⟨rfl, rfl⟩ (o4 c1) rfl ?_
    refine r_ladd (u := y3 + (h 94 ((x5 * 64) + x2).toNat)) f_14_102 rfl (o5 c1) ?_
    refine r_lstore_n (ls' := [vr 92, vr f1, vi x2, vj (y3 + (h 94 ((x5 * 64) + x2).toNat)), vr 9999, vi x5]) f_14_103 (Nat.le_of_ble_eq_true rfl) rfl ?_
    refine r_iinc (v := x5) (w := x5 + 1) (ls' := [vr 92, vr f1, vi x2, vj (y3 + (h 94 ((x5 * 64) + x2).toNat)), vr 9999, vi (x5 + 1)]) f_14_104 rfl rfl (o6 c1) rfl ?_
    refine r_goto (t := 80) f_14_107 rfl ?_
    exact (k7 c1)

/-! ===== LINES ===== -/
noncomputable def upL (R : HP) : Nat → Nat → Nat → Int
  | 0, l, n => if n = l then 1 else 0
  | k + 1, l, n => if l ≤ n then sumF (fun o => cho (nearK R l o) (upL R k o (n - l)) 0) ((R 0 0).toNat + 1) 0 else 0
theorem mul_b {a b : Int} (a0 : 0 ≤ a) (a1 : a ≤ 7) (b0 : 0 ≤ b) (b1 : b ≤ 9) : 0 ≤ a * b ∧ a * b ≤ 63 := by
  have h1 := Int.mul_nonneg a0 b0
  have h2 := Int.mul_le_mul_of_nonneg_right a1 b0
  exact ⟨h1, by omega⟩
theorem upL_rg {R : HP} (W : WR R) : ∀ (k l n : Nat), 0 ≤ upL R k l n ∧ upL R k l n ≤ 10 ^ k := by
  have w := W.1
  intro k
  induction k with
  | zero =>
    intro l n
    simp only [upL]
    by_cases z : n = l
    · rw [if_pos z]; decide
    · rw [if_neg z]; decide
  | succ k ih =>
    intro l n
    have p : (0 : Int) ≤ 10 ^ k := Int.le_of_lt (Int.pow_pos (by decide))
    simp only [upL]
    by_cases z : l ≤ n
    · rw [if_pos z]
      have := sumF_rng (f := fun o => cho (nearK R l o) (upL R k o (n - l)) 0) (a := 0) (b := 10 ^ k) ((R 0 0).toNat + 1) 0 (fun j _ _ => by
        have := ih j (n - l)
        by_cases y : nearK R l j
        · simp only [cho_t y]; exact this
        · simp only [cho_f y]; exact ⟨Int.le_refl _, p⟩)
      have q : (10 : Int) ^ k * (((R 0 0).toNat + 1 : Nat) : Int) ≤ 10 ^ k * 10 := Int.mul_le_mul_of_nonneg_left (by omega) p
      rw [Int.pow_succ]
      omega
    · rw [if_neg z]
      exact ⟨Int.le_refl _, Int.le_of_lt (Int.pow_pos (by decide))⟩
theorem upL_b {R : HP} (W : WR R) {k l n : Nat} (h : k ≤ 6) : 0 ≤ upL R k l n ∧ upL R k l n ≤ 1000000 := by
  have := upL_rg W k l n
  have e : (10 : Int) ^ k ≤ 1000000 := by
    have : k = 0 ∨ k = 1 ∨ k = 2 ∨ k = 3 ∨ k = 4 ∨ k = 5 ∨ k = 6 := by omega
    rcases this with rfl | rfl | rfl | rfl | rfl | rfl | rfl <;> decide
  omega
theorem upL_hi {R : HP} : ∀ (k l n : Nat), (l : Int) ≤ R 0 0 → ((k : Int) + 1) * R 0 0 < n → upL R k l n = 0 := by
  intro k
  induction k with
  | zero =>
    intro l n h1 h2
    simp only [upL]
    rw [if_neg (by omega)]
  | succ k ih =>
    intro l n h1 h2
    simp only [upL]
    by_cases z : l ≤ n
    · rw [if_pos z]
      refine sumF_zero _ _ (fun o _ ho => ?_)
      have e : ((k + 1 : Nat) : Int) + 1 = ((k : Int) + 1) + 1 := by omega
      rw [e, Int.add_mul, Int.one_mul] at h2
      have q := ih o (n - l) (by omega) (by omega)
      by_cases y : nearK R l o
      · rw [cho_t y, q]
      · rw [cho_f y]
    · rw [if_neg z]
/-- the window -/
def winS (f : Nat → Int) (m : Nat) (b c : Int) : Int := sumF (fun o => if c - b ≤ (o : Int) ∧ (o : Int) ≤ c + b then f o else 0) m 0
theorem sumF_at (f : Nat → Int) (a : Int) (m : Nat) : sumF (fun o => if (o : Int) = a then f o else 0) m 0 = if 0 ≤ a ∧ a < m then f a.toNat else 0 := by
  by_cases z : 0 ≤ a ∧ a < m
  · rw [if_pos z, sumF_one (t := a.toNat) m 0 (by omega) (by omega) (fun j _ _ hj => by rw [if_neg (by omega)]), if_pos (by omega)]
  · rw [if_neg z]
    exact sumF_zero m 0 (fun j _ hj => by rw [if_neg (by omega)])
theorem winS_step {f : Nat → Int} {m : Nat} {b c : Int} (hb : 0 ≤ b) : winS f m b c + sumF (fun o => if (o : Int) = c - b - 1 then f o else 0) m 0 = winS f m b (c - 1) + sumF (fun o => if (o : Int) = c + b then f o else 0) m 0 := by
  unfold winS
  rw [← sumF_add, ← sumF_add]
  refine sumF_congr _ _ (fun o _ _ => ?_)
  generalize f o = x
  (repeat' split) <;> omega
theorem upL_win {R : HP} {k l n : Nat} (h : l ≤ n) : upL R (k + 1) l n = winS (fun o => upL R k o (n - l)) ((R 0 0).toNat + 1) (R 0 2) l := by
  simp only [upL]
  rw [if_pos h]
  unfold winS
  refine sumF_congr _ _ (fun o _ _ => ?_)
  by_cases y : nearK R l o
  · rw [cho_t y, if_pos (by unfold nearK at y; omega)]
  · rw [cho_f y, if_neg (by unfold nearK at y; omega)]
theorem winS_rg {f : Nat → Int} {m : Nat} {b c : Int} (hm : m ≤ 10) (hf : ∀ o, 0 ≤ f o ∧ f o ≤ 1000000) : 0 ≤ winS f m b c ∧ winS f m b c ≤ 10000000 := by
  have := sumF_rng (f := fun o => if c - b ≤ (o : Int) ∧ (o : Int) ≤ c + b then f o else 0) (a := 0) (b := 1000000) m 0 (fun j _ _ => by
    have := hf j
    split <;> omega)
  unfold winS
  omega
theorem c_Bo_addCuts {Q : PQ} {h R : HP} {f1 k s : Nat} (h_f1 : isF f1) (eR : rmC h f1 = R) (W : WR R) (hk : k ≤ 5) (hs64 : s ≤ 63) (T : ∀ o : Nat, (o : Int) ≤ R 0 0 → h 95 (64 * o + s) = upL R k o s)
    (kk : ∀ h', (∀ k, k ≠ 94 → h' k = h k) → (∀ c n : Nat, (c : Int) ≤ R 0 0 → n ≤ 63 → h' 94 (64 * c + n) = if n = s + c then upL R (k + 1) c n else h 94 (64 * c + n)) → Q none h') : Wp true i_Bo_addCuts 0 [vr 92, vr f1, vi (s : Int), vr 9999, vr 9999, vr 9999] [] h Q := by
  have w := W.1
  have d0 := cdim eR
  have fl : f1 + 8 ≤ 82 := by unfold isF at h_f1; omega
  have fr : ∀ h1 : HP, (∀ k, k ≠ 94 → h1 k = h k) → rmC h1 f1 = R := fun h1 f => (rC_frame h_f1 (fun k hk => f k (by omega))).trans eR
  obtain ⟨F, eF⟩ : ∃ F : Nat → Int, F = fun o => upL R k o s := ⟨_, rfl⟩
  have Fb : ∀ o, 0 ≤ F o ∧ F o ≤ 1000000 := fun o => by rw [eF]; exact upL_b W (by omega)
  have T' : ∀ o : Nat, (o : Int) ≤ R 0 0 → h 95 (64 * o + s) = F o := fun o ho => by rw [eF]; exact T o ho
  have wb : ∀ c, 0 ≤ winS F ((R 0 0).toNat + 1) (R 0 2) c ∧ winS F ((R 0 0).toNat + 1) (R 0 2) c ≤ 10000000 := fun c => winS_rg (by omega) Fb
  -- the cuts
  have cuts : ∀ (d c : Nat) (h1 : HP), (c : Int) + d = R 0 0 + 1 → (∀ k, k ≠ 94 → h1 k = h k) → (∀ c' n : Nat, (c' : Int) ≤ R 0 0 → n ≤ 63 → h1 94 (64 * c' + n) = if n = s + c' ∧ c' < c then upL R (k + 1) c' n else h 94 (64 * c' + n)) → Wp true i_Bo_addCuts 47 [vr 92, vr f1, vi (s : Int), vj (winS F ((R 0 0).toNat + 1) (R 0 2) ((c : Int) - 1)), vr 9999, vi (c : Int)] [] h1 Q := by
    intro d
    induction d with
    | zero =>
      intro c h1 e f I
      have dd := cdim (fr h1 f)
      have fin : Q none h1 := kk h1 f (fun c' n a b => by
        rw [I c' n a b]
        by_cases z : n = s + c'
        · rw [if_pos ⟨z, by omega⟩, if_pos z]
        · rw [if_neg (fun y => z y.1), if_neg z])
      exact g_Bo_addCuts_47 h_f1 (fun _ => fin) (fun q => by omega) (fun q => by omega) (fun q => by omega) (fun q => by omega) (fun q => by omega) (fun q => by omega) (fun q => by omega) (fun q => by omega) (fun q => by omega)
    | succ d ih =>
      intro c h1 e f I
      have dd := cdim (fr h1 f)
      by_cases z64 : 64 ≤ (s : Int) + c
      · have fin : Q none h1 := kk h1 f (fun c' n a b => by
          rw [I c' n a b]
          by_cases z : n = s + c'
          · rw [if_pos ⟨z, by omega⟩, if_pos z]
          · rw [if_neg (fun y => z y.1), if_neg z])
        exact g_Bo_addCuts_47 h_f1 (fun q => by omega) (fun q => by omega) (fun _ _ => fin) (fun _ q => by omega) (fun _ q => by omega) (fun _ q => by omega) (fun _ q => by omega) (fun _ q => by omega) (fun _ q => by omega) (fun _ q => by omega)
      have st := winS_step (f := F) (m := (R 0 0).toNat + 1) (b := R 0 2) (c := (c : Int)) (by omega)
      rw [sumF_at, sumF_at] at st
      have w0 := wb ((c : Int) - 1)
      have w1 := wb (c : Int)
      have b131 : ∀ y : Int, y = winS F ((R 0 0).toNat + 1) (R 0 2) (c : Int) → Wp true i_Bo_addCuts 131 [vr 92, vr f1, vi (s : Int), vj y, vr 9999, vi (c : Int)] [] h1 Q := by
        intro y hy
        refine g_Bo_addCuts_131 h_f1 (by omega) (by omega) (by omega) (by omega) (by omega) ?_
        rw [show ((c : Int) * 64 + (s : Int) + (c : Int)).toNat = 64 * c + (s + c) by omega]
        have nx := ih (c + 1) (hs h1 94 (64 * c + (s + c)) y) (by omega) (fun k hk => (hs_ne hk).trans (f k hk)) (fun c' n a b => by
          by_cases z : c' = c ∧ n = s + c
          · obtain ⟨rfl, rfl⟩ := z
            rw [hs_s, if_pos ⟨rfl, by omega⟩, hy, upL_win (by omega), eF, show s + c' - c' = s by omega]
          · rw [hs_o (Or.inr (by omega)), I c' n a b]
            by_cases y1 : n = s + c' ∧ c' < c
            · rw [if_pos y1, if_pos ⟨y1.1, by omega⟩]
            · rw [if_neg y1, if_neg (fun y2 => by omega)])
        rw [show (((c + 1 : Nat) : Int) - 1) = (c : Int) by omega, ← hy] at nx
        exact nx
      have b99 : ∀ y : Int, y = winS F ((R 0 0).toNat + 1) (R 0 2) ((c : Int) - 1) + (if 0 ≤ (c : Int) + R 0 2 ∧ (c : Int) + R 0 2 < (((R 0 0).toNat + 1 : Nat) : Int) then F ((c : Int) + R 0 2).toNat else 0) → Wp true i_Bo_addCuts 99 [vr 92, vr f1, vi (s : Int), vj y, vr 9999, vi (c : Int)] [] h1 Q := by
        intro y hy
        rw [← hy] at st
        refine g_Bo_addCuts_99 h_f1 (by omega) (fun z => ?_) (fun _ => by omega) (fun _ => by omega) (fun _ => by omega) (fun _ => by omega) (fun z => ?_) (fun z => ?_)
        · rw [if_neg (by omega)] at st
          exact b131 _ (by omega)
        · have v := T' ((c : Int) - R 0 2 - 1).toNat (by omega)
          rw [if_pos (by omega)] at st
          rw [show ((((c : Int) - h1 f1 2) - 1) * 64 + (s : Int)).toNat = 64 * ((c : Int) - R 0 2 - 1).toNat + s by omega, f 95 (by decide), v]
          have := Fb ((c : Int) - R 0 2 - 1).toNat
          omega
        · have v := T' ((c : Int) - R 0 2 - 1).toNat (by omega)
          rw [if_pos (by omega)] at st
          rw [show ((((c : Int) - h1 f1 2) - 1) * 64 + (s : Int)).toNat = 64 * ((c : Int) - R 0 2 - 1).toNat + s by omega, f 95 (by decide), v]
          exact b131 _ (by omega)
      refine g_Bo_addCuts_47 h_f1 (fun q => by omega) (fun _ => by omega) (fun _ q => by omega) (fun _ _ => by omega) (fun _ _ z => ?_) (fun _ _ _ => by omega) (fun _ _ _ => by omega) (fun _ _ _ => by omega) (fun _ _ z => ?_) (fun _ _ z => ?_)
      · exact b99 _ (by rw [if_neg (by omega), Int.add_zero])
      · have v := T' ((c : Int) + R 0 2).toNat (by omega)
        rw [show (((c : Int) + h1 f1 2) * 64 + (s : Int)).toNat = 64 * ((c : Int) + R 0 2).toNat + s by omega, f 95 (by decide), v]
        have := Fb ((c : Int) + R 0 2).toNat
        omega
      · have v := T' ((c : Int) + R 0 2).toNat (by omega)
        rw [show (((c : Int) + h1 f1 2) * 64 + (s : Int)).toNat = 64 * ((c : Int) + R 0 2).toNat + s by omega, f 95 (by decide), v]
        exact b99 _ (by rw [if_pos (by omega)])
  have start : ∀ (y : Int), y = winS F ((R 0 0).toNat + 1) (R 0 2) (-1) → Wp true i_Bo_addCuts 47 [vr 92, vr f1, vi (s : Int), vj y, vr 9999, vi 0] [] h Q := by
    intro y hy
    have := cuts ((R 0 0).toNat + 1) 0 h (by omega) (fun _ _ => rfl) (fun c' n a b => by rw [if_neg (fun y => by omega)])
    rw [hy]
    exact this
  -- the first of them
  have pre : ∀ (d o : Nat), (o : Int) + d = R 0 0 + 1 → (o : Int) ≤ R 0 2 ∨ o = 0 → Wp true i_Bo_addCuts 5 [vr 92, vr f1, vi (s : Int), vj (sumF F o 0), vr 9999, vi (o : Int)] [] h Q := by
    intro d
    induction d with
    | zero =>
      intro o e le
      have fin := start (sumF F o 0) (by
        unfold winS
        rw [show (R 0 0).toNat + 1 = o by omega]
        refine sumF_congr _ _ (fun j _ hj => ?_)
        rw [if_pos (by omega)])
      exact g_Bo_addCuts_5 h_f1 (fun _ => fin) (fun _ _ => fin) (fun _ q => by omega) (fun _ q => by omega) (fun _ q => by omega) (fun _ q => by omega) (fun _ q => by omega) (fun _ q => by omega)
    | succ d ih =>
      intro o e le
      have v := T' o (by omega)
      have ix : ((o : Int) * 64 + (s : Int)).toNat = 64 * o + s := by omega
      have sr := sumF_rng (f := F) (a := 0) (b := 1000000) o 0 (fun j _ _ => Fb j)
      have fo := Fb o
      by_cases z : h f1 2 ≤ (o : Int)
      · have fin := start (sumF F o 0) (by
          unfold winS
          rw [show (R 0 0).toNat + 1 = o + ((R 0 0).toNat + 1 - o) by omega, sumF_app, sumF_zero ((R 0 0).toNat + 1 - o) (0 + o) (fun j _ hj => by rw [if_neg (by omega)]), Int.add_zero]
          refine sumF_congr _ _ (fun j _ hj => ?_)
          rw [if_pos (by omega)])
        exact g_Bo_addCuts_5 h_f1 (fun _ => fin) (fun q => absurd z q) (fun q => absurd z q) (fun q => absurd z q) (fun q => absurd z q) (fun q => absurd z q) (fun q => absurd z q) (fun q => absurd z q)
      · have nx := ih (o + 1) (by omega) (by omega)
        rw [sumF_last] at nx
        refine g_Bo_addCuts_5 h_f1 (fun q => absurd q z) (fun _ q => by omega) (fun _ _ => by omega) (fun _ _ => by omega) (fun _ _ => by omega) (fun _ _ => by rw [ix, v]; omega) (fun _ _ => by omega) (fun _ _ => ?_)
        rw [ix, v]
        exact nx
  exact g_Bo_addCuts_0 h_f1 (pre ((R 0 0).toNat + 1) 0 (by omega) (Or.inr rfl))
