theorem g_M_draws_0 {Q : PQ} {h : HP} {x1 : Int} 
    (o1 : -2147483648 ≤ (h 103 33) * 2957 ∧ (h 103 33) * 2957 ≤ 2147483647)
    (o2 : -2147483648 ≤ ((h 103 33) * 2957) + 11159 ∧ ((h 103 33) * 2957) + 11159 ≤ 2147483647)
    (o3 : 0 ≤ ((h 103 33) * 2957) + 11159)
    (o4 : 0 ≤ (((h 103 33) * 2957) + 11159) % 65536 ∧ (((h 103 33) * 2957) + 11159) % 65536 ≤ 2147483647)
    (o5 : 0 ≤ ((((h 103 33) * 2957) + 11159) % 65536) / 8)
    (o6 : 0 < x1)
    (k7 : Q (some (vi ((((((h 103 33) * 2957) + 11159) % 65536) / 8) % x1))) (hs h 103 33 ((((h 103 33) * 2957) + 11159) % 65536))) :
    Wp true i_M_draws 0 [vr 103, vi x1] [] h Q := by
  refine r_aload_n (v := 103) f_363_0 rfl (by decide) ?_
  refine r_aload_n (v := 103) f_363_1 rfl (by decide) ?_
  refine r_geti (v := h 103 33) f_363_2 rfl (by decide) rfl ?_
  refine r_sipush f_363_5 (by decide) ?_
  refine r_imul (u := (h 103 33) * 2957) f_363_8 rfl o1 ?_
  refine r_sipush f_363_9 (by decide) ?_
  refine r_iadd (u := ((h 103 33) * 2957) + 11159) f_363_12 rfl o2 ?_
  refine r_ldc_w f_363_13 (by decide) ?_
  refine r_irem f_363_16 o3 (by decide) ?_
  refine r_puti f_363_17 rfl (by decide) ?_
  refine r_aload_n (v := 103) f_363_20 rfl (by decide) ?_
  refine r_geti (v := (((h 103 33) * 2957) + 11159) % 65536) f_363_21 rfl (by decide) (by simp [hs]) ?_
  refine r_bipush f_363_24 (by decide) ?_
  refine r_idiv f_363_26 o4 (by decide) ?_
  refine r_iload_n (v := x1) f_363_27 rfl ?_
  refine r_irem f_363_28 o5 o6 ?_
  exact r_reti f_363_29 rfl k7

theorem g_M_yieldsBy_0 {Q : PQ} {h : HP} {x1 : Int} {x2 : Int} {x3 : Int} 
    (k1 : Wp true i_M_yields 0 [vr 103, vi x1, vi x2, vi x3, vr 9999] [] h (fun r h' => Wp true i_M_yieldsBy 7 [vr 103, vi x1, vi x2, vi x3, vr 9999] (r.toList ++ []) h' Q)) :
    Wp true i_M_yieldsBy 0 [vr 103, vi x1, vi x2, vi x3, vr 9999] [] h Q := by
  refine r_aload_n (v := 103) f_364_0 rfl (by decide) ?_
  refine r_iload_n (v := x1) f_364_1 rfl ?_
  refine r_iload_n (v := x2) f_364_2 rfl ?_
  refine r_iload_n (v := x3) f_364_3 rfl ?_
  exact r_callv (as := [vr 103, vi x1, vi x2, vi x3]) (st' := []) (ls0 := [vr 103, vi x1, vi x2, vi x3, vr 9999]) f_364_4 (by decide) rfl rfl (Nat.le_of_ble_eq_true rfl) (Nat.le_of_ble_eq_true rfl) ⟨_, _, rfl, rfl⟩ rfl k1

theorem g_M_yieldsBy_7 {Q : PQ} {h : HP} {x1 : Int} {x2 : Int} {x3 : Int} {s0 : Int} 
    (o1 : -2147483648 ≤ 1 + x1 ∧ 1 + x1 ≤ 2147483647)
    (o2 : 0 ≤ 1 + x1 ∧ 1 + x1 < 5)
    (o3 : -2147483648 ≤ (h 121 (1 + x1).toNat) + s0 ∧ (h 121 (1 + x1).toNat) + s0 ≤ 2147483647)
    (k4 : s0 ≤ 0 → Q (some (vi 0)) (hs h 121 (1 + x1).toNat ((h 121 (1 + x1).toNat) + s0)))
    (k5 : ¬ s0 ≤ 0 → Q (some (vi 1)) (hs h 121 (1 + x1).toNat ((h 121 (1 + x1).toNat) + s0))) :
    Wp true i_M_yieldsBy 7 [vr 103, vi x1, vi x2, vi x3, vr 9999] [vi s0] h Q := by
  refine r_istore (ls' := [vr 103, vi x1, vi x2, vi x3, vi s0]) f_364_7 (Nat.le_of_ble_eq_true rfl) rfl ?_
  refine r_aload_n (v := 103) f_364_9 rfl (by decide) ?_
  refine r_getr (q := 121) f_364_10 rfl (by decide) (Or.inl rfl) rfl ?_
  refine r_iconst f_364_13 (by decide) ?_
  refine r_iload_n (v := x1) f_364_14 rfl ?_
  refine r_iadd (u := 1 + x1) f_364_15 rfl o1 ?_
  refine r_dup2ir f_364_16 ?_
  refine r_iaload (n := 5) (v := h 121 (1 + x1).toNat) f_364_17 ⟨rfl, rfl⟩ o2 rfl ?_
  refine r_iload (v := s0) f_364_18 rfl ?_
  refine r_iadd (u := (h 121 (1 + x1).toNat) + s0) f_364_20 rfl o3 ?_
  refine r_iastore (n := 5) f_364_21 ⟨rfl, rfl⟩ o2 ?_
  refine r_iload (v := s0) f_364_22 rfl ?_
  refine r_br (t := 31) f_364_24 rfl cb_le (fun c1 => ?_) (fun c1 => ?_)
  · refine r_iconst f_364_31 (by decide) ?_
    exact r_retz f_364_32 rfl (by decide) (k4 c1)
  · refine r_iconst f_364_27 (by decide) ?_
    refine r_goto (t := 32) f_364_28 rfl ?_
    exact r_retz f_364_32 rfl (by decide) (k5 c1)

theorem g_M_does_0 {Q : PQ} {h : HP} {x1 : Int} 
    (o1 : -2147483648 ≤ x1 + 1 ∧ x1 + 1 ≤ 2147483647)
    (o2 : 0 ≤ x1 + 1 ∧ x1 + 1 < 3000)
    (o3 : 0 ≤ x1 ∧ x1 < 3000)
    (o4 : h 104 x1.toNat = 9 → -2147483648 ≤ x1 + 2 ∧ x1 + 2 ≤ 2147483647)
    (o5 : h 104 x1.toNat = 9 → 0 ≤ x1 + 2 ∧ x1 + 2 < 3000)
    (o6 : h 104 x1.toNat = 9 → -2147483648 ≤ x1 + 3 ∧ x1 + 3 ≤ 2147483647)
    (o7 : h 104 x1.toNat = 9 → 0 ≤ x1 + 3 ∧ x1 + 3 < 3000)
    (k8 : h 104 x1.toNat = 9 → Wp true i_M_yieldsBy 0 [vr 103, vi (h 104 (x1 + 1).toNat), vi (h 104 (x1 + 2).toNat), vi (h 104 (x1 + 3).toNat), vr 9999] [] h (fun r h' => Wp true i_M_does 69 [vr 103, vi x1, vi (h 104 (x1 + 1).toNat)] (r.toList ++ []) h' Q))
    (k9 : h 104 x1.toNat = 10 → Wp true i_M_nights 0 [vr 103, vr 9999, vr 9999, vr 9999] [] h (fun r h' => Wp true i_M_does 74 [vr 103, vi x1, vi (h 104 (x1 + 1).toNat)] (r.toList ++ []) h' Q))
    (k10 : h 104 x1.toNat = 11 → Wp true i_M_sweeps 0 [vr 103, vi (h 104 (x1 + 1).toNat), vr 9999, vr 9999, vr 9999] [] h (fun r h' => Wp true i_M_does 92 [vr 103, vi x1, vi (h 104 (x1 + 1).toNat)] (r.toList ++ []) h' Q))
    (o11 : h 104 x1.toNat = 12 → -2147483648 ≤ x1 + 2 ∧ x1 + 2 ≤ 2147483647)
    (o12 : h 104 x1.toNat = 12 → 0 ≤ x1 + 2 ∧ x1 + 2 < 3000)
    (o13 : h 104 x1.toNat = 12 → -2147483648 ≤ x1 + 3 ∧ x1 + 3 ≤ 2147483647)
    (o14 : h 104 x1.toNat = 12 → 0 ≤ x1 + 3 ∧ x1 + 3 < 3000)
    (k15 : h 104 x1.toNat = 12 → Wp true i_M_moves 0 [vr 103, vi (h 104 (x1 + 1).toNat), vi (h 104 (x1 + 2).toNat), vi (h 104 (x1 + 3).toNat)] [] h (fun r h' => Wp true i_M_does 122 [vr 103, vi x1, vi (h 104 (x1 + 1).toNat)] (r.toList ++ []) h' Q))
    (k16 : h 104 x1.toNat = 13 → h 104 1 ≤ 0 → Q (some (vi 0)) h)
    (k17 : h 104 x1.toNat = 13 → ¬ h 104 1 ≤ 0 → Wp true i_M_draws 0 [vr 103, vi (h 104 1)] [] h (fun r h' => Wp true i_M_does 144 [vr 103, vi x1, vi (h 104 (x1 + 1).toNat)] (r.toList ++ [vi (h 104 (x1 + 1).toNat), vr 103]) h' Q))
    (k18 : ¬ h 104 x1.toNat = 9 → ¬ h 104 x1.toNat = 10 → ¬ h 104 x1.toNat = 11 → ¬ h 104 x1.toNat = 12 → ¬ h 104 x1.toNat = 13 → Q (some (vi 1)) h) :
    Wp true i_M_does 0 [vr 103, vi x1, vr 9999] [] h Q := by
  refine r_aload_n (v := 103) f_365_0 rfl (by decide) ?_
  refine r_getr (q := 104) f_365_1 rfl (by decide) (Or.inl rfl) rfl ?_
  refine r_iload_n (v := x1) f_365_4 rfl ?_
  refine r_iconst f_365_5 (by decide) ?_
  refine r_iadd (u := x1 + 1) f_365_6 rfl o1 ?_
  refine r_iaload (n := 3000) (v := h 104 (x1 + 1).toNat) f_365_7 ⟨rfl, rfl⟩ o2 rfl ?_
  refine r_istore_n (ls' := [vr 103, vi x1, vi (h 104 (x1 + 1).toNat)]) f_365_8 (Nat.le_of_ble_eq_true rfl) rfl ?_
  refine r_aload_n (v := 103) f_365_9 rfl (by decide) ?_
  refine r_getr (q := 104) f_365_10 rfl (by decide) (Or.inl rfl) rfl ?_
  refine r_iload_n (v := x1) f_365_13 rfl ?_
  refine r_iaload (n := 3000) (v := h 104 x1.toNat) f_365_14 ⟨rfl, rfl⟩ o3 rfl ?_
  by_cases c1 : h 104 x1.toNat = 9
  · refine r_swi (t := 48) f_365_15 9 c1 (by decide) rfl rfl ?_
    refine r_aload_n (v := 103) f_365_48 rfl (by decide) ?_
    refine r_iload_n (v := h 104 (x1 + 1).toNat) f_365_49 rfl ?_
    refine r_aload_n (v := 103) f_365_50 rfl (by decide) ?_
    refine r_getr (q := 104) f_365_51 rfl (by decide) (Or.inl rfl) rfl ?_
    refine r_iload_n (v := x1) f_365_54 rfl ?_
    refine r_iconst f_365_55 (by decide) ?_
    refine r_iadd (u := x1 + 2) f_365_56 rfl (o4 c1) ?_
    refine r_iaload (n := 3000) (v := h 104 (x1 + 2).toNat) f_365_57 ⟨rfl, rfl⟩ (o5 c1) rfl ?_
    refine r_aload_n (v := 103) f_365_58 rfl (by decide) ?_
    refine r_getr (q := 104) f_365_59 rfl (by decide) (Or.inl rfl) rfl ?_
    refine r_iload_n (v := x1) f_365_62 rfl ?_
    refine r_iconst f_365_63 (by decide) ?_
    refine r_iadd (u := x1 + 3) f_365_64 rfl (o6 c1) ?_
    refine r_iaload (n := 3000) (v := h 104 (x1 + 3).toNat) f_365_65 ⟨rfl, rfl⟩ (o7 c1) rfl ?_
    exact r_callv (as := [vr 103, vi (h 104 (x1 + 1).toNat), vi (h 104 (x1 + 2).toNat), vi (h 104 (x1 + 3).toNat)]) (st' := []) (ls0 := [vr 103, vi (h 104 (x1 + 1).toNat), vi (h 104 (x1 + 2).toNat), vi (h 104 (x1 + 3).toNat), vr 9999]) f_365_66 (by decide) rfl rfl (Nat.le_of_ble_eq_true rfl) (Nat.le_of_ble_eq_true rfl) ⟨_, _, rfl, rfl⟩ rfl (k8 c1)
  by_cases c2 : h 104 x1.toNat = 10
  · refine r_swi (t := 70) f_365_15 10 c2 (by decide) rfl rfl ?_
    refine r_aload_n (v := 103) f_365_70 rfl (by decide) ?_
    exact r_callv (as := [vr 103]) (st' := []) (ls0 := [vr 103, vr 9999, vr 9999, vr 9999]) f_365_71 (by decide) rfl rfl (Nat.le_of_ble_eq_true rfl) (Nat.le_of_ble_eq_true rfl) ⟨_, _, rfl, rfl⟩ rfl (k9 c2)
  by_cases c3 : h 104 x1.toNat = 11
  · refine r_swi (t := 87) f_365_15 11 c3 (by decide) rfl rfl ?_
    refine r_aload_n (v := 103) f_365_87 rfl (by decide) ?_
    refine r_iload_n (v := h 104 (x1 + 1).toNat) f_365_88 rfl ?_
    exact r_callv (as := [vr 103, vi (h 104 (x1 + 1).toNat)]) (st' := []) (ls0 := [vr 103, vi (h 104 (x1 + 1).toNat), vr 9999, vr 9999, vr 9999]) f_365_89 (by decide) rfl rfl (Nat.le_of_ble_eq_true rfl) (Nat.le_of_ble_eq_true rfl) ⟨_, _, rfl, rfl⟩ rfl (k10 c3)
  by_cases c4 : h 104 x1.toNat = 12
  · refine r_swi (t := 101) f_365_15 12 c4 (by decide) rfl rfl ?_
    refine r_aload_n (v := 103) f_365_101 rfl (by decide) ?_
    refine r_iload_n (v := h 104 (x1 + 1).toNat) f_365_102 rfl ?_
    refine r_aload_n (v := 103) f_365_103 rfl (by decide) ?_
    refine r_getr (q := 104) f_365_104 rfl (by decide) (Or.inl rfl) rfl ?_
    refine r_iload_n (v := x1) f_365_107 rfl ?_
    refine r_iconst f_365_108 (by decide) ?_
    refine r_iadd (u := x1 + 2) f_365_109 rfl (o11 c4) ?_
    refine r_iaload (n := 3000) (v := h 104 (x1 + 2).toNat) f_365_110 ⟨rfl, rfl⟩ (o12 c4) rfl ?_
    refine r_aload_n (v := 103) f_365_111 rfl (by decide) ?_
    refine r_getr (q := 104) f_365_112 rfl (by decide) (Or.inl rfl) rfl ?_
    refine r_iload_n (v := x1) f_365_115 rfl ?_
    refine r_iconst f_365_116 (by decide) ?_
    refine r_iadd (u := x1 + 3) f_365_117 rfl (o13 c4) ?_
    refine r_iaload (n := 3000) (v := h 104 (x1 + 3).toNat) f_365_118 ⟨rfl, rfl⟩ (o14 c4) rfl ?_
    exact r_callv (as := [vr 103, vi (h 104 (x1 + 1).toNat), vi (h 104 (x1 + 2).toNat), vi (h 104 (x1 + 3).toNat)]) (st' := []) (ls0 := [vr 103, vi (h 104 (x1 + 1).toNat), vi (h 104 (x1 + 2).toNat), vi (h 104 (x1 + 3).toNat)]) f_365_119 (by decide) rfl rfl (Nat.le_of_ble_eq_true rfl) (Nat.le_of_ble_eq_true rfl) ⟨_, _, rfl, rfl⟩ rfl (k15 c4)
  by_cases c5 : h 104 x1.toNat = 13
  · refine r_swi (t := 123) f_365_15 13 c5 (by decide) rfl rfl ?_
    refine r_aload_n (v := 103) f_365_123 rfl (by decide) ?_
    refine r_getr (q := 104) f_365_124 rfl (by decide) (Or.inl rfl) rfl ?_
    refine r_iconst f_365_127 (by decide) ?_
    refine r_iaload (n := 3000) (v := h 104 1) f_365_128 ⟨rfl, rfl⟩ (by decide) rfl ?_
    refine r_br (t := 155) f_365_129 rfl cb_le (fun c6 => ?_) (fun c6 => ?_)
    · refine r_iconst f_365_155 (by decide) ?_
      exact r_retz f_365_156 rfl (by decide) (k16 c5 c6)
    · refine r_aload_n (v := 103) f_365_132 rfl (by decide) ?_
      refine r_iload_n (v := h 104 (x1 + 1).toNat) f_365_133 rfl ?_
      refine r_aload_n (v := 103) f_365_134 rfl (by decide) ?_
      refine r_aload_n (v := 103) f_365_135 rfl (by decide) ?_
      refine r_getr (q := 104) f_365_136 rfl (by decide) (Or.inl rfl) rfl ?_
      refine r_iconst f_365_139 (by decide) ?_
      refine r_iaload (n := 3000) (v := h 104 1) f_365_140 ⟨rfl, rfl⟩ (by decide) rfl ?_
      exact r_callv (as := [vr 103, vi (h 104 1)]) (st' := [vi (h 104 (x1 + 1).toNat), vr 103]) (ls0 := [vr 103, vi (h 104 1)]) f_365_141 (by decide) rfl rfl (Nat.le_of_ble_eq_true rfl) (Nat.le_of_ble_eq_true rfl) ⟨_, _, rfl, rfl⟩ rfl (k17 c5 c6)
  refine r_swo (t := 157) f_365_15 (by omega) rfl ?_
  refine r_iconst f_365_157 (by decide) ?_
  exact r_retz f_365_158 rfl (by decide) (k18 c1 c2 c3 c4 c5)

theorem g_M_does_69 {Q : PQ} {h : HP} {x1 : Int} {x2 : Int} {s0 : Int} 
    (o1 : s0 = 0 ∨ s0 = 1)
    (k2 : Q (some (vi s0)) h) :
    Wp true i_M_does 69 [vr 103, vi x1, vi x2] [vi s0] h Q := by
  exact r_retz f_365_69 rfl o1 k2

theorem g_M_does_74 {Q : PQ} {h : HP} {x1 : Int} {x2 : Int} {s0 : Int} 
    (o1 : -2147483648 ≤ (h 121 3) + 1 ∧ (h 121 3) + 1 ≤ 2147483647)
    (k2 : Q (some (vi 1)) (hs h 121 3 ((h 121 3) + 1))) :
    Wp true i_M_does 74 [vr 103, vi x1, vi x2] [vi s0] h Q := by
  refine r_popi f_365_74 ?_
  refine r_aload_n (v := 103) f_365_75 rfl (by decide) ?_
  refine r_getr (q := 121) f_365_76 rfl (by decide) (Or.inl rfl) rfl ?_
  refine r_iconst f_365_79 (by decide) ?_
  refine r_dup2ir f_365_80 ?_
  refine r_iaload (n := 5) (v := h 121 3) f_365_81 ⟨rfl, rfl⟩ (by decide) rfl ?_
  refine r_iconst f_365_82 (by decide) ?_
  refine r_iadd (u := (h 121 3) + 1) f_365_83 rfl o1 ?_
  refine r_iastore (n := 5) f_365_84 ⟨rfl, rfl⟩ (by decide) ?_
  refine r_iconst f_365_85 (by decide) ?_
  exact r_retz f_365_86 rfl (by decide) k2

theorem g_M_does_92 {Q : PQ} {h : HP} {x1 : Int} {x2 : Int} {s0 : Int} 
    (k1 : s0 ≤ 0 → Q (some (vi 0)) h)
    (k2 : ¬ s0 ≤ 0 → Q (some (vi 1)) h) :
    Wp true i_M_does 92 [vr 103, vi x1, vi x2] [vi s0] h Q := by
  refine r_br (t := 99) f_365_92 rfl cb_le (fun c1 => ?_) (fun c1 => ?_)
  · refine r_iconst f_365_99 (by decide) ?_
    exact r_retz f_365_100 rfl (by decide) (k1 c1)
  · refine r_iconst f_365_95 (by decide) ?_
    refine r_goto (t := 100) f_365_96 rfl ?_
    exact r_retz f_365_100 rfl (by decide) (k2 c1)

theorem g_M_does_122 {Q : PQ} {h : HP} {x1 : Int} {x2 : Int} {s0 : Int} 
    (o1 : s0 = 0 ∨ s0 = 1)
    (k2 : Q (some (vi s0)) h) :
    Wp true i_M_does 122 [vr 103, vi x1, vi x2] [vi s0] h Q := by
  exact r_retz f_365_122 rfl o1 k2

theorem g_M_does_144 {Q : PQ} {h : HP} {x1 : Int} {x2 : Int} {s1 : Int} {s2 : Int} 
    (k1 : Wp true i_M_yieldsBy 0 [vr 103, vi s1, vi s2, vi 1, vr 9999] [] h (fun r h' => Wp true i_M_does 148 [vr 103, vi x1, vi x2] (r.toList ++ []) h' Q)) :
    Wp true i_M_does 144 [vr 103, vi x1, vi x2] [vi s2, vi s1, vr 103] h Q := by
  refine r_iconst f_365_144 (by decide) ?_
  exact r_callv (as := [vr 103, vi s1, vi s2, vi 1]) (st' := []) (ls0 := [vr 103, vi s1, vi s2, vi 1, vr 9999]) f_365_145 (by decide) rfl rfl (Nat.le_of_ble_eq_true rfl) (Nat.le_of_ble_eq_true rfl) ⟨_, _, rfl, rfl⟩ rfl k1

theorem g_M_does_148 {Q : PQ} {h : HP} {x1 : Int} {x2 : Int} {s0 : Int} 
    (k1 : s0 = 0 → Q (some (vi 0)) h)
    (k2 : ¬ s0 = 0 → Q (some (vi 1)) h) :
    Wp true i_M_does 148 [vr 103, vi x1, vi x2] [vi s0] h Q := by
  refine r_br (t := 155) f_365_148 rfl cb_eq (fun c1 => ?_) (fun c1 => ?_)
  · refine r_iconst f_365_155 (by decide) ?_
    exact r_retz f_365_156 rfl (by decide) (k1 c1)
  · refine r_iconst f_365_151 (by decide) ?_
    refine r_goto (t := 156) f_365_152 rfl ?_
    exact r_retz f_365_156 rfl (by decide) (k2 c1)

theorem g_M_holds_0 {Q : PQ} {h : HP} {x1 : Int} 
    (o1 : 0 ≤ x1 ∧ x1 < 3000)
    (o2 : -2147483648 ≤ (h 104 x1.toNat) - 1500 ∧ (h 104 x1.toNat) - 1500 ≤ 2147483647)
    (o3 : -2147483648 ≤ x1 + 1 ∧ x1 + 1 ≤ 2147483647)
    (o4 : 0 ≤ x1 + 1 ∧ x1 + 1 < 3000)
    (o5 : ¬ (h 104 x1.toNat) - 1500 = 21 → ¬ (h 104 x1.toNat) - 1500 = 20 → WR (rmM h 0))
    (o6 : ¬ (h 104 x1.toNat) - 1500 = 21 → ¬ (h 104 x1.toNat) - 1500 = 20 → (h 104 (x1 + 1).toNat) = 0 ∨ (h 104 (x1 + 1).toNat) = 1)
    (k7 : ¬ (h 104 x1.toNat) - 1500 = 21 → ¬ (h 104 x1.toNat) - 1500 = 20 → Wp true i_M_holds 67 [vr 103, vi x1, vi ((h 104 x1.toNat) - 1500), vi (h 104 (x1 + 1).toNat), vr 9999] [vi (rBoards (rmM h 0) (h 104 (x1 + 1).toNat))] h Q)
    (o8 : ¬ (h 104 x1.toNat) - 1500 = 21 → (h 104 x1.toNat) - 1500 = 20 → WR (rmM h 0))
    (o9 : ¬ (h 104 x1.toNat) - 1500 = 21 → (h 104 x1.toNat) - 1500 = 20 → (h 104 (x1 + 1).toNat) = 0 ∨ (h 104 (x1 + 1).toNat) = 1)
    (k10 : ¬ (h 104 x1.toNat) - 1500 = 21 → (h 104 x1.toNat) - 1500 = 20 → Wp true i_M_holds 67 [vr 103, vi x1, vi ((h 104 x1.toNat) - 1500), vi (h 104 (x1 + 1).toNat), vr 9999] [vi (rVal (rmM h 0) (h 104 (x1 + 1).toNat) (h 104 (x1 + 1).toNat))] h Q)
    (o11 : (h 104 x1.toNat) - 1500 = 21 → -2147483648 ≤ x1 + 2 ∧ x1 + 2 ≤ 2147483647)
    (o12 : (h 104 x1.toNat) - 1500 = 21 → 0 ≤ x1 + 2 ∧ x1 + 2 < 3000)
    (o13 : (h 104 x1.toNat) - 1500 = 21 → WR (rmM h 0))
    (o14 : (h 104 x1.toNat) - 1500 = 21 → 0 ≤ (h 104 (x1 + 2).toNat) ∧ (h 104 (x1 + 2).toNat) < h 104 2)
    (k15 : (h 104 x1.toNat) - 1500 = 21 → ¬ rHo (rmM h 0) (h 104 (x1 + 2).toNat).toNat = h 104 (x1 + 1).toNat → Q (some (vi 0)) h)
    (k16 : (h 104 x1.toNat) - 1500 = 21 → rHo (rmM h 0) (h 104 (x1 + 2).toNat).toNat = h 104 (x1 + 1).toNat → Q (some (vi 1)) h) :
    Wp true i_M_holds 0 [vr 103, vi x1, vr 9999, vr 9999, vr 9999] [] h Q := by
  refine r_aload_n (v := 103) f_366_0 rfl (by decide) ?_
  refine r_getr (q := 104) f_366_1 rfl (by decide) (Or.inl rfl) rfl ?_
  refine r_iload_n (v := x1) f_366_4 rfl ?_
  refine r_iaload (n := 3000) (v := h 104 x1.toNat) f_366_5 ⟨rfl, rfl⟩ o1 rfl ?_
  refine r_sipush f_366_6 (by decide) ?_
  refine r_isub (u := (h 104 x1.toNat) - 1500) f_366_9 rfl o2 ?_
  refine r_istore_n (ls' := [vr 103, vi x1, vi ((h 104 x1.toNat) - 1500), vr 9999, vr 9999]) f_366_10 (Nat.le_of_ble_eq_true rfl) rfl ?_
  refine r_aload_n (v := 103) f_366_11 rfl (by decide) ?_
  refine r_getr (q := 104) f_366_12 rfl (by decide) (Or.inl rfl) rfl ?_
  refine r_iload_n (v := x1) f_366_15 rfl ?_
  refine r_iconst f_366_16 (by decide) ?_
  refine r_iadd (u := x1 + 1) f_366_17 rfl o3 ?_
  refine r_iaload (n := 3000) (v := h 104 (x1 + 1).toNat) f_366_18 ⟨rfl, rfl⟩ o4 rfl ?_
  refine r_istore_n (ls' := [vr 103, vi x1, vi ((h 104 x1.toNat) - 1500), vi (h 104 (x1 + 1).toNat), vr 9999]) f_366_19 (Nat.le_of_ble_eq_true rfl) rfl ?_
  refine r_iload_n (v := (h 104 x1.toNat) - 1500) f_366_20 rfl ?_
  refine r_bipush f_366_21 (by decide) ?_
  refine r_br2 (t := 48) f_366_23 rfl cb_ne (fun c1 => ?_) (fun c1 => ?_)
  · refine r_iload_n (v := (h 104 x1.toNat) - 1500) f_366_48 rfl ?_
    refine r_bipush f_366_49 (by decide) ?_
    refine r_br2 (t := 62) f_366_51 rfl cb_ne (fun c2 => ?_) (fun c2 => ?_)
    · refine r_aload_n (v := 103) f_366_62 rfl (by decide) ?_
      refine r_iload_n (v := h 104 (x1 + 1).toNat) f_366_63 rfl ?_
      refine r_callv (as := [vr 103, vi (h 104 (x1 + 1).toNat)]) (st' := []) (ls0 := [vr 103, vi (h 104 (x1 + 1).toNat), vr 9999, vr 9999, vr 9999]) f_366_64 (by decide) rfl rfl (Nat.le_of_ble_eq_true rfl) (Nat.le_of_ble_eq_true rfl) ⟨_, _, rfl, rfl⟩ rfl ?_
      refine c_M_boardsOf (o5 c1 c2) (o6 c1 c2) ?_
      show Wp true i_M_holds 67 [vr 103, vi x1, vi ((h 104 x1.toNat) - 1500), vi (h 104 (x1 + 1).toNat), vr 9999] [vi (rBoards (rmM h 0) (h 104 (x1 + 1).toNat))] h Q
      exact (k7 c1 c2)
    · have c2 := Decidable.not_not.mp c2
      refine r_aload_n (v := 103) f_366_54 rfl (by decide) ?_
      refine r_iload_n (v := h 104 (x1 + 1).toNat) f_366_55 rfl ?_
      refine r_callv (as := [vr 103, vi (h 104 (x1 + 1).toNat)]) (st' := []) (ls0 := [vr 103, vi (h 104 (x1 + 1).toNat), vr 9999, vr 9999]) f_366_56 (by decide) rfl rfl (Nat.le_of_ble_eq_true rfl) (Nat.le_of_ble_eq_true rfl) ⟨_, _, rfl, rfl⟩ rfl ?_
      refine c_M_valueOf (o8 c1 c2) (o9 c1 c2) ?_
      show Wp true i_M_holds 59 [vr 103, vi x1, vi ((h 104 x1.toNat) - 1500), vi (h 104 (x1 + 1).toNat), vr 9999] [vi (rVal (rmM h 0) (h 104 (x1 + 1).toNat) (h 104 (x1 + 1).toNat))] h Q
      refine r_goto (t := 67) f_366_59 rfl ?_
      exact (k10 c1 c2)
  · have c1 := Decidable.not_not.mp c1
    refine r_aload_n (v := 103) f_366_26 rfl (by decide) ?_
    refine r_aload_n (v := 103) f_366_27 rfl (by decide) ?_
    refine r_getr (q := 104) f_366_28 rfl (by decide) (Or.inl rfl) rfl ?_
    refine r_iload_n (v := x1) f_366_31 rfl ?_
    refine r_iconst f_366_32 (by decide) ?_
    refine r_iadd (u := x1 + 2) f_366_33 rfl (o11 c1) ?_
    refine r_iaload (n := 3000) (v := h 104 (x1 + 2).toNat) f_366_34 ⟨rfl, rfl⟩ (o12 c1) rfl ?_
    refine r_callv (as := [vr 103, vi (h 104 (x1 + 2).toNat)]) (st' := []) (ls0 := [vr 103, vi (h 104 (x1 + 2).toNat)]) f_366_35 (by decide) rfl rfl (Nat.le_of_ble_eq_true rfl) (Nat.le_of_ble_eq_true rfl) ⟨_, _, rfl, rfl⟩ rfl ?_
    refine c_M_holderOf (o13 c1) (o14 c1) ?_
    show Wp true i_M_holds 38 [vr 103, vi x1, vi ((h 104 x1.toNat) - 1500), vi (h 104 (x1 + 1).toNat), vr 9999] [vi (rHo (rmM h 0) (h 104 (x1 + 2).toNat).toNat)] h Q
    refine r_iload_n (v := h 104 (x1 + 1).toNat) f_366_38 rfl ?_
    refine r_br2 (t := 46) f_366_39 rfl cb_ne (fun c2 => ?_) (fun c2 => ?_)
    · refine r_iconst f_366_46 (by decide) ?_
      exact r_retz f_366_47 rfl (by decide) (k15 c1 c2)
    · have c2 := Decidable.not_not.mp c2
      refine r_iconst f_366_42 (by decide) ?_
      refine r_goto (t := 47) f_366_43 rfl ?_
      exact r_retz f_366_47 rfl (by decide) (k16 c1 c2)

theorem g_M_holds_67 {Q : PQ} {h : HP} {x1 : Int} {x2 : Int} {x3 : Int} {s0 : Int} 
    (o1 : -2147483648 ≤ x1 + 5 ∧ x1 + 5 ≤ 2147483647)
    (o2 : 0 ≤ x1 + 5 ∧ x1 + 5 < 3000)
    (o3 : ¬ h 104 (x1 + 5).toNat = 60 → ¬ h 104 (x1 + 5).toNat = 62 → -2147483648 ≤ x1 + 2 ∧ x1 + 2 ≤ 2147483647)
    (o4 : ¬ h 104 (x1 + 5).toNat = 60 → ¬ h 104 (x1 + 5).toNat = 62 → 0 ≤ x1 + 2 ∧ x1 + 2 < 3000)
    (k5 : ¬ h 104 (x1 + 5).toNat = 60 → ¬ h 104 (x1 + 5).toNat = 62 → ¬ s0 = h 104 (x1 + 2).toNat → Q (some (vi 0)) h)
    (k6 : ¬ h 104 (x1 + 5).toNat = 60 → ¬ h 104 (x1 + 5).toNat = 62 → s0 = h 104 (x1 + 2).toNat → Q (some (vi 1)) h)
    (o7 : ¬ h 104 (x1 + 5).toNat = 60 → h 104 (x1 + 5).toNat = 62 → -2147483648 ≤ x1 + 2 ∧ x1 + 2 ≤ 2147483647)
    (o8 : ¬ h 104 (x1 + 5).toNat = 60 → h 104 (x1 + 5).toNat = 62 → 0 ≤ x1 + 2 ∧ x1 + 2 < 3000)
    (k9 : ¬ h 104 (x1 + 5).toNat = 60 → h 104 (x1 + 5).toNat = 62 → s0 ≤ h 104 (x1 + 2).toNat → Q (some (vi 0)) h)
    (k10 : ¬ h 104 (x1 + 5).toNat = 60 → h 104 (x1 + 5).toNat = 62 → ¬ s0 ≤ h 104 (x1 + 2).toNat → Q (some (vi 1)) h)
    (o11 : h 104 (x1 + 5).toNat = 60 → -2147483648 ≤ x1 + 2 ∧ x1 + 2 ≤ 2147483647)
    (o12 : h 104 (x1 + 5).toNat = 60 → 0 ≤ x1 + 2 ∧ x1 + 2 < 3000)
    (k13 : h 104 (x1 + 5).toNat = 60 → h 104 (x1 + 2).toNat ≤ s0 → Q (some (vi 0)) h)
    (k14 : h 104 (x1 + 5).toNat = 60 → ¬ h 104 (x1 + 2).toNat ≤ s0 → Q (some (vi 1)) h) :
    Wp true i_M_holds 67 [vr 103, vi x1, vi x2, vi x3, vr 9999] [vi s0] h Q := by
  refine r_istore (ls' := [vr 103, vi x1, vi x2, vi x3, vi s0]) f_366_67 (Nat.le_of_ble_eq_true rfl) rfl ?_
  refine r_aload_n (v := 103) f_366_69 rfl (by decide) ?_
  refine r_getr (q := 104) f_366_70 rfl (by decide) (Or.inl rfl) rfl ?_
  refine r_iload_n (v := x1) f_366_73 rfl ?_
  refine r_iconst f_366_74 (by decide) ?_
  refine r_iadd (u := x1 + 5) f_366_75 rfl o1 ?_
  refine r_iaload (n := 3000) (v := h 104 (x1 + 5).toNat) f_366_76 ⟨rfl, rfl⟩ o2 rfl ?_
  refine r_bipush f_366_77 (by decide) ?_
  refine r_br2 (t := 103) f_366_79 rfl cb_ne (fun c1 => ?_) (fun c1 => ?_)
  · refine r_aload_n (v := 103) f_366_103 rfl (by decide) ?_
    refine r_getr (q := 104) f_366_104 rfl (by decide) (Or.inl rfl) rfl ?_
    refine r_iload_n (v := x1) f_366_107 rfl ?_
    refine r_iconst f_366_108 (by decide) ?_
    refine r_iadd (u := x1 + 5) f_366_109 rfl o1 ?_
    refine r_iaload (n := 3000) (v := h 104 (x1 + 5).toNat) f_366_110 ⟨rfl, rfl⟩ o2 rfl ?_
    refine r_bipush f_366_111 (by decide) ?_
    refine r_br2 (t := 137) f_366_113 rfl cb_ne (fun c2 => ?_) (fun c2 => ?_)
    · refine r_iload (v := s0) f_366_137 rfl ?_
      refine r_aload_n (v := 103) f_366_139 rfl (by decide) ?_
      refine r_getr (q := 104) f_366_140 rfl (by decide) (Or.inl rfl) rfl ?_
      refine r_iload_n (v := x1) f_366_143 rfl ?_
      refine r_iconst f_366_144 (by decide) ?_
      refine r_iadd (u := x1 + 2) f_366_145 rfl (o3 c1 c2) ?_
      refine r_iaload (n := 3000) (v := h 104 (x1 + 2).toNat) f_366_146 ⟨rfl, rfl⟩ (o4 c1 c2) rfl ?_
      refine r_br2 (t := 154) f_366_147 rfl cb_ne (fun c3 => ?_) (fun c3 => ?_)
      · refine r_iconst f_366_154 (by decide) ?_
        exact r_retz f_366_155 rfl (by decide) (k5 c1 c2 c3)
      · have c3 := Decidable.not_not.mp c3
        refine r_iconst f_366_150 (by decide) ?_
        refine r_goto (t := 155) f_366_151 rfl ?_
        exact r_retz f_366_155 rfl (by decide) (k6 c1 c2 c3)
    · have c2 := Decidable.not_not.mp c2
      refine r_iload (v := s0) f_366_116 rfl ?_
      refine r_aload_n (v := 103) f_366_118 rfl (by decide) ?_
      refine r_getr (q := 104) f_366_119 rfl (by decide) (Or.inl rfl) rfl ?_
      refine r_iload_n (v := x1) f_366_122 rfl ?_
      refine r_iconst f_366_123 (by decide) ?_
      refine r_iadd (u := x1 + 2) f_366_124 rfl (o7 c1 c2) ?_
      refine r_iaload (n := 3000) (v := h 104 (x1 + 2).toNat) f_366_125 ⟨rfl, rfl⟩ (o8 c1 c2) rfl ?_
      refine r_br2 (t := 133) f_366_126 rfl cb_le (fun c3 => ?_) (fun c3 => ?_)
      · refine r_iconst f_366_133 (by decide) ?_
        refine r_goto (t := 155) f_366_134 rfl ?_
        exact r_retz f_366_155 rfl (by decide) (k9 c1 c2 c3)
      · refine r_iconst f_366_129 (by decide) ?_
        refine r_goto (t := 155) f_366_130 rfl ?_
        exact r_retz f_366_155 rfl (by decide) (k10 c1 c2 c3)
  · have c1 := Decidable.not_not.mp c1
    refine r_iload (v := s0) f_366_82 rfl ?_
    refine r_aload_n (v := 103) f_366_84 rfl (by decide) ?_
    refine r_getr (q := 104) f_366_85 rfl (by decide) (Or.inl rfl) rfl ?_
    refine r_iload_n (v := x1) f_366_88 rfl ?_
    refine r_iconst f_366_89 (by decide) ?_
    refine r_iadd (u := x1 + 2) f_366_90 rfl (o11 c1) ?_
    refine r_iaload (n := 3000) (v := h 104 (x1 + 2).toNat) f_366_91 ⟨rfl, rfl⟩ (o12 c1) rfl ?_
    refine r_br2 (t := 99) f_366_92 rfl cb_ge (fun c2 => ?_) (fun c2 => ?_)
    · refine r_iconst f_366_99 (by decide) ?_
      refine r_goto (t := 155) f_366_100 rfl ?_
      exact r_retz f_366_155 rfl (by decide) (k13 c1 c2)
    · refine r_iconst f_366_95 (by decide) ?_
      refine r_goto (t := 155) f_366_96 rfl ?_
      exact r_retz f_366_155 rfl (by decide) (k14 c1 c2)

theorem g_M_behindEnds_0 {Q : PQ} {h : HP} {x1 : Int} 
    (k1 : Wp true i_M_behindEnds 2 [vr 103, vi x1, vi x1, vr 9999, vr 9999] [] h Q) :
    Wp true i_M_behindEnds 0 [vr 103, vi x1, vr 9999, vr 9999, vr 9999] [] h Q := by
  refine r_iload_n (v := x1) f_367_0 rfl ?_
  refine r_istore_n (ls' := [vr 103, vi x1, vi x1, vr 9999, vr 9999]) f_367_1 (Nat.le_of_ble_eq_true rfl) rfl ?_
  exact k1

theorem g_M_behindEnds_2 {Q : PQ} {h : HP} {x1 : Int} {x2 : Int} {j3 : AV} {j4 : AV} 
    (k1 : h 104 7 ≤ x2 → Q (some (vi x2)) h)
    (o2 : ¬ h 104 7 ≤ x2 → -2147483648 ≤ 7 * x2 ∧ 7 * x2 ≤ 2147483647)
    (o3 : ¬ h 104 7 ≤ x2 → -2147483648 ≤ 75 + (7 * x2) ∧ 75 + (7 * x2) ≤ 2147483647)
    (o4 : ¬ h 104 7 ≤ x2 → 0 ≤ 75 + (7 * x2) ∧ 75 + (7 * x2) < 3000)
    (k5 : ¬ h 104 7 ≤ x2 → ¬ h 104 (75 + (7 * x2)).toNat = 17 → Q (some (vi x2)) h)
    (o6 : ¬ h 104 7 ≤ x2 → h 104 (75 + (7 * x2)).toNat = 17 → -2147483648 ≤ (75 + (7 * x2)) + 4 ∧ (75 + (7 * x2)) + 4 ≤ 2147483647)
    (o7 : ¬ h 104 7 ≤ x2 → h 104 (75 + (7 * x2)).toNat = 17 → 0 ≤ (75 + (7 * x2)) + 4 ∧ (75 + (7 * x2)) + 4 < 3000)
    (o8 : ¬ h 104 7 ≤ x2 → h 104 (75 + (7 * x2)).toNat = 17 → -2147483648 ≤ 7 * (h 104 ((75 + (7 * x2)) + 4).toNat) ∧ 7 * (h 104 ((75 + (7 * x2)) + 4).toNat) ≤ 2147483647)
    (o9 : ¬ h 104 7 ≤ x2 → h 104 (75 + (7 * x2)).toNat = 17 → -2147483648 ≤ 75 + (7 * (h 104 ((75 + (7 * x2)) + 4).toNat)) ∧ 75 + (7 * (h 104 ((75 + (7 * x2)) + 4).toNat)) ≤ 2147483647)
    (o10 : ¬ h 104 7 ≤ x2 → h 104 (75 + (7 * x2)).toNat = 17 → 0 ≤ 75 + (7 * (h 104 ((75 + (7 * x2)) + 4).toNat)) ∧ 75 + (7 * (h 104 ((75 + (7 * x2)) + 4).toNat)) < 3000)
    (k11 : ¬ h 104 7 ≤ x2 → h 104 (75 + (7 * x2)).toNat = 17 → ¬ h 104 (75 + (7 * (h 104 ((75 + (7 * x2)) + 4).toNat))).toNat = 16 → Wp true i_M_behindEnds 76 [vr 103, vi x1, vi x2, vi (h 104 ((75 + (7 * x2)) + 4).toNat), j4] [vi 0] h Q)
    (o12 : ¬ h 104 7 ≤ x2 → h 104 (75 + (7 * x2)).toNat = 17 → h 104 (75 + (7 * (h 104 ((75 + (7 * x2)) + 4).toNat))).toNat = 16 → 0 ≤ h 104 ((75 + (7 * x2)) + 4).toNat ∧ h 104 ((75 + (7 * x2)) + 4).toNat < 80)
    (k13 : ¬ h 104 7 ≤ x2 → h 104 (75 + (7 * x2)).toNat = 17 → h 104 (75 + (7 * (h 104 ((75 + (7 * x2)) + 4).toNat))).toNat = 16 → h 120 (h 104 ((75 + (7 * x2)) + 4).toNat).toNat ≤ 0 → Wp true i_M_behindEnds 76 [vr 103, vi x1, vi x2, vi (h 104 ((75 + (7 * x2)) + 4).toNat), j4] [vi 0] h Q)
    (k14 : ¬ h 104 7 ≤ x2 → h 104 (75 + (7 * x2)).toNat = 17 → h 104 (75 + (7 * (h 104 ((75 + (7 * x2)) + 4).toNat))).toNat = 16 → ¬ h 120 (h 104 ((75 + (7 * x2)) + 4).toNat).toNat ≤ 0 → Wp true i_M_behindEnds 76 [vr 103, vi x1, vi x2, vi (h 104 ((75 + (7 * x2)) + 4).toNat), j4] [vi 1] h Q) :
    Wp true i_M_behindEnds 2 [vr 103, vi x1, vi x2, j3, j4] [] h Q := by
  refine r_iload_n (v := x2) f_367_2 rfl ?_
  refine r_aload_n (v := 103) f_367_3 rfl (by decide) ?_
  refine r_getr (q := 104) f_367_4 rfl (by decide) (Or.inl rfl) rfl ?_
  refine r_bipush f_367_7 (by decide) ?_
  refine r_iaload (n := 3000) (v := h 104 7) f_367_9 ⟨rfl, rfl⟩ (by decide) rfl ?_
  refine r_br2 (t := 115) f_367_10 rfl cb_ge (fun c1 => ?_) (fun c1 => ?_)
  · refine r_iload_n (v := x2) f_367_115 rfl ?_
    exact r_reti f_367_116 rfl (k1 c1)
  · refine r_aload_n (v := 103) f_367_13 rfl (by decide) ?_
    refine r_getr (q := 104) f_367_14 rfl (by decide) (Or.inl rfl) rfl ?_
    refine r_bipush f_367_17 (by decide) ?_
    refine r_bipush f_367_19 (by decide) ?_
    refine r_iload_n (v := x2) f_367_21 rfl ?_
    refine r_imul (u := 7 * x2) f_367_22 rfl (o2 c1) ?_
    refine r_iadd (u := 75 + (7 * x2)) f_367_23 rfl (o3 c1) ?_
    refine r_iaload (n := 3000) (v := h 104 (75 + (7 * x2)).toNat) f_367_24 ⟨rfl, rfl⟩ (o4 c1) rfl ?_
    refine r_bipush f_367_25 (by decide) ?_
    refine r_br2 (t := 115) f_367_27 rfl cb_ne (fun c2 => ?_) (fun c2 => ?_)
    · refine r_iload_n (v := x2) f_367_115 rfl ?_
      exact r_reti f_367_116 rfl (k5 c1 c2)
    · have c2 := Decidable.not_not.mp c2
      refine r_aload_n (v := 103) f_367_30 rfl (by decide) ?_
      refine r_getr (q := 104) f_367_31 rfl (by decide) (Or.inl rfl) rfl ?_
      refine r_bipush f_367_34 (by decide) ?_
      refine r_bipush f_367_36 (by decide) ?_
      refine r_iload_n (v := x2) f_367_38 rfl ?_
      refine r_imul (u := 7 * x2) f_367_39 rfl (o2 c1) ?_
      refine r_iadd (u := 75 + (7 * x2)) f_367_40 rfl (o3 c1) ?_
      refine r_iconst f_367_41 (by decide) ?_
      refine r_iadd (u := (75 + (7 * x2)) + 4) f_367_42 rfl (o6 c1 c2) ?_
      refine r_iaload (n := 3000) (v := h 104 ((75 + (7 * x2)) + 4).toNat) f_367_43 ⟨rfl, rfl⟩ (o7 c1 c2) rfl ?_
      refine r_istore_n (ls' := [vr 103, vi x1, vi x2, vi (h 104 ((75 + (7 * x2)) + 4).toNat), j4]) f_367_44 (Nat.le_of_ble_eq_true rfl) rfl ?_
      refine r_aload_n (v := 103) f_367_45 rfl (by decide) ?_
      refine r_getr (q := 104) f_367_46 rfl (by decide) (Or.inl rfl) rfl ?_
      refine r_bipush f_367_49 (by decide) ?_
      refine r_bipush f_367_51 (by decide) ?_
      refine r_iload_n (v := h 104 ((75 + (7 * x2)) + 4).toNat) f_367_53 rfl ?_
      refine r_imul (u := 7 * (h 104 ((75 + (7 * x2)) + 4).toNat)) f_367_54 rfl (o8 c1 c2) ?_
      refine r_iadd (u := 75 + (7 * (h 104 ((75 + (7 * x2)) + 4).toNat))) f_367_55 rfl (o9 c1 c2) ?_
      refine r_iaload (n := 3000) (v := h 104 (75 + (7 * (h 104 ((75 + (7 * x2)) + 4).toNat))).toNat) f_367_56 ⟨rfl, rfl⟩ (o10 c1 c2) rfl ?_
      refine r_bipush f_367_57 (by decide) ?_
      refine r_br2 (t := 75) f_367_59 rfl cb_ne (fun c3 => ?_) (fun c3 => ?_)
      · refine r_iconst f_367_75 (by decide) ?_
        exact (k11 c1 c2 c3)
      · have c3 := Decidable.not_not.mp c3
        refine r_aload_n (v := 103) f_367_62 rfl (by decide) ?_
        refine r_getr (q := 120) f_367_63 rfl (by decide) (Or.inl rfl) rfl ?_
        refine r_iload_n (v := h 104 ((75 + (7 * x2)) + 4).toNat) f_367_66 rfl ?_
        refine r_iaload (n := 80) (v := h 120 (h 104 ((75 + (7 * x2)) + 4).toNat).toNat) f_367_67 ⟨rfl, rfl⟩ (o12 c1 c2 c3) rfl ?_
        refine r_br (t := 75) f_367_68 rfl cb_le (fun c4 => ?_) (fun c4 => ?_)
        · refine r_iconst f_367_75 (by decide) ?_
          exact (k13 c1 c2 c3 c4)
        · refine r_iconst f_367_71 (by decide) ?_
          refine r_goto (t := 76) f_367_72 rfl ?_
          exact (k14 c1 c2 c3 c4)

theorem g_M_behindEnds_76 {Q : PQ} {h : HP} {x1 : Int} {x2 : Int} {x3 : Int} {j4 : AV} {s0 : Int} 
    (o1 : 0 ≤ x3 ∧ x3 < 80)
    (k2 : s0 = 0 → Wp true i_M_behindEnds 95 [vr 103, vi x1, vi x2, vi x3, vi s0] [vi 0, vi (h 120 x3.toNat), vi x3, vr 120] h Q)
    (k3 : ¬ s0 = 0 → Wp true i_M_behindEnds 95 [vr 103, vi x1, vi x2, vi x3, vi s0] [vi 1, vi (h 120 x3.toNat), vi x3, vr 120] h Q) :
    Wp true i_M_behindEnds 76 [vr 103, vi x1, vi x2, vi x3, j4] [vi s0] h Q := by
  refine r_istore (ls' := [vr 103, vi x1, vi x2, vi x3, vi s0]) f_367_76 (Nat.le_of_ble_eq_true rfl) rfl ?_
  refine r_aload_n (v := 103) f_367_78 rfl (by decide) ?_
  refine r_getr (q := 120) f_367_79 rfl (by decide) (Or.inl rfl) rfl ?_
  refine r_iload_n (v := x3) f_367_82 rfl ?_
  refine r_dup2ir f_367_83 ?_
  refine r_iaload (n := 80) (v := h 120 x3.toNat) f_367_84 ⟨rfl, rfl⟩ o1 rfl ?_
  refine r_iload (v := s0) f_367_85 rfl ?_
  refine r_br (t := 94) f_367_87 rfl cb_eq (fun c1 => ?_) (fun c1 => ?_)
  · refine r_iconst f_367_94 (by decide) ?_
    exact (k2 c1)
  · refine r_iconst f_367_90 (by decide) ?_
    refine r_goto (t := 95) f_367_91 rfl ?_
    exact (k3 c1)

theorem g_M_behindEnds_95 {Q : PQ} {h : HP} {x1 : Int} {x2 : Int} {x3 : Int} {x4 : Int} {s1 : Int} {s2 : Int} {s3 : Int} 
    (o1 : -2147483648 ≤ s2 - s3 ∧ s2 - s3 ≤ 2147483647)
    (o2 : 0 ≤ s1 ∧ s1 < 80)
    (o3 : x4 = 0 → -2147483648 ≤ x2 + 1 ∧ x2 + 1 ≤ 2147483647)
    (k4 : x4 = 0 → Wp true i_M_behindEnds 2 [vr 103, vi x1, vi (x2 + 1), vi x3, vi x4] [] (hs h 120 s1.toNat (s2 - s3)) Q)
    (o5 : ¬ x4 = 0 → -2147483648 ≤ x3 + 1 ∧ x3 + 1 ≤ 2147483647)
    (k6 : ¬ x4 = 0 → Wp true i_M_behindEnds 2 [vr 103, vi x1, vi (x3 + 1), vi x3, vi x4] [] (hs h 120 s1.toNat (s2 - s3)) Q) :
    Wp true i_M_behindEnds 95 [vr 103, vi x1, vi x2, vi x3, vi x4] [vi s3, vi s2, vi s1, vr 120] h Q := by
  refine r_isub (u := s2 - s3) f_367_95 rfl o1 ?_
  refine r_iastore (n := 80) f_367_96 ⟨rfl, rfl⟩ o2 ?_
  refine r_iload (v := x4) f_367_97 rfl ?_
  refine r_br (t := 108) f_367_99 rfl cb_eq (fun c1 => ?_) (fun c1 => ?_)
  · refine r_iload_n (v := x2) f_367_108 rfl ?_
    refine r_iconst f_367_109 (by decide) ?_
    refine r_iadd (u := x2 + 1) f_367_110 rfl (o3 c1) ?_
    refine r_istore_n (ls' := [vr 103, vi x1, vi (x2 + 1), vi x3, vi x4]) f_367_111 (Nat.le_of_ble_eq_true rfl) rfl ?_
    refine r_goto (t := 2) f_367_112 rfl ?_
    exact (k4 c1)
  · refine r_iload_n (v := x3) f_367_102 rfl ?_
    refine r_iconst f_367_103 (by decide) ?_
    refine r_iadd (u := x3 + 1) f_367_104 rfl (o5 c1) ?_
    refine r_goto (t := 111) f_367_105 rfl ?_
    refine r_istore_n (ls' := [vr 103, vi x1, vi (x3 + 1), vi x3, vi x4]) f_367_111 (Nat.le_of_ble_eq_true rfl) rfl ?_
    refine r_goto (t := 2) f_367_112 rfl ?_
    exact (k6 c1)

theorem g_M_lives_0 {Q : PQ} {h : HP} {x1 : Int} 
    (k1 : Wp true i_M_lives 12 [vr 103, vi x1, vi 0, vr 9999] [] (hs (hs h 103 33 x1) 103 34 0) Q) :
    Wp true i_M_lives 0 [vr 103, vi x1, vr 9999, vr 9999] [] h Q := by
  refine r_aload_n (v := 103) f_368_0 rfl (by decide) ?_
  refine r_iload_n (v := x1) f_368_1 rfl ?_
  refine r_puti f_368_2 rfl (by decide) ?_
  refine r_aload_n (v := 103) f_368_5 rfl (by decide) ?_
  refine r_iconst f_368_6 (by decide) ?_
  refine r_puti f_368_7 rfl (by decide) ?_
  refine r_iconst f_368_10 (by decide) ?_
  refine r_istore_n (ls' := [vr 103, vi x1, vi 0, vr 9999]) f_368_11 (Nat.le_of_ble_eq_true rfl) rfl ?_
  exact k1

theorem g_M_lives_12 {Q : PQ} {h : HP} {x1 : Int} {x2 : Int} 
    (k1 : 5 ≤ x2 → Wp true i_M_lives 32 [vr 103, vi x1, vi 0, vr 9999] [] h Q)
    (o2 : ¬ 5 ≤ x2 → 0 ≤ x2 ∧ x2 < 5)
    (o3 : ¬ 5 ≤ x2 → -2147483648 ≤ x2 + 1 ∧ x2 + 1 ≤ 2147483647)
    (k4 : ¬ 5 ≤ x2 → Wp true i_M_lives 12 [vr 103, vi x1, vi (x2 + 1), vr 9999] [] (hs h 121 x2.toNat 0) Q) :
    Wp true i_M_lives 12 [vr 103, vi x1, vi x2, vr 9999] [] h Q := by
  refine r_iload_n (v := x2) f_368_12 rfl ?_
  refine r_iconst f_368_13 (by decide) ?_
  refine r_br2 (t := 30) f_368_14 rfl cb_ge (fun c1 => ?_) (fun c1 => ?_)
  · refine r_iconst f_368_30 (by decide) ?_
    refine r_istore_n (ls' := [vr 103, vi x1, vi 0, vr 9999]) f_368_31 (Nat.le_of_ble_eq_true rfl) rfl ?_
    exact (k1 c1)
  · refine r_aload_n (v := 103) f_368_17 rfl (by decide) ?_
    refine r_getr (q := 121) f_368_18 rfl (by decide) (Or.inl rfl) rfl ?_
    refine r_iload_n (v := x2) f_368_21 rfl ?_
    refine r_iconst f_368_22 (by decide) ?_
    refine r_iastore (n := 5) f_368_23 ⟨rfl, rfl⟩ (o2 c1) ?_
    refine r_iinc (v := x2) (w := x2 + 1) (ls' := [vr 103, vi x1, vi (x2 + 1), vr 9999]) f_368_24 rfl rfl (o3 c1) rfl ?_
    refine r_goto (t := 12) f_368_27 rfl ?_
    exact (k4 c1)

theorem g_M_lives_32 {Q : PQ} {h : HP} {x1 : Int} {x2 : Int} {j3 : AV} 
    (k1 : h 104 7 ≤ x2 → Q none h)
    (o2 : ¬ h 104 7 ≤ x2 → ¬ h 103 34 = 300 → -2147483648 ≤ 7 * x2 ∧ 7 * x2 ≤ 2147483647)
    (o3 : ¬ h 104 7 ≤ x2 → ¬ h 103 34 = 300 → -2147483648 ≤ 75 + (7 * x2) ∧ 75 + (7 * x2) ≤ 2147483647)
    (o4 : ¬ h 104 7 ≤ x2 → ¬ h 103 34 = 300 → -2147483648 ≤ (h 103 34) + 1 ∧ (h 103 34) + 1 ≤ 2147483647)
    (o5 : ¬ h 104 7 ≤ x2 → ¬ h 103 34 = 300 → 0 ≤ 75 + (7 * x2) ∧ 75 + (7 * x2) < 3000)
    (k6 : ¬ h 104 7 ≤ x2 → ¬ h 103 34 = 300 → ¬ h 104 (75 + (7 * x2)).toNat = 18 → Wp true i_M_does 0 [vr 103, vi (75 + (7 * x2)), vr 9999] [] (hs h 103 34 ((h 103 34) + 1)) (fun r h' => Wp true i_M_lives 103 [vr 103, vi x1, vi x2, vi (75 + (7 * x2))] (r.toList ++ [vi (h 121 0), vi 0, vr 121]) h' Q))
    (k7 : ¬ h 104 7 ≤ x2 → ¬ h 103 34 = 300 → h 104 (75 + (7 * x2)).toNat = 18 → Q none (hs h 103 34 ((h 103 34) + 1)))
    (k8 : ¬ h 104 7 ≤ x2 → h 103 34 = 300 → Q none (hs h 121 4 1)) :
    Wp true i_M_lives 32 [vr 103, vi x1, vi x2, j3] [] h Q := by
  refine r_iload_n (v := x2) f_368_32 rfl ?_
  refine r_aload_n (v := 103) f_368_33 rfl (by decide) ?_
  refine r_getr (q := 104) f_368_34 rfl (by decide) (Or.inl rfl) rfl ?_
  refine r_bipush f_368_37 (by decide) ?_
  refine r_iaload (n := 3000) (v := h 104 7) f_368_39 ⟨rfl, rfl⟩ (by decide) rfl ?_
  refine r_br2 (t := 184) f_368_40 rfl cb_ge (fun c1 => ?_) (fun c1 => ?_)
  · exact r_retv f_368_184 rfl (k1 c1)
  · refine r_aload_n (v := 103) f_368_43 rfl (by decide) ?_
    refine r_geti (v := h 103 34) f_368_44 rfl (by decide) rfl ?_
    refine r_sipush f_368_47 (by decide) ?_
    refine r_br2 (t := 61) f_368_50 rfl cb_ne (fun c2 => ?_) (fun c2 => ?_)
    · refine r_bipush f_368_61 (by decide) ?_
      refine r_bipush f_368_63 (by decide) ?_
      refine r_iload_n (v := x2) f_368_65 rfl ?_
      refine r_imul (u := 7 * x2) f_368_66 rfl (o2 c1 c2) ?_
      refine r_iadd (u := 75 + (7 * x2)) f_368_67 rfl (o3 c1 c2) ?_
      refine r_istore_n (ls' := [vr 103, vi x1, vi x2, vi (75 + (7 * x2))]) f_368_68 (Nat.le_of_ble_eq_true rfl) rfl ?_
      refine r_aload_n (v := 103) f_368_69 rfl (by decide) ?_
      refine r_dupr f_368_70 ?_
      refine r_geti (v := h 103 34) f_368_71 rfl (by decide) rfl ?_
      refine r_iconst f_368_74 (by decide) ?_
      refine r_iadd (u := (h 103 34) + 1) f_368_75 rfl (o4 c1 c2) ?_
      refine r_puti f_368_76 rfl (by decide) ?_
      refine r_aload_n (v := 103) f_368_79 rfl (by decide) ?_
      refine r_getr (q := 104) f_368_80 rfl (by decide) (Or.inl rfl) rfl ?_
      refine r_iload_n (v := 75 + (7 * x2)) f_368_83 rfl ?_
      refine r_iaload (n := 3000) (v := h 104 (75 + (7 * x2)).toNat) f_368_84 ⟨rfl, rfl⟩ (o5 c1 c2) (by simp [hs]) ?_
      refine r_bipush f_368_85 (by decide) ?_
      refine r_br2 (t := 91) f_368_87 rfl cb_ne (fun c3 => ?_) (fun c3 => ?_)
      · refine r_aload_n (v := 103) f_368_91 rfl (by decide) ?_
        refine r_getr (q := 121) f_368_92 rfl (by decide) (Or.inl rfl) rfl ?_
        refine r_iconst f_368_95 (by decide) ?_
        refine r_dup2ir f_368_96 ?_
        refine r_iaload (n := 5) (v := h 121 0) f_368_97 ⟨rfl, rfl⟩ (by decide) (by simp [hs]) ?_
        refine r_aload_n (v := 103) f_368_98 rfl (by decide) ?_
        refine r_iload_n (v := 75 + (7 * x2)) f_368_99 rfl ?_
        exact r_callv (as := [vr 103, vi (75 + (7 * x2))]) (st' := [vi (h 121 0), vi 0, vr 121]) (ls0 := [vr 103, vi (75 + (7 * x2)), vr 9999]) f_368_100 (by decide) rfl rfl (Nat.le_of_ble_eq_true rfl) (Nat.le_of_ble_eq_true rfl) ⟨_, _, rfl, rfl⟩ rfl (k6 c1 c2 c3)
      · have c3 := Decidable.not_not.mp c3
        exact r_retv f_368_90 rfl (k7 c1 c2 c3)
    · have c2 := Decidable.not_not.mp c2
      refine r_aload_n (v := 103) f_368_53 rfl (by decide) ?_
      refine r_getr (q := 121) f_368_54 rfl (by decide) (Or.inl rfl) rfl ?_
      refine r_iconst f_368_57 (by decide) ?_
      refine r_iconst f_368_58 (by decide) ?_
      refine r_iastore (n := 5) f_368_59 ⟨rfl, rfl⟩ (by decide) ?_
      exact r_retv f_368_60 rfl (k8 c1 c2)

theorem g_M_lives_103 {Q : PQ} {h : HP} {x1 : Int} {x2 : Int} {x3 : Int} {s1 : Int} {s2 : Int} {s3 : Int} 
    (k1 : s3 = 0 → Wp true i_M_lives 111 [vr 103, vi x1, vi x2, vi x3] [vi 1, vi s2, vi s1, vr 121] h Q)
    (k2 : ¬ s3 = 0 → Wp true i_M_lives 111 [vr 103, vi x1, vi x2, vi x3] [vi 0, vi s2, vi s1, vr 121] h Q) :
    Wp true i_M_lives 103 [vr 103, vi x1, vi x2, vi x3] [vi s3, vi s2, vi s1, vr 121] h Q := by
  refine r_br (t := 110) f_368_103 rfl cb_eq (fun c1 => ?_) (fun c1 => ?_)
  · refine r_iconst f_368_110 (by decide) ?_
    exact (k1 c1)
  · refine r_iconst f_368_106 (by decide) ?_
    refine r_goto (t := 111) f_368_107 rfl ?_
    exact (k2 c1)

theorem g_M_lives_111 {Q : PQ} {h : HP} {x1 : Int} {x2 : Int} {x3 : Int} {s1 : Int} {s2 : Int} {s3 : Int} 
    (o1 : -2147483648 ≤ s2 + s3 ∧ s2 + s3 ≤ 2147483647)
    (o2 : 0 ≤ s1 ∧ s1 < 5)
    (o3 : 0 ≤ x3 ∧ x3 < 3000)
    (k4 : ¬ h 104 x3.toNat = 16 → Wp true i_M_lives 140 [vr 103, vi x1, vi x2, vi x3] [] (hs h 121 s1.toNat (s2 + s3)) Q)
    (o5 : h 104 x3.toNat = 16 → -2147483648 ≤ x3 + 1 ∧ x3 + 1 ≤ 2147483647)
    (o6 : h 104 x3.toNat = 16 → 0 ≤ x3 + 1 ∧ x3 + 1 < 3000)
    (o7 : h 104 x3.toNat = 16 → -2147483648 ≤ (h 104 (x3 + 1).toNat) - 1 ∧ (h 104 (x3 + 1).toNat) - 1 ≤ 2147483647)
    (o8 : h 104 x3.toNat = 16 → 0 ≤ x2 ∧ x2 < 80)
    (k9 : h 104 x3.toNat = 16 → Wp true i_M_lives 140 [vr 103, vi x1, vi x2, vi x3] [] (hs (hs h 121 s1.toNat (s2 + s3)) 120 x2.toNat ((h 104 (x3 + 1).toNat) - 1)) Q) :
    Wp true i_M_lives 111 [vr 103, vi x1, vi x2, vi x3] [vi s3, vi s2, vi s1, vr 121] h Q := by
  refine r_iadd (u := s2 + s3) f_368_111 rfl o1 ?_
  refine r_iastore (n := 5) f_368_112 ⟨rfl, rfl⟩ o2 ?_
  refine r_aload_n (v := 103) f_368_113 rfl (by decide) ?_
  refine r_getr (q := 104) f_368_114 rfl (by decide) (Or.inl rfl) rfl ?_
  refine r_iload_n (v := x3) f_368_117 rfl ?_
  refine r_iaload (n := 3000) (v := h 104 x3.toNat) f_368_118 ⟨rfl, rfl⟩ o3 (by simp [hs]) ?_
  refine r_bipush f_368_119 (by decide) ?_
  refine r_br2 (t := 140) f_368_121 rfl cb_ne (fun c1 => ?_) (fun c1 => ?_)
  · exact (k4 c1)
  · have c1 := Decidable.not_not.mp c1
    refine r_aload_n (v := 103) f_368_124 rfl (by decide) ?_
    refine r_getr (q := 120) f_368_125 rfl (by decide) (Or.inl rfl) rfl ?_
    refine r_iload_n (v := x2) f_368_128 rfl ?_
    refine r_aload_n (v := 103) f_368_129 rfl (by decide) ?_
    refine r_getr (q := 104) f_368_130 rfl (by decide) (Or.inl rfl) rfl ?_
    refine r_iload_n (v := x3) f_368_133 rfl ?_
    refine r_iconst f_368_134 (by decide) ?_
    refine r_iadd (u := x3 + 1) f_368_135 rfl (o5 c1) ?_
    refine r_iaload (n := 3000) (v := h 104 (x3 + 1).toNat) f_368_136 ⟨rfl, rfl⟩ (o6 c1) (by simp [hs]) ?_
    refine r_iconst f_368_137 (by decide) ?_
    refine r_isub (u := (h 104 (x3 + 1).toNat) - 1) f_368_138 rfl (o7 c1) ?_
    refine r_iastore (n := 80) f_368_139 ⟨rfl, rfl⟩ (o8 c1) ?_
    exact (k9 c1)

theorem g_M_lives_140 {Q : PQ} {h : HP} {x1 : Int} {x2 : Int} {x3 : Int} 
    (o1 : 0 ≤ x3 ∧ x3 < 3000)
    (o2 : h 104 x3.toNat < 1500 → -2147483648 ≤ x2 + 1 ∧ x2 + 1 ≤ 2147483647)
    (k3 : h 104 x3.toNat < 1500 → Wp true i_M_behindEnds 0 [vr 103, vi (x2 + 1), vr 9999, vr 9999, vr 9999] [] h (fun r h' => Wp true i_M_lives 180 [vr 103, vi x1, vi x2, vi x3] (r.toList ++ []) h' Q))
    (k4 : ¬ h 104 x3.toNat < 1500 → Wp true i_M_holds 0 [vr 103, vi x3, vr 9999, vr 9999, vr 9999] [] h (fun r h' => Wp true i_M_lives 158 [vr 103, vi x1, vi x2, vi x3] (r.toList ++ [vr 103]) h' Q)) :
    Wp true i_M_lives 140 [vr 103, vi x1, vi x2, vi x3] [] h Q := by
  refine r_aload_n (v := 103) f_368_140 rfl (by decide) ?_
  refine r_aload_n (v := 103) f_368_141 rfl (by decide) ?_
  refine r_getr (q := 104) f_368_142 rfl (by decide) (Or.inl rfl) rfl ?_
  refine r_iload_n (v := x3) f_368_145 rfl ?_
  refine r_iaload (n := 3000) (v := h 104 x3.toNat) f_368_146 ⟨rfl, rfl⟩ o1 rfl ?_
  refine r_sipush f_368_147 (by decide) ?_
  refine r_br2 (t := 174) f_368_150 rfl cb_lt (fun c1 => ?_) (fun c1 => ?_)
  · refine r_iload_n (v := x2) f_368_174 rfl ?_
    refine r_iconst f_368_175 (by decide) ?_
    refine r_iadd (u := x2 + 1) f_368_176 rfl (o2 c1) ?_
    exact r_callv (as := [vr 103, vi (x2 + 1)]) (st' := []) (ls0 := [vr 103, vi (x2 + 1), vr 9999, vr 9999, vr 9999]) f_368_177 (by decide) rfl rfl (Nat.le_of_ble_eq_true rfl) (Nat.le_of_ble_eq_true rfl) ⟨_, _, rfl, rfl⟩ rfl (k3 c1)
  · refine r_aload_n (v := 103) f_368_153 rfl (by decide) ?_
    refine r_iload_n (v := x3) f_368_154 rfl ?_
    exact r_callv (as := [vr 103, vi x3]) (st' := [vr 103]) (ls0 := [vr 103, vi x3, vr 9999, vr 9999, vr 9999]) f_368_155 (by decide) rfl rfl (Nat.le_of_ble_eq_true rfl) (Nat.le_of_ble_eq_true rfl) ⟨_, _, rfl, rfl⟩ rfl (k4 c1)

theorem g_M_lives_158 {Q : PQ} {h : HP} {x1 : Int} {x2 : Int} {x3 : Int} {s1 : Int} 
    (o1 : ¬ s1 = 0 → -2147483648 ≤ x2 + 1 ∧ x2 + 1 ≤ 2147483647)
    (k2 : ¬ s1 = 0 → Wp true i_M_behindEnds 0 [vr 103, vi (x2 + 1), vr 9999, vr 9999, vr 9999] [] h (fun r h' => Wp true i_M_lives 180 [vr 103, vi x1, vi x2, vi x3] (r.toList ++ []) h' Q))
    (o3 : s1 = 0 → -2147483648 ≤ x3 + 4 ∧ x3 + 4 ≤ 2147483647)
    (o4 : s1 = 0 → 0 ≤ x3 + 4 ∧ x3 + 4 < 3000)
    (o5 : s1 = 0 → -2147483648 ≤ (h 104 (x3 + 4).toNat) + 1 ∧ (h 104 (x3 + 4).toNat) + 1 ≤ 2147483647)
    (k6 : s1 = 0 → Wp true i_M_behindEnds 0 [vr 103, vi ((h 104 (x3 + 4).toNat) + 1), vr 9999, vr 9999, vr 9999] [] h (fun r h' => Wp true i_M_lives 180 [vr 103, vi x1, vi x2, vi x3] (r.toList ++ []) h' Q)) :
    Wp true i_M_lives 158 [vr 103, vi x1, vi x2, vi x3] [vi s1, vr 103] h Q := by
  refine r_br (t := 174) f_368_158 rfl cb_ne (fun c1 => ?_) (fun c1 => ?_)
  · refine r_iload_n (v := x2) f_368_174 rfl ?_
    refine r_iconst f_368_175 (by decide) ?_
    refine r_iadd (u := x2 + 1) f_368_176 rfl (o1 c1) ?_
    exact r_callv (as := [vr 103, vi (x2 + 1)]) (st' := []) (ls0 := [vr 103, vi (x2 + 1), vr 9999, vr 9999, vr 9999]) f_368_177 (by decide) rfl rfl (Nat.le_of_ble_eq_true rfl) (Nat.le_of_ble_eq_true rfl) ⟨_, _, rfl, rfl⟩ rfl (k2 c1)
  · have c1 := Decidable.not_not.mp c1
    refine r_aload_n (v := 103) f_368_161 rfl (by decide) ?_
    refine r_getr (q := 104) f_368_162 rfl (by decide) (Or.inl rfl) rfl ?_
    refine r_iload_n (v := x3) f_368_165 rfl ?_
    refine r_iconst f_368_166 (by decide) ?_
    refine r_iadd (u := x3 + 4) f_368_167 rfl (o3 c1) ?_
    refine r_iaload (n := 3000) (v := h 104 (x3 + 4).toNat) f_368_168 ⟨rfl, rfl⟩ (o4 c1) rfl ?_
    refine r_iconst f_368_169 (by decide) ?_
    refine r_iadd (u := (h 104 (x3 + 4).toNat) + 1) f_368_170 rfl (o5 c1) ?_
    refine r_goto (t := 177) f_368_171 rfl ?_
    exact r_callv (as := [vr 103, vi ((h 104 (x3 + 4).toNat) + 1)]) (st' := []) (ls0 := [vr 103, vi ((h 104 (x3 + 4).toNat) + 1), vr 9999, vr 9999, vr 9999]) f_368_177 (by decide) rfl rfl (Nat.le_of_ble_eq_true rfl) (Nat.le_of_ble_eq_true rfl) ⟨_, _, rfl, rfl⟩ rfl (k6 c1)

theorem g_M_lives_180 {Q : PQ} {h : HP} {x1 : Int} {x2 : Int} {x3 : Int} {s0 : Int} 
    (k1 : Wp true i_M_lives 32 [vr 103, vi x1, vi s0, vi x3] [] h Q) :
    Wp true i_M_lives 180 [vr 103, vi x1, vi x2, vi x3] [vi s0] h Q := by
  refine r_istore_n (ls' := [vr 103, vi x1, vi s0, vi x3]) f_368_180 (Nat.le_of_ble_eq_true rfl) rfl ?_
  refine r_goto (t := 32) f_368_181 rfl ?_
  exact k1

theorem tk_M {g T : HP} {e : Nat} (eT : tkM g 0 = T) (he : (e : Int) < g 104 7) {k : Nat} (hk : k < 6) : g 104 (75 + 7 * e + k) = T k e := by
  rw [← eT]
  have : (e : Int) < g 104 (0 + 7) := he
  simp [tkM, hk, he]
theorem c_M_yieldsBy {Q : PQ} {h R : HP} {l r n : Int} (eR : rmM h 0 = R) (W : WR R) (hl : l = 0 ∨ l = 1) (hr : 0 ≤ r ∧ r < R 0 1) (hn : 1 ≤ n ∧ n ≤ 9) (hy : (0 ≤ R 0 4 ∧ R 0 4 ≤ 2000000000) ∧ (0 ≤ R 0 5 ∧ R 0 5 ≤ 2000000000)) (hi : ∀ i, 0 ≤ h 121 i ∧ h 121 i ≤ 1000000 ∨ 3 ≤ i)
    (kk : ∀ h', ActM h h' (aYield R l r.toNat n) → Q (some (vi (bi (0 < mvd R l r.toNat n)))) (hs h' 121 (1 + l.toNat) (h 121 (1 + l.toNat) + mvd R l r.toNat n))) : Wp true i_M_yieldsBy 0 [vr 103, vi l, vi r, vi n, vr 9999] [] h Q := by
  have m := mvd_rg W (l := l) (r := r.toNat) (n := n) (by omega) hn
  have b := hi (1 + l.toNat)
  refine g_M_yieldsBy_0 (c_M_yields eR W hl hr hn (by rcases hl with rfl | rfl; exact hy.1; exact hy.2) (fun h' A => ?_))
  have e : h' 121 = h 121 := A.2.1 121 (by omega)
  have e1 : (1 + l).toNat = 1 + l.toNat := by omega
  have k := kk h' A
  refine g_M_yieldsBy_7 (by omega) (by omega) (by rw [e, e1]; omega) (fun q => ?_) (fun q => ?_)
  · rw [bi_f (by omega)] at k; rw [e, e1]; exact k
  · rw [bi_t (by omega)] at k; rw [e, e1]; exact k
def DoM (T R h : HP) (e : Nat) (h' : HP) : Prop :=
  rmM h' 0 = acR T R (h 103 33) e ∧ (∀ k, k ≠ 103 → k ≠ 104 → k ≠ 121 → h' k = h k) ∧ (∀ i, 75 ≤ i → h' 104 i = h 104 i) ∧ h' 104 7 = h 104 7 ∧ (∀ i, i ≠ 33 → h' 103 i = h 103 i) ∧ h' 103 33 = acD T R (h 103 33) e ∧
  h' 121 0 = h 121 0 ∧ h' 121 1 = h 121 1 + (if T 1 e = 0 then acM T R (h 103 33) e else 0) ∧ h' 121 2 = h 121 2 + (if T 1 e = 0 then 0 else acM T R (h 103 33) e) ∧ h' 121 3 = h 121 3 + (if T 0 e = 10 then 1 else 0) ∧ h' 121 4 = h 121 4
theorem DoM_keep {T R h h' : HP} {e : Nat} (eM : acM T R (h 103 33) e = 0) (c10 : ¬ T 0 e = 10) (eD : acD T R (h 103 33) e = h 103 33) (A : ActM h h' (acR T R (h 103 33) e)) : DoM T R h e h' := by
  have e1 : h' 121 = h 121 := A.2.1 121 (by decide)
  have e3 : h' 103 = h 103 := A.2.1 103 (by decide)
  refine ⟨A.1, fun k _ k2 _ => A.2.1 k k2, A.2.2.1, A.2.2.2, fun i _ => by rw [e3], by rw [e3, eD], by rw [e1], ?_, ?_, ?_, by rw [e1]⟩
  · rw [e1, eM]; split <;> omega
  · rw [e1, eM]; split <;> omega
  · rw [e1, if_neg c10, Int.add_zero]
theorem c_M_does {Q : PQ} {h T R : HP} {n : Int} {e : Nat} (eR : rmM h 0 = R) (W : WR R) (eT : tkM h 0 = T) (en : h 104 7 = n) (hT : WT T n R) (he : (e : Int) < n)
    (hz : 0 ≤ h 103 33 ∧ h 103 33 ≤ 65535) (h3 : 0 ≤ h 121 3 ∧ h 121 3 ≤ 1000000) (hy : (0 ≤ R 0 4 ∧ R 0 4 ≤ 2000000000) ∧ (0 ≤ R 0 5 ∧ R 0 5 ≤ 2000000000)) (h6 : 0 ≤ R 0 6 ∧ R 0 6 ≤ 2000000000) (hi : ∀ i, 0 ≤ h 121 i ∧ h 121 i ≤ 1000000 ∨ 3 ≤ i)
    (kk : ∀ h', DoM T R h e h' → Q (some (vi (acK T R (h 103 33) e))) h') : Wp true i_M_does 0 [vr 103, vi (75 + 7 * (e : Int)), vr 9999] [] h Q := by
  have w := W.1
  have t := hT.2.2.1 e he
  have n60 := hT.2.1
  have dd := mdim eR
  have tk : ∀ k, k < 6 → h 104 (75 + 7 * e + k) = T k e := fun k hk => tk_M eT (by omega) hk
  have a0 : (75 + 7 * (e : Int)).toNat = 75 + 7 * e + 0 := by omega
  have a1 : (75 + 7 * (e : Int) + 1).toNat = 75 + 7 * e + 1 := by omega
  have a2 : (75 + 7 * (e : Int) + 2).toNat = 75 + 7 * e + 2 := by omega
  have a3 : (75 + 7 * (e : Int) + 3).toNat = 75 + 7 * e + 3 := by omega
  by_cases c9 : T 0 e = 9
  · have t9 : (T 1 e = 0 ∨ T 1 e = 1) ∧ (0 ≤ T 2 e ∧ T 2 e < R 0 1) ∧ (1 ≤ T 3 e ∧ T 3 e ≤ 9) := by
      rcases t with t | t | t | t | t | t | t | t | t <;> first | exact t.2 | omega
    have eM : acM T R (h 103 33) e = mvd R (T 1 e) (T 2 e).toNat (T 3 e) := if_pos c9
    have eK : acK T R (h 103 33) e = bi (0 < mvd R (T 1 e) (T 2 e).toNat (T 3 e)) := if_pos c9
    refine g_M_does_0 (by omega) (by omega) (by omega) (fun _ => by omega) (fun _ => by omega) (fun _ => by omega) (fun _ => by omega) (fun q => ?_) (fun q => ?_) (fun q => ?_) (fun _ => by omega) (fun _ => by omega) (fun _ => by omega) (fun _ => by omega) (fun q => ?_) (fun q => ?_) (fun q => ?_) (fun q => ?_)
    · rw [a1, a2, a3, tk 1 (by decide), tk 2 (by decide), tk 3 (by decide)]
      refine c_M_yieldsBy eR W t9.1 t9.2.1 t9.2.2 hy hi (fun h' A => g_M_does_69 (bi_01 _) ?_)
      have e1 : h' 121 = h 121 := A.2.1 121 (by decide)
      have e3 : h' 103 = h 103 := A.2.1 103 (by decide)
      have k := kk (hs h' 121 (1 + (T 1 e).toNat) (h 121 (1 + (T 1 e).toNat) + mvd R (T 1 e) (T 2 e).toNat (T 3 e))) ?_
      · rw [eK] at k; exact k
      · refine ⟨?_, fun k _ k2 k3 => by rw [hs_ne k3]; exact A.2.1 k k2, fun i hi => by rw [hs_ne (by decide)]; exact A.2.2.1 i hi, by rw [hs_ne (by decide)]; exact A.2.2.2, fun i _ => by rw [hs_ne (by decide), e3], ?_, by rw [hs_o (Or.inr (by omega)), e1], ?_, ?_, ?_, by rw [hs_o (Or.inr (by omega)), e1]⟩
        · rw [rmM_congr (hs_ne (by decide)), A.1]; exact (if_pos c9).symm
        · rw [hs_ne (by decide), e3]; unfold acD; rw [if_neg (by omega)]
        · rw [eM]
          rcases t9.1 with q | q
          · rw [if_pos q, q]; exact hs_s
          · rw [if_neg (by omega), q, hs_o (Or.inr (by decide)), e1, Int.add_zero]
        · rw [eM]
          rcases t9.1 with q | q
          · rw [if_pos q, q, hs_o (Or.inr (by decide)), e1, Int.add_zero]
          · rw [if_neg (by omega), q]; exact hs_s
        · rw [hs_o (Or.inr (by omega)), e1, if_neg (by omega), Int.add_zero]
    all_goals (rw [a0, tk 0 (by decide)] at q; omega)
  by_cases c10 : T 0 e = 10
  · have eM : acM T R (h 103 33) e = 0 := by unfold acM; rw [if_neg c9, if_neg (by omega)]
    have eK : acK T R (h 103 33) e = 1 := by unfold acK; rw [if_neg c9, if_neg (by omega), if_neg (by omega), if_neg (by omega)]
    refine g_M_does_0 (by omega) (by omega) (by omega) (fun _ => by omega) (fun _ => by omega) (fun _ => by omega) (fun _ => by omega) (fun q => ?_) (fun q => ?_) (fun q => ?_) (fun _ => by omega) (fun _ => by omega) (fun _ => by omega) (fun _ => by omega) (fun q => ?_) (fun q => ?_) (fun q => ?_) (fun q0 q => ?_)
    rotate_left
    · refine c_M_nights eR W h6 (fun h' A => ?_)
      have e1 : h' 121 = h 121 := A.2.1 121 (by decide)
      have e3 : h' 103 = h 103 := A.2.1 103 (by decide)
      refine g_M_does_74 (by rw [e1]; omega) ?_
      have k := kk (hs h' 121 3 (h' 121 3 + 1)) ?_
      · rw [eK] at k; exact k
      · refine ⟨?_, fun k _ k2 k3 => by rw [hs_ne k3]; exact A.2.1 k k2, fun i hi => by rw [hs_ne (by decide)]; exact A.2.2.1 i hi, by rw [hs_ne (by decide)]; exact A.2.2.2, fun i _ => by rw [hs_ne (by decide), e3], ?_, by rw [hs_o (Or.inr (by omega)), e1], ?_, ?_, ?_, by rw [hs_o (Or.inr (by omega)), e1]⟩
        · rw [rmM_congr (hs_ne (by decide)), A.1]; unfold acR; rw [if_neg c9, if_pos c10]
        · rw [hs_ne (by decide), e3]; unfold acD; rw [if_neg (by omega)]
        · rw [hs_o (Or.inr (by omega)), e1, eM]; split <;> omega
        · rw [hs_o (Or.inr (by omega)), e1, eM]; split <;> omega
        · rw [hs_s, e1, if_pos c10]
    all_goals (rw [a0, tk 0 (by decide)] at q; omega)
  by_cases c11 : T 0 e = 11
  · have t11 : 0 ≤ T 1 e ∧ T 1 e < R 0 1 := by
      rcases t with t | t | t | t | t | t | t | t | t <;> first | omega | exact t.2
    have eM : acM T R (h 103 33) e = 0 := by unfold acM; rw [if_neg c9, if_neg (by omega)]
    have eK : acK T R (h 103 33) e = bi (¬ swp R (T 1 e).toNat = R 1 (T 1 e).toNat) := by unfold acK; rw [if_neg c9, if_pos c11]
    have eA : acR T R (h 103 33) e = aSweep R (T 1 e).toNat := by unfold acR; rw [if_neg c9, if_neg c10, if_pos c11]
    refine g_M_does_0 (by omega) (by omega) (by omega) (fun _ => by omega) (fun _ => by omega) (fun _ => by omega) (fun _ => by omega) (fun q => ?_) (fun q => ?_) (fun _ => ?_) (fun _ => by omega) (fun _ => by omega) (fun _ => by omega) (fun _ => by omega) (fun q => ?_) (fun q => ?_) (fun q => ?_) (fun _ q0 q => ?_)
    rotate_left 2
    · rw [a1, tk 1 (by decide)]
      refine c_M_sweeps eR W t11 (fun h' A => ?_)
      have k := kk h' (DoM_keep eM c10 (by unfold acD; rw [if_neg (by omega)]) (by rw [eA]; exact A))
      rw [eK] at k
      refine g_M_does_92 (fun q => ?_) (fun q => ?_)
      · rw [bi_f (by omega)] at k; exact k
      · rw [bi_t (by omega)] at k; exact k
    all_goals (rw [a0, tk 0 (by decide)] at q; omega)
  by_cases c12 : T 0 e = 12
  · have t12 : (0 ≤ T 1 e ∧ T 1 e < R 0 3) ∧ (0 ≤ T 2 e ∧ T 2 e < R 0 0) ∧ (0 ≤ T 3 e ∧ T 3 e < R 0 1) := by
      rcases t with t | t | t | t | t | t | t | t | t <;> first | omega | exact t.2
    have eM : acM T R (h 103 33) e = 0 := by unfold acM; rw [if_neg c9, if_neg (by omega)]
    have eK : acK T R (h 103 33) e = bi (rOn R (T 2 e) (T 3 e) = -1) := by unfold acK; rw [if_neg c9, if_neg c11, if_pos c12]
    have eD : acD T R (h 103 33) e = h 103 33 := by unfold acD; rw [if_neg (by omega)]
    refine g_M_does_0 (by omega) (by omega) (by omega) (fun _ => by omega) (fun _ => by omega) (fun _ => by omega) (fun _ => by omega) (fun q => ?_) (fun q => ?_) (fun q => ?_) (fun _ => by omega) (fun _ => by omega) (fun _ => by omega) (fun _ => by omega) (fun _ => ?_) (fun q => ?_) (fun q => ?_) (fun _ _ q0 q => ?_)
    rotate_left 3
    · rw [a1, a2, a3, tk 1 (by decide), tk 2 (by decide), tk 3 (by decide)]
      refine c_M_moves eR W t12.1 t12.2.1 t12.2.2 (fun y h' A => g_M_does_122 (Or.inr rfl) ?_) (fun y => g_M_does_122 (Or.inl rfl) ?_)
      · have k := kk h' (DoM_keep eM c10 eD (by unfold acR; rw [if_neg c9, if_neg c10, if_neg c11, if_pos c12, if_pos y]; exact A))
        rw [eK, bi_t y] at k; exact k
      · have k := kk h (DoM_keep eM c10 eD (by unfold acR; rw [if_neg c9, if_neg c10, if_neg c11, if_pos c12, if_neg y, ← eR]; exact ActM_0 h))
        rw [eK, bi_f y] at k; exact k
    all_goals (rw [a0, tk 0 (by decide)] at q; omega)
  by_cases c13 : T 0 e = 13
  · have t13 : T 1 e = 0 ∨ T 1 e = 1 := by
      rcases t with t | t | t | t | t | t | t | t | t <;> first | omega | exact t.2
    refine g_M_does_0 (by omega) (by omega) (by omega) (fun _ => by omega) (fun _ => by omega) (fun _ => by omega) (fun _ => by omega) (fun q => ?_) (fun q => ?_) (fun q => ?_) (fun _ => by omega) (fun _ => by omega) (fun _ => by omega) (fun _ => by omega) (fun q => ?_) (fun _ y => ?_) (fun _ y => ?_) (fun _ _ _ q0 q => ?_)
    rotate_left 4
    · have y' : R 0 1 ≤ 0 := by omega
      have k := kk h (DoM_keep (by unfold acM; rw [if_neg c9, if_pos c13, if_pos y']) c10 (by unfold acD; rw [if_neg (fun q => q.2 y')]) (by unfold acR; rw [if_neg c9, if_neg c10, if_neg c11, if_neg c12, if_pos c13, if_pos y', ← eR]; exact ActM_0 h))
      rw [show acK T R (h 103 33) e = 0 by unfold acK; rw [if_neg c9, if_neg c11, if_neg c12, if_pos c13, if_pos y']] at k; exact k
    · have y' : ¬ R 0 1 ≤ 0 := by omega
      have rr := rwA_rg (h 103 33) y'
      have eM : acM T R (h 103 33) e = mvd R (T 1 e) (rwA R (h 103 33)) 1 := by unfold acM; rw [if_neg c9, if_pos c13, if_neg y']
      have eK : acK T R (h 103 33) e = bi (0 < mvd R (T 1 e) (rwA R (h 103 33)) 1) := by unfold acK; rw [if_neg c9, if_neg c11, if_neg c12, if_pos c13, if_neg y']
      have dr := drw_rg (h 103 33)
      rw [a1, tk 1 (by decide), dd.2.1]
      refine g_M_draws_0 (by omega) (by omega) (by omega) (by omega) (by omega) (by omega) ?_
      show Wp true i_M_does 144 [vr 103, vi (75 + 7 * (e : Int)), vi (T 1 e)] [vi (drw (h 103 33) / 8 % R 0 1), vi (T 1 e), vr 103] (hs h 103 33 (drw (h 103 33))) Q
      rw [← rr.2]
      refine g_M_does_144 ?_
      have eR' : rmM (hs h 103 33 (drw (h 103 33))) 0 = R := (rmM_congr (hs_ne (by decide))).trans eR
      have f1 : hs h 103 33 (drw (h 103 33)) 121 = h 121 := hs_ne (by decide)
      refine c_M_yieldsBy eR' W t13 (by omega) (by omega) hy (fun i => by rw [f1]; exact hi i) (fun h' A => ?_)
      rw [f1, Int.toNat_natCast] at *
      have e1 : h' 121 = h 121 := (A.2.1 121 (by decide)).trans f1
      have e3 : h' 103 = hs h 103 33 (drw (h 103 33)) 103 := A.2.1 103 (by decide)
      have k := kk (hs h' 121 (1 + (T 1 e).toNat) (h 121 (1 + (T 1 e).toNat) + mvd R (T 1 e) (rwA R (h 103 33)) 1)) ?_
      · rw [eK] at k
        refine g_M_does_148 (fun q => ?_) (fun q => ?_)
        · rw [q] at k; exact k
        · have : bi (0 < mvd R (T 1 e) (rwA R (h 103 33)) 1) = 1 := by have := bi_01 (0 < mvd R (T 1 e) (rwA R (h 103 33)) 1); omega
          rw [this] at k; exact k
      · refine ⟨?_, fun k k1 k2 k3 => by rw [hs_ne k3, A.2.1 k k2, hs_ne k1], fun i hi => by rw [hs_ne (by decide), A.2.2.1 i hi, hs_ne (by decide)], by rw [hs_ne (by decide), A.2.2.2, hs_ne (by decide)], fun i i3 => by rw [hs_ne (by decide), e3, hs_o (Or.inr i3)], ?_, by rw [hs_o (Or.inr (by omega)), e1], ?_, ?_, ?_, by rw [hs_o (Or.inr (by omega)), e1]⟩
        · rw [rmM_congr (hs_ne (by decide)), A.1]
          unfold acR; rw [if_neg c9, if_neg c10, if_neg c11, if_neg c12, if_pos c13, if_neg y']
        · rw [hs_ne (by decide), e3, hs_s]; unfold acD; rw [if_pos ⟨c13, y'⟩]
        · rw [eM]
          rcases t13 with q | q
          · rw [if_pos q, q]; exact hs_s
          · rw [if_neg (by omega), q, hs_o (Or.inr (by decide)), e1, Int.add_zero]
        · rw [eM]
          rcases t13 with q | q
          · rw [if_pos q, q, hs_o (Or.inr (by decide)), e1, Int.add_zero]
          · rw [if_neg (by omega), q]; exact hs_s
        · rw [hs_o (Or.inr (by omega)), e1, if_neg (by omega), Int.add_zero]
    all_goals (rw [a0, tk 0 (by decide)] at q; omega)
  · obtain ⟨i1, i2, i3, i4⟩ := ac_idle (T := T) (R := R) (z := h 103 33) (e := e) (by omega)
    have k := kk h (DoM_keep i2 c10 i4 (by rw [i1, ← eR]; exact ActM_0 h))
    rw [i3] at k
    refine g_M_does_0 (by omega) (by omega) (by omega) (fun _ => by omega) (fun _ => by omega) (fun _ => by omega) (fun _ => by omega) (fun q => ?_) (fun q => ?_) (fun q => ?_) (fun _ => by omega) (fun _ => by omega) (fun _ => by omega) (fun _ => by omega) (fun q => ?_) (fun q => ?_) (fun q => ?_) (fun _ _ _ _ _ => k)
    all_goals (rw [a0, tk 0 (by decide)] at q; omega)
theorem c_M_holds {Q : PQ} {h T R : HP} {n : Int} {e : Nat} (eR : rmM h 0 = R) (W : WR R) (eT : tkM h 0 = T) (en : h 104 7 = n) (hT : WT T n R) (he : (e : Int) < n) (ht : 1519 ≤ T 0 e)
    (k1 : hlT T R e → Q (some (vi 1)) h) (k0 : ¬ hlT T R e → Q (some (vi 0)) h) : Wp true i_M_holds 0 [vr 103, vi (75 + 7 * (e : Int)), vr 9999, vr 9999, vr 9999] [] h Q := by
  have t := WT_te hT he ht
  have n60 := hT.2.1
  have dd := mdim eR
  have tk : ∀ k, k < 6 → h 104 (75 + 7 * e + k) = T k e := fun k hk => tk_M eT (by omega) hk
  have a0 : (75 + 7 * (e : Int)).toNat = 75 + 7 * e + 0 := by omega
  have a1 : (75 + 7 * (e : Int) + 1).toNat = 75 + 7 * e + 1 := by omega
  have a2 : (75 + 7 * (e : Int) + 2).toNat = 75 + 7 * e + 2 := by omega
  have a5 : (75 + 7 * (e : Int) + 5).toNat = 75 + 7 * e + 5 := by omega
  have b0 : h 104 (75 + 7 * (e : Int)).toNat = T 0 e := by rw [a0]; exact tk 0 (by decide)
  have b1 : h 104 (75 + 7 * (e : Int) + 1).toNat = T 1 e := by rw [a1]; exact tk 1 (by decide)
  have b2 : h 104 (75 + 7 * (e : Int) + 2).toNat = T 2 e := by rw [a2]; exact tk 2 (by decide)
  have b5 : h 104 (75 + 7 * (e : Int) + 5).toNat = T 5 e := by rw [a5]; exact tk 5 (by decide)
  have cmp : ¬ T 0 e = 1521 → ∀ x2 x3, Wp true i_M_holds 67 [vr 103, vi (75 + 7 * (e : Int)), vi x2, vi x3, vr 9999] [vi (vlT T R e)] h Q := by
    intro c x2 x3
    have t5 := t.2.2.2 (by omega)
    have hh : hlT T R e ↔ ((T 5 e = 60 ∧ vlT T R e < T 2 e) ∨ (T 5 e = 62 ∧ T 2 e < vlT T R e) ∨ (¬ T 5 e = 60 ∧ ¬ T 5 e = 62 ∧ vlT T R e = T 2 e)) := by
      unfold hlT
      constructor
      · rintro (q | q)
        · exact absurd q.1 c
        · exact q.2
      · intro q; exact Or.inr ⟨c, q⟩
    refine g_M_holds_67 (by omega) (by omega) (fun _ _ => by omega) (fun _ _ => by omega) (fun a a2 b => k0 ?_) (fun a a2 b => k1 ?_) (fun _ _ => by omega) (fun _ _ => by omega) (fun a a2 b => k0 ?_) (fun a a2 b => k1 ?_) (fun _ => by omega) (fun _ => by omega) (fun a b => k0 ?_) (fun a b => k1 ?_) <;> rw [hh] <;> simp only [b5, b2] at * <;> omega
  by_cases c : T 0 e = 1521
  · have t2 := t.2.2.1 c
    have hh : hlT T R e ↔ rHo R (T 2 e).toNat = T 1 e := by
      unfold hlT
      constructor
      · rintro (q | q)
        · exact q.2
        · exact absurd c q.1
      · intro q; exact Or.inl ⟨c, q⟩
    refine g_M_holds_0 (by omega) (by rw [b0]; omega) (by omega) (by omega) (fun q => ?_) (fun q => ?_) (fun q => ?_) (fun q => ?_) (fun q => ?_) (fun q => ?_) (fun _ => by omega) (fun _ => by omega) (fun _ => by rw [eR]; exact W) (fun _ => by rw [b2]; omega) (fun _ q => k0 ?_) (fun _ q => k1 ?_)
    · rw [b0] at q; omega
    · rw [b0] at q; omega
    · rw [b0] at q; omega
    · rw [b0] at q; omega
    · rw [b0] at q; omega
    · rw [b0] at q; omega
    · rw [b1, b2, eR] at q; rw [hh]; exact q
    · rw [b1, b2, eR] at q; rw [hh]; exact q
  · have cm := cmp c
    refine g_M_holds_0 (by omega) (by rw [b0]; omega) (by omega) (by omega) (fun _ _ => by rw [eR]; exact W) (fun _ _ => by rw [b1]; exact t.2.1) (fun _ q => ?_) (fun _ _ => by rw [eR]; exact W) (fun _ _ => by rw [b1]; exact t.2.1) (fun _ q => ?_) (fun _ => by omega) (fun _ => by omega) (fun _ => by rw [eR]; exact W) (fun q => ?_) (fun q => ?_) (fun q => ?_)
    · rw [b0] at q
      rw [b1, eR]
      have : vlT T R e = rBoards R (T 1 e) := by unfold vlT; rw [if_pos (by omega)]
      rw [← this]; exact cm _ _
    · rw [b0] at q
      rw [b1, eR]
      have : vlT T R e = rVal R (T 1 e) (T 1 e) := by unfold vlT; rw [if_neg (by omega)]
      rw [← this]; exact cm _ _
    · rw [b0] at q; omega
    · rw [b0] at q; omega
    · rw [b0] at q; omega
