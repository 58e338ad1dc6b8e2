def qTold (R : HP) (x : Int) : Int × Int := if x = 0 then (R 0 0, 0) else if x = 1 then (R 0 1, 0) else if x = 2 then (R 0 3, 0) else if x = 3 then (R 0 2, 0) else if x = 4 then (R 0 4, 0) else if x = 5 then (R 0 5, 0) else if x = 6 then (R 0 6, 0) else (-1, 1)

theorem g_C_told_0 {Q : PQ} {h : HP} {x1 : Int} 
    (k1 : x1 = 0 → Q (some (vi (h 10 0))) (hs h 0 0 0))
    (k2 : x1 = 1 → Q (some (vi (h 10 1))) (hs h 0 0 0))
    (k3 : x1 = 2 → Q (some (vi (h 10 3))) (hs h 0 0 0))
    (k4 : x1 = 3 → Q (some (vi (h 10 2))) (hs h 0 0 0))
    (k5 : x1 = 4 → Q (some (vi (h 11 0))) (hs h 0 0 0))
    (k6 : x1 = 5 → Q (some (vi (h 11 1))) (hs h 0 0 0))
    (k7 : x1 = 6 → Q (some (vi (h 10 4))) (hs h 0 0 0))
    (k8 : ¬ x1 = 0 → ¬ x1 = 1 → ¬ x1 = 2 → ¬ x1 = 3 → ¬ x1 = 4 → ¬ x1 = 5 → ¬ x1 = 6 → Q (some (vi (-1))) (hs h 0 0 1)) :
    Wp true i_C_told 0 [vr 0, vi x1] [] h Q := by
  refine r_iload_n (v := x1) f_153_0 rfl ?_
  by_cases c1 : x1 = 0
  · refine r_swi (t := 44) f_153_1 0 c1 (by decide) rfl rfl ?_
    refine r_aload_n (v := 0) f_153_44 rfl (by decide) ?_
    refine r_aload_n (v := 0) f_153_45 rfl (by decide) ?_
    refine r_getr (q := 10) f_153_46 rfl (by decide) (Or.inl rfl) rfl ?_
    refine r_geti (v := h 10 0) f_153_49 rfl (by decide) rfl ?_
    refine r_callv (as := [vr 0, vi (h 10 0)]) (st' := []) (ls0 := [vr 0, vi (h 10 0)]) f_153_52 (by decide) rfl rfl (Nat.le_of_ble_eq_true rfl) (Nat.le_of_ble_eq_true rfl) ⟨_, _, rfl, rfl⟩ rfl ?_
    refine c_C_answer  ?_
    show Wp true i_C_told 55 [vr 0, vi x1] [vi (h 10 0)] (hs h 0 0 0) Q
    exact r_reti f_153_55 rfl (k1 c1)
  by_cases c2 : x1 = 1
  · refine r_swi (t := 56) f_153_1 1 c2 (by decide) rfl rfl ?_
    refine r_aload_n (v := 0) f_153_56 rfl (by decide) ?_
    refine r_aload_n (v := 0) f_153_57 rfl (by decide) ?_
    refine r_getr (q := 10) f_153_58 rfl (by decide) (Or.inl rfl) rfl ?_
    refine r_geti (v := h 10 1) f_153_61 rfl (by decide) rfl ?_
    refine r_callv (as := [vr 0, vi (h 10 1)]) (st' := []) (ls0 := [vr 0, vi (h 10 1)]) f_153_64 (by decide) rfl rfl (Nat.le_of_ble_eq_true rfl) (Nat.le_of_ble_eq_true rfl) ⟨_, _, rfl, rfl⟩ rfl ?_
    refine c_C_answer  ?_
    show Wp true i_C_told 67 [vr 0, vi x1] [vi (h 10 1)] (hs h 0 0 0) Q
    exact r_reti f_153_67 rfl (k2 c2)
  by_cases c3 : x1 = 2
  · refine r_swi (t := 68) f_153_1 2 c3 (by decide) rfl rfl ?_
    refine r_aload_n (v := 0) f_153_68 rfl (by decide) ?_
    refine r_aload_n (v := 0) f_153_69 rfl (by decide) ?_
    refine r_getr (q := 10) f_153_70 rfl (by decide) (Or.inl rfl) rfl ?_
    refine r_geti (v := h 10 3) f_153_73 rfl (by decide) rfl ?_
    refine r_callv (as := [vr 0, vi (h 10 3)]) (st' := []) (ls0 := [vr 0, vi (h 10 3)]) f_153_76 (by decide) rfl rfl (Nat.le_of_ble_eq_true rfl) (Nat.le_of_ble_eq_true rfl) ⟨_, _, rfl, rfl⟩ rfl ?_
    refine c_C_answer  ?_
    show Wp true i_C_told 79 [vr 0, vi x1] [vi (h 10 3)] (hs h 0 0 0) Q
    exact r_reti f_153_79 rfl (k3 c3)
  by_cases c4 : x1 = 3
  · refine r_swi (t := 80) f_153_1 3 c4 (by decide) rfl rfl ?_
    refine r_aload_n (v := 0) f_153_80 rfl (by decide) ?_
    refine r_aload_n (v := 0) f_153_81 rfl (by decide) ?_
    refine r_getr (q := 10) f_153_82 rfl (by decide) (Or.inl rfl) rfl ?_
    refine r_geti (v := h 10 2) f_153_85 rfl (by decide) rfl ?_
    refine r_callv (as := [vr 0, vi (h 10 2)]) (st' := []) (ls0 := [vr 0, vi (h 10 2)]) f_153_88 (by decide) rfl rfl (Nat.le_of_ble_eq_true rfl) (Nat.le_of_ble_eq_true rfl) ⟨_, _, rfl, rfl⟩ rfl ?_
    refine c_C_answer  ?_
    show Wp true i_C_told 91 [vr 0, vi x1] [vi (h 10 2)] (hs h 0 0 0) Q
    exact r_reti f_153_91 rfl (k4 c4)
  by_cases c5 : x1 = 4
  · refine r_swi (t := 92) f_153_1 4 c5 (by decide) rfl rfl ?_
    refine r_aload_n (v := 0) f_153_92 rfl (by decide) ?_
    refine r_aload_n (v := 0) f_153_93 rfl (by decide) ?_
    refine r_getr (q := 10) f_153_94 rfl (by decide) (Or.inl rfl) rfl ?_
    refine r_getr (q := 11) f_153_97 rfl (by decide) (Or.inl rfl) rfl ?_
    refine r_iconst f_153_100 (by decide) ?_
    refine r_iaload (n := 2) (v := h 11 0) f_153_101 ⟨rfl, rfl⟩ (by decide) rfl ?_
    refine r_callv (as := [vr 0, vi (h 11 0)]) (st' := []) (ls0 := [vr 0, vi (h 11 0)]) f_153_102 (by decide) rfl rfl (Nat.le_of_ble_eq_true rfl) (Nat.le_of_ble_eq_true rfl) ⟨_, _, rfl, rfl⟩ rfl ?_
    refine c_C_answer  ?_
    show Wp true i_C_told 105 [vr 0, vi x1] [vi (h 11 0)] (hs h 0 0 0) Q
    exact r_reti f_153_105 rfl (k5 c5)
  by_cases c6 : x1 = 5
  · refine r_swi (t := 106) f_153_1 5 c6 (by decide) rfl rfl ?_
    refine r_aload_n (v := 0) f_153_106 rfl (by decide) ?_
    refine r_aload_n (v := 0) f_153_107 rfl (by decide) ?_
    refine r_getr (q := 10) f_153_108 rfl (by decide) (Or.inl rfl) rfl ?_
    refine r_getr (q := 11) f_153_111 rfl (by decide) (Or.inl rfl) rfl ?_
    refine r_iconst f_153_114 (by decide) ?_
    refine r_iaload (n := 2) (v := h 11 1) f_153_115 ⟨rfl, rfl⟩ (by decide) rfl ?_
    refine r_callv (as := [vr 0, vi (h 11 1)]) (st' := []) (ls0 := [vr 0, vi (h 11 1)]) f_153_116 (by decide) rfl rfl (Nat.le_of_ble_eq_true rfl) (Nat.le_of_ble_eq_true rfl) ⟨_, _, rfl, rfl⟩ rfl ?_
    refine c_C_answer  ?_
    show Wp true i_C_told 119 [vr 0, vi x1] [vi (h 11 1)] (hs h 0 0 0) Q
    exact r_reti f_153_119 rfl (k6 c6)
  by_cases c7 : x1 = 6
  · refine r_swi (t := 120) f_153_1 6 c7 (by decide) rfl rfl ?_
    refine r_aload_n (v := 0) f_153_120 rfl (by decide) ?_
    refine r_aload_n (v := 0) f_153_121 rfl (by decide) ?_
    refine r_getr (q := 10) f_153_122 rfl (by decide) (Or.inl rfl) rfl ?_
    refine r_geti (v := h 10 4) f_153_125 rfl (by decide) rfl ?_
    refine r_callv (as := [vr 0, vi (h 10 4)]) (st' := []) (ls0 := [vr 0, vi (h 10 4)]) f_153_128 (by decide) rfl rfl (Nat.le_of_ble_eq_true rfl) (Nat.le_of_ble_eq_true rfl) ⟨_, _, rfl, rfl⟩ rfl ?_
    refine c_C_answer  ?_
    show Wp true i_C_told 131 [vr 0, vi x1] [vi (h 10 4)] (hs h 0 0 0) Q
    exact r_reti f_153_131 rfl (k7 c7)
  refine r_swo (t := 132) f_153_1 (by omega) rfl ?_
  refine r_aload_n (v := 0) f_153_132 rfl (by decide) ?_
  refine r_iconst f_153_133 (by decide) ?_
  refine r_callv (as := [vr 0, vi 1]) (st' := []) (ls0 := [vr 0, vi 1]) f_153_134 (by decide) rfl rfl (Nat.le_of_ble_eq_true rfl) (Nat.le_of_ble_eq_true rfl) ⟨_, _, rfl, rfl⟩ rfl ?_
  refine c_C_refuse  ?_
  show Wp true i_C_told 137 [vr 0, vi x1] [vi (-1)] (hs h 0 0 1) Q
  exact r_reti f_153_137 rfl (k8 c1 c2 c3 c4 c5 c6 c7)

theorem c_C_told {Q : PQ} {h : HP} {x1 : Int} (o1 : WR (rmC h 10)) (k : Q (some (vi ((qTold (rmC h 10) x1).1))) (hs h 0 0 ((qTold (rmC h 10) x1).2))) :
    Wp true i_C_told 0 [vr 0, vi x1] [] h Q := by
  have w := WC_0 o1
  refine g_C_told_0 ?_ ?_ ?_ ?_ ?_ ?_ ?_ ?_
  · intro c1; (try simp only [Int.toNat_natCast] at c1); first | (exfalso; omega) | (subst c1; exact kq k rfl)
  · intro c2; (try simp only [Int.toNat_natCast] at c2); first | (exfalso; omega) | (subst c2; exact kq k rfl)
  · intro c3; (try simp only [Int.toNat_natCast] at c3); first | (exfalso; omega) | (subst c3; exact kq k rfl)
  · intro c4; (try simp only [Int.toNat_natCast] at c4); first | (exfalso; omega) | (subst c4; exact kq k rfl)
  · intro c5; (try simp only [Int.toNat_natCast] at c5); first | (exfalso; omega) | (subst c5; exact kq k rfl)
  · intro c6; (try simp only [Int.toNat_natCast] at c6); first | (exfalso; omega) | (subst c6; exact kq k rfl)
  · intro c7; (try simp only [Int.toNat_natCast] at c7); first | (exfalso; omega) | (subst c7; exact kq k rfl)
  · intro c1 c2 c3 c4 c5 c6 c7; (try simp only [Int.toNat_natCast] at c1 c2 c3 c4 c5 c6 c7); first | (exfalso; omega) | (exact kq k (by unfold qTold; rw [if_neg c1, if_neg c2, if_neg c3, if_neg c4, if_neg c5, if_neg c6, if_neg c7]))

theorem g_M_told_0 {Q : PQ} {h : HP} {x1 : Int} 
    (k1 : x1 < 0 → Q (some (vi (-1))) (hs h 103 2 1))
    (o2 : ¬ x1 < 0 → x1 ≤ 6 → 0 ≤ x1 ∧ x1 < 3000)
    (k3 : ¬ x1 < 0 → x1 ≤ 6 → Q (some (vi (h 104 x1.toNat))) (hs h 103 2 0))
    (k4 : ¬ x1 < 0 → ¬ x1 ≤ 6 → Q (some (vi (-1))) (hs h 103 2 1)) :
    Wp true i_M_told 0 [vr 103, vi x1] [] h Q := by
  refine r_iload_n (v := x1) f_285_0 rfl ?_
  refine r_br (t := 10) f_285_1 rfl cb_lt (fun c1 => ?_) (fun c1 => ?_)
  · refine r_aload_n (v := 103) f_285_10 rfl (by decide) ?_
    refine r_iconst f_285_11 (by decide) ?_
    refine r_callv (as := [vr 103, vi 1]) (st' := []) (ls0 := [vr 103, vi 1]) f_285_12 (by decide) rfl rfl (Nat.le_of_ble_eq_true rfl) (Nat.le_of_ble_eq_true rfl) ⟨_, _, rfl, rfl⟩ rfl ?_
    refine c_M_refuse  ?_
    show Wp true i_M_told 15 [vr 103, vi x1] [vi (-1)] (hs h 103 2 1) Q
    refine r_goto (t := 28) f_285_15 rfl ?_
    exact r_reti f_285_28 rfl (k1 c1)
  · refine r_iload_n (v := x1) f_285_4 rfl ?_
    refine r_bipush f_285_5 (by decide) ?_
    refine r_br2 (t := 18) f_285_7 rfl cb_le (fun c2 => ?_) (fun c2 => ?_)
    · refine r_aload_n (v := 103) f_285_18 rfl (by decide) ?_
      refine r_aload_n (v := 103) f_285_19 rfl (by decide) ?_
      refine r_getr (q := 104) f_285_20 rfl (by decide) (Or.inl rfl) rfl ?_
      refine r_iload_n (v := x1) f_285_23 rfl ?_
      refine r_iaload (n := 3000) (v := h 104 x1.toNat) f_285_24 ⟨rfl, rfl⟩ (o2 c1 c2) rfl ?_
      refine r_callv (as := [vr 103, vi (h 104 x1.toNat)]) (st' := []) (ls0 := [vr 103, vi (h 104 x1.toNat)]) f_285_25 (by decide) rfl rfl (Nat.le_of_ble_eq_true rfl) (Nat.le_of_ble_eq_true rfl) ⟨_, _, rfl, rfl⟩ rfl ?_
      refine c_M_gives  ?_
      show Wp true i_M_told 28 [vr 103, vi x1] [vi (h 104 x1.toNat)] (hs h 103 2 0) Q
      exact r_reti f_285_28 rfl (k3 c1 c2)
    · refine r_aload_n (v := 103) f_285_10 rfl (by decide) ?_
      refine r_iconst f_285_11 (by decide) ?_
      refine r_callv (as := [vr 103, vi 1]) (st' := []) (ls0 := [vr 103, vi 1]) f_285_12 (by decide) rfl rfl (Nat.le_of_ble_eq_true rfl) (Nat.le_of_ble_eq_true rfl) ⟨_, _, rfl, rfl⟩ rfl ?_
      refine c_M_refuse  ?_
      show Wp true i_M_told 15 [vr 103, vi x1] [vi (-1)] (hs h 103 2 1) Q
      refine r_goto (t := 28) f_285_15 rfl ?_
      exact r_reti f_285_28 rfl (k4 c1 c2)

theorem c_M_told {Q : PQ} {h : HP} {x1 : Int} (o1 : WR (rmM h 0)) (k : Q (some (vi ((qTold (rmM h 0) x1).1))) (hs h 103 2 ((qTold (rmM h 0) x1).2))) :
    Wp true i_M_told 0 [vr 103, vi x1] [] h Q := by
  have w := WM_0 o1
  refine g_M_told_0 ?_ ?_ ?_ ?_
  · intro c1; (try simp only [Int.toNat_natCast] at c1); first | (exfalso; omega) | (exact kq k (by unfold qTold; rw [if_neg (by omega), if_neg (by omega), if_neg (by omega), if_neg (by omega), if_neg (by omega), if_neg (by omega), if_neg (by omega)]))
  · intro c1 c2; (try simp only [Int.toNat_natCast] at c1 c2); first | omega | (exfalso; omega) | exact ⟨by omega, by omega⟩ | (exact o1)
  · intro c1 c2; (try simp only [Int.toNat_natCast] at c1 c2)
    have e : x1 = 0 ∨ x1 = 1 ∨ x1 = 2 ∨ x1 = 3 ∨ x1 = 4 ∨ x1 = 5 ∨ x1 = 6 := by omega
    rcases e with rfl | rfl | rfl | rfl | rfl | rfl | rfl <;> exact kq k rfl
  · intro c1 c2; (try simp only [Int.toNat_natCast] at c1 c2); first | (exfalso; omega) | (exact kq k (by unfold qTold; rw [if_neg (by omega), if_neg (by omega), if_neg (by omega), if_neg (by omega), if_neg (by omega), if_neg (by omega), if_neg (by omega)]))

theorem A_told {n : Nat} {h : HP} {x1 : Int} (hR : Rel n h) : Agree n h i_C_told i_M_told [vr 0, vi x1] [vr 103, vi x1] := by
  have s := hR.2.2.2.2.2.1
  have hW := s.2.1
  rw [s.1] at hW
  refine ag_q (v := vi (qTold (rmC h 10) x1).1) (st := (qTold (rmC h 10) x1).2) hR (fun Q k => c_C_told s.2.1 k) (fun Q k => c_M_told (by rw [rm_q]; exact hW) ?_)
  rw [rm_q, ← s.1]
  exact k
