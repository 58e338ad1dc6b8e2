def qThing (R : HP) (x y : Int) : Int × Int := if (0 ≤ x ∧ x < R 0 3) ∧ 0 ≤ y ∧ y ≤ 5 then (R (2 + y.toNat) x.toNat, if R (2 + y.toNat) x.toNat < 0 then 6 else 0) else (-1, 1)

theorem g_C_thing_0 {Q : PQ} {h : HP} {x1 : Int} {x2 : Int} 
    (o1 : (0 ≤ x1 ∧ x1 < h 10 3) → x2 = 0 → 0 ≤ x1 ∧ x1 < 10)
    (k2 : (0 ≤ x1 ∧ x1 < h 10 3) → x2 = 0 → Q (some (vi (h 14 x1.toNat))) (hs h 0 0 0))
    (o3 : (0 ≤ x1 ∧ x1 < h 10 3) → x2 = 1 → 0 ≤ x1 ∧ x1 < 10)
    (k4 : (0 ≤ x1 ∧ x1 < h 10 3) → x2 = 1 → Q (some (vi (h 15 x1.toNat))) (hs h 0 0 0))
    (o5 : (0 ≤ x1 ∧ x1 < h 10 3) → x2 = 2 → WR (rmC h 10))
    (o6 : (0 ≤ x1 ∧ x1 < h 10 3) → x2 = 2 → 0 ≤ x1 ∧ x1 < h 10 3)
    (k7 : (0 ≤ x1 ∧ x1 < h 10 3) → x2 = 2 → Q (some (vi (rWo (rmC h 10) 0 x1.toNat))) (hs h 0 0 0))
    (o8 : (0 ≤ x1 ∧ x1 < h 10 3) → x2 = 3 → WR (rmC h 10))
    (o9 : (0 ≤ x1 ∧ x1 < h 10 3) → x2 = 3 → 0 ≤ x1 ∧ x1 < h 10 3)
    (k10 : (0 ≤ x1 ∧ x1 < h 10 3) → x2 = 3 → Q (some (vi (rWo (rmC h 10) 1 x1.toNat))) (hs h 0 0 0))
    (o11 : (0 ≤ x1 ∧ x1 < h 10 3) → x2 = 4 → 0 ≤ x1 ∧ x1 < 10)
    (o12 : (0 ≤ x1 ∧ x1 < h 10 3) → x2 = 4 → -1 ≤ (h 17 x1.toNat))
    (k13 : (0 ≤ x1 ∧ x1 < h 10 3) → x2 = 4 → Q (some (vi (h 17 x1.toNat))) (hs h 0 0 (if (h 17 x1.toNat) < 0 then 6 else 0)))
    (k14 : (0 ≤ x1 ∧ x1 < h 10 3) → x2 = 5 → ¬ (o_and (o_shr (h 10 12) x1) 1 = 1) → Q (some (vi 0)) (hs h 0 0 0))
    (k15 : (0 ≤ x1 ∧ x1 < h 10 3) → x2 = 5 → (o_and (o_shr (h 10 12) x1) 1 = 1) → Q (some (vi 1)) (hs h 0 0 0))
    (k16 : (0 ≤ x1 ∧ x1 < h 10 3) → ¬ x2 = 0 → ¬ x2 = 1 → ¬ x2 = 2 → ¬ x2 = 3 → ¬ x2 = 4 → ¬ x2 = 5 → Q (some (vi (-1))) (hs h 0 0 1))
    (k17 : ¬ (0 ≤ x1 ∧ x1 < h 10 3) → Q (some (vi (-1))) (hs h 0 0 1)) :
    Wp true i_C_thing 0 [vr 0, vi x1, vi x2] [] h Q := by
  refine r_aload_n (v := 0) f_155_0 rfl (by decide) ?_
  refine r_getr (q := 10) f_155_1 rfl (by decide) (Or.inl rfl) rfl ?_
  refine r_iload_n (v := x1) f_155_4 rfl ?_
  refine r_callv (as := [vr 10, vi x1]) (st' := []) (ls0 := [vr 10, vi x1]) f_155_5 (by decide) rfl rfl (Nat.le_of_ble_eq_true rfl) (Nat.le_of_ble_eq_true rfl) ⟨_, _, rfl, rfl⟩ rfl ?_
  refine c_Fl_hasThing isF_10 ?_
  show Wp true i_C_thing 8 [vr 0, vi x1, vi x2] [vi (bi (0 ≤ x1 ∧ x1 < h 10 3))] h Q
  refine r_br (t := 17) f_155_8 rfl cb_bt (fun c1 => ?_) (fun c1 => ?_)
  · refine r_iload_n (v := x2) f_155_17 rfl ?_
    by_cases c2 : x2 = 0
    · refine r_swi (t := 56) f_155_18 0 c2 (by decide) rfl rfl ?_
      refine r_aload_n (v := 0) f_155_56 rfl (by decide) ?_
      refine r_aload_n (v := 0) f_155_57 rfl (by decide) ?_
      refine r_getr (q := 10) f_155_58 rfl (by decide) (Or.inl rfl) rfl ?_
      refine r_getr (q := 14) f_155_61 rfl (by decide) (Or.inl rfl) rfl ?_
      refine r_iload_n (v := x1) f_155_64 rfl ?_
      refine r_iaload (n := 10) (v := h 14 x1.toNat) f_155_65 ⟨rfl, rfl⟩ (o1 c1 c2) rfl ?_
      refine r_callv (as := [vr 0, vi (h 14 x1.toNat)]) (st' := []) (ls0 := [vr 0, vi (h 14 x1.toNat)]) f_155_66 (by decide) rfl rfl (Nat.le_of_ble_eq_true rfl) (Nat.le_of_ble_eq_true rfl) ⟨_, _, rfl, rfl⟩ rfl ?_
      refine c_C_answer  ?_
      show Wp true i_C_thing 69 [vr 0, vi x1, vi x2] [vi (h 14 x1.toNat)] (hs h 0 0 0) Q
      exact r_reti f_155_69 rfl (k2 c1 c2)
    by_cases c3 : x2 = 1
    · refine r_swi (t := 70) f_155_18 1 c3 (by decide) rfl rfl ?_
      refine r_aload_n (v := 0) f_155_70 rfl (by decide) ?_
      refine r_aload_n (v := 0) f_155_71 rfl (by decide) ?_
      refine r_getr (q := 10) f_155_72 rfl (by decide) (Or.inl rfl) rfl ?_
      refine r_getr (q := 15) f_155_75 rfl (by decide) (Or.inl rfl) rfl ?_
      refine r_iload_n (v := x1) f_155_78 rfl ?_
      refine r_iaload (n := 10) (v := h 15 x1.toNat) f_155_79 ⟨rfl, rfl⟩ (o3 c1 c3) rfl ?_
      refine r_callv (as := [vr 0, vi (h 15 x1.toNat)]) (st' := []) (ls0 := [vr 0, vi (h 15 x1.toNat)]) f_155_80 (by decide) rfl rfl (Nat.le_of_ble_eq_true rfl) (Nat.le_of_ble_eq_true rfl) ⟨_, _, rfl, rfl⟩ rfl ?_
      refine c_C_answer  ?_
      show Wp true i_C_thing 83 [vr 0, vi x1, vi x2] [vi (h 15 x1.toNat)] (hs h 0 0 0) Q
      exact r_reti f_155_83 rfl (k4 c1 c3)
    by_cases c4 : x2 = 2
    · refine r_swi (t := 84) f_155_18 2 c4 (by decide) rfl rfl ?_
      refine r_aload_n (v := 0) f_155_84 rfl (by decide) ?_
      refine r_aload_n (v := 0) f_155_85 rfl (by decide) ?_
      refine r_getr (q := 10) f_155_86 rfl (by decide) (Or.inl rfl) rfl ?_
      refine r_iconst f_155_89 (by decide) ?_
      refine r_iload_n (v := x1) f_155_90 rfl ?_
      refine r_callv (as := [vr 10, vi 0, vi x1]) (st' := [vr 0]) (ls0 := [vr 10, vi 0, vi x1]) f_155_91 (by decide) rfl rfl (Nat.le_of_ble_eq_true rfl) (Nat.le_of_ble_eq_true rfl) ⟨_, _, rfl, rfl⟩ rfl ?_
      refine c_Fl_worthTo isF_10 (o5 c1 c4) (by decide) (o6 c1 c4) ?_
      show Wp true i_C_thing 94 [vr 0, vi x1, vi x2] [vi (rWo (rmC h 10) 0 x1.toNat), vr 0] h Q
      refine r_callv (as := [vr 0, vi (rWo (rmC h 10) 0 x1.toNat)]) (st' := []) (ls0 := [vr 0, vi (rWo (rmC h 10) 0 x1.toNat)]) f_155_94 (by decide) rfl rfl (Nat.le_of_ble_eq_true rfl) (Nat.le_of_ble_eq_true rfl) ⟨_, _, rfl, rfl⟩ rfl ?_
      refine c_C_answer  ?_
      show Wp true i_C_thing 97 [vr 0, vi x1, vi x2] [vi (rWo (rmC h 10) 0 x1.toNat)] (hs h 0 0 0) Q
      exact r_reti f_155_97 rfl (k7 c1 c4)
    by_cases c5 : x2 = 3
    · refine r_swi (t := 98) f_155_18 3 c5 (by decide) rfl rfl ?_
      refine r_aload_n (v := 0) f_155_98 rfl (by decide) ?_
      refine r_aload_n (v := 0) f_155_99 rfl (by decide) ?_
      refine r_getr (q := 10) f_155_100 rfl (by decide) (Or.inl rfl) rfl ?_
      refine r_iconst f_155_103 (by decide) ?_
      refine r_iload_n (v := x1) f_155_104 rfl ?_
      refine r_callv (as := [vr 10, vi 1, vi x1]) (st' := [vr 0]) (ls0 := [vr 10, vi 1, vi x1]) f_155_105 (by decide) rfl rfl (Nat.le_of_ble_eq_true rfl) (Nat.le_of_ble_eq_true rfl) ⟨_, _, rfl, rfl⟩ rfl ?_
      refine c_Fl_worthTo isF_10 (o8 c1 c5) (by decide) (o9 c1 c5) ?_
      show Wp true i_C_thing 108 [vr 0, vi x1, vi x2] [vi (rWo (rmC h 10) 1 x1.toNat), vr 0] h Q
      refine r_callv (as := [vr 0, vi (rWo (rmC h 10) 1 x1.toNat)]) (st' := []) (ls0 := [vr 0, vi (rWo (rmC h 10) 1 x1.toNat)]) f_155_108 (by decide) rfl rfl (Nat.le_of_ble_eq_true rfl) (Nat.le_of_ble_eq_true rfl) ⟨_, _, rfl, rfl⟩ rfl ?_
      refine c_C_answer  ?_
      show Wp true i_C_thing 111 [vr 0, vi x1, vi x2] [vi (rWo (rmC h 10) 1 x1.toNat)] (hs h 0 0 0) Q
      exact r_reti f_155_111 rfl (k10 c1 c5)
    by_cases c6 : x2 = 4
    · refine r_swi (t := 112) f_155_18 4 c6 (by decide) rfl rfl ?_
      refine r_aload_n (v := 0) f_155_112 rfl (by decide) ?_
      refine r_aload_n (v := 0) f_155_113 rfl (by decide) ?_
      refine r_getr (q := 10) f_155_114 rfl (by decide) (Or.inl rfl) rfl ?_
      refine r_getr (q := 17) f_155_117 rfl (by decide) (Or.inl rfl) rfl ?_
      refine r_iload_n (v := x1) f_155_120 rfl ?_
      refine r_iaload (n := 10) (v := h 17 x1.toNat) f_155_121 ⟨rfl, rfl⟩ (o11 c1 c6) rfl ?_
      refine r_callv (as := [vr 0, vi (h 17 x1.toNat)]) (st' := []) (ls0 := [vr 0, vi (h 17 x1.toNat)]) f_155_122 (by decide) rfl rfl (Nat.le_of_ble_eq_true rfl) (Nat.le_of_ble_eq_true rfl) ⟨_, _, rfl, rfl⟩ rfl ?_
      refine c_C_answerOrNone (o12 c1 c6) ?_
      show Wp true i_C_thing 125 [vr 0, vi x1, vi x2] [vi (h 17 x1.toNat)] (hs h 0 0 (if (h 17 x1.toNat) < 0 then 6 else 0)) Q
      exact r_reti f_155_125 rfl (k13 c1 c6)
    by_cases c7 : x2 = 5
    · refine r_swi (t := 126) f_155_18 5 c7 (by decide) rfl rfl ?_
      refine r_aload_n (v := 0) f_155_126 rfl (by decide) ?_
      refine r_aload_n (v := 0) f_155_127 rfl (by decide) ?_
      refine r_getr (q := 10) f_155_128 rfl (by decide) (Or.inl rfl) rfl ?_
      refine r_iload_n (v := x1) f_155_131 rfl ?_
      refine r_callv (as := [vr 10, vi x1]) (st' := [vr 0]) (ls0 := [vr 10, vi x1]) f_155_132 (by decide) rfl rfl (Nat.le_of_ble_eq_true rfl) (Nat.le_of_ble_eq_true rfl) ⟨_, _, rfl, rfl⟩ rfl ?_
      refine c_Fl_isBig isF_10 ?_
      show Wp true i_C_thing 135 [vr 0, vi x1, vi x2] [vi (bi (o_and (o_shr (h 10 12) x1) 1 = 1)), vr 0] h Q
      refine r_br (t := 142) f_155_135 rfl cb_bf (fun c3 => ?_) (fun c3 => ?_)
      · refine r_iconst f_155_142 (by decide) ?_
        refine r_callv (as := [vr 0, vi 0]) (st' := []) (ls0 := [vr 0, vi 0]) f_155_143 (by decide) rfl rfl (Nat.le_of_ble_eq_true rfl) (Nat.le_of_ble_eq_true rfl) ⟨_, _, rfl, rfl⟩ rfl ?_
        refine c_C_answer  ?_
        show Wp true i_C_thing 146 [vr 0, vi x1, vi x2] [vi 0] (hs h 0 0 0) Q
        exact r_reti f_155_146 rfl (k14 c1 c7 c3)
      · have c3 := Decidable.not_not.mp c3
        refine r_iconst f_155_138 (by decide) ?_
        refine r_goto (t := 143) f_155_139 rfl ?_
        refine r_callv (as := [vr 0, vi 1]) (st' := []) (ls0 := [vr 0, vi 1]) f_155_143 (by decide) rfl rfl (Nat.le_of_ble_eq_true rfl) (Nat.le_of_ble_eq_true rfl) ⟨_, _, rfl, rfl⟩ rfl ?_
        refine c_C_answer  ?_
        show Wp true i_C_thing 146 [vr 0, vi x1, vi x2] [vi 1] (hs h 0 0 0) Q
        exact r_reti f_155_146 rfl (k15 c1 c7 c3)
    refine r_swo (t := 147) f_155_18 (by omega) rfl ?_
    refine r_aload_n (v := 0) f_155_147 rfl (by decide) ?_
    refine r_iconst f_155_148 (by decide) ?_
    refine r_callv (as := [vr 0, vi 1]) (st' := []) (ls0 := [vr 0, vi 1]) f_155_149 (by decide) rfl rfl (Nat.le_of_ble_eq_true rfl) (Nat.le_of_ble_eq_true rfl) ⟨_, _, rfl, rfl⟩ rfl ?_
    refine c_C_refuse  ?_
    show Wp true i_C_thing 152 [vr 0, vi x1, vi x2] [vi (-1)] (hs h 0 0 1) Q
    exact r_reti f_155_152 rfl (k16 c1 c2 c3 c4 c5 c6 c7)
  · refine r_aload_n (v := 0) f_155_11 rfl (by decide) ?_
    refine r_iconst f_155_12 (by decide) ?_
    refine r_callv (as := [vr 0, vi 1]) (st' := []) (ls0 := [vr 0, vi 1]) f_155_13 (by decide) rfl rfl (Nat.le_of_ble_eq_true rfl) (Nat.le_of_ble_eq_true rfl) ⟨_, _, rfl, rfl⟩ rfl ?_
    refine c_C_refuse  ?_
    show Wp true i_C_thing 16 [vr 0, vi x1, vi x2] [vi (-1)] (hs h 0 0 1) Q
    exact r_reti f_155_16 rfl (k17 c1)

theorem c_C_thing {Q : PQ} {h : HP} {x1 : Int} {x2 : Int} (o1 : WR (rmC h 10)) (k : Q (some (vi ((qThing (rmC h 10) x1 x2).1))) (hs h 0 0 ((qThing (rmC h 10) x1 x2).2))) :
    Wp true i_C_thing 0 [vr 0, vi x1, vi x2] [] h Q := by
  have w := WC_0 o1
  have e3 : rmC h 10 0 3 = h 10 3 := rfl
  refine g_C_thing_0 ?_ ?_ ?_ ?_ ?_ ?_ ?_ ?_ ?_ ?_ ?_ ?_ ?_ ?_ ?_ ?_ ?_
  · intro c1 c2; (try simp only [Int.toNat_natCast] at c1 c2); first | omega | (exfalso; omega) | exact ⟨by omega, by omega⟩ | (first | exact o1 | exact c1 | (have hh : -1 ≤ h 17 x1.toNat := (WC_t o1 c1.1 c1.2).2.2.2.2.1; omega) | (have hh := WC_t o1 c1.1 c1.2; omega))
  · intro c1 c2; (try simp only [Int.toNat_natCast] at c1 c2)
    obtain ⟨t1, t2, t3, t4, t5, t6⟩ := cR_t (h := h) (f := 10) (i := x1.toNat) (show (x1.toNat : Int) < h 10 3 by omega)
    obtain ⟨v1, v2, v3, v4, v5, v6⟩ := o1.2.2.1 x1.toNat (show (x1.toNat : Int) < h 10 3 by omega)
    subst c2
    refine kq k ((if_pos ⟨c1, by decide, by decide⟩).trans ?_)
    show (rmC h 10 2 x1.toNat, if rmC h 10 2 x1.toNat < 0 then (6 : Int) else 0) = _
    rw [if_neg (by omega), t1]
  · intro c1 c3; (try simp only [Int.toNat_natCast] at c1 c3); first | omega | (exfalso; omega) | exact ⟨by omega, by omega⟩ | (first | exact o1 | exact c1 | (have hh : -1 ≤ h 17 x1.toNat := (WC_t o1 c1.1 c1.2).2.2.2.2.1; omega) | (have hh := WC_t o1 c1.1 c1.2; omega))
  · intro c1 c3; (try simp only [Int.toNat_natCast] at c1 c3)
    obtain ⟨t1, t2, t3, t4, t5, t6⟩ := cR_t (h := h) (f := 10) (i := x1.toNat) (show (x1.toNat : Int) < h 10 3 by omega)
    obtain ⟨v1, v2, v3, v4, v5, v6⟩ := o1.2.2.1 x1.toNat (show (x1.toNat : Int) < h 10 3 by omega)
    subst c3
    refine kq k ((if_pos ⟨c1, by decide, by decide⟩).trans ?_)
    show (rmC h 10 3 x1.toNat, if rmC h 10 3 x1.toNat < 0 then (6 : Int) else 0) = _
    rw [if_neg (by omega), t2]
  · intro c1 c4; (try simp only [Int.toNat_natCast] at c1 c4); first | omega | (exfalso; omega) | exact ⟨by omega, by omega⟩ | (first | exact o1 | exact c1 | (have hh : -1 ≤ h 17 x1.toNat := (WC_t o1 c1.1 c1.2).2.2.2.2.1; omega) | (have hh := WC_t o1 c1.1 c1.2; omega))
  · intro c1 c4; (try simp only [Int.toNat_natCast] at c1 c4); first | omega | (exfalso; omega) | exact ⟨by omega, by omega⟩ | (first | exact o1 | exact c1 | (have hh : -1 ≤ h 17 x1.toNat := (WC_t o1 c1.1 c1.2).2.2.2.2.1; omega) | (have hh := WC_t o1 c1.1 c1.2; omega))
  · intro c1 c4; (try simp only [Int.toNat_natCast] at c1 c4)
    obtain ⟨t1, t2, t3, t4, t5, t6⟩ := cR_t (h := h) (f := 10) (i := x1.toNat) (show (x1.toNat : Int) < h 10 3 by omega)
    obtain ⟨v1, v2, v3, v4, v5, v6⟩ := o1.2.2.1 x1.toNat (show (x1.toNat : Int) < h 10 3 by omega)
    subst c4
    refine kq k ((if_pos ⟨c1, by decide, by decide⟩).trans ?_)
    show (rmC h 10 4 x1.toNat, if rmC h 10 4 x1.toNat < 0 then (6 : Int) else 0) = _
    rw [if_neg (by omega)]; rfl
  · intro c1 c5; (try simp only [Int.toNat_natCast] at c1 c5); first | omega | (exfalso; omega) | exact ⟨by omega, by omega⟩ | (first | exact o1 | exact c1 | (have hh : -1 ≤ h 17 x1.toNat := (WC_t o1 c1.1 c1.2).2.2.2.2.1; omega) | (have hh := WC_t o1 c1.1 c1.2; omega))
  · intro c1 c5; (try simp only [Int.toNat_natCast] at c1 c5); first | omega | (exfalso; omega) | exact ⟨by omega, by omega⟩ | (first | exact o1 | exact c1 | (have hh : -1 ≤ h 17 x1.toNat := (WC_t o1 c1.1 c1.2).2.2.2.2.1; omega) | (have hh := WC_t o1 c1.1 c1.2; omega))
  · intro c1 c5; (try simp only [Int.toNat_natCast] at c1 c5)
    obtain ⟨t1, t2, t3, t4, t5, t6⟩ := cR_t (h := h) (f := 10) (i := x1.toNat) (show (x1.toNat : Int) < h 10 3 by omega)
    obtain ⟨v1, v2, v3, v4, v5, v6⟩ := o1.2.2.1 x1.toNat (show (x1.toNat : Int) < h 10 3 by omega)
    subst c5
    refine kq k ((if_pos ⟨c1, by decide, by decide⟩).trans ?_)
    show (rmC h 10 5 x1.toNat, if rmC h 10 5 x1.toNat < 0 then (6 : Int) else 0) = _
    rw [if_neg (by omega)]; rfl
  · intro c1 c6; (try simp only [Int.toNat_natCast] at c1 c6); first | omega | (exfalso; omega) | exact ⟨by omega, by omega⟩ | (first | exact o1 | exact c1 | (have hh : -1 ≤ h 17 x1.toNat := (WC_t o1 c1.1 c1.2).2.2.2.2.1; omega) | (have hh := WC_t o1 c1.1 c1.2; omega))
  · intro c1 c6; (try simp only [Int.toNat_natCast] at c1 c6); first | omega | (exfalso; omega) | exact ⟨by omega, by omega⟩ | (first | exact o1 | exact c1 | (have hh : -1 ≤ h 17 x1.toNat := (WC_t o1 c1.1 c1.2).2.2.2.2.1; omega) | (have hh := WC_t o1 c1.1 c1.2; omega))
  · intro c1 c6; (try simp only [Int.toNat_natCast] at c1 c6)
    obtain ⟨t1, t2, t3, t4, t5, t6⟩ := cR_t (h := h) (f := 10) (i := x1.toNat) (show (x1.toNat : Int) < h 10 3 by omega)
    obtain ⟨v1, v2, v3, v4, v5, v6⟩ := o1.2.2.1 x1.toNat (show (x1.toNat : Int) < h 10 3 by omega)
    subst c6
    refine kq k ((if_pos ⟨c1, by decide, by decide⟩).trans ?_)
    show (rmC h 10 6 x1.toNat, if rmC h 10 6 x1.toNat < 0 then (6 : Int) else 0) = _
    rw [t5]
  · intro c1 c7 c3; (try simp only [Int.toNat_natCast] at c1 c7 c3)
    obtain ⟨t1, t2, t3, t4, t5, t6⟩ := cR_t (h := h) (f := 10) (i := x1.toNat) (show (x1.toNat : Int) < h 10 3 by omega)
    obtain ⟨v1, v2, v3, v4, v5, v6⟩ := o1.2.2.1 x1.toNat (show (x1.toNat : Int) < h 10 3 by omega)
    subst c7
    refine kq k ((if_pos ⟨c1, by decide, by decide⟩).trans ?_)
    show (rmC h 10 7 x1.toNat, if rmC h 10 7 x1.toNat < 0 then (6 : Int) else 0) = _
    have e0 : o_and (o_shr (h 10 12) (x1.toNat : Int)) 1 = 0 := by rw [Int.toNat_of_nonneg c1.1] at t6 ⊢; omega
    rw [if_neg (by omega), t6, e0]
  · intro c1 c7 c3; (try simp only [Int.toNat_natCast] at c1 c7 c3)
    obtain ⟨t1, t2, t3, t4, t5, t6⟩ := cR_t (h := h) (f := 10) (i := x1.toNat) (show (x1.toNat : Int) < h 10 3 by omega)
    obtain ⟨v1, v2, v3, v4, v5, v6⟩ := o1.2.2.1 x1.toNat (show (x1.toNat : Int) < h 10 3 by omega)
    subst c7
    refine kq k ((if_pos ⟨c1, by decide, by decide⟩).trans ?_)
    show (rmC h 10 7 x1.toNat, if rmC h 10 7 x1.toNat < 0 then (6 : Int) else 0) = _
    have e0 : o_and (o_shr (h 10 12) (x1.toNat : Int)) 1 = 1 := by rw [Int.toNat_of_nonneg c1.1]; exact c3
    rw [if_neg (by omega), t6, e0]
  · intro c1 c2 c3 c4 c5 c6 c7; (try simp only [Int.toNat_natCast] at c1 c2 c3 c4 c5 c6 c7); first | (exfalso; omega) | (exact kq k (if_neg (fun q => by omega)))
  · intro c1; (try simp only [Int.toNat_natCast] at c1); first | (exfalso; omega) | (exact kq k (if_neg (fun q => by omega)))

theorem g_M_thing_0 {Q : PQ} {h : HP} {x1 : Int} {x2 : Int} 
    (k1 : ¬ (0 ≤ x1 ∧ x1 < h 104 2) → Q (some (vi (-1))) (hs h 103 2 1))
    (k2 : (0 ≤ x1 ∧ x1 < h 104 2) → x2 < 0 → Q (some (vi (-1))) (hs h 103 2 1))
    (k3 : (0 ≤ x1 ∧ x1 < h 104 2) → ¬ x2 < 0 → 5 < x2 → Q (some (vi (-1))) (hs h 103 2 1))
    (o4 : (0 ≤ x1 ∧ x1 < h 104 2) → ¬ x2 < 0 → ¬ 5 < x2 → 0 ≤ x1 ∧ x1 < 100)
    (o5 : (0 ≤ x1 ∧ x1 < h 104 2) → ¬ x2 < 0 → ¬ 5 < x2 → -2147483648 ≤ (15 + 6 * x1) + x2 ∧ (15 + 6 * x1) + x2 ≤ 2147483647)
    (o6 : (0 ≤ x1 ∧ x1 < h 104 2) → ¬ x2 < 0 → ¬ 5 < x2 → 0 ≤ (15 + 6 * x1) + x2 ∧ (15 + 6 * x1) + x2 < 3000)
    (k7 : (0 ≤ x1 ∧ x1 < h 104 2) → ¬ x2 < 0 → ¬ 5 < x2 → Q (some (vi (h 104 ((15 + 6 * x1) + x2).toNat))) (hs h 103 2 (if (h 104 ((15 + 6 * x1) + x2).toNat) = -1 then 6 else 0))) :
    Wp true i_M_thing 0 [vr 103, vi x1, vi x2] [] h Q := by
  refine r_aload_n (v := 103) f_287_0 rfl (by decide) ?_
  refine r_iload_n (v := x1) f_287_1 rfl ?_
  refine r_callv (as := [vr 103, vi x1]) (st' := []) (ls0 := [vr 103, vi x1]) f_287_2 (by decide) rfl rfl (Nat.le_of_ble_eq_true rfl) (Nat.le_of_ble_eq_true rfl) ⟨_, _, rfl, rfl⟩ rfl ?_
  refine c_M_isThing  ?_
  show Wp true i_M_thing 5 [vr 103, vi x1, vi x2] [vi (bi (0 ≤ x1 ∧ x1 < h 104 2))] h Q
  refine r_br (t := 35) f_287_5 rfl cb_bf (fun c1 => ?_) (fun c1 => ?_)
  · refine r_aload_n (v := 103) f_287_35 rfl (by decide) ?_
    refine r_iconst f_287_36 (by decide) ?_
    refine r_callv (as := [vr 103, vi 1]) (st' := []) (ls0 := [vr 103, vi 1]) f_287_37 (by decide) rfl rfl (Nat.le_of_ble_eq_true rfl) (Nat.le_of_ble_eq_true rfl) ⟨_, _, rfl, rfl⟩ rfl ?_
    refine c_M_refuse  ?_
    show Wp true i_M_thing 40 [vr 103, vi x1, vi x2] [vi (-1)] (hs h 103 2 1) Q
    exact r_reti f_287_40 rfl (k1 c1)
  · have c1 := Decidable.not_not.mp c1
    refine r_iload_n (v := x2) f_287_8 rfl ?_
    refine r_br (t := 35) f_287_9 rfl cb_lt (fun c2 => ?_) (fun c2 => ?_)
    · refine r_aload_n (v := 103) f_287_35 rfl (by decide) ?_
      refine r_iconst f_287_36 (by decide) ?_
      refine r_callv (as := [vr 103, vi 1]) (st' := []) (ls0 := [vr 103, vi 1]) f_287_37 (by decide) rfl rfl (Nat.le_of_ble_eq_true rfl) (Nat.le_of_ble_eq_true rfl) ⟨_, _, rfl, rfl⟩ rfl ?_
      refine c_M_refuse  ?_
      show Wp true i_M_thing 40 [vr 103, vi x1, vi x2] [vi (-1)] (hs h 103 2 1) Q
      exact r_reti f_287_40 rfl (k2 c1 c2)
    · refine r_iload_n (v := x2) f_287_12 rfl ?_
      refine r_iconst f_287_13 (by decide) ?_
      refine r_br2 (t := 35) f_287_14 rfl cb_gt (fun c3 => ?_) (fun c3 => ?_)
      · refine r_aload_n (v := 103) f_287_35 rfl (by decide) ?_
        refine r_iconst f_287_36 (by decide) ?_
        refine r_callv (as := [vr 103, vi 1]) (st' := []) (ls0 := [vr 103, vi 1]) f_287_37 (by decide) rfl rfl (Nat.le_of_ble_eq_true rfl) (Nat.le_of_ble_eq_true rfl) ⟨_, _, rfl, rfl⟩ rfl ?_
        refine c_M_refuse  ?_
        show Wp true i_M_thing 40 [vr 103, vi x1, vi x2] [vi (-1)] (hs h 103 2 1) Q
        exact r_reti f_287_40 rfl (k3 c1 c2 c3)
      · refine r_aload_n (v := 103) f_287_17 rfl (by decide) ?_
        refine r_aload_n (v := 103) f_287_18 rfl (by decide) ?_
        refine r_getr (q := 104) f_287_19 rfl (by decide) (Or.inl rfl) rfl ?_
        refine r_iload_n (v := x1) f_287_22 rfl ?_
        refine r_calls (as := [vi x1]) (st' := [vr 104, vr 103]) (ls0 := [vi x1]) f_287_23 (by decide) (by decide) rfl rfl (Nat.le_of_ble_eq_true rfl) (Nat.le_of_ble_eq_true rfl) rfl ?_
        refine c_M_thingRow (o4 c1 c2 c3) ?_
        show Wp true i_M_thing 26 [vr 103, vi x1, vi x2] [vi (15 + 6 * x1), vr 104, vr 103] h Q
        refine r_iload_n (v := x2) f_287_26 rfl ?_
        refine r_iadd (u := (15 + 6 * x1) + x2) f_287_27 rfl (o5 c1 c2 c3) ?_
        refine r_iaload (n := 3000) (v := h 104 ((15 + 6 * x1) + x2).toNat) f_287_28 ⟨rfl, rfl⟩ (o6 c1 c2 c3) rfl ?_
        refine r_callv (as := [vr 103, vi (h 104 ((15 + 6 * x1) + x2).toNat)]) (st' := []) (ls0 := [vr 103, vi (h 104 ((15 + 6 * x1) + x2).toNat)]) f_287_29 (by decide) rfl rfl (Nat.le_of_ble_eq_true rfl) (Nat.le_of_ble_eq_true rfl) ⟨_, _, rfl, rfl⟩ rfl ?_
        refine c_M_orNone  ?_
        show Wp true i_M_thing 32 [vr 103, vi x1, vi x2] [vi (h 104 ((15 + 6 * x1) + x2).toNat)] (hs h 103 2 (if (h 104 ((15 + 6 * x1) + x2).toNat) = -1 then 6 else 0)) Q
        refine r_goto (t := 40) f_287_32 rfl ?_
        exact r_reti f_287_40 rfl (k7 c1 c2 c3)

theorem c_M_thing {Q : PQ} {h : HP} {x1 : Int} {x2 : Int} (o1 : WR (rmM h 0)) (k : Q (some (vi ((qThing (rmM h 0) x1 x2).1))) (hs h 103 2 ((qThing (rmM h 0) x1 x2).2))) :
    Wp true i_M_thing 0 [vr 103, vi x1, vi x2] [] h Q := by
  have w := WM_0 o1
  have e3 : rmM h 0 0 3 = h 104 2 := rfl
  refine g_M_thing_0 ?_ ?_ ?_ ?_ ?_ ?_ ?_
  · intro c1; (try simp only [Int.toNat_natCast] at c1); first | (exfalso; omega) | (exact kq k (if_neg (fun q => by omega)))
  · intro c1 c2; (try simp only [Int.toNat_natCast] at c1 c2); first | (exfalso; omega) | (exact kq k (if_neg (fun q => by omega)))
  · intro c1 c2 c3; (try simp only [Int.toNat_natCast] at c1 c2 c3); first | (exfalso; omega) | (exact kq k (if_neg (fun q => by omega)))
  · intro c1 c2 c3; (try simp only [Int.toNat_natCast] at c1 c2 c3); first | omega | (exfalso; omega) | exact ⟨by omega, by omega⟩ | (exact o1)
  · intro c1 c2 c3; (try simp only [Int.toNat_natCast] at c1 c2 c3); first | omega | (exfalso; omega) | exact ⟨by omega, by omega⟩ | (exact o1)
  · intro c1 c2 c3; (try simp only [Int.toNat_natCast] at c1 c2 c3); first | omega | (exfalso; omega) | exact ⟨by omega, by omega⟩ | (exact o1)
  · intro c1 c2 c3; (try simp only [Int.toNat_natCast] at c1 c2 c3)
    obtain ⟨v1, v2, v3, v4, v5, v6⟩ := o1.2.2.1 x1.toNat (show (x1.toNat : Int) < h 104 2 by omega)
    obtain ⟨t1, t2, t3, t4, t5, t6⟩ := mR_t (h := h) (i := x1.toNat) (show (x1.toNat : Int) < h 104 2 by omega)
    have e0 : rmM h 0 (2 + x2.toNat) x1.toNat = h 104 ((15 + 6 * x1) + x2).toNat := by
      have ey : x2 = 0 ∨ x2 = 1 ∨ x2 = 2 ∨ x2 = 3 ∨ x2 = 4 ∨ x2 = 5 := by omega
      have ea : ((15 + 6 * x1) + x2).toNat = 15 + 6 * x1.toNat + x2.toNat := by omega
      rw [ea]
      rcases ey with rfl | rfl | rfl | rfl | rfl | rfl
      · exact t1
      · exact t2
      · exact t3
      · exact t4
      · exact t5
      · exact t6
    have e1 : -1 ≤ rmM h 0 (2 + x2.toNat) x1.toNat := by
      have ey : x2 = 0 ∨ x2 = 1 ∨ x2 = 2 ∨ x2 = 3 ∨ x2 = 4 ∨ x2 = 5 := by omega
      rcases ey with rfl | rfl | rfl | rfl | rfl | rfl
      · show -1 ≤ rmM h 0 2 x1.toNat; omega
      · show -1 ≤ rmM h 0 3 x1.toNat; omega
      · show -1 ≤ rmM h 0 4 x1.toNat; omega
      · show -1 ≤ rmM h 0 5 x1.toNat; omega
      · show -1 ≤ rmM h 0 6 x1.toNat; omega
      · show -1 ≤ rmM h 0 7 x1.toNat; omega
    refine kq k ((if_pos ⟨c1, by omega, by omega⟩).trans ?_)
    rw [e0, st6 (by rw [← e0]; exact e1)]

theorem A_thing {n : Nat} {h : HP} {x1 x2 : Int} (hR : Rel n h) : Agree n h i_C_thing i_M_thing [vr 0, vi x1, vi x2] [vr 103, vi x1, vi x2] := by
  have s := hR.2.2.2.2.2.1
  have hW := s.2.1
  rw [s.1] at hW
  refine ag_q (v := vi (qThing (rmC h 10) x1 x2).1) (st := (qThing (rmC h 10) x1 x2).2) hR (fun Q k => c_C_thing s.2.1 k) (fun Q k => c_M_thing (by rw [rm_q]; exact hW) ?_)
  rw [rm_q, ← s.1]
  exact k
