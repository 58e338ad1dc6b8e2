theorem g_M_wrongPlan_0 {Q : PQ} {h : HP} {x1 : Int} {x2 : Int} {x3 : Int} 
    (k1 : ¬ (x1 = 0 ∨ x1 = 1) → Q (some (vi 1)) h)
    (k2 : (x1 = 0 ∨ x1 = 1) → (0 ≤ x3 ∧ x3 ≤ 20) → Wp true i_M_hasInAll 0 [vr 103, vi x2, vr 9999, vr 9999] [] h (fun r h' => Wp true i_M_wrongPlan 28 [vr 103, vi x1, vi x2, vi x3] (r.toList ++ []) h' Q))
    (k3 : (x1 = 0 ∨ x1 = 1) → ¬ (0 ≤ x3 ∧ x3 ≤ 20) → Q (some (vi 1)) h) :
    Wp true i_M_wrongPlan 0 [vr 103, vi x1, vi x2, vi x3] [] h Q := by
  refine r_iload_n (v := x1) f_338_0 rfl ?_
  refine r_calls (as := [vi x1]) (st' := []) (ls0 := [vi x1]) f_338_1 (by decide) (by decide) rfl rfl (Nat.le_of_ble_eq_true rfl) (Nat.le_of_ble_eq_true rfl) rfl ?_
  refine c_M_isLand  ?_
  show Wp true i_M_wrongPlan 4 [vr 103, vi x1, vi x2, vi x3] [vi (bi (x1 = 0 ∨ x1 = 1))] h Q
  refine r_br (t := 19) f_338_4 rfl cb_bf (fun c1 => ?_) (fun c1 => ?_)
  · refine r_iconst f_338_19 (by decide) ?_
    refine r_goto (t := 38) f_338_20 rfl ?_
    exact r_reti f_338_38 rfl (k1 c1)
  · have c1 := Decidable.not_not.mp c1
    refine r_iload_n (v := x3) f_338_7 rfl ?_
    refine r_i2l f_338_8 ?_
    refine r_lconst (v := 0) f_338_9 rfl ?_
    refine r_ldc2_w f_338_10 (by decide) ?_
    refine r_calls (as := [vj x3, vj 0, vj 20]) (st' := []) (ls0 := [vj x3, vr 9999, vj 0, vr 9999, vj 20, vr 9999]) f_338_13 (by decide) (by decide) rfl rfl (Nat.le_of_ble_eq_true rfl) (Nat.le_of_ble_eq_true rfl) rfl ?_
    refine c_M_isFrom  ?_
    show Wp true i_M_wrongPlan 16 [vr 103, vi x1, vi x2, vi x3] [vi (bi (0 ≤ x3 ∧ x3 ≤ 20))] h Q
    refine r_br (t := 23) f_338_16 rfl cb_bt (fun c2 => ?_) (fun c2 => ?_)
    · refine r_aload_n (v := 103) f_338_23 rfl (by decide) ?_
      refine r_iload_n (v := x2) f_338_24 rfl ?_
      exact r_callv (as := [vr 103, vi x2]) (st' := []) (ls0 := [vr 103, vi x2, vr 9999, vr 9999]) f_338_25 (by decide) rfl rfl (Nat.le_of_ble_eq_true rfl) (Nat.le_of_ble_eq_true rfl) ⟨_, _, rfl, rfl⟩ rfl (k2 c1 c2)
    · refine r_iconst f_338_19 (by decide) ?_
      refine r_goto (t := 38) f_338_20 rfl ?_
      exact r_reti f_338_38 rfl (k3 c1 c2)

theorem g_M_wrongPlan_28 {Q : PQ} {h : HP} {x1 : Int} {x2 : Int} {x3 : Int} {s0 : Int} 
    (k1 : x3 ≤ s0 → Q (some (vi 0)) h)
    (k2 : ¬ x3 ≤ s0 → Q (some (vi 6)) h) :
    Wp true i_M_wrongPlan 28 [vr 103, vi x1, vi x2, vi x3] [vi s0] h Q := by
  refine r_iload_n (v := x3) f_338_28 rfl ?_
  refine r_br2 (t := 37) f_338_29 rfl cb_ge (fun c1 => ?_) (fun c1 => ?_)
  · refine r_iconst f_338_37 (by decide) ?_
    exact r_reti f_338_38 rfl (k1 c1)
  · refine r_bipush f_338_32 (by decide) ?_
    refine r_goto (t := 38) f_338_34 rfl ?_
    exact r_reti f_338_38 rfl (k2 c1)

theorem g_M_planned_0 {Q : PQ} {h : HP} {x1 : Int} {x2 : Int} {x3 : Int} 
    (k1 : Wp true i_M_wrongPlan 0 [vr 103, vi x1, vi x2, vi x3] [] h (fun r h' => Wp true i_M_planned 7 [vr 103, vi x1, vi x2, vi x3, vr 9999] (r.toList ++ []) h' Q)) :
    Wp true i_M_planned 0 [vr 103, vi x1, vi x2, vi x3, vr 9999] [] h Q := by
  refine r_aload_n (v := 103) f_339_0 rfl (by decide) ?_
  refine r_iload_n (v := x1) f_339_1 rfl ?_
  refine r_iload_n (v := x2) f_339_2 rfl ?_
  refine r_iload_n (v := x3) f_339_3 rfl ?_
  exact r_callv (as := [vr 103, vi x1, vi x2, vi x3]) (st' := []) (ls0 := [vr 103, vi x1, vi x2, vi x3]) f_339_4 (by decide) rfl rfl (Nat.le_of_ble_eq_true rfl) (Nat.le_of_ble_eq_true rfl) ⟨_, _, rfl, rfl⟩ rfl k1

theorem g_M_planned_7 {Q : PQ} {h : HP} {x1 : Int} {x2 : Int} {x3 : Int} {s0 : Int} 
    (k1 : s0 ≤ 0 → Wp true i_M_laysPlan 0 [vr 103, vi x1, vi x2, vi x3, vr 9999, vr 9999, vr 9999, vr 9999] [] h (fun r h' => Wp true i_M_planned 28 [vr 103, vi x1, vi x2, vi x3, vi s0] (r.toList ++ []) h' Q))
    (k2 : ¬ s0 ≤ 0 → Q (some (vi (-1))) (hs h 103 2 s0)) :
    Wp true i_M_planned 7 [vr 103, vi x1, vi x2, vi x3, vr 9999] [vi s0] h Q := by
  refine r_istore (ls' := [vr 103, vi x1, vi x2, vi x3, vi s0]) f_339_7 (Nat.le_of_ble_eq_true rfl) rfl ?_
  refine r_iload (v := s0) f_339_9 rfl ?_
  refine r_br (t := 21) f_339_11 rfl cb_le (fun c1 => ?_) (fun c1 => ?_)
  · refine r_aload_n (v := 103) f_339_21 rfl (by decide) ?_
    refine r_iload_n (v := x1) f_339_22 rfl ?_
    refine r_iload_n (v := x2) f_339_23 rfl ?_
    refine r_iload_n (v := x3) f_339_24 rfl ?_
    exact r_callv (as := [vr 103, vi x1, vi x2, vi x3]) (st' := []) (ls0 := [vr 103, vi x1, vi x2, vi x3, vr 9999, vr 9999, vr 9999, vr 9999]) f_339_25 (by decide) rfl rfl (Nat.le_of_ble_eq_true rfl) (Nat.le_of_ble_eq_true rfl) ⟨_, _, rfl, rfl⟩ rfl (k1 c1)
  · refine r_aload_n (v := 103) f_339_14 rfl (by decide) ?_
    refine r_iload (v := s0) f_339_15 rfl ?_
    refine r_callv (as := [vr 103, vi s0]) (st' := []) (ls0 := [vr 103, vi s0]) f_339_17 (by decide) rfl rfl (Nat.le_of_ble_eq_true rfl) (Nat.le_of_ble_eq_true rfl) ⟨_, _, rfl, rfl⟩ rfl ?_
    refine c_M_refuse  ?_
    show Wp true i_M_planned 20 [vr 103, vi x1, vi x2, vi x3, vi s0] [vi (-1)] (hs h 103 2 s0) Q
    exact r_reti f_339_20 rfl (k2 c1)

theorem g_M_planned_28 {Q : PQ} {h : HP} {x1 : Int} {x2 : Int} {x3 : Int} {x4 : Int} 
    (o1 : 0 ≤ x3 ∧ x3 < 520)
    (k2 : Q (some (vi (h 114 x3.toNat))) (hs h 103 2 0)) :
    Wp true i_M_planned 28 [vr 103, vi x1, vi x2, vi x3, vi x4] [] h Q := by
  refine r_aload_n (v := 103) f_339_28 rfl (by decide) ?_
  refine r_aload_n (v := 103) f_339_29 rfl (by decide) ?_
  refine r_getr (q := 114) f_339_30 rfl (by decide) (Or.inl rfl) rfl ?_
  refine r_iload_n (v := x3) f_339_33 rfl ?_
  refine r_iaload (n := 520) (v := h 114 x3.toNat) f_339_34 ⟨rfl, rfl⟩ o1 rfl ?_
  refine r_callv (as := [vr 103, vi (h 114 x3.toNat)]) (st' := []) (ls0 := [vr 103, vi (h 114 x3.toNat)]) f_339_35 (by decide) rfl rfl (Nat.le_of_ble_eq_true rfl) (Nat.le_of_ble_eq_true rfl) ⟨_, _, rfl, rfl⟩ rfl ?_
  refine c_M_gives  ?_
  show Wp true i_M_planned 38 [vr 103, vi x1, vi x2, vi x3, vi x4] [vi (h 114 x3.toNat)] (hs h 103 2 0) Q
  exact r_reti f_339_38 rfl k2

theorem g_M_plannedIn_0 {Q : PQ} {h : HP} {x1 : Int} {x2 : Int} {x3 : Int} {x4 : Int} 
    (k1 : ¬ (0 ≤ x4 ∧ x4 < h 104 1) → Wp true i_M_plannedIn 20 [vr 103, vi x1, vi x2, vi x3, vi x4, vr 9999] [vi 1] h Q)
    (k2 : (0 ≤ x4 ∧ x4 < h 104 1) → Wp true i_M_wrongPlan 0 [vr 103, vi x1, vi x2, vi x3] [] h (fun r h' => Wp true i_M_plannedIn 16 [vr 103, vi x1, vi x2, vi x3, vi x4, vr 9999] (r.toList ++ []) h' Q)) :
    Wp true i_M_plannedIn 0 [vr 103, vi x1, vi x2, vi x3, vi x4, vr 9999] [] h Q := by
  refine r_aload_n (v := 103) f_340_0 rfl (by decide) ?_
  refine r_iload (v := x4) f_340_1 rfl ?_
  refine r_callv (as := [vr 103, vi x4]) (st' := []) (ls0 := [vr 103, vi x4]) f_340_3 (by decide) rfl rfl (Nat.le_of_ble_eq_true rfl) (Nat.le_of_ble_eq_true rfl) ⟨_, _, rfl, rfl⟩ rfl ?_
  refine c_M_isRow  ?_
  show Wp true i_M_plannedIn 6 [vr 103, vi x1, vi x2, vi x3, vi x4, vr 9999] [vi (bi (0 ≤ x4 ∧ x4 < h 104 1))] h Q
  refine r_br (t := 19) f_340_6 rfl cb_bf (fun c1 => ?_) (fun c1 => ?_)
  · refine r_iconst f_340_19 (by decide) ?_
    exact (k1 c1)
  · have c1 := Decidable.not_not.mp c1
    refine r_aload_n (v := 103) f_340_9 rfl (by decide) ?_
    refine r_iload_n (v := x1) f_340_10 rfl ?_
    refine r_iload_n (v := x2) f_340_11 rfl ?_
    refine r_iload_n (v := x3) f_340_12 rfl ?_
    exact r_callv (as := [vr 103, vi x1, vi x2, vi x3]) (st' := []) (ls0 := [vr 103, vi x1, vi x2, vi x3]) f_340_13 (by decide) rfl rfl (Nat.le_of_ble_eq_true rfl) (Nat.le_of_ble_eq_true rfl) ⟨_, _, rfl, rfl⟩ rfl (k2 c1)

theorem g_M_plannedIn_16 {Q : PQ} {h : HP} {x1 : Int} {x2 : Int} {x3 : Int} {x4 : Int} {s0 : Int} 
    (k1 : Wp true i_M_plannedIn 20 [vr 103, vi x1, vi x2, vi x3, vi x4, vr 9999] [vi s0] h Q) :
    Wp true i_M_plannedIn 16 [vr 103, vi x1, vi x2, vi x3, vi x4, vr 9999] [vi s0] h Q := by
  refine r_goto (t := 20) f_340_16 rfl ?_
  exact k1

theorem g_M_plannedIn_20 {Q : PQ} {h : HP} {x1 : Int} {x2 : Int} {x3 : Int} {x4 : Int} {s0 : Int} 
    (k1 : s0 ≤ 0 → Wp true i_M_laysPlan 0 [vr 103, vi x1, vi x2, vi x3, vr 9999, vr 9999, vr 9999, vr 9999] [] h (fun r h' => Wp true i_M_plannedIn 41 [vr 103, vi x1, vi x2, vi x3, vi x4, vi s0] (r.toList ++ []) h' Q))
    (k2 : ¬ s0 ≤ 0 → Q (some (vi (-1))) (hs h 103 2 s0)) :
    Wp true i_M_plannedIn 20 [vr 103, vi x1, vi x2, vi x3, vi x4, vr 9999] [vi s0] h Q := by
  refine r_istore (ls' := [vr 103, vi x1, vi x2, vi x3, vi x4, vi s0]) f_340_20 (Nat.le_of_ble_eq_true rfl) rfl ?_
  refine r_iload (v := s0) f_340_22 rfl ?_
  refine r_br (t := 34) f_340_24 rfl cb_le (fun c1 => ?_) (fun c1 => ?_)
  · refine r_aload_n (v := 103) f_340_34 rfl (by decide) ?_
    refine r_iload_n (v := x1) f_340_35 rfl ?_
    refine r_iload_n (v := x2) f_340_36 rfl ?_
    refine r_iload_n (v := x3) f_340_37 rfl ?_
    exact r_callv (as := [vr 103, vi x1, vi x2, vi x3]) (st' := []) (ls0 := [vr 103, vi x1, vi x2, vi x3, vr 9999, vr 9999, vr 9999, vr 9999]) f_340_38 (by decide) rfl rfl (Nat.le_of_ble_eq_true rfl) (Nat.le_of_ble_eq_true rfl) ⟨_, _, rfl, rfl⟩ rfl (k1 c1)
  · refine r_aload_n (v := 103) f_340_27 rfl (by decide) ?_
    refine r_iload (v := s0) f_340_28 rfl ?_
    refine r_callv (as := [vr 103, vi s0]) (st' := []) (ls0 := [vr 103, vi s0]) f_340_30 (by decide) rfl rfl (Nat.le_of_ble_eq_true rfl) (Nat.le_of_ble_eq_true rfl) ⟨_, _, rfl, rfl⟩ rfl ?_
    refine c_M_refuse  ?_
    show Wp true i_M_plannedIn 33 [vr 103, vi x1, vi x2, vi x3, vi x4, vi s0] [vi (-1)] (hs h 103 2 s0) Q
    exact r_reti f_340_33 rfl (k2 c1)

theorem g_M_plannedIn_41 {Q : PQ} {h : HP} {x1 : Int} {x2 : Int} {x3 : Int} {x4 : Int} {x5 : Int} 
    (k1 : Wp true i_M_givenIn 0 [vr 103, vi x1, vi x2, vi x3, vi x4, vr 9999, vr 9999, vr 9999] [] h (fun r h' => Wp true i_M_plannedIn 51 [vr 103, vi x1, vi x2, vi x3, vi x4, vi x5] (r.toList ++ [vr 103]) h' Q)) :
    Wp true i_M_plannedIn 41 [vr 103, vi x1, vi x2, vi x3, vi x4, vi x5] [] h Q := by
  refine r_aload_n (v := 103) f_340_41 rfl (by decide) ?_
  refine r_aload_n (v := 103) f_340_42 rfl (by decide) ?_
  refine r_iload_n (v := x1) f_340_43 rfl ?_
  refine r_iload_n (v := x2) f_340_44 rfl ?_
  refine r_iload_n (v := x3) f_340_45 rfl ?_
  refine r_iload (v := x4) f_340_46 rfl ?_
  exact r_callv (as := [vr 103, vi x1, vi x2, vi x3, vi x4]) (st' := [vr 103]) (ls0 := [vr 103, vi x1, vi x2, vi x3, vi x4, vr 9999, vr 9999, vr 9999]) f_340_48 (by decide) rfl rfl (Nat.le_of_ble_eq_true rfl) (Nat.le_of_ble_eq_true rfl) ⟨_, _, rfl, rfl⟩ rfl k1

theorem g_M_plannedIn_51 {Q : PQ} {h : HP} {x1 : Int} {x2 : Int} {x3 : Int} {x4 : Int} {x5 : Int} {s1 : Int} 
    (k1 : Q (some (vi s1)) (hs h 103 2 0)) :
    Wp true i_M_plannedIn 51 [vr 103, vi x1, vi x2, vi x3, vi x4, vi x5] [vi s1, vr 103] h Q := by
  refine r_callv (as := [vr 103, vi s1]) (st' := []) (ls0 := [vr 103, vi s1]) f_340_51 (by decide) rfl rfl (Nat.le_of_ble_eq_true rfl) (Nat.le_of_ble_eq_true rfl) ⟨_, _, rfl, rfl⟩ rfl ?_
  refine c_M_gives  ?_
  show Wp true i_M_plannedIn 54 [vr 103, vi x1, vi x2, vi x3, vi x4, vi x5] [vi s1] (hs h 103 2 0) Q
  exact r_reti f_340_54 rfl k1

theorem g_Ba_bestChange_0 {Q : PQ} {h : HP} {x1 : Int} 
    (o1 : 0 ≤ x1 ∧ x1 < 512)
    (k2 : Q (some (vi (h 91 x1.toNat))) h) :
    Wp true i_Ba_bestChange 0 [vr 89, vi x1] [] h Q := by
  refine r_aload_n (v := 89) f_4_0 rfl (by decide) ?_
  refine r_getr (q := 91) f_4_1 rfl (by decide) (Or.inl rfl) rfl ?_
  refine r_iload_n (v := x1) f_4_4 rfl ?_
  refine r_iaload (n := 512) (v := h 91 x1.toNat) f_4_5 ⟨rfl, rfl⟩ o1 rfl ?_
  exact r_reti f_4_6 rfl k2

theorem g_C_bargainFor_0 {Q : PQ} {h : HP} {x1 : Int} {x2 : Int} {x3 : Int} 
    (o1 : (0 ≤ x3 ∧ x3 ≤ 20) → WR (rmC h 10))
    (k2 : (0 ≤ x3 ∧ x3 ≤ 20) → x3 ≤ rByLine (rmC h 10) x2 → Wp true i_Ba_weigh 0 [vr 89, vr 10, vi x2, vi x1, vi x3, vr 9999, vr 9999] [] h (fun r h' => Wp true i_C_bargainFor 49 [vr 0, vi x1, vi x2, vi x3] (r.toList ++ []) h' Q))
    (k3 : (0 ≤ x3 ∧ x3 ≤ 20) → ¬ x3 ≤ rByLine (rmC h 10) x2 → Q (some (vi (-1))) (hs h 0 0 6))
    (k4 : ¬ (0 ≤ x3 ∧ x3 ≤ 20) → Q (some (vi (-1))) (hs h 0 0 1)) :
    Wp true i_C_bargainFor 0 [vr 0, vi x1, vi x2, vi x3] [] h Q := by
  refine r_iload_n (v := x3) f_214_0 rfl ?_
  refine r_iconst f_214_1 (by decide) ?_
  refine r_bipush f_214_2 (by decide) ?_
  refine r_calls (as := [vi x3, vi 0, vi 20]) (st' := []) (ls0 := [vi x3, vi 0, vi 20]) f_214_4 (by decide) (by decide) rfl rfl (Nat.le_of_ble_eq_true rfl) (Nat.le_of_ble_eq_true rfl) rfl ?_
  refine c_C_within  ?_
  show Wp true i_C_bargainFor 7 [vr 0, vi x1, vi x2, vi x3] [vi (bi (0 ≤ x3 ∧ x3 ≤ 20))] h Q
  refine r_br (t := 16) f_214_7 rfl cb_bt (fun c1 => ?_) (fun c1 => ?_)
  · refine r_aload_n (v := 0) f_214_16 rfl (by decide) ?_
    refine r_getr (q := 10) f_214_17 rfl (by decide) (Or.inl rfl) rfl ?_
    refine r_iload_n (v := x2) f_214_20 rfl ?_
    refine r_callv (as := [vr 10, vi x2]) (st' := []) (ls0 := [vr 10, vi x2, vr 9999, vr 9999]) f_214_21 (by decide) rfl rfl (Nat.le_of_ble_eq_true rfl) (Nat.le_of_ble_eq_true rfl) ⟨_, _, rfl, rfl⟩ rfl ?_
    refine c_Fl_boardsByLine isF_10 (o1 c1) ?_
    show Wp true i_C_bargainFor 24 [vr 0, vi x1, vi x2, vi x3] [vi (rByLine (rmC h 10) x2)] h Q
    refine r_iload_n (v := x3) f_214_24 rfl ?_
    refine r_br2 (t := 35) f_214_25 rfl cb_ge (fun c2 => ?_) (fun c2 => ?_)
    · refine r_aload_n (v := 0) f_214_35 rfl (by decide) ?_
      refine r_getr (q := 89) f_214_36 rfl (by decide) (Or.inl rfl) rfl ?_
      refine r_aload_n (v := 0) f_214_39 rfl (by decide) ?_
      refine r_getr (q := 10) f_214_40 rfl (by decide) (Or.inl rfl) rfl ?_
      refine r_iload_n (v := x2) f_214_43 rfl ?_
      refine r_iload_n (v := x1) f_214_44 rfl ?_
      refine r_iload_n (v := x3) f_214_45 rfl ?_
      exact r_callv (as := [vr 89, vr 10, vi x2, vi x1, vi x3]) (st' := []) (ls0 := [vr 89, vr 10, vi x2, vi x1, vi x3, vr 9999, vr 9999]) f_214_46 (by decide) rfl rfl (Nat.le_of_ble_eq_true rfl) (Nat.le_of_ble_eq_true rfl) ⟨_, _, rfl, rfl⟩ rfl (k2 c1 c2)
    · refine r_aload_n (v := 0) f_214_28 rfl (by decide) ?_
      refine r_bipush f_214_29 (by decide) ?_
      refine r_callv (as := [vr 0, vi 6]) (st' := []) (ls0 := [vr 0, vi 6]) f_214_31 (by decide) rfl rfl (Nat.le_of_ble_eq_true rfl) (Nat.le_of_ble_eq_true rfl) ⟨_, _, rfl, rfl⟩ rfl ?_
      refine c_C_refuse  ?_
      show Wp true i_C_bargainFor 34 [vr 0, vi x1, vi x2, vi x3] [vi (-1)] (hs h 0 0 6) Q
      exact r_reti f_214_34 rfl (k3 c1 c2)
  · refine r_aload_n (v := 0) f_214_10 rfl (by decide) ?_
    refine r_iconst f_214_11 (by decide) ?_
    refine r_callv (as := [vr 0, vi 1]) (st' := []) (ls0 := [vr 0, vi 1]) f_214_12 (by decide) rfl rfl (Nat.le_of_ble_eq_true rfl) (Nat.le_of_ble_eq_true rfl) ⟨_, _, rfl, rfl⟩ rfl ?_
    refine c_C_refuse  ?_
    show Wp true i_C_bargainFor 15 [vr 0, vi x1, vi x2, vi x3] [vi (-1)] (hs h 0 0 1) Q
    exact r_reti f_214_15 rfl (k4 c1)

theorem g_C_bargainFor_49 {Q : PQ} {h : HP} {x1 : Int} {x2 : Int} {x3 : Int} 
    (o1 : WR (rmC h 10))
    (o2 : x1 = 0 ∨ x1 = 1)
    (k3 : Wp true i_Ba_bestChange 0 [vr 89, vi x3] [] h (fun r h' => Wp true i_C_bargainFor 66 [vr 0, vi x1, vi x2, vi x3] (r.toList ++ [vi (rVal (rmC h 10) x1 x1), vr 0]) h' Q)) :
    Wp true i_C_bargainFor 49 [vr 0, vi x1, vi x2, vi x3] [] h Q := by
  refine r_aload_n (v := 0) f_214_49 rfl (by decide) ?_
  refine r_aload_n (v := 0) f_214_50 rfl (by decide) ?_
  refine r_getr (q := 10) f_214_51 rfl (by decide) (Or.inl rfl) rfl ?_
  refine r_iload_n (v := x1) f_214_54 rfl ?_
  refine r_callv (as := [vr 10, vi x1]) (st' := [vr 0]) (ls0 := [vr 10, vi x1]) f_214_55 (by decide) rfl rfl (Nat.le_of_ble_eq_true rfl) (Nat.le_of_ble_eq_true rfl) ⟨_, _, rfl, rfl⟩ rfl ?_
  refine c_Fl_valueOf isF_10 o1 o2 ?_
  show Wp true i_C_bargainFor 58 [vr 0, vi x1, vi x2, vi x3] [vi (rVal (rmC h 10) x1 x1), vr 0] h Q
  refine r_aload_n (v := 0) f_214_58 rfl (by decide) ?_
  refine r_getr (q := 89) f_214_59 rfl (by decide) (Or.inl rfl) rfl ?_
  refine r_iload_n (v := x3) f_214_62 rfl ?_
  exact r_callv (as := [vr 89, vi x3]) (st' := [vi (rVal (rmC h 10) x1 x1), vr 0]) (ls0 := [vr 89, vi x3]) f_214_63 (by decide) rfl rfl (Nat.le_of_ble_eq_true rfl) (Nat.le_of_ble_eq_true rfl) ⟨_, _, rfl, rfl⟩ rfl k3

theorem g_C_bargainFor_66 {Q : PQ} {h : HP} {x1 : Int} {x2 : Int} {x3 : Int} {s1 : Int} {s2 : Int} 
    (o1 : -2147483648 ≤ s1 + s2 ∧ s1 + s2 ≤ 2147483647)
    (k2 : Q (some (vi (s1 + s2))) (hs h 0 0 0)) :
    Wp true i_C_bargainFor 66 [vr 0, vi x1, vi x2, vi x3] [vi s2, vi s1, vr 0] h Q := by
  refine r_iadd (u := s1 + s2) f_214_66 rfl o1 ?_
  refine r_callv (as := [vr 0, vi (s1 + s2)]) (st' := []) (ls0 := [vr 0, vi (s1 + s2)]) f_214_67 (by decide) rfl rfl (Nat.le_of_ble_eq_true rfl) (Nat.le_of_ble_eq_true rfl) ⟨_, _, rfl, rfl⟩ rfl ?_
  refine c_C_answer  ?_
  show Wp true i_C_bargainFor 70 [vr 0, vi x1, vi x2, vi x3] [vi (s1 + s2)] (hs h 0 0 0) Q
  exact r_reti f_214_70 rfl k2

theorem g_C_bargainIn_0 {Q : PQ} {h : HP} {x1 : Int} {x2 : Int} {x3 : Int} {x4 : Int} 
    (k1 : ¬ (0 ≤ x3 ∧ x3 ≤ 20) → Q (some (vi (-1))) (hs h 0 0 1))
    (o2 : (0 ≤ x3 ∧ x3 ≤ 20) → (0 ≤ x4 ∧ x4 < h 10 1) → WR (rmC h 10))
    (k3 : (0 ≤ x3 ∧ x3 ≤ 20) → (0 ≤ x4 ∧ x4 < h 10 1) → x3 ≤ rByLine (rmC h 10) x2 → Wp true i_Ba_weigh 0 [vr 89, vr 10, vi x2, vi x1, vi x3, vr 9999, vr 9999] [] h (fun r h' => Wp true i_C_bargainIn 61 [vr 0, vi x1, vi x2, vi x3, vi x4] (r.toList ++ []) h' Q))
    (k4 : (0 ≤ x3 ∧ x3 ≤ 20) → (0 ≤ x4 ∧ x4 < h 10 1) → ¬ x3 ≤ rByLine (rmC h 10) x2 → Q (some (vi (-1))) (hs h 0 0 6))
    (k5 : (0 ≤ x3 ∧ x3 ≤ 20) → ¬ (0 ≤ x4 ∧ x4 < h 10 1) → Q (some (vi (-1))) (hs h 0 0 1)) :
    Wp true i_C_bargainIn 0 [vr 0, vi x1, vi x2, vi x3, vi x4] [] h Q := by
  refine r_iload_n (v := x3) f_215_0 rfl ?_
  refine r_iconst f_215_1 (by decide) ?_
  refine r_bipush f_215_2 (by decide) ?_
  refine r_calls (as := [vi x3, vi 0, vi 20]) (st' := []) (ls0 := [vi x3, vi 0, vi 20]) f_215_4 (by decide) (by decide) rfl rfl (Nat.le_of_ble_eq_true rfl) (Nat.le_of_ble_eq_true rfl) rfl ?_
  refine c_C_within  ?_
  show Wp true i_C_bargainIn 7 [vr 0, vi x1, vi x2, vi x3, vi x4] [vi (bi (0 ≤ x3 ∧ x3 ≤ 20))] h Q
  refine r_br (t := 22) f_215_7 rfl cb_bf (fun c1 => ?_) (fun c1 => ?_)
  · refine r_aload_n (v := 0) f_215_22 rfl (by decide) ?_
    refine r_iconst f_215_23 (by decide) ?_
    refine r_callv (as := [vr 0, vi 1]) (st' := []) (ls0 := [vr 0, vi 1]) f_215_24 (by decide) rfl rfl (Nat.le_of_ble_eq_true rfl) (Nat.le_of_ble_eq_true rfl) ⟨_, _, rfl, rfl⟩ rfl ?_
    refine c_C_refuse  ?_
    show Wp true i_C_bargainIn 27 [vr 0, vi x1, vi x2, vi x3, vi x4] [vi (-1)] (hs h 0 0 1) Q
    exact r_reti f_215_27 rfl (k1 c1)
  · have c1 := Decidable.not_not.mp c1
    refine r_aload_n (v := 0) f_215_10 rfl (by decide) ?_
    refine r_getr (q := 10) f_215_11 rfl (by decide) (Or.inl rfl) rfl ?_
    refine r_iload (v := x4) f_215_14 rfl ?_
    refine r_callv (as := [vr 10, vi x4]) (st' := []) (ls0 := [vr 10, vi x4]) f_215_16 (by decide) rfl rfl (Nat.le_of_ble_eq_true rfl) (Nat.le_of_ble_eq_true rfl) ⟨_, _, rfl, rfl⟩ rfl ?_
    refine c_Fl_hasRow isF_10 ?_
    show Wp true i_C_bargainIn 19 [vr 0, vi x1, vi x2, vi x3, vi x4] [vi (bi (0 ≤ x4 ∧ x4 < h 10 1))] h Q
    refine r_br (t := 28) f_215_19 rfl cb_bt (fun c2 => ?_) (fun c2 => ?_)
    · refine r_aload_n (v := 0) f_215_28 rfl (by decide) ?_
      refine r_getr (q := 10) f_215_29 rfl (by decide) (Or.inl rfl) rfl ?_
      refine r_iload_n (v := x2) f_215_32 rfl ?_
      refine r_callv (as := [vr 10, vi x2]) (st' := []) (ls0 := [vr 10, vi x2, vr 9999, vr 9999]) f_215_33 (by decide) rfl rfl (Nat.le_of_ble_eq_true rfl) (Nat.le_of_ble_eq_true rfl) ⟨_, _, rfl, rfl⟩ rfl ?_
      refine c_Fl_boardsByLine isF_10 (o2 c1 c2) ?_
      show Wp true i_C_bargainIn 36 [vr 0, vi x1, vi x2, vi x3, vi x4] [vi (rByLine (rmC h 10) x2)] h Q
      refine r_iload_n (v := x3) f_215_36 rfl ?_
      refine r_br2 (t := 47) f_215_37 rfl cb_ge (fun c3 => ?_) (fun c3 => ?_)
      · refine r_aload_n (v := 0) f_215_47 rfl (by decide) ?_
        refine r_getr (q := 89) f_215_48 rfl (by decide) (Or.inl rfl) rfl ?_
        refine r_aload_n (v := 0) f_215_51 rfl (by decide) ?_
        refine r_getr (q := 10) f_215_52 rfl (by decide) (Or.inl rfl) rfl ?_
        refine r_iload_n (v := x2) f_215_55 rfl ?_
        refine r_iload_n (v := x1) f_215_56 rfl ?_
        refine r_iload_n (v := x3) f_215_57 rfl ?_
        exact r_callv (as := [vr 89, vr 10, vi x2, vi x1, vi x3]) (st' := []) (ls0 := [vr 89, vr 10, vi x2, vi x1, vi x3, vr 9999, vr 9999]) f_215_58 (by decide) rfl rfl (Nat.le_of_ble_eq_true rfl) (Nat.le_of_ble_eq_true rfl) ⟨_, _, rfl, rfl⟩ rfl (k3 c1 c2 c3)
      · refine r_aload_n (v := 0) f_215_40 rfl (by decide) ?_
        refine r_bipush f_215_41 (by decide) ?_
        refine r_callv (as := [vr 0, vi 6]) (st' := []) (ls0 := [vr 0, vi 6]) f_215_43 (by decide) rfl rfl (Nat.le_of_ble_eq_true rfl) (Nat.le_of_ble_eq_true rfl) ⟨_, _, rfl, rfl⟩ rfl ?_
        refine c_C_refuse  ?_
        show Wp true i_C_bargainIn 46 [vr 0, vi x1, vi x2, vi x3, vi x4] [vi (-1)] (hs h 0 0 6) Q
        exact r_reti f_215_46 rfl (k4 c1 c2 c3)
    · refine r_aload_n (v := 0) f_215_22 rfl (by decide) ?_
      refine r_iconst f_215_23 (by decide) ?_
      refine r_callv (as := [vr 0, vi 1]) (st' := []) (ls0 := [vr 0, vi 1]) f_215_24 (by decide) rfl rfl (Nat.le_of_ble_eq_true rfl) (Nat.le_of_ble_eq_true rfl) ⟨_, _, rfl, rfl⟩ rfl ?_
      refine c_C_refuse  ?_
      show Wp true i_C_bargainIn 27 [vr 0, vi x1, vi x2, vi x3, vi x4] [vi (-1)] (hs h 0 0 1) Q
      exact r_reti f_215_27 rfl (k5 c1 c2)

theorem g_C_bargainIn_61 {Q : PQ} {h : HP} {x1 : Int} {x2 : Int} {x3 : Int} {x4 : Int} 
    (k1 : Wp true i_Ba_givenIn 0 [vr 89, vr 10, vi x2, vi x3, vi x4, vr 9999, vr 9999, vr 9999] [] h (fun r h' => Wp true i_C_bargainIn 77 [vr 0, vi x1, vi x2, vi x3, vi x4] (r.toList ++ [vr 0]) h' Q)) :
    Wp true i_C_bargainIn 61 [vr 0, vi x1, vi x2, vi x3, vi x4] [] h Q := by
  refine r_aload_n (v := 0) f_215_61 rfl (by decide) ?_
  refine r_aload_n (v := 0) f_215_62 rfl (by decide) ?_
  refine r_getr (q := 89) f_215_63 rfl (by decide) (Or.inl rfl) rfl ?_
  refine r_aload_n (v := 0) f_215_66 rfl (by decide) ?_
  refine r_getr (q := 10) f_215_67 rfl (by decide) (Or.inl rfl) rfl ?_
  refine r_iload_n (v := x2) f_215_70 rfl ?_
  refine r_iload_n (v := x3) f_215_71 rfl ?_
  refine r_iload (v := x4) f_215_72 rfl ?_
  exact r_callv (as := [vr 89, vr 10, vi x2, vi x3, vi x4]) (st' := [vr 0]) (ls0 := [vr 89, vr 10, vi x2, vi x3, vi x4, vr 9999, vr 9999, vr 9999]) f_215_74 (by decide) rfl rfl (Nat.le_of_ble_eq_true rfl) (Nat.le_of_ble_eq_true rfl) ⟨_, _, rfl, rfl⟩ rfl k1

theorem g_C_bargainIn_77 {Q : PQ} {h : HP} {x1 : Int} {x2 : Int} {x3 : Int} {x4 : Int} {s1 : Int} 
    (k1 : Q (some (vi s1)) (hs h 0 0 0)) :
    Wp true i_C_bargainIn 77 [vr 0, vi x1, vi x2, vi x3, vi x4] [vi s1, vr 0] h Q := by
  refine r_callv (as := [vr 0, vi s1]) (st' := []) (ls0 := [vr 0, vi s1]) f_215_77 (by decide) rfl rfl (Nat.le_of_ble_eq_true rfl) (Nat.le_of_ble_eq_true rfl) ⟨_, _, rfl, rfl⟩ rfl ?_
  refine c_C_answer  ?_
  show Wp true i_C_bargainIn 80 [vr 0, vi x1, vi x2, vi x3, vi x4] [vi s1] (hs h 0 0 0) Q
  exact r_reti f_215_80 rfl k1

theorem g_C_give_0 {Q : PQ} {h : HP} {x1 : Int} {x2 : Int} 
    (k1 : ¬ (x1 = 0 ∨ x1 = 1) → Q (some (vi (-1))) (hs h 0 0 1))
    (k2 : (x1 = 0 ∨ x1 = 1) → Wp true i_C_bargainFor 0 [vr 0, vi x1, vi x1, vi x2] [] h (fun r h' => Wp true i_C_give 14 [vr 0, vi x1, vi x2] (r.toList ++ []) h' Q)) :
    Wp true i_C_give 0 [vr 0, vi x1, vi x2] [] h Q := by
  refine r_iload_n (v := x1) f_188_0 rfl ?_
  refine r_calls (as := [vi x1]) (st' := []) (ls0 := [vi x1]) f_188_1 (by decide) (by decide) rfl rfl (Nat.le_of_ble_eq_true rfl) (Nat.le_of_ble_eq_true rfl) rfl ?_
  refine c_C_isLand  ?_
  show Wp true i_C_give 4 [vr 0, vi x1, vi x2] [vi (bi (x1 = 0 ∨ x1 = 1))] h Q
  refine r_br (t := 17) f_188_4 rfl cb_bf (fun c1 => ?_) (fun c1 => ?_)
  · refine r_aload_n (v := 0) f_188_17 rfl (by decide) ?_
    refine r_iconst f_188_18 (by decide) ?_
    refine r_callv (as := [vr 0, vi 1]) (st' := []) (ls0 := [vr 0, vi 1]) f_188_19 (by decide) rfl rfl (Nat.le_of_ble_eq_true rfl) (Nat.le_of_ble_eq_true rfl) ⟨_, _, rfl, rfl⟩ rfl ?_
    refine c_C_refuse  ?_
    show Wp true i_C_give 22 [vr 0, vi x1, vi x2] [vi (-1)] (hs h 0 0 1) Q
    exact r_reti f_188_22 rfl (k1 c1)
  · have c1 := Decidable.not_not.mp c1
    refine r_aload_n (v := 0) f_188_7 rfl (by decide) ?_
    refine r_iload_n (v := x1) f_188_8 rfl ?_
    refine r_iload_n (v := x1) f_188_9 rfl ?_
    refine r_iload_n (v := x2) f_188_10 rfl ?_
    exact r_callv (as := [vr 0, vi x1, vi x1, vi x2]) (st' := []) (ls0 := [vr 0, vi x1, vi x1, vi x2]) f_188_11 (by decide) rfl rfl (Nat.le_of_ble_eq_true rfl) (Nat.le_of_ble_eq_true rfl) ⟨_, _, rfl, rfl⟩ rfl (k2 c1)

theorem g_C_give_14 {Q : PQ} {h : HP} {x1 : Int} {x2 : Int} {s0 : Int} 
    (k1 : Q (some (vi s0)) h) :
    Wp true i_C_give 14 [vr 0, vi x1, vi x2] [vi s0] h Q := by
  refine r_goto (t := 22) f_188_14 rfl ?_
  exact r_reti f_188_22 rfl k1

theorem g_C_ask_0 {Q : PQ} {h : HP} {x1 : Int} {x2 : Int} 
    (k1 : ¬ (x1 = 0 ∨ x1 = 1) → Q (some (vi (-1))) (hs h 0 0 1))
    (o2 : (x1 = 0 ∨ x1 = 1) → -2147483648 ≤ 1 - x1 ∧ 1 - x1 ≤ 2147483647)
    (k3 : (x1 = 0 ∨ x1 = 1) → Wp true i_C_bargainFor 0 [vr 0, vi x1, vi (1 - x1), vi x2] [] h (fun r h' => Wp true i_C_ask 16 [vr 0, vi x1, vi x2] (r.toList ++ []) h' Q)) :
    Wp true i_C_ask 0 [vr 0, vi x1, vi x2] [] h Q := by
  refine r_iload_n (v := x1) f_190_0 rfl ?_
  refine r_calls (as := [vi x1]) (st' := []) (ls0 := [vi x1]) f_190_1 (by decide) (by decide) rfl rfl (Nat.le_of_ble_eq_true rfl) (Nat.le_of_ble_eq_true rfl) rfl ?_
  refine c_C_isLand  ?_
  show Wp true i_C_ask 4 [vr 0, vi x1, vi x2] [vi (bi (x1 = 0 ∨ x1 = 1))] h Q
  refine r_br (t := 19) f_190_4 rfl cb_bf (fun c1 => ?_) (fun c1 => ?_)
  · refine r_aload_n (v := 0) f_190_19 rfl (by decide) ?_
    refine r_iconst f_190_20 (by decide) ?_
    refine r_callv (as := [vr 0, vi 1]) (st' := []) (ls0 := [vr 0, vi 1]) f_190_21 (by decide) rfl rfl (Nat.le_of_ble_eq_true rfl) (Nat.le_of_ble_eq_true rfl) ⟨_, _, rfl, rfl⟩ rfl ?_
    refine c_C_refuse  ?_
    show Wp true i_C_ask 24 [vr 0, vi x1, vi x2] [vi (-1)] (hs h 0 0 1) Q
    exact r_reti f_190_24 rfl (k1 c1)
  · have c1 := Decidable.not_not.mp c1
    refine r_aload_n (v := 0) f_190_7 rfl (by decide) ?_
    refine r_iload_n (v := x1) f_190_8 rfl ?_
    refine r_iconst f_190_9 (by decide) ?_
    refine r_iload_n (v := x1) f_190_10 rfl ?_
    refine r_isub (u := 1 - x1) f_190_11 rfl (o2 c1) ?_
    refine r_iload_n (v := x2) f_190_12 rfl ?_
    exact r_callv (as := [vr 0, vi x1, vi (1 - x1), vi x2]) (st' := []) (ls0 := [vr 0, vi x1, vi (1 - x1), vi x2]) f_190_13 (by decide) rfl rfl (Nat.le_of_ble_eq_true rfl) (Nat.le_of_ble_eq_true rfl) ⟨_, _, rfl, rfl⟩ rfl (k3 c1)

theorem g_C_ask_16 {Q : PQ} {h : HP} {x1 : Int} {x2 : Int} {s0 : Int} 
    (k1 : Q (some (vi s0)) h) :
    Wp true i_C_ask 16 [vr 0, vi x1, vi x2] [vi s0] h Q := by
  refine r_goto (t := 24) f_190_16 rfl ?_
  exact r_reti f_190_24 rfl k1

theorem g_C_giveIn_0 {Q : PQ} {h : HP} {x1 : Int} {x2 : Int} {x3 : Int} 
    (k1 : ¬ (x1 = 0 ∨ x1 = 1) → Q (some (vi (-1))) (hs h 0 0 1))
    (k2 : (x1 = 0 ∨ x1 = 1) → Wp true i_C_bargainIn 0 [vr 0, vi x1, vi x1, vi x2, vi x3] [] h (fun r h' => Wp true i_C_giveIn 15 [vr 0, vi x1, vi x2, vi x3] (r.toList ++ []) h' Q)) :
    Wp true i_C_giveIn 0 [vr 0, vi x1, vi x2, vi x3] [] h Q := by
  refine r_iload_n (v := x1) f_189_0 rfl ?_
  refine r_calls (as := [vi x1]) (st' := []) (ls0 := [vi x1]) f_189_1 (by decide) (by decide) rfl rfl (Nat.le_of_ble_eq_true rfl) (Nat.le_of_ble_eq_true rfl) rfl ?_
  refine c_C_isLand  ?_
  show Wp true i_C_giveIn 4 [vr 0, vi x1, vi x2, vi x3] [vi (bi (x1 = 0 ∨ x1 = 1))] h Q
  refine r_br (t := 18) f_189_4 rfl cb_bf (fun c1 => ?_) (fun c1 => ?_)
  · refine r_aload_n (v := 0) f_189_18 rfl (by decide) ?_
    refine r_iconst f_189_19 (by decide) ?_
    refine r_callv (as := [vr 0, vi 1]) (st' := []) (ls0 := [vr 0, vi 1]) f_189_20 (by decide) rfl rfl (Nat.le_of_ble_eq_true rfl) (Nat.le_of_ble_eq_true rfl) ⟨_, _, rfl, rfl⟩ rfl ?_
    refine c_C_refuse  ?_
    show Wp true i_C_giveIn 23 [vr 0, vi x1, vi x2, vi x3] [vi (-1)] (hs h 0 0 1) Q
    exact r_reti f_189_23 rfl (k1 c1)
  · have c1 := Decidable.not_not.mp c1
    refine r_aload_n (v := 0) f_189_7 rfl (by decide) ?_
    refine r_iload_n (v := x1) f_189_8 rfl ?_
    refine r_iload_n (v := x1) f_189_9 rfl ?_
    refine r_iload_n (v := x2) f_189_10 rfl ?_
    refine r_iload_n (v := x3) f_189_11 rfl ?_
    exact r_callv (as := [vr 0, vi x1, vi x1, vi x2, vi x3]) (st' := []) (ls0 := [vr 0, vi x1, vi x1, vi x2, vi x3]) f_189_12 (by decide) rfl rfl (Nat.le_of_ble_eq_true rfl) (Nat.le_of_ble_eq_true rfl) ⟨_, _, rfl, rfl⟩ rfl (k2 c1)

theorem g_C_giveIn_15 {Q : PQ} {h : HP} {x1 : Int} {x2 : Int} {x3 : Int} {s0 : Int} 
    (k1 : Q (some (vi s0)) h) :
    Wp true i_C_giveIn 15 [vr 0, vi x1, vi x2, vi x3] [vi s0] h Q := by
  refine r_goto (t := 23) f_189_15 rfl ?_
  exact r_reti f_189_23 rfl k1

theorem g_C_askIn_0 {Q : PQ} {h : HP} {x1 : Int} {x2 : Int} {x3 : Int} 
    (k1 : ¬ (x1 = 0 ∨ x1 = 1) → Q (some (vi (-1))) (hs h 0 0 1))
    (o2 : (x1 = 0 ∨ x1 = 1) → -2147483648 ≤ 1 - x1 ∧ 1 - x1 ≤ 2147483647)
    (k3 : (x1 = 0 ∨ x1 = 1) → Wp true i_C_bargainIn 0 [vr 0, vi x1, vi (1 - x1), vi x2, vi x3] [] h (fun r h' => Wp true i_C_askIn 17 [vr 0, vi x1, vi x2, vi x3] (r.toList ++ []) h' Q)) :
    Wp true i_C_askIn 0 [vr 0, vi x1, vi x2, vi x3] [] h Q := by
  refine r_iload_n (v := x1) f_191_0 rfl ?_
  refine r_calls (as := [vi x1]) (st' := []) (ls0 := [vi x1]) f_191_1 (by decide) (by decide) rfl rfl (Nat.le_of_ble_eq_true rfl) (Nat.le_of_ble_eq_true rfl) rfl ?_
  refine c_C_isLand  ?_
  show Wp true i_C_askIn 4 [vr 0, vi x1, vi x2, vi x3] [vi (bi (x1 = 0 ∨ x1 = 1))] h Q
  refine r_br (t := 20) f_191_4 rfl cb_bf (fun c1 => ?_) (fun c1 => ?_)
  · refine r_aload_n (v := 0) f_191_20 rfl (by decide) ?_
    refine r_iconst f_191_21 (by decide) ?_
    refine r_callv (as := [vr 0, vi 1]) (st' := []) (ls0 := [vr 0, vi 1]) f_191_22 (by decide) rfl rfl (Nat.le_of_ble_eq_true rfl) (Nat.le_of_ble_eq_true rfl) ⟨_, _, rfl, rfl⟩ rfl ?_
    refine c_C_refuse  ?_
    show Wp true i_C_askIn 25 [vr 0, vi x1, vi x2, vi x3] [vi (-1)] (hs h 0 0 1) Q
    exact r_reti f_191_25 rfl (k1 c1)
  · have c1 := Decidable.not_not.mp c1
    refine r_aload_n (v := 0) f_191_7 rfl (by decide) ?_
    refine r_iload_n (v := x1) f_191_8 rfl ?_
    refine r_iconst f_191_9 (by decide) ?_
    refine r_iload_n (v := x1) f_191_10 rfl ?_
    refine r_isub (u := 1 - x1) f_191_11 rfl (o2 c1) ?_
    refine r_iload_n (v := x2) f_191_12 rfl ?_
    refine r_iload_n (v := x3) f_191_13 rfl ?_
    exact r_callv (as := [vr 0, vi x1, vi (1 - x1), vi x2, vi x3]) (st' := []) (ls0 := [vr 0, vi x1, vi (1 - x1), vi x2, vi x3]) f_191_14 (by decide) rfl rfl (Nat.le_of_ble_eq_true rfl) (Nat.le_of_ble_eq_true rfl) ⟨_, _, rfl, rfl⟩ rfl (k3 c1)

theorem g_C_askIn_17 {Q : PQ} {h : HP} {x1 : Int} {x2 : Int} {x3 : Int} {s0 : Int} 
    (k1 : Q (some (vi s0)) h) :
    Wp true i_C_askIn 17 [vr 0, vi x1, vi x2, vi x3] [vi s0] h Q := by
  refine r_goto (t := 25) f_191_17 rfl ?_
  exact r_reti f_191_25 rfl k1

theorem g_C_price_0 {Q : PQ} {h : HP} {x1 : Int} {x2 : Int} 
    (k1 : ¬ (x1 = 0 ∨ x1 = 1) → Q (some (vi (-1))) (hs h 0 0 1))
    (k2 : (x1 = 0 ∨ x1 = 1) → (0 ≤ x2 ∧ x2 ≤ 990) → Wp true i_Ba_fewestFor 0 [vr 89, vr 10, vi x1, vi x2, vr 9999, vr 9999, vr 9999] [] h (fun r h' => Wp true i_C_price 38 [vr 0, vi x1, vi x2] (r.toList ++ [vr 0]) h' Q))
    (k3 : (x1 = 0 ∨ x1 = 1) → ¬ (0 ≤ x2 ∧ x2 ≤ 990) → Q (some (vi (-1))) (hs h 0 0 1)) :
    Wp true i_C_price 0 [vr 0, vi x1, vi x2] [] h Q := by
  refine r_iload_n (v := x1) f_192_0 rfl ?_
  refine r_calls (as := [vi x1]) (st' := []) (ls0 := [vi x1]) f_192_1 (by decide) (by decide) rfl rfl (Nat.le_of_ble_eq_true rfl) (Nat.le_of_ble_eq_true rfl) rfl ?_
  refine c_C_isLand  ?_
  show Wp true i_C_price 4 [vr 0, vi x1, vi x2] [vi (bi (x1 = 0 ∨ x1 = 1))] h Q
  refine r_br (t := 18) f_192_4 rfl cb_bf (fun c1 => ?_) (fun c1 => ?_)
  · refine r_aload_n (v := 0) f_192_18 rfl (by decide) ?_
    refine r_iconst f_192_19 (by decide) ?_
    refine r_callv (as := [vr 0, vi 1]) (st' := []) (ls0 := [vr 0, vi 1]) f_192_20 (by decide) rfl rfl (Nat.le_of_ble_eq_true rfl) (Nat.le_of_ble_eq_true rfl) ⟨_, _, rfl, rfl⟩ rfl ?_
    refine c_C_refuse  ?_
    show Wp true i_C_price 23 [vr 0, vi x1, vi x2] [vi (-1)] (hs h 0 0 1) Q
    exact r_reti f_192_23 rfl (k1 c1)
  · have c1 := Decidable.not_not.mp c1
    refine r_iload_n (v := x2) f_192_7 rfl ?_
    refine r_iconst f_192_8 (by decide) ?_
    refine r_sipush f_192_9 (by decide) ?_
    refine r_calls (as := [vi x2, vi 0, vi 990]) (st' := []) (ls0 := [vi x2, vi 0, vi 990]) f_192_12 (by decide) (by decide) rfl rfl (Nat.le_of_ble_eq_true rfl) (Nat.le_of_ble_eq_true rfl) rfl ?_
    refine c_C_within  ?_
    show Wp true i_C_price 15 [vr 0, vi x1, vi x2] [vi (bi (0 ≤ x2 ∧ x2 ≤ 990))] h Q
    refine r_br (t := 24) f_192_15 rfl cb_bt (fun c2 => ?_) (fun c2 => ?_)
    · refine r_aload_n (v := 0) f_192_24 rfl (by decide) ?_
      refine r_aload_n (v := 0) f_192_25 rfl (by decide) ?_
      refine r_getr (q := 89) f_192_26 rfl (by decide) (Or.inl rfl) rfl ?_
      refine r_aload_n (v := 0) f_192_29 rfl (by decide) ?_
      refine r_getr (q := 10) f_192_30 rfl (by decide) (Or.inl rfl) rfl ?_
      refine r_iload_n (v := x1) f_192_33 rfl ?_
      refine r_iload_n (v := x2) f_192_34 rfl ?_
      exact r_callv (as := [vr 89, vr 10, vi x1, vi x2]) (st' := [vr 0]) (ls0 := [vr 89, vr 10, vi x1, vi x2, vr 9999, vr 9999, vr 9999]) f_192_35 (by decide) rfl rfl (Nat.le_of_ble_eq_true rfl) (Nat.le_of_ble_eq_true rfl) ⟨_, _, rfl, rfl⟩ rfl (k2 c1 c2)
    · refine r_aload_n (v := 0) f_192_18 rfl (by decide) ?_
      refine r_iconst f_192_19 (by decide) ?_
      refine r_callv (as := [vr 0, vi 1]) (st' := []) (ls0 := [vr 0, vi 1]) f_192_20 (by decide) rfl rfl (Nat.le_of_ble_eq_true rfl) (Nat.le_of_ble_eq_true rfl) ⟨_, _, rfl, rfl⟩ rfl ?_
      refine c_C_refuse  ?_
      show Wp true i_C_price 23 [vr 0, vi x1, vi x2] [vi (-1)] (hs h 0 0 1) Q
      exact r_reti f_192_23 rfl (k3 c1 c2)

theorem g_C_price_38 {Q : PQ} {h : HP} {x1 : Int} {x2 : Int} {s1 : Int} 
    (o1 : -1 ≤ s1)
    (k2 : Q (some (vi s1)) (hs h 0 0 (if s1 < 0 then 6 else 0))) :
    Wp true i_C_price 38 [vr 0, vi x1, vi x2] [vi s1, vr 0] h Q := by
  refine r_callv (as := [vr 0, vi s1]) (st' := []) (ls0 := [vr 0, vi s1]) f_192_38 (by decide) rfl rfl (Nat.le_of_ble_eq_true rfl) (Nat.le_of_ble_eq_true rfl) ⟨_, _, rfl, rfl⟩ rfl ?_
  refine c_C_answerOrNone o1 ?_
  show Wp true i_C_price 41 [vr 0, vi x1, vi x2] [vi s1] (hs h 0 0 (if s1 < 0 then 6 else 0)) Q
  exact r_reti f_192_41 rfl k2

theorem g_M_give_0 {Q : PQ} {h : HP} {x1 : Int} {x2 : Int} 
    (k1 : Wp true i_M_planned 0 [vr 103, vi x1, vi x1, vi x2, vr 9999] [] h (fun r h' => Wp true i_M_give 7 [vr 103, vi x1, vi x2] (r.toList ++ []) h' Q)) :
    Wp true i_M_give 0 [vr 103, vi x1, vi x2] [] h Q := by
  refine r_aload_n (v := 103) f_341_0 rfl (by decide) ?_
  refine r_iload_n (v := x1) f_341_1 rfl ?_
  refine r_iload_n (v := x1) f_341_2 rfl ?_
  refine r_iload_n (v := x2) f_341_3 rfl ?_
  exact r_callv (as := [vr 103, vi x1, vi x1, vi x2]) (st' := []) (ls0 := [vr 103, vi x1, vi x1, vi x2, vr 9999]) f_341_4 (by decide) rfl rfl (Nat.le_of_ble_eq_true rfl) (Nat.le_of_ble_eq_true rfl) ⟨_, _, rfl, rfl⟩ rfl k1

theorem g_M_give_7 {Q : PQ} {h : HP} {x1 : Int} {x2 : Int} {s0 : Int} 
    (k1 : Q (some (vi s0)) h) :
    Wp true i_M_give 7 [vr 103, vi x1, vi x2] [vi s0] h Q := by
  exact r_reti f_341_7 rfl k1

theorem g_M_giveIn_0 {Q : PQ} {h : HP} {x1 : Int} {x2 : Int} {x3 : Int} 
    (k1 : Wp true i_M_plannedIn 0 [vr 103, vi x1, vi x1, vi x2, vi x3, vr 9999] [] h (fun r h' => Wp true i_M_giveIn 8 [vr 103, vi x1, vi x2, vi x3] (r.toList ++ []) h' Q)) :
    Wp true i_M_giveIn 0 [vr 103, vi x1, vi x2, vi x3] [] h Q := by
  refine r_aload_n (v := 103) f_342_0 rfl (by decide) ?_
  refine r_iload_n (v := x1) f_342_1 rfl ?_
  refine r_iload_n (v := x1) f_342_2 rfl ?_
  refine r_iload_n (v := x2) f_342_3 rfl ?_
  refine r_iload_n (v := x3) f_342_4 rfl ?_
  exact r_callv (as := [vr 103, vi x1, vi x1, vi x2, vi x3]) (st' := []) (ls0 := [vr 103, vi x1, vi x1, vi x2, vi x3, vr 9999]) f_342_5 (by decide) rfl rfl (Nat.le_of_ble_eq_true rfl) (Nat.le_of_ble_eq_true rfl) ⟨_, _, rfl, rfl⟩ rfl k1

theorem g_M_giveIn_8 {Q : PQ} {h : HP} {x1 : Int} {x2 : Int} {x3 : Int} {s0 : Int} 
    (k1 : Q (some (vi s0)) h) :
    Wp true i_M_giveIn 8 [vr 103, vi x1, vi x2, vi x3] [vi s0] h Q := by
  exact r_reti f_342_8 rfl k1

theorem g_M_ask_0 {Q : PQ} {h : HP} {x1 : Int} {x2 : Int} 
    (o1 : -2147483648 ≤ 1 - x1 ∧ 1 - x1 ≤ 2147483647)
    (k2 : Wp true i_M_planned 0 [vr 103, vi x1, vi (1 - x1), vi x2, vr 9999] [] h (fun r h' => Wp true i_M_ask 9 [vr 103, vi x1, vi x2] (r.toList ++ []) h' Q)) :
    Wp true i_M_ask 0 [vr 103, vi x1, vi x2] [] h Q := by
  refine r_aload_n (v := 103) f_343_0 rfl (by decide) ?_
  refine r_iload_n (v := x1) f_343_1 rfl ?_
  refine r_iconst f_343_2 (by decide) ?_
  refine r_iload_n (v := x1) f_343_3 rfl ?_
  refine r_isub (u := 1 - x1) f_343_4 rfl o1 ?_
  refine r_iload_n (v := x2) f_343_5 rfl ?_
  exact r_callv (as := [vr 103, vi x1, vi (1 - x1), vi x2]) (st' := []) (ls0 := [vr 103, vi x1, vi (1 - x1), vi x2, vr 9999]) f_343_6 (by decide) rfl rfl (Nat.le_of_ble_eq_true rfl) (Nat.le_of_ble_eq_true rfl) ⟨_, _, rfl, rfl⟩ rfl k2

theorem g_M_ask_9 {Q : PQ} {h : HP} {x1 : Int} {x2 : Int} {s0 : Int} 
    (k1 : Q (some (vi s0)) h) :
    Wp true i_M_ask 9 [vr 103, vi x1, vi x2] [vi s0] h Q := by
  exact r_reti f_343_9 rfl k1

theorem g_M_askIn_0 {Q : PQ} {h : HP} {x1 : Int} {x2 : Int} {x3 : Int} 
    (o1 : -2147483648 ≤ 1 - x1 ∧ 1 - x1 ≤ 2147483647)
    (k2 : Wp true i_M_plannedIn 0 [vr 103, vi x1, vi (1 - x1), vi x2, vi x3, vr 9999] [] h (fun r h' => Wp true i_M_askIn 10 [vr 103, vi x1, vi x2, vi x3] (r.toList ++ []) h' Q)) :
    Wp true i_M_askIn 0 [vr 103, vi x1, vi x2, vi x3] [] h Q := by
  refine r_aload_n (v := 103) f_344_0 rfl (by decide) ?_
  refine r_iload_n (v := x1) f_344_1 rfl ?_
  refine r_iconst f_344_2 (by decide) ?_
  refine r_iload_n (v := x1) f_344_3 rfl ?_
  refine r_isub (u := 1 - x1) f_344_4 rfl o1 ?_
  refine r_iload_n (v := x2) f_344_5 rfl ?_
  refine r_iload_n (v := x3) f_344_6 rfl ?_
  exact r_callv (as := [vr 103, vi x1, vi (1 - x1), vi x2, vi x3]) (st' := []) (ls0 := [vr 103, vi x1, vi (1 - x1), vi x2, vi x3, vr 9999]) f_344_7 (by decide) rfl rfl (Nat.le_of_ble_eq_true rfl) (Nat.le_of_ble_eq_true rfl) ⟨_, _, rfl, rfl⟩ rfl k2

theorem g_M_askIn_10 {Q : PQ} {h : HP} {x1 : Int} {x2 : Int} {x3 : Int} {s0 : Int} 
    (k1 : Q (some (vi s0)) h) :
    Wp true i_M_askIn 10 [vr 103, vi x1, vi x2, vi x3] [vi s0] h Q := by
  exact r_reti f_344_10 rfl k1

theorem g_M_price_0 {Q : PQ} {h : HP} {x1 : Int} {x2 : Int} 
    (k1 : ¬ (x1 = 0 ∨ x1 = 1) → Q (some (vi (-1))) (hs h 103 2 1))
    (o2 : (x1 = 0 ∨ x1 = 1) → (0 ≤ x2 ∧ x2 ≤ 990) → -2147483648 ≤ 1 - x1 ∧ 1 - x1 ≤ 2147483647)
    (k3 : (x1 = 0 ∨ x1 = 1) → (0 ≤ x2 ∧ x2 ≤ 990) → Wp true i_M_hasInAll 0 [vr 103, vi (1 - x1), vr 9999, vr 9999] [] h (fun r h' => Wp true i_M_price 32 [vr 103, vi x1, vi x2, vr 9999, vr 9999] (r.toList ++ []) h' Q))
    (k4 : (x1 = 0 ∨ x1 = 1) → ¬ (0 ≤ x2 ∧ x2 ≤ 990) → Q (some (vi (-1))) (hs h 103 2 1)) :
    Wp true i_M_price 0 [vr 103, vi x1, vi x2, vr 9999, vr 9999] [] h Q := by
  refine r_iload_n (v := x1) f_345_0 rfl ?_
  refine r_calls (as := [vi x1]) (st' := []) (ls0 := [vi x1]) f_345_1 (by decide) (by decide) rfl rfl (Nat.le_of_ble_eq_true rfl) (Nat.le_of_ble_eq_true rfl) rfl ?_
  refine c_M_isLand  ?_
  show Wp true i_M_price 4 [vr 103, vi x1, vi x2, vr 9999, vr 9999] [vi (bi (x1 = 0 ∨ x1 = 1))] h Q
  refine r_br (t := 19) f_345_4 rfl cb_bf (fun c1 => ?_) (fun c1 => ?_)
  · refine r_aload_n (v := 103) f_345_19 rfl (by decide) ?_
    refine r_iconst f_345_20 (by decide) ?_
    refine r_callv (as := [vr 103, vi 1]) (st' := []) (ls0 := [vr 103, vi 1]) f_345_21 (by decide) rfl rfl (Nat.le_of_ble_eq_true rfl) (Nat.le_of_ble_eq_true rfl) ⟨_, _, rfl, rfl⟩ rfl ?_
    refine c_M_refuse  ?_
    show Wp true i_M_price 24 [vr 103, vi x1, vi x2, vr 9999, vr 9999] [vi (-1)] (hs h 103 2 1) Q
    exact r_reti f_345_24 rfl (k1 c1)
  · have c1 := Decidable.not_not.mp c1
    refine r_iload_n (v := x2) f_345_7 rfl ?_
    refine r_i2l f_345_8 ?_
    refine r_lconst (v := 0) f_345_9 rfl ?_
    refine r_ldc2_w f_345_10 (by decide) ?_
    refine r_calls (as := [vj x2, vj 0, vj 990]) (st' := []) (ls0 := [vj x2, vr 9999, vj 0, vr 9999, vj 990, vr 9999]) f_345_13 (by decide) (by decide) rfl rfl (Nat.le_of_ble_eq_true rfl) (Nat.le_of_ble_eq_true rfl) rfl ?_
    refine c_M_isFrom  ?_
    show Wp true i_M_price 16 [vr 103, vi x1, vi x2, vr 9999, vr 9999] [vi (bi (0 ≤ x2 ∧ x2 ≤ 990))] h Q
    refine r_br (t := 25) f_345_16 rfl cb_bt (fun c2 => ?_) (fun c2 => ?_)
    · refine r_aload_n (v := 103) f_345_25 rfl (by decide) ?_
      refine r_iconst f_345_26 (by decide) ?_
      refine r_iload_n (v := x1) f_345_27 rfl ?_
      refine r_isub (u := 1 - x1) f_345_28 rfl (o2 c1 c2) ?_
      exact r_callv (as := [vr 103, vi (1 - x1)]) (st' := []) (ls0 := [vr 103, vi (1 - x1), vr 9999, vr 9999]) f_345_29 (by decide) rfl rfl (Nat.le_of_ble_eq_true rfl) (Nat.le_of_ble_eq_true rfl) ⟨_, _, rfl, rfl⟩ rfl (k3 c1 c2)
    · refine r_aload_n (v := 103) f_345_19 rfl (by decide) ?_
      refine r_iconst f_345_20 (by decide) ?_
      refine r_callv (as := [vr 103, vi 1]) (st' := []) (ls0 := [vr 103, vi 1]) f_345_21 (by decide) rfl rfl (Nat.le_of_ble_eq_true rfl) (Nat.le_of_ble_eq_true rfl) ⟨_, _, rfl, rfl⟩ rfl ?_
      refine c_M_refuse  ?_
      show Wp true i_M_price 24 [vr 103, vi x1, vi x2, vr 9999, vr 9999] [vi (-1)] (hs h 103 2 1) Q
      exact r_reti f_345_24 rfl (k4 c1 c2)

theorem g_M_price_32 {Q : PQ} {h : HP} {x1 : Int} {x2 : Int} {s0 : Int} 
    (o1 : -2147483648 ≤ 1 - x1 ∧ 1 - x1 ≤ 2147483647)
    (k2 : Wp true i_M_laysPlan 0 [vr 103, vi x1, vi (1 - x1), vi s0, vr 9999, vr 9999, vr 9999, vr 9999] [] h (fun r h' => Wp true i_M_price 42 [vr 103, vi x1, vi x2, vi s0, vr 9999] (r.toList ++ []) h' Q)) :
    Wp true i_M_price 32 [vr 103, vi x1, vi x2, vr 9999, vr 9999] [vi s0] h Q := by
  refine r_istore_n (ls' := [vr 103, vi x1, vi x2, vi s0, vr 9999]) f_345_32 (Nat.le_of_ble_eq_true rfl) rfl ?_
  refine r_aload_n (v := 103) f_345_33 rfl (by decide) ?_
  refine r_iload_n (v := x1) f_345_34 rfl ?_
  refine r_iconst f_345_35 (by decide) ?_
  refine r_iload_n (v := x1) f_345_36 rfl ?_
  refine r_isub (u := 1 - x1) f_345_37 rfl o1 ?_
  refine r_iload_n (v := s0) f_345_38 rfl ?_
  exact r_callv (as := [vr 103, vi x1, vi (1 - x1), vi s0]) (st' := []) (ls0 := [vr 103, vi x1, vi (1 - x1), vi s0, vr 9999, vr 9999, vr 9999, vr 9999]) f_345_39 (by decide) rfl rfl (Nat.le_of_ble_eq_true rfl) (Nat.le_of_ble_eq_true rfl) ⟨_, _, rfl, rfl⟩ rfl k2

theorem g_M_price_42 {Q : PQ} {h : HP} {x1 : Int} {x2 : Int} {x3 : Int} 
    (k1 : Wp true i_M_price 45 [vr 103, vi x1, vi x2, vi x3, vi 0] [] h Q) :
    Wp true i_M_price 42 [vr 103, vi x1, vi x2, vi x3, vr 9999] [] h Q := by
  refine r_iconst f_345_42 (by decide) ?_
  refine r_istore (ls' := [vr 103, vi x1, vi x2, vi x3, vi 0]) f_345_43 (Nat.le_of_ble_eq_true rfl) rfl ?_
  exact k1

theorem g_M_price_45 {Q : PQ} {h : HP} {x1 : Int} {x2 : Int} {x3 : Int} {x4 : Int} 
    (k1 : x3 < x4 → Q (some (vi (-1))) (hs h 103 2 6))
    (o2 : ¬ x3 < x4 → 0 ≤ x4 ∧ x4 < 520)
    (o3 : ¬ x3 < x4 → h 114 x4.toNat < x2 → -2147483648 ≤ x4 + 1 ∧ x4 + 1 ≤ 2147483647)
    (k4 : ¬ x3 < x4 → h 114 x4.toNat < x2 → Wp true i_M_price 45 [vr 103, vi x1, vi x2, vi x3, vi (x4 + 1)] [] h Q)
    (k5 : ¬ x3 < x4 → ¬ h 114 x4.toNat < x2 → Q (some (vi x4)) (hs h 103 2 0)) :
    Wp true i_M_price 45 [vr 103, vi x1, vi x2, vi x3, vi x4] [] h Q := by
  refine r_iload (v := x4) f_345_45 rfl ?_
  refine r_iload_n (v := x3) f_345_47 rfl ?_
  refine r_br2 (t := 75) f_345_48 rfl cb_gt (fun c1 => ?_) (fun c1 => ?_)
  · refine r_aload_n (v := 103) f_345_75 rfl (by decide) ?_
    refine r_bipush f_345_76 (by decide) ?_
    refine r_callv (as := [vr 103, vi 6]) (st' := []) (ls0 := [vr 103, vi 6]) f_345_78 (by decide) rfl rfl (Nat.le_of_ble_eq_true rfl) (Nat.le_of_ble_eq_true rfl) ⟨_, _, rfl, rfl⟩ rfl ?_
    refine c_M_refuse  ?_
    show Wp true i_M_price 81 [vr 103, vi x1, vi x2, vi x3, vi x4] [vi (-1)] (hs h 103 2 6) Q
    exact r_reti f_345_81 rfl (k1 c1)
  · refine r_aload_n (v := 103) f_345_51 rfl (by decide) ?_
    refine r_getr (q := 114) f_345_52 rfl (by decide) (Or.inl rfl) rfl ?_
    refine r_iload (v := x4) f_345_55 rfl ?_
    refine r_iaload (n := 520) (v := h 114 x4.toNat) f_345_57 ⟨rfl, rfl⟩ (o2 c1) rfl ?_
    refine r_iload_n (v := x2) f_345_58 rfl ?_
    refine r_br2 (t := 69) f_345_59 rfl cb_lt (fun c2 => ?_) (fun c2 => ?_)
    · refine r_iinc (v := x4) (w := x4 + 1) (ls' := [vr 103, vi x1, vi x2, vi x3, vi (x4 + 1)]) f_345_69 rfl rfl (o3 c1 c2) rfl ?_
      refine r_goto (t := 45) f_345_72 rfl ?_
      exact (k4 c1 c2)
    · refine r_aload_n (v := 103) f_345_62 rfl (by decide) ?_
      refine r_iload (v := x4) f_345_63 rfl ?_
      refine r_callv (as := [vr 103, vi x4]) (st' := []) (ls0 := [vr 103, vi x4]) f_345_65 (by decide) rfl rfl (Nat.le_of_ble_eq_true rfl) (Nat.le_of_ble_eq_true rfl) ⟨_, _, rfl, rfl⟩ rfl ?_
      refine c_M_gives  ?_
      show Wp true i_M_price 68 [vr 103, vi x1, vi x2, vi x3, vi x4] [vi x4] (hs h 103 2 0) Q
      exact r_reti f_345_68 rfl (k5 c1 c2)

theorem r_isubw {b : Bool} {mi pc : Nat} {ls st : List AV} {h : HP} {Q : PQ} {x y z c} {v w : Int} (hf : zfetch mi pc = some (.isub, 1, x, y, z, c)) (K : Wp b mi (pc + 1) ls (vi (w32 (v - w)) :: st) h Q) : Wp b mi pc ls (vi w :: vi v :: st) h Q :=
  Wp.step (by simp only [sx, hf, sxi, ibin, nxt]) K
theorem gw_M_ask_0 {Q : PQ} {h : HP} {x1 : Int} {x2 : Int}
    (k2 : Wp true i_M_planned 0 [vr 103, vi x1, vi (w32 (1 - x1)), vi x2, vr 9999] [] h (fun r h' => Wp true i_M_ask 9 [vr 103, vi x1, vi x2] (r.toList ++ []) h' Q)) :
    Wp true i_M_ask 0 [vr 103, vi x1, vi x2] [] h Q := by
  refine r_aload_n (v := 103) f_343_0 rfl (by decide) ?_
  refine r_iload_n (v := x1) f_343_1 rfl ?_
  refine r_iconst f_343_2 (by decide) ?_
  refine r_iload_n (v := x1) f_343_3 rfl ?_
  refine r_isubw f_343_4 ?_
  refine r_iload_n (v := x2) f_343_5 rfl ?_
  exact r_callv (as := [vr 103, vi x1, vi (w32 (1 - x1)), vi x2]) (st' := []) (ls0 := [vr 103, vi x1, vi (w32 (1 - x1)), vi x2, vr 9999]) f_343_6 (by decide) rfl rfl (Nat.le_of_ble_eq_true rfl) (Nat.le_of_ble_eq_true rfl) ⟨_, _, rfl, rfl⟩ rfl k2
theorem gw_M_askIn_0 {Q : PQ} {h : HP} {x1 : Int} {x2 : Int} {x3 : Int}
    (k2 : Wp true i_M_plannedIn 0 [vr 103, vi x1, vi (w32 (1 - x1)), vi x2, vi x3, vr 9999] [] h (fun r h' => Wp true i_M_askIn 10 [vr 103, vi x1, vi x2, vi x3] (r.toList ++ []) h' Q)) :
    Wp true i_M_askIn 0 [vr 103, vi x1, vi x2, vi x3] [] h Q := by
  refine r_aload_n (v := 103) f_344_0 rfl (by decide) ?_
  refine r_iload_n (v := x1) f_344_1 rfl ?_
  refine r_iconst f_344_2 (by decide) ?_
  refine r_iload_n (v := x1) f_344_3 rfl ?_
  refine r_isubw f_344_4 ?_
  refine r_iload_n (v := x2) f_344_5 rfl ?_
  refine r_iload_n (v := x3) f_344_6 rfl ?_
  exact r_callv (as := [vr 103, vi x1, vi (w32 (1 - x1)), vi x2, vi x3]) (st' := []) (ls0 := [vr 103, vi x1, vi (w32 (1 - x1)), vi x2, vi x3, vr 9999]) f_344_7 (by decide) rfl rfl (Nat.le_of_ble_eq_true rfl) (Nat.le_of_ble_eq_true rfl) ⟨_, _, rfl, rfl⟩ rfl k2
theorem c_M_hasInAll {Q : PQ} {g R : HP} {gv : Int} (eR : rmM g 0 = R) (W : WR R) (k : Q (some (vi (rByLine R gv))) g) : Wp true i_M_hasInAll 0 [vr 103, vi gv, vr 9999, vr 9999] [] g Q := by
  have w := W.1
  have dd := mdim eR
  have key : ∀ (d i : Nat), (i : Int) + d = R 0 1 → Wp true i_M_hasInAll 4 [vr 103, vi gv, vi (sumF (fun r => rIn R gv r) i 0), vi (i : Int)] [] g Q := by
    intro d
    induction d with
    | zero =>
      intro i e
      unfold rByLine at k
      rw [show (R 0 1).toNat = i by omega] at k
      exact g_M_hasInAll_4 (fun _ => k) (fun q => by omega) (fun q => by omega) (fun q => by omega) (fun q => by omega) (fun q => by omega)
    | succ d ih =>
      intro i e
      have nx := ih (i + 1) (by omega)
      rw [sumF_last] at nx
      have en : ((i : Int)).toNat = i := Int.toNat_natCast _
      have rb := rIn_b W (gv := gv) (r := i) (by omega)
      have sr := sumF_rng (f := fun r => rIn R gv r) (a := 0) (b := 9) i 0 (fun j _ h => rIn_b W (by omega))
      refine g_M_hasInAll_4 (fun q => by omega) (fun _ => by rw [eR]; exact W) (fun _ => by omega) (fun _ => by rw [eR, en]; omega) (fun _ => by omega) (fun _ => ?_)
      rw [eR, en]
      exact nx
  exact g_M_hasInAll_0 (key (R 0 1).toNat 0 (by omega))
def MP (R : HP) (ld gv : Int) (N : Nat) (g : HP) (m : Nat) : Prop := ∀ r n : Nat, m ≤ r → (r : Int) ≤ R 0 1 → n ≤ N → g 114 (64 * r + n) = pP R ld gv r n
theorem c_M_laysPlan {Q : PQ} {g R : HP} {ld gv : Int} {N : Nat} (eR : rmM g 0 = R) (W : WR R) (hl : ld = 0 ∨ ld = 1) (hN : N ≤ 63)
    (k : ∀ g', (∀ k, k ≠ 114 → g' k = g k) → MP R ld gv N g' 0 → Q none g') : Wp true i_M_laysPlan 0 [vr 103, vi ld, vi gv, vi (N : Int), vr 9999, vr 9999, vr 9999, vr 9999] [] g Q := by
  have w := W.1
  have d0 := mdim eR
  have fr : ∀ h1 : HP, (∀ k, k ≠ 114 → h1 k = g k) → rmM h1 0 = R := fun h1 f => (rmM_congr (f 104 (by decide))).trans eR
  have inner : ∀ (d n r : Nat) (h1 : HP) (j6 j7 : AV), n + d = N + 1 → (r : Int) < R 0 1 → (∀ k, k ≠ 114 → h1 k = g k) → MP R ld gv N h1 (r + 1) → (∀ n' : Nat, n' < n → h1 114 (64 * r + n') = pP R ld gv r n') →
      (∀ (h2 : HP) (j5 j6 j7 : AV), (∀ k, k ≠ 114 → h2 k = g k) → MP R ld gv N h2 r → Wp true i_M_laysPlan 54 [vr 103, vi ld, vi gv, vi (N : Int), vi ((r : Int) - 1), j5, j6, j7] [] h2 Q) → Wp true i_M_laysPlan 62 [vr 103, vi ld, vi gv, vi (N : Int), vi (r : Int), vi (n : Int), j6, j7] [] h1 Q := by
    intro d
    induction d with
    | zero =>
      intro n r h1 j6 j7 e hr f J pr kk
      refine g_M_laysPlan_62 (fun _ => by omega) (fun _ => kk h1 _ _ _ f ?_) (fun q => by omega)
      intro r' n' q1 q2 q3
      by_cases z : r' = r
      · subst z; exact pr n' (by omega)
      · exact J r' n' (by omega) q2 q3
    | succ d ih =>
      intro n r h1 j6 j7 e hr f J pr kk
      have dd := mdim (fr h1 f)
      have en : ((r : Int)).toNat = r := Int.toNat_natCast _
      have rb := rIn_b W (gv := gv) hr
      have b137 : ∀ (v x7 : Int), v = pP R ld gv r n → Wp true i_M_laysPlan 137 [vr 103, vi ld, vi gv, vi (N : Int), vi (r : Int), vi (n : Int), vi v, vi x7] [] h1 Q := by
        intro v x7 hv
        refine g_M_laysPlan_137 (by omega) (by omega) (by omega) (by omega) ?_
        rw [show (64 * (r : Int) + (n : Int)).toNat = 64 * r + n by omega]
        refine ih (n + 1) r _ _ _ (by omega) hr (fun k hk => (hs_ne hk).trans (f k hk)) (fun r' n' q1 q2 q3 => ?_) (fun n' q => ?_) kk
        · rw [hs_o (Or.inr (by omega))]; exact J r' n' q1 q2 q3
        · by_cases z : n' = n
          · subst z; rw [hs_s]; exact hv
          · rw [hs_o (Or.inr (by omega))]; exact pr n' (by omega)
      have key : ∀ (d i : Nat), i + d = n + 1 → Wp true i_M_laysPlan 76 [vr 103, vi ld, vi gv, vi (N : Int), vi (r : Int), vi (n : Int), vi (mxK (qG R gv r) (fG R ld gv r n) i), vi (i : Int)] [] h1 Q := by
        intro d
        induction d with
        | zero =>
          intro i e
          have fin := b137 (mxK (qG R gv r) (fG R ld gv r n) i) (i : Int) (by rw [pP_s hr, show n + 1 = i by omega])
          exact g_M_laysPlan_76 (fun _ => fin) (fun q => by omega) (fun q => by omega) (fun q => by omega) (fun q => by omega)
        | succ d ih =>
          intro i e
          have va := vG_rg W ld gv r i
          have pr2 := (pP_rg W (ld := ld) (gv := gv) (r := r + 1) (n := n - i) (by omega)).2.2
          have v := J (r + 1) (n - i) (Nat.le_refl _) (by omega) (by omega)
          have ix : (64 * ((r : Int) + 1) + (n : Int) - (i : Int)).toNat = 64 * (r + 1) + (n - i) := by omega
          refine g_M_laysPlan_76 (fun q => by omega) (fun _ => by rw [fr h1 f]; exact W) (fun _ => by omega) (fun _ z => ?_) (fun _ z => ?_)
          · rw [fr h1 f, en] at z
            refine b137 _ _ ?_
            rw [pP_s hr, show n + 1 = i + (n + 1 - i) by omega]
            exact (mxK_skip _ (fun k k1 k2 => by unfold qG; omega)).symm
          · rw [fr h1 f, en] at z
            refine c_M_valueIn (fr h1 f) W hl hr (by omega) ?_
            have nx := ih (i + 1) (by omega)
            rw [mxK_t (show qG R gv r i by unfold qG; omega)] at nx
            refine g_M_laysPlan_107 (by omega) (by omega) (by omega) (by omega) (by omega) (by rw [ix, v]; omega) (by omega) ?_
            rw [ix, v]
            exact nx
      exact g_M_laysPlan_62 (fun q => by omega) (fun q => by omega) (fun _ => key (n + 1) 0 (by omega))
  have outer : ∀ (m : Nat) (h1 : HP) (j5 j6 j7 : AV), (m : Int) ≤ R 0 1 → (∀ k, k ≠ 114 → h1 k = g k) → MP R ld gv N h1 m → Wp true i_M_laysPlan 54 [vr 103, vi ld, vi gv, vi (N : Int), vi ((m : Int) - 1), j5, j6, j7] [] h1 Q := by
    intro m
    induction m with
    | zero =>
      intro h1 j5 j6 j7 hm f J
      exact g_M_laysPlan_54 (fun _ => k h1 f J) (fun q => by omega)
    | succ m ih =>
      intro h1 j5 j6 j7 hm f J
      refine g_M_laysPlan_54 (fun q => by omega) (fun _ => ?_)
      rw [show (((m + 1 : Nat) : Int) - 1) = (m : Int) by omega]
      exact inner (N + 1) 0 m h1 j6 j7 (by omega) (by omega) f J (fun n' z => absurd z (by omega)) (fun h2 j5 j6 j7 f2 J2 => ih h2 j5 j6 j7 (by omega) f2 J2)
  have init : ∀ (d n : Nat) (h1 : HP), n + d = N + 1 → (∀ k, k ≠ 114 → h1 k = g k) → (∀ n' : Nat, n' < n → h1 114 (64 * (R 0 1).toNat + n') = if n' = 0 then 0 else -1000000) → Wp true i_M_laysPlan 3 [vr 103, vi ld, vi gv, vi (N : Int), vi (n : Int), vr 9999, vr 9999, vr 9999] [] h1 Q := by
    intro d
    induction d with
    | zero =>
      intro n h1 e f pr
      have dd := mdim (fr h1 f)
      refine g_M_laysPlan_3 (fun _ => by omega) (fun _ => ?_) (fun q => by omega) (fun q => by omega) (fun q => by omega) (fun q => by omega) (fun q => by omega) (fun q => by omega) (fun q => by omega) (fun q => by omega)
      have o := outer (R 0 1).toNat h1 (vr 9999) (vr 9999) (vr 9999) (by omega) f (fun r n q1 q2 q3 => by
        have er : r = (R 0 1).toNat := by omega
        rw [pP_end (by omega), er]
        exact pr n (by omega))
      rw [show (((R 0 1).toNat : Nat) : Int) - 1 = h1 104 1 - 1 by omega] at o
      exact o
    | succ d ih =>
      intro n h1 e f pr
      have dd := mdim (fr h1 f)
      have ix : (64 * (h1 104 1) + (n : Int)).toNat = 64 * (R 0 1).toNat + n := by omega
      have nx : ∀ v : Int, v = (if n = 0 then 0 else -1000000) → Wp true i_M_laysPlan 3 [vr 103, vi ld, vi gv, vi (N : Int), vi ((n : Int) + 1), vr 9999, vr 9999, vr 9999] [] (hs h1 114 (64 * (R 0 1).toNat + n) v) Q := by
        intro v hv
        refine ih (n + 1) _ (by omega) (fun k hk => (hs_ne hk).trans (f k hk)) (fun n' q => ?_)
        by_cases z : n' = n
        · subst z; rw [hs_s]; exact hv
        · rw [hs_o (Or.inr (by omega))]; exact pr n' (by omega)
      refine g_M_laysPlan_3 (fun q => by omega) (fun q => by omega) (fun _ => by omega) (fun _ => by omega) (fun _ _ => by omega) (fun _ _ => by omega) (fun _ z => ?_) (fun _ _ => by omega) (fun _ _ => by omega) (fun _ z => ?_)
      · rw [ix]; exact nx _ (by rw [if_neg (by omega)])
      · rw [ix]; exact nx _ (by rw [if_pos (by omega)])
  exact g_M_laysPlan_0 (init (N + 1) 0 g (by omega) (fun _ _ => rfl) (fun n' z => absurd z (by omega)))
theorem c_M_givenIn {Q : PQ} {g R : HP} {ld gv : Int} {r N : Nat} (eR : rmM g 0 = R) (W : WR R) (hl : ld = 0 ∨ ld = 1) (J : MP R ld gv N g 0) (hr : (r : Int) < R 0 1) (hN : N ≤ 63) (ha : (N : Int) ≤ aG R gv 0)
    (k : Q (some (vi (gK R ld gv r (lfG R ld gv N r) : Nat))) g) : Wp true i_M_givenIn 0 [vr 103, vi ld, vi gv, vi (N : Int), vi (r : Int), vr 9999, vr 9999, vr 9999] [] g Q := by
  have w := W.1
  refine g_M_givenIn_0 ?_
  have srch : ∀ (i n : Nat), (i : Int) < R 0 1 → n ≤ N → (n : Int) ≤ aG R gv i → (Wp true i_M_givenIn 9 [vr 103, vi ld, vi gv, vi (N : Int), vi (r : Int), vi ((n : Int) - (gK R ld gv i n : Nat)), vi (gK R ld gv i n : Nat), vi ((i : Int) + 1)] [] g Q) →
      ∀ (d j : Nat), j + d = gK R ld gv i n → Wp true i_M_givenIn 19 [vr 103, vi ld, vi gv, vi (N : Int), vi (r : Int), vi (n : Int), vi (j : Int), vi (i : Int)] [] g Q := by
    intro i n hi hn hna kk
    have G := gK_ok W (ld := ld) hi hna
    have rb := rIn_b W (gv := gv) hi
    have v0 := J i n (by omega) (by omega) hn
    obtain ⟨t, et⟩ : ∃ t, t = gK R ld gv i n := ⟨_, rfl⟩
    rw [← et] at G kk ⊢
    have gq : (t : Int) ≤ rIn R gv i := G.2.1
    have gl := G.1
    intro d
    induction d with
    | zero =>
      intro j e
      have ej : j = t := by omega
      subst ej
      have va := vG_rg W ld gv i j
      have pr2 := (pP_rg W (ld := ld) (gv := gv) (r := i + 1) (n := n - j) (by omega)).2.2
      have v := J (i + 1) (n - j) (by omega) (by omega) (by omega)
      have ix : (64 * ((i : Int) + 1) + (n : Int) - (j : Int)).toNat = 64 * (i + 1) + (n - j) := by omega
      have iy : (64 * (i : Int) + (n : Int)).toNat = 64 * i + n := by omega
      have eq : vG R ld gv i j + g 114 (64 * ((i : Int) + 1) + (n : Int) - (j : Int)).toNat = g 114 (64 * (i : Int) + (n : Int)).toNat := by
        rw [ix, iy, v, v0]; exact G.2.2.1
      refine g_M_givenIn_19 (c_M_valueIn eR W hl hi gq ?_)
      exact g_M_givenIn_29 (by omega) (by omega) (by omega) (by omega) (by omega) (by rw [ix, v]; omega) (by omega) (by omega) (by omega) (fun _ => by omega) (fun _ => kk) (fun q => absurd eq q) (fun q => absurd eq q)
    | succ d ih =>
      intro j e
      have va := vG_rg W ld gv i j
      have pr2 := (pP_rg W (ld := ld) (gv := gv) (r := i + 1) (n := n - j) (by omega)).2.2
      have v := J (i + 1) (n - j) (by omega) (by omega) (by omega)
      have ix : (64 * ((i : Int) + 1) + (n : Int) - (j : Int)).toNat = 64 * (i + 1) + (n - j) := by omega
      have iy : (64 * (i : Int) + (n : Int)).toNat = 64 * i + n := by omega
      have ng : ¬ fG R ld gv i n j = pP R ld gv i n := G.2.2.2 j (by omega) (show (j : Int) ≤ rIn R gv i by omega)
      have nx := ih (j + 1) (by omega)
      refine g_M_givenIn_19 (c_M_valueIn eR W hl hi (by omega) ?_)
      refine g_M_givenIn_29 (by omega) (by omega) (by omega) (by omega) (by omega) (by rw [ix, v]; omega) (by omega) (by omega) (by omega) (fun _ => by omega) (fun q => ?_) (fun _ => by omega) (fun _ => nx)
      exfalso
      rw [ix, iy, v, v0] at q
      exact ng q
  have key : ∀ (d i : Nat) (x6 : Int), i + d = r → Wp true i_M_givenIn 9 [vr 103, vi ld, vi gv, vi (N : Int), vi (r : Int), vi (lfG R ld gv N i : Nat), vi x6, vi (i : Int)] [] g Q := by
    intro d
    induction d with
    | zero =>
      intro i x6 e
      have ei : i = r := by omega
      subst ei
      have L := lfG_ok W (ld := ld) ha i (by omega)
      refine g_M_givenIn_9 (fun q => by omega) (fun _ => ?_)
      exact srch i _ hr L.1 L.2 (g_M_givenIn_9 (fun _ => k) (fun q => by omega)) _ 0 (Nat.zero_add _)
    | succ d ih =>
      intro i x6 e
      have L := lfG_ok W (ld := ld) ha i (by omega)
      have G := gK_ok W (ld := ld) (r := i) (by omega) L.2
      have gl := G.1
      refine g_M_givenIn_9 (fun q => by omega) (fun _ => ?_)
      have nx := ih (i + 1) (gK R ld gv i (lfG R ld gv N i) : Nat) (by omega)
      rw [show ((lfG R ld gv N (i + 1) : Nat) : Int) = (lfG R ld gv N i : Nat) - (gK R ld gv i (lfG R ld gv N i) : Nat) by simp only [lfG]; omega] at nx
      exact srch i _ (by omega) L.1 L.2 nx _ 0 (Nat.zero_add _)
  exact key r 0 0 (by omega)
