theorem g_C_isCouple_0 {Q : PQ} {h : HP} {x1 : Int} {x2 : Int} {x3 : Int} 
    (k1 : ¬ (x1 = 0 ∨ x1 = 1) → Q (some (vi 0)) h)
    (k2 : (x1 = 0 ∨ x1 = 1) → ¬ (0 ≤ x2 ∧ x2 < h 10 3) → Q (some (vi 0)) h)
    (k3 : (x1 = 0 ∨ x1 = 1) → (0 ≤ x2 ∧ x2 < h 10 3) → ¬ (0 ≤ x3 ∧ x3 < h 10 3) → Q (some (vi 0)) h)
    (k4 : (x1 = 0 ∨ x1 = 1) → (0 ≤ x2 ∧ x2 < h 10 3) → (0 ≤ x3 ∧ x3 < h 10 3) → x2 = x3 → Q (some (vi 0)) h)
    (k5 : (x1 = 0 ∨ x1 = 1) → (0 ≤ x2 ∧ x2 < h 10 3) → (0 ≤ x3 ∧ x3 < h 10 3) → ¬ x2 = x3 → Q (some (vi 1)) h) :
    Wp true i_C_isCouple 0 [vr 0, vi x1, vi x2, vi x3] [] h Q := by
  refine r_iload_n (v := x1) f_216_0 rfl ?_
  refine r_calls (as := [vi x1]) (st' := []) (ls0 := [vi x1]) f_216_1 (by decide) (by decide) rfl rfl (Nat.le_of_ble_eq_true rfl) (Nat.le_of_ble_eq_true rfl) rfl ?_
  refine c_C_isLand  ?_
  show Wp true i_C_isCouple 4 [vr 0, vi x1, vi x2, vi x3] [vi (bi (x1 = 0 ∨ x1 = 1))] h Q
  refine r_br (t := 38) f_216_4 rfl cb_bf (fun c1 => ?_) (fun c1 => ?_)
  · refine r_iconst f_216_38 (by decide) ?_
    exact r_retz f_216_39 rfl (by decide) (k1 c1)
  · have c1 := Decidable.not_not.mp c1
    refine r_aload_n (v := 0) f_216_7 rfl (by decide) ?_
    refine r_getr (q := 10) f_216_8 rfl (by decide) (Or.inl rfl) rfl ?_
    refine r_iload_n (v := x2) f_216_11 rfl ?_
    refine r_callv (as := [vr 10, vi x2]) (st' := []) (ls0 := [vr 10, vi x2]) f_216_12 (by decide) rfl rfl (Nat.le_of_ble_eq_true rfl) (Nat.le_of_ble_eq_true rfl) ⟨_, _, rfl, rfl⟩ rfl ?_
    refine c_Fl_hasThing isF_10 ?_
    show Wp true i_C_isCouple 15 [vr 0, vi x1, vi x2, vi x3] [vi (bi (0 ≤ x2 ∧ x2 < h 10 3))] h Q
    refine r_br (t := 38) f_216_15 rfl cb_bf (fun c2 => ?_) (fun c2 => ?_)
    · refine r_iconst f_216_38 (by decide) ?_
      exact r_retz f_216_39 rfl (by decide) (k2 c1 c2)
    · have c2 := Decidable.not_not.mp c2
      refine r_aload_n (v := 0) f_216_18 rfl (by decide) ?_
      refine r_getr (q := 10) f_216_19 rfl (by decide) (Or.inl rfl) rfl ?_
      refine r_iload_n (v := x3) f_216_22 rfl ?_
      refine r_callv (as := [vr 10, vi x3]) (st' := []) (ls0 := [vr 10, vi x3]) f_216_23 (by decide) rfl rfl (Nat.le_of_ble_eq_true rfl) (Nat.le_of_ble_eq_true rfl) ⟨_, _, rfl, rfl⟩ rfl ?_
      refine c_Fl_hasThing isF_10 ?_
      show Wp true i_C_isCouple 26 [vr 0, vi x1, vi x2, vi x3] [vi (bi (0 ≤ x3 ∧ x3 < h 10 3))] h Q
      refine r_br (t := 38) f_216_26 rfl cb_bf (fun c3 => ?_) (fun c3 => ?_)
      · refine r_iconst f_216_38 (by decide) ?_
        exact r_retz f_216_39 rfl (by decide) (k3 c1 c2 c3)
      · have c3 := Decidable.not_not.mp c3
        refine r_iload_n (v := x2) f_216_29 rfl ?_
        refine r_iload_n (v := x3) f_216_30 rfl ?_
        refine r_br2 (t := 38) f_216_31 rfl cb_eq (fun c4 => ?_) (fun c4 => ?_)
        · refine r_iconst f_216_38 (by decide) ?_
          exact r_retz f_216_39 rfl (by decide) (k4 c1 c2 c3 c4)
        · refine r_iconst f_216_34 (by decide) ?_
          refine r_goto (t := 39) f_216_35 rfl ?_
          exact r_retz f_216_39 rfl (by decide) (k5 c1 c2 c3 c4)

theorem g_M_isWay_0 {Q : PQ} {h : HP} {x1 : Int} {x2 : Int} {x3 : Int} 
    (k1 : ¬ (x1 = 0 ∨ x1 = 1) → Q (some (vi 0)) h)
    (k2 : (x1 = 0 ∨ x1 = 1) → ¬ (0 ≤ x2 ∧ x2 < h 104 2) → Q (some (vi 0)) h)
    (k3 : (x1 = 0 ∨ x1 = 1) → (0 ≤ x2 ∧ x2 < h 104 2) → ¬ (0 ≤ x3 ∧ x3 < h 104 2) → Q (some (vi 0)) h)
    (k4 : (x1 = 0 ∨ x1 = 1) → (0 ≤ x2 ∧ x2 < h 104 2) → (0 ≤ x3 ∧ x3 < h 104 2) → x2 = x3 → Q (some (vi 0)) h)
    (k5 : (x1 = 0 ∨ x1 = 1) → (0 ≤ x2 ∧ x2 < h 104 2) → (0 ≤ x3 ∧ x3 < h 104 2) → ¬ x2 = x3 → Q (some (vi 1)) h) :
    Wp true i_M_isWay 0 [vr 103, vi x1, vi x2, vi x3] [] h Q := by
  refine r_iload_n (v := x1) f_326_0 rfl ?_
  refine r_calls (as := [vi x1]) (st' := []) (ls0 := [vi x1]) f_326_1 (by decide) (by decide) rfl rfl (Nat.le_of_ble_eq_true rfl) (Nat.le_of_ble_eq_true rfl) rfl ?_
  refine c_M_isLand  ?_
  show Wp true i_M_isWay 4 [vr 103, vi x1, vi x2, vi x3] [vi (bi (x1 = 0 ∨ x1 = 1))] h Q
  refine r_br (t := 32) f_326_4 rfl cb_bf (fun c1 => ?_) (fun c1 => ?_)
  · refine r_iconst f_326_32 (by decide) ?_
    exact r_retz f_326_33 rfl (by decide) (k1 c1)
  · have c1 := Decidable.not_not.mp c1
    refine r_aload_n (v := 103) f_326_7 rfl (by decide) ?_
    refine r_iload_n (v := x2) f_326_8 rfl ?_
    refine r_callv (as := [vr 103, vi x2]) (st' := []) (ls0 := [vr 103, vi x2]) f_326_9 (by decide) rfl rfl (Nat.le_of_ble_eq_true rfl) (Nat.le_of_ble_eq_true rfl) ⟨_, _, rfl, rfl⟩ rfl ?_
    refine c_M_isThing  ?_
    show Wp true i_M_isWay 12 [vr 103, vi x1, vi x2, vi x3] [vi (bi (0 ≤ x2 ∧ x2 < h 104 2))] h Q
    refine r_br (t := 32) f_326_12 rfl cb_bf (fun c2 => ?_) (fun c2 => ?_)
    · refine r_iconst f_326_32 (by decide) ?_
      exact r_retz f_326_33 rfl (by decide) (k2 c1 c2)
    · have c2 := Decidable.not_not.mp c2
      refine r_aload_n (v := 103) f_326_15 rfl (by decide) ?_
      refine r_iload_n (v := x3) f_326_16 rfl ?_
      refine r_callv (as := [vr 103, vi x3]) (st' := []) (ls0 := [vr 103, vi x3]) f_326_17 (by decide) rfl rfl (Nat.le_of_ble_eq_true rfl) (Nat.le_of_ble_eq_true rfl) ⟨_, _, rfl, rfl⟩ rfl ?_
      refine c_M_isThing  ?_
      show Wp true i_M_isWay 20 [vr 103, vi x1, vi x2, vi x3] [vi (bi (0 ≤ x3 ∧ x3 < h 104 2))] h Q
      refine r_br (t := 32) f_326_20 rfl cb_bf (fun c3 => ?_) (fun c3 => ?_)
      · refine r_iconst f_326_32 (by decide) ?_
        exact r_retz f_326_33 rfl (by decide) (k3 c1 c2 c3)
      · have c3 := Decidable.not_not.mp c3
        refine r_iload_n (v := x2) f_326_23 rfl ?_
        refine r_iload_n (v := x3) f_326_24 rfl ?_
        refine r_br2 (t := 32) f_326_25 rfl cb_eq (fun c4 => ?_) (fun c4 => ?_)
        · refine r_iconst f_326_32 (by decide) ?_
          exact r_retz f_326_33 rfl (by decide) (k4 c1 c2 c3 c4)
        · refine r_iconst f_326_28 (by decide) ?_
          refine r_goto (t := 33) f_326_29 rfl ?_
          exact r_retz f_326_33 rfl (by decide) (k5 c1 c2 c3 c4)

theorem g_C_passes_0 {Q : PQ} {h : HP} {x1 : Int} {x2 : Int} {x3 : Int} 
    (k1 : Wp true i_C_isCouple 0 [vr 0, vi x1, vi x2, vi x3] [] h (fun r h' => Wp true i_C_passes 7 [vr 0, vi x1, vi x2, vi x3, vr 9999] (r.toList ++ []) h' Q)) :
    Wp true i_C_passes 0 [vr 0, vi x1, vi x2, vi x3, vr 9999] [] h Q := by
  refine r_aload_n (v := 0) f_182_0 rfl (by decide) ?_
  refine r_iload_n (v := x1) f_182_1 rfl ?_
  refine r_iload_n (v := x2) f_182_2 rfl ?_
  refine r_iload_n (v := x3) f_182_3 rfl ?_
  exact r_callv (as := [vr 0, vi x1, vi x2, vi x3]) (st' := []) (ls0 := [vr 0, vi x1, vi x2, vi x3]) f_182_4 (by decide) rfl rfl (Nat.le_of_ble_eq_true rfl) (Nat.le_of_ble_eq_true rfl) ⟨_, _, rfl, rfl⟩ rfl k1

theorem g_C_passes_7 {Q : PQ} {h : HP} {x1 : Int} {x2 : Int} {x3 : Int} {s0 : Int} 
    (k1 : ¬ s0 = 0 → Wp true i_Is_wayCost 0 [vr 82, vr 10, vi x1, vi x2, vi x3, vr 9999, vr 9999, vr 9999, vr 9999] [] h (fun r h' => Wp true i_C_passes 30 [vr 0, vi x1, vi x2, vi x3, vr 9999] (r.toList ++ []) h' Q))
    (k2 : s0 = 0 → Q (some (vi (-1))) (hs h 0 0 1)) :
    Wp true i_C_passes 7 [vr 0, vi x1, vi x2, vi x3, vr 9999] [vi s0] h Q := by
  refine r_br (t := 16) f_182_7 rfl cb_ne (fun c1 => ?_) (fun c1 => ?_)
  · refine r_aload_n (v := 0) f_182_16 rfl (by decide) ?_
    refine r_getr (q := 82) f_182_17 rfl (by decide) (Or.inl rfl) rfl ?_
    refine r_aload_n (v := 0) f_182_20 rfl (by decide) ?_
    refine r_getr (q := 10) f_182_21 rfl (by decide) (Or.inl rfl) rfl ?_
    refine r_iload_n (v := x1) f_182_24 rfl ?_
    refine r_iload_n (v := x2) f_182_25 rfl ?_
    refine r_iload_n (v := x3) f_182_26 rfl ?_
    exact r_callv (as := [vr 82, vr 10, vi x1, vi x2, vi x3]) (st' := []) (ls0 := [vr 82, vr 10, vi x1, vi x2, vi x3, vr 9999, vr 9999, vr 9999, vr 9999]) f_182_27 (by decide) rfl rfl (Nat.le_of_ble_eq_true rfl) (Nat.le_of_ble_eq_true rfl) ⟨_, _, rfl, rfl⟩ rfl (k1 c1)
  · have c1 := Decidable.not_not.mp c1
    refine r_aload_n (v := 0) f_182_10 rfl (by decide) ?_
    refine r_iconst f_182_11 (by decide) ?_
    refine r_callv (as := [vr 0, vi 1]) (st' := []) (ls0 := [vr 0, vi 1]) f_182_12 (by decide) rfl rfl (Nat.le_of_ble_eq_true rfl) (Nat.le_of_ble_eq_true rfl) ⟨_, _, rfl, rfl⟩ rfl ?_
    refine c_C_refuse  ?_
    show Wp true i_C_passes 15 [vr 0, vi x1, vi x2, vi x3, vr 9999] [vi (-1)] (hs h 0 0 1) Q
    exact r_reti f_182_15 rfl (k2 c1)

theorem g_C_passes_30 {Q : PQ} {h : HP} {x1 : Int} {x2 : Int} {x3 : Int} {s0 : Int} 
    (o1 : 0 ≤ s0 → 0 ≤ s0 ∧ s0 ≤ 2147483647)
    (k2 : 0 ≤ s0 → Q (some (vi (s0 / 100))) (hs h 0 0 0))
    (k3 : ¬ 0 ≤ s0 → Q (some (vi (-1))) (hs h 0 0 6)) :
    Wp true i_C_passes 30 [vr 0, vi x1, vi x2, vi x3, vr 9999] [vi s0] h Q := by
  refine r_istore (ls' := [vr 0, vi x1, vi x2, vi x3, vi s0]) f_182_30 (Nat.le_of_ble_eq_true rfl) rfl ?_
  refine r_iload (v := s0) f_182_32 rfl ?_
  refine r_br (t := 46) f_182_34 rfl cb_ge (fun c1 => ?_) (fun c1 => ?_)
  · refine r_aload_n (v := 0) f_182_46 rfl (by decide) ?_
    refine r_iload (v := s0) f_182_47 rfl ?_
    refine r_bipush f_182_49 (by decide) ?_
    refine r_idiv f_182_51 (o1 c1) (by decide) ?_
    refine r_callv (as := [vr 0, vi (s0 / 100)]) (st' := []) (ls0 := [vr 0, vi (s0 / 100)]) f_182_52 (by decide) rfl rfl (Nat.le_of_ble_eq_true rfl) (Nat.le_of_ble_eq_true rfl) ⟨_, _, rfl, rfl⟩ rfl ?_
    refine c_C_answer  ?_
    show Wp true i_C_passes 55 [vr 0, vi x1, vi x2, vi x3, vi s0] [vi (s0 / 100)] (hs h 0 0 0) Q
    exact r_reti f_182_55 rfl (k2 c1)
  · refine r_aload_n (v := 0) f_182_37 rfl (by decide) ?_
    refine r_bipush f_182_38 (by decide) ?_
    refine r_callv (as := [vr 0, vi 6]) (st' := []) (ls0 := [vr 0, vi 6]) f_182_40 (by decide) rfl rfl (Nat.le_of_ble_eq_true rfl) (Nat.le_of_ble_eq_true rfl) ⟨_, _, rfl, rfl⟩ rfl ?_
    refine c_C_refuse  ?_
    show Wp true i_C_passes 43 [vr 0, vi x1, vi x2, vi x3, vi s0] [vi (-1)] (hs h 0 0 6) Q
    refine r_goto (t := 55) f_182_43 rfl ?_
    exact r_reti f_182_55 rfl (k3 c1)

theorem g_C_steps_0 {Q : PQ} {h : HP} {x1 : Int} {x2 : Int} {x3 : Int} 
    (k1 : Wp true i_C_isCouple 0 [vr 0, vi x1, vi x2, vi x3] [] h (fun r h' => Wp true i_C_steps 7 [vr 0, vi x1, vi x2, vi x3, vr 9999] (r.toList ++ []) h' Q)) :
    Wp true i_C_steps 0 [vr 0, vi x1, vi x2, vi x3, vr 9999] [] h Q := by
  refine r_aload_n (v := 0) f_183_0 rfl (by decide) ?_
  refine r_iload_n (v := x1) f_183_1 rfl ?_
  refine r_iload_n (v := x2) f_183_2 rfl ?_
  refine r_iload_n (v := x3) f_183_3 rfl ?_
  exact r_callv (as := [vr 0, vi x1, vi x2, vi x3]) (st' := []) (ls0 := [vr 0, vi x1, vi x2, vi x3]) f_183_4 (by decide) rfl rfl (Nat.le_of_ble_eq_true rfl) (Nat.le_of_ble_eq_true rfl) ⟨_, _, rfl, rfl⟩ rfl k1

theorem g_C_steps_7 {Q : PQ} {h : HP} {x1 : Int} {x2 : Int} {x3 : Int} {s0 : Int} 
    (k1 : ¬ s0 = 0 → Wp true i_Is_wayCost 0 [vr 82, vr 10, vi x1, vi x2, vi x3, vr 9999, vr 9999, vr 9999, vr 9999] [] h (fun r h' => Wp true i_C_steps 30 [vr 0, vi x1, vi x2, vi x3, vr 9999] (r.toList ++ []) h' Q))
    (k2 : s0 = 0 → Q (some (vi (-1))) (hs h 0 0 1)) :
    Wp true i_C_steps 7 [vr 0, vi x1, vi x2, vi x3, vr 9999] [vi s0] h Q := by
  refine r_br (t := 16) f_183_7 rfl cb_ne (fun c1 => ?_) (fun c1 => ?_)
  · refine r_aload_n (v := 0) f_183_16 rfl (by decide) ?_
    refine r_getr (q := 82) f_183_17 rfl (by decide) (Or.inl rfl) rfl ?_
    refine r_aload_n (v := 0) f_183_20 rfl (by decide) ?_
    refine r_getr (q := 10) f_183_21 rfl (by decide) (Or.inl rfl) rfl ?_
    refine r_iload_n (v := x1) f_183_24 rfl ?_
    refine r_iload_n (v := x2) f_183_25 rfl ?_
    refine r_iload_n (v := x3) f_183_26 rfl ?_
    exact r_callv (as := [vr 82, vr 10, vi x1, vi x2, vi x3]) (st' := []) (ls0 := [vr 82, vr 10, vi x1, vi x2, vi x3, vr 9999, vr 9999, vr 9999, vr 9999]) f_183_27 (by decide) rfl rfl (Nat.le_of_ble_eq_true rfl) (Nat.le_of_ble_eq_true rfl) ⟨_, _, rfl, rfl⟩ rfl (k1 c1)
  · have c1 := Decidable.not_not.mp c1
    refine r_aload_n (v := 0) f_183_10 rfl (by decide) ?_
    refine r_iconst f_183_11 (by decide) ?_
    refine r_callv (as := [vr 0, vi 1]) (st' := []) (ls0 := [vr 0, vi 1]) f_183_12 (by decide) rfl rfl (Nat.le_of_ble_eq_true rfl) (Nat.le_of_ble_eq_true rfl) ⟨_, _, rfl, rfl⟩ rfl ?_
    refine c_C_refuse  ?_
    show Wp true i_C_steps 15 [vr 0, vi x1, vi x2, vi x3, vr 9999] [vi (-1)] (hs h 0 0 1) Q
    exact r_reti f_183_15 rfl (k2 c1)

theorem g_C_steps_30 {Q : PQ} {h : HP} {x1 : Int} {x2 : Int} {x3 : Int} {s0 : Int} 
    (o1 : 0 ≤ s0 → 0 ≤ s0)
    (k2 : 0 ≤ s0 → Q (some (vi (s0 % 100))) (hs h 0 0 0))
    (k3 : ¬ 0 ≤ s0 → Q (some (vi (-1))) (hs h 0 0 6)) :
    Wp true i_C_steps 30 [vr 0, vi x1, vi x2, vi x3, vr 9999] [vi s0] h Q := by
  refine r_istore (ls' := [vr 0, vi x1, vi x2, vi x3, vi s0]) f_183_30 (Nat.le_of_ble_eq_true rfl) rfl ?_
  refine r_iload (v := s0) f_183_32 rfl ?_
  refine r_br (t := 46) f_183_34 rfl cb_ge (fun c1 => ?_) (fun c1 => ?_)
  · refine r_aload_n (v := 0) f_183_46 rfl (by decide) ?_
    refine r_iload (v := s0) f_183_47 rfl ?_
    refine r_bipush f_183_49 (by decide) ?_
    refine r_irem f_183_51 (o1 c1) (by decide) ?_
    refine r_callv (as := [vr 0, vi (s0 % 100)]) (st' := []) (ls0 := [vr 0, vi (s0 % 100)]) f_183_52 (by decide) rfl rfl (Nat.le_of_ble_eq_true rfl) (Nat.le_of_ble_eq_true rfl) ⟨_, _, rfl, rfl⟩ rfl ?_
    refine c_C_answer  ?_
    show Wp true i_C_steps 55 [vr 0, vi x1, vi x2, vi x3, vi s0] [vi (s0 % 100)] (hs h 0 0 0) Q
    exact r_reti f_183_55 rfl (k2 c1)
  · refine r_aload_n (v := 0) f_183_37 rfl (by decide) ?_
    refine r_bipush f_183_38 (by decide) ?_
    refine r_callv (as := [vr 0, vi 6]) (st' := []) (ls0 := [vr 0, vi 6]) f_183_40 (by decide) rfl rfl (Nat.le_of_ble_eq_true rfl) (Nat.le_of_ble_eq_true rfl) ⟨_, _, rfl, rfl⟩ rfl ?_
    refine c_C_refuse  ?_
    show Wp true i_C_steps 43 [vr 0, vi x1, vi x2, vi x3, vi s0] [vi (-1)] (hs h 0 0 6) Q
    refine r_goto (t := 55) f_183_43 rfl ?_
    exact r_reti f_183_55 rfl (k3 c1)

theorem g_M_passes_0 {Q : PQ} {h : HP} {x1 : Int} {x2 : Int} {x3 : Int} 
    (k1 : Wp true i_M_isWay 0 [vr 103, vi x1, vi x2, vi x3] [] h (fun r h' => Wp true i_M_passes 7 [vr 103, vi x1, vi x2, vi x3, vr 9999] (r.toList ++ []) h' Q)) :
    Wp true i_M_passes 0 [vr 103, vi x1, vi x2, vi x3, vr 9999] [] h Q := by
  refine r_aload_n (v := 103) f_327_0 rfl (by decide) ?_
  refine r_iload_n (v := x1) f_327_1 rfl ?_
  refine r_iload_n (v := x2) f_327_2 rfl ?_
  refine r_iload_n (v := x3) f_327_3 rfl ?_
  exact r_callv (as := [vr 103, vi x1, vi x2, vi x3]) (st' := []) (ls0 := [vr 103, vi x1, vi x2, vi x3]) f_327_4 (by decide) rfl rfl (Nat.le_of_ble_eq_true rfl) (Nat.le_of_ble_eq_true rfl) ⟨_, _, rfl, rfl⟩ rfl k1

theorem g_M_passes_7 {Q : PQ} {h : HP} {x1 : Int} {x2 : Int} {x3 : Int} {s0 : Int} 
    (k1 : ¬ s0 = 0 → Wp true i_M_wayOf 0 [vr 103, vi x1, vi x2, vi x3, vr 9999, vr 9999] [] h (fun r h' => Wp true i_M_passes 23 [vr 103, vi x1, vi x2, vi x3, vr 9999] (r.toList ++ []) h' Q))
    (k2 : s0 = 0 → Q (some (vi (-1))) (hs h 103 2 1)) :
    Wp true i_M_passes 7 [vr 103, vi x1, vi x2, vi x3, vr 9999] [vi s0] h Q := by
  refine r_br (t := 16) f_327_7 rfl cb_ne (fun c1 => ?_) (fun c1 => ?_)
  · refine r_aload_n (v := 103) f_327_16 rfl (by decide) ?_
    refine r_iload_n (v := x1) f_327_17 rfl ?_
    refine r_iload_n (v := x2) f_327_18 rfl ?_
    refine r_iload_n (v := x3) f_327_19 rfl ?_
    exact r_callv (as := [vr 103, vi x1, vi x2, vi x3]) (st' := []) (ls0 := [vr 103, vi x1, vi x2, vi x3, vr 9999, vr 9999]) f_327_20 (by decide) rfl rfl (Nat.le_of_ble_eq_true rfl) (Nat.le_of_ble_eq_true rfl) ⟨_, _, rfl, rfl⟩ rfl (k1 c1)
  · have c1 := Decidable.not_not.mp c1
    refine r_aload_n (v := 103) f_327_10 rfl (by decide) ?_
    refine r_iconst f_327_11 (by decide) ?_
    refine r_callv (as := [vr 103, vi 1]) (st' := []) (ls0 := [vr 103, vi 1]) f_327_12 (by decide) rfl rfl (Nat.le_of_ble_eq_true rfl) (Nat.le_of_ble_eq_true rfl) ⟨_, _, rfl, rfl⟩ rfl ?_
    refine c_M_refuse  ?_
    show Wp true i_M_passes 15 [vr 103, vi x1, vi x2, vi x3, vr 9999] [vi (-1)] (hs h 103 2 1) Q
    exact r_reti f_327_15 rfl (k2 c1)

theorem g_M_passes_23 {Q : PQ} {h : HP} {x1 : Int} {x2 : Int} {x3 : Int} {s0 : Int} 
    (o1 : ¬ s0 = 1000000 → 0 ≤ s0 ∧ s0 ≤ 2147483647)
    (k2 : ¬ s0 = 1000000 → Q (some (vi (s0 / 100))) (hs h 103 2 0))
    (k3 : s0 = 1000000 → Q (some (vi (-1))) (hs h 103 2 6)) :
    Wp true i_M_passes 23 [vr 103, vi x1, vi x2, vi x3, vr 9999] [vi s0] h Q := by
  refine r_istore (ls' := [vr 103, vi x1, vi x2, vi x3, vi s0]) f_327_23 (Nat.le_of_ble_eq_true rfl) rfl ?_
  refine r_iload (v := s0) f_327_25 rfl ?_
  refine r_ldc_w f_327_27 (by decide) ?_
  refine r_br2 (t := 42) f_327_30 rfl cb_ne (fun c1 => ?_) (fun c1 => ?_)
  · refine r_aload_n (v := 103) f_327_42 rfl (by decide) ?_
    refine r_iload (v := s0) f_327_43 rfl ?_
    refine r_bipush f_327_45 (by decide) ?_
    refine r_idiv f_327_47 (o1 c1) (by decide) ?_
    refine r_callv (as := [vr 103, vi (s0 / 100)]) (st' := []) (ls0 := [vr 103, vi (s0 / 100)]) f_327_48 (by decide) rfl rfl (Nat.le_of_ble_eq_true rfl) (Nat.le_of_ble_eq_true rfl) ⟨_, _, rfl, rfl⟩ rfl ?_
    refine c_M_gives  ?_
    show Wp true i_M_passes 51 [vr 103, vi x1, vi x2, vi x3, vi s0] [vi (s0 / 100)] (hs h 103 2 0) Q
    exact r_reti f_327_51 rfl (k2 c1)
  · have c1 := Decidable.not_not.mp c1
    refine r_aload_n (v := 103) f_327_33 rfl (by decide) ?_
    refine r_bipush f_327_34 (by decide) ?_
    refine r_callv (as := [vr 103, vi 6]) (st' := []) (ls0 := [vr 103, vi 6]) f_327_36 (by decide) rfl rfl (Nat.le_of_ble_eq_true rfl) (Nat.le_of_ble_eq_true rfl) ⟨_, _, rfl, rfl⟩ rfl ?_
    refine c_M_refuse  ?_
    show Wp true i_M_passes 39 [vr 103, vi x1, vi x2, vi x3, vi s0] [vi (-1)] (hs h 103 2 6) Q
    refine r_goto (t := 51) f_327_39 rfl ?_
    exact r_reti f_327_51 rfl (k3 c1)

theorem g_M_steps_0 {Q : PQ} {h : HP} {x1 : Int} {x2 : Int} {x3 : Int} 
    (k1 : Wp true i_M_isWay 0 [vr 103, vi x1, vi x2, vi x3] [] h (fun r h' => Wp true i_M_steps 7 [vr 103, vi x1, vi x2, vi x3, vr 9999] (r.toList ++ []) h' Q)) :
    Wp true i_M_steps 0 [vr 103, vi x1, vi x2, vi x3, vr 9999] [] h Q := by
  refine r_aload_n (v := 103) f_328_0 rfl (by decide) ?_
  refine r_iload_n (v := x1) f_328_1 rfl ?_
  refine r_iload_n (v := x2) f_328_2 rfl ?_
  refine r_iload_n (v := x3) f_328_3 rfl ?_
  exact r_callv (as := [vr 103, vi x1, vi x2, vi x3]) (st' := []) (ls0 := [vr 103, vi x1, vi x2, vi x3]) f_328_4 (by decide) rfl rfl (Nat.le_of_ble_eq_true rfl) (Nat.le_of_ble_eq_true rfl) ⟨_, _, rfl, rfl⟩ rfl k1

theorem g_M_steps_7 {Q : PQ} {h : HP} {x1 : Int} {x2 : Int} {x3 : Int} {s0 : Int} 
    (k1 : ¬ s0 = 0 → Wp true i_M_wayOf 0 [vr 103, vi x1, vi x2, vi x3, vr 9999, vr 9999] [] h (fun r h' => Wp true i_M_steps 23 [vr 103, vi x1, vi x2, vi x3, vr 9999] (r.toList ++ []) h' Q))
    (k2 : s0 = 0 → Q (some (vi (-1))) (hs h 103 2 1)) :
    Wp true i_M_steps 7 [vr 103, vi x1, vi x2, vi x3, vr 9999] [vi s0] h Q := by
  refine r_br (t := 16) f_328_7 rfl cb_ne (fun c1 => ?_) (fun c1 => ?_)
  · refine r_aload_n (v := 103) f_328_16 rfl (by decide) ?_
    refine r_iload_n (v := x1) f_328_17 rfl ?_
    refine r_iload_n (v := x2) f_328_18 rfl ?_
    refine r_iload_n (v := x3) f_328_19 rfl ?_
    exact r_callv (as := [vr 103, vi x1, vi x2, vi x3]) (st' := []) (ls0 := [vr 103, vi x1, vi x2, vi x3, vr 9999, vr 9999]) f_328_20 (by decide) rfl rfl (Nat.le_of_ble_eq_true rfl) (Nat.le_of_ble_eq_true rfl) ⟨_, _, rfl, rfl⟩ rfl (k1 c1)
  · have c1 := Decidable.not_not.mp c1
    refine r_aload_n (v := 103) f_328_10 rfl (by decide) ?_
    refine r_iconst f_328_11 (by decide) ?_
    refine r_callv (as := [vr 103, vi 1]) (st' := []) (ls0 := [vr 103, vi 1]) f_328_12 (by decide) rfl rfl (Nat.le_of_ble_eq_true rfl) (Nat.le_of_ble_eq_true rfl) ⟨_, _, rfl, rfl⟩ rfl ?_
    refine c_M_refuse  ?_
    show Wp true i_M_steps 15 [vr 103, vi x1, vi x2, vi x3, vr 9999] [vi (-1)] (hs h 103 2 1) Q
    exact r_reti f_328_15 rfl (k2 c1)

theorem g_M_steps_23 {Q : PQ} {h : HP} {x1 : Int} {x2 : Int} {x3 : Int} {s0 : Int} 
    (o1 : ¬ s0 = 1000000 → 0 ≤ s0)
    (k2 : ¬ s0 = 1000000 → Q (some (vi (s0 % 100))) (hs h 103 2 0))
    (k3 : s0 = 1000000 → Q (some (vi (-1))) (hs h 103 2 6)) :
    Wp true i_M_steps 23 [vr 103, vi x1, vi x2, vi x3, vr 9999] [vi s0] h Q := by
  refine r_istore (ls' := [vr 103, vi x1, vi x2, vi x3, vi s0]) f_328_23 (Nat.le_of_ble_eq_true rfl) rfl ?_
  refine r_iload (v := s0) f_328_25 rfl ?_
  refine r_ldc_w f_328_27 (by decide) ?_
  refine r_br2 (t := 42) f_328_30 rfl cb_ne (fun c1 => ?_) (fun c1 => ?_)
  · refine r_aload_n (v := 103) f_328_42 rfl (by decide) ?_
    refine r_iload (v := s0) f_328_43 rfl ?_
    refine r_bipush f_328_45 (by decide) ?_
    refine r_irem f_328_47 (o1 c1) (by decide) ?_
    refine r_callv (as := [vr 103, vi (s0 % 100)]) (st' := []) (ls0 := [vr 103, vi (s0 % 100)]) f_328_48 (by decide) rfl rfl (Nat.le_of_ble_eq_true rfl) (Nat.le_of_ble_eq_true rfl) ⟨_, _, rfl, rfl⟩ rfl ?_
    refine c_M_gives  ?_
    show Wp true i_M_steps 51 [vr 103, vi x1, vi x2, vi x3, vi s0] [vi (s0 % 100)] (hs h 103 2 0) Q
    exact r_reti f_328_51 rfl (k2 c1)
  · have c1 := Decidable.not_not.mp c1
    refine r_aload_n (v := 103) f_328_33 rfl (by decide) ?_
    refine r_bipush f_328_34 (by decide) ?_
    refine r_callv (as := [vr 103, vi 6]) (st' := []) (ls0 := [vr 103, vi 6]) f_328_36 (by decide) rfl rfl (Nat.le_of_ble_eq_true rfl) (Nat.le_of_ble_eq_true rfl) ⟨_, _, rfl, rfl⟩ rfl ?_
    refine c_M_refuse  ?_
    show Wp true i_M_steps 39 [vr 103, vi x1, vi x2, vi x3, vi s0] [vi (-1)] (hs h 103 2 6) Q
    refine r_goto (t := 51) f_328_39 rfl ?_
    exact r_reti f_328_51 rfl (k3 c1)

/-- closed for good: a BIG thing's board that is neither end -/
def BC (R : HP) (x3 x4 : Int) (n : Nat) (c r : Nat) : Prop := ∃ t : Nat, t < n ∧ ¬ (t : Int) = x3 ∧ ¬ (t : Int) = x4 ∧ R 7 t = 1 ∧ R 2 t = c ∧ R 3 t = r
def DjI (R : HP) (l : Int) (h0 h1 : HP) (x3 x4 : Int) (cs rs ct rt : Nat) (turn : Int) : Prop :=
  (∀ k, k ≠ 82 → k ≠ 88 → h1 k = h0 k) ∧ (∀ c r, isB R c r → BC R x3 x4 (R 0 3).toNat c r → btL (h1 82 8) (9 * r + c) = true) ∧
  (∀ c r, isB R c r → h1 88 (9 * r + c) = 1000000 ∨ (0 ≤ h1 88 (9 * r + c) ∧ h1 88 (9 * r + c) ≤ 100 + 101 * turn ∧ Pth R l 1 (wF0 R l cs rs) (wLv R cs rs) c r (h1 88 (9 * r + c)))) ∧
  (∀ c r, isB R c r → btL (h1 82 8) (9 * r + c) = true → ¬ BC R x3 x4 (R 0 3).toNat c r → h1 88 (9 * r + c) < 1000000 ∧ ∀ c' r', isB R c' r' → nb c r c' r' → ¬ BC R x3 x4 (R 0 3).toNat c' r' → h1 88 (9 * r' + c') ≤ h1 88 (9 * r + c) + wtW R l 1 c' r') ∧
  (∀ c r c' r', isB R c r → isB R c' r' → btL (h1 82 8) (9 * r + c) = true → ¬ BC R x3 x4 (R 0 3).toNat c r → btL (h1 82 8) (9 * r' + c') = false → h1 88 (9 * r + c) ≤ h1 88 (9 * r' + c')) ∧
  btL (h1 82 8) (9 * rt + ct) = false ∧ h1 88 (9 * rs + cs) ≤ wF0 R l cs rs cs rs ∧ (∀ j, j < 63 → ¬ isB R (j % 9) (j / 9) → h1 88 j = 1000000) ∧ cnt R (fun c r => btL (h1 82 8) (9 * r + c) = false) + turn ≤ 63
theorem c_Is_wayCost {Q : PQ} {h R : HP} {x2 x3 x4 : Int} {f1 cs rs ct rt : Nat} (h_f1 : isF f1) (eR : rmC h f1 = R) (W : WR R) (h3 : 0 ≤ x3 ∧ x3 < R 0 3) (h4 : 0 ≤ x4 ∧ x4 < R 0 3) (hne : ¬ x3 = x4) (e3 : R 2 x3.toNat = cs ∧ R 3 x3.toNat = rs ∧ isB R cs rs ∧ rOn R cs rs = x3) (e4 : R 2 x4.toNat = ct ∧ R 3 x4.toNat = rt ∧ isB R ct rt ∧ rOn R ct rt = x4)
    (k : ∀ h', (∀ k, ¬ (82 ≤ k ∧ k ≤ 98) → h' k = h k) → (wayD R x2 cs rs ct rt = 1000000 ∨ (0 ≤ wayD R x2 cs rs ct rt ∧ wayD R x2 cs rs ct rt ≤ 999999)) → Q (some (vi (if wayD R x2 cs rs ct rt = 1000000 then -1 else wayD R x2 cs rs ct rt))) h') : Wp true i_Is_wayCost 0 [vr 82, vr f1, vi x2, vi x3, vi x4, vr 9999, vr 9999, vr 9999, vr 9999] [] h Q := by
  have w := W.1
  have d0 := cdim eR
  have fl : f1 + 8 ≤ 82 := by unfold isF at h_f1; omega
  have s1 := e3.2.2.1.1
  have s2 := e3.2.2.1.2
  have t1 := e4.2.2.1.1
  have t2 := e4.2.2.1.2
  have hst : ¬ (cs = ct ∧ rs = rt) := by
    intro q
    have a := e3.2.2.2
    rw [q.1, q.2, e4.2.2.2] at a
    exact hne a.symm
  -- what may not be left
  have bcL : ∀ c r, BC R x3 x4 (R 0 3).toNat c r → ¬ wLv R cs rs c r := by
    intro c r q lv
    obtain ⟨t, q1, q2, q3, q4, q5, q6⟩ := q
    have o := rOn_self W (t := t) (by omega)
    rw [q5, q6] at o
    rcases lv with z | z
    · rw [z.1, z.2, e3.2.2.2] at o; exact q2 o.symm
    · exact z ⟨by omega, by rw [o, Int.toNat_natCast]; exact q4⟩
  have lvO : ∀ c r, isB R c r → ¬ BC R x3 x4 (R 0 3).toNat c r → ¬ (c = ct ∧ r = rt) → wLv R cs rs c r := by
    intro c r hb q ng
    by_cases z : bigAt R c r
    · left
      rcases rOn_rg R c r with u | ⟨u1, u2, u3, u4⟩
      · have := z.1; omega
      · by_cases y : rOn R c r = x3
        · rw [y] at u3 u4
          rw [e3.1] at u3
          rw [e3.2.1] at u4
          omega
        · by_cases y2 : rOn R c r = x4
          · rw [y2] at u3 u4
            rw [e4.1] at u3
            rw [e4.2.1] at u4
            exact absurd ⟨by omega, by omega⟩ ng
          · exact absurd ⟨(rOn R c r).toNat, by omega, by omega, by omega, z.2, u3, u4⟩ q
    · exact Or.inr z
  have lt : ∀ c r, isB R c r → 9 * r + c < 63 := fun c r q => by have := q.1; have := q.2; omega
  have un : ∀ c r c' r', isB R c r → isB R c' r' → 9 * r + c = 9 * r' + c' → c = c' ∧ r = r' := fun c r c' r' q1 q2 e => by have := q1.1; have := q2.1; omega
  refine g_Is_wayCost_0 h_f1 (c_Is_findKeepers h_f1 eR W (fun h0 f0 kp => ?_))
  refine g_Is_wayCost_5 h_f1 (c_Ar_fillI (n0 := 63) ⟨rfl, rfl⟩ (by decide) (by decide) ?_)
  refine g_Is_wayCost_14 h_f1 ?_
  have F0 : ∀ h1 : HP, (∀ k, k ≠ 82 → k ≠ 88 → h1 k = h0 k) → (∀ k, ¬ (82 ≤ k ∧ k ≤ 98) → h1 k = h k) := fun h1 f k hk => (f k (by omega) (by omega)).trans (f0 k (by omega))
  have fr : ∀ h1 : HP, (∀ k, k ≠ 82 → k ≠ 88 → h1 k = h0 k) → rmC h1 f1 = R := fun h1 f => (rC_frame h_f1 (fun k hk => F0 h1 f k (by omega))).trans eR
  have kpr : ∀ h1 : HP, (∀ k, k ≠ 82 → k ≠ 88 → h1 k = h0 k) → ∀ c r, isB R c r → h1 83 (9 * r + c) = rLand R c r := fun h1 f c r q => by rw [f 83 (by decide) (by decide)]; exact kp c r q
  have wr0 := wF0_rg (R := R) (l := x2) (cs := cs) (rs := rs)
  -- the end
  have p159 : ∀ (h1 : HP) (v : Int) (x6 x7 : Int) (j8 : AV), (∀ k, k ≠ 82 → k ≠ 88 → h1 k = h0 k) → v = wayD R x2 cs rs ct rt → h1 88 (9 * rt + ct) = v → (v = 1000000 ∨ (0 ≤ v ∧ v ≤ 999999)) → Wp true i_Is_wayCost 159 [vr 82, vr f1, vi x2, vi x3, vi x4, vi ((9 * rt + ct : Nat) : Int), vi x6, vi x7, j8] [] h1 Q := by
    intro h1 v x6 x7 j8 f ev e88 hv
    have kk := k h1 (F0 h1 f) (by rw [← ev]; exact hv)
    rw [← ev] at kk
    refine g_Is_wayCost_159 h_f1 (by omega) (fun q => ?_) (fun q => ?_)
    · rw [Int.toNat_natCast, e88] at q
      rw [if_pos (by omega)] at kk; exact kk
    · rw [Int.toNat_natCast, e88] at q
      rw [Int.toNat_natCast, e88]
      rw [if_neg (by omega)] at kk; exact kk
  have loop : ∀ (d : Nat) (turn : Int) (h1 : HP) (x6 : Int) (j8 : AV), 0 ≤ turn → turn + d = 63 → DjI R x2 h0 h1 x3 x4 cs rs ct rt turn → Wp true i_Is_wayCost 111 [vr 82, vr f1, vi x2, vi x3, vi x4, vi ((9 * rt + ct : Nat) : Int), vi x6, vi turn, j8] [] h1 Q := by
    intro d
    induction d with
    | zero =>
      intro turn h1 x6 j8 z0 e I
      exfalso
      have I6 := I.2.2.2.2.2.1
      have c9 := I.2.2.2.2.2.2.2.2
      have := cnt_upd (R := R) (p := fun _ _ => False) (q := fun c r => (c = ct ∧ r = rt)) e4.2.2.1 (fun q => q) (fun c r _ => ⟨fun q => Or.inr q, fun q => q.elim (fun y => y.elim) (fun y => y)⟩)
      have z : cnt R (fun c r => btL (h1 82 8) (9 * r + c) = false) = 0 := by
        have := cnt_rg W (fun c r => btL (h1 82 8) (9 * r + c) = false)
        omega
      have up := cnt_upd (R := R) (p := fun c r => btL (h1 82 8) (9 * r + c) = false ∧ ¬ (c = ct ∧ r = rt)) (q := fun c r => btL (h1 82 8) (9 * r + c) = false) e4.2.2.1 (fun q => q.2 ⟨rfl, rfl⟩) (fun c r _ => ⟨fun q => by
        by_cases y : c = ct ∧ r = rt
        · exact Or.inr y
        · exact Or.inl ⟨q, y⟩, fun q => q.elim (fun y => y.1) (fun y => by rw [y.1, y.2]; exact I6)⟩)
      have := cnt_rg W (fun c r => btL (h1 82 8) (9 * r + c) = false ∧ ¬ (c = ct ∧ r = rt))
      omega
    | succ d ih =>
      intro turn h1 x6 j8 z0 e I
      obtain ⟨I1, I2, I3, I4, I5, I6, I7, I8, I9⟩ := I
      have ngB : ¬ BC R x3 x4 (R 0 3).toNat ct rt := fun q => by
        have := I2 ct rt e4.2.2.1 q
        rw [I6] at this
        exact absurd this (by decide)
      refine g_Is_wayCost_111 h_f1 (fun q => by omega) (fun _ => ?_)
      refine c_Is_cheapestOpen (fun none => ?_) (fun m m1 m2 m3 m4 => ?_)
      · -- nothing more can be reached
        have no : ∀ dd, ¬ Pth R x2 1 (wF0 R x2 cs rs) (wLv R cs rs) ct rt dd := by
          intro dd p
          have := p (fun x y _ => isB R x y ∧ btL (h1 82 8) (9 * y + x) = true) (fun x y b q => ?_) (fun x y dd x' y' q lv n b => ?_)
          · rw [I6] at this; exact absurd this.2 (by decide)
          · refine ⟨b, ?_⟩
            by_cases z : x = cs ∧ y = rs
            · rw [z.1, z.2]
              cases eb : btL (h1 82 8) (9 * rs + cs) with
              | true => rfl
              | false =>
                have := none _ (lt cs rs e3.2.2.1) eb
                omega
            · exact absurd (wF0_o z) q
          · refine ⟨b, ?_⟩
            have nB : ¬ BC R x3 x4 (R 0 3).toNat x y := fun z => bcL x y z lv
            have a := I4 x y q.1 q.2 nB
            by_cases z : BC R x3 x4 (R 0 3).toNat x' y'
            · exact I2 x' y' b z
            · have c1 := a.2 x' y' b n z
              have ww := wtW_rg (R := R) (l := x2) (st := 1) (c := x') (r := y') (by omega)
              have i3 := I3 x y q.1
              cases eb : btL (h1 82 8) (9 * y' + x') with
              | true => rfl
              | false =>
                have := none _ (lt x' y' b) eb
                omega
        have ev : (1000000 : Int) = wayD R x2 cs rs ct rt := (mnV_no no).symm
        have c88 : h1 88 (9 * rt + ct) = 1000000 := by
          have := none _ (lt ct rt e4.2.2.1) I6
          rcases I3 ct rt e4.2.2.1 with z | z
          · exact z
          · omega
        exact g_Is_wayCost_122 h_f1 (fun _ => p159 h1 1000000 x6 turn _ I1 ev c88 (Or.inl rfl)) (fun q => absurd (by decide) q) (fun q => absurd (by decide) q)
      · -- a board is taken
        have bm : isB R (m % 9) (m / 9) := by
          by_cases z : isB R (m % 9) (m / 9)
          · exact z
          · have := I8 m m1 z; omega
        obtain ⟨a, b, ea, eb⟩ : ∃ a b : Nat, a = m % 9 ∧ b = m / 9 := ⟨_, _, rfl, rfl⟩
        rw [← ea, ← eb] at bm
        have em : m = 9 * b + a := by omega
        clear ea eb
        subst em
        have nBm : ¬ BC R x3 x4 (R 0 3).toNat a b := fun q => by
          have := I2 a b bm q
          rw [m2] at this
          exact absurd this (by decide)
        have im := I3 a b bm
        refine g_Is_wayCost_122 h_f1 (fun q => by omega) (fun q1 q2 => ?_) (fun q1 q2 => ?_)
        · have ng : ¬ (a = ct ∧ b = rt) := fun q => q2 (by rw [q.1, q.2])
          have lv := lvO a b bm nBm ng
          have bit : ∀ j, j < 63 → btL (o_lor (h1 82 8) (o_lshl 1 ((9 * b + a : Nat) : Int))) j = (btL (h1 82 8) j || decide (j = 9 * b + a)) := fun j hj => bL_set (by omega) (by omega)
          have f82 : ∀ k, k ≠ 82 → hs h1 82 8 (o_lor (h1 82 8) (o_lshl 1 ((9 * b + a : Nat) : Int))) k = h1 k := fun k hk => hs_ne hk
          have eR1 : rmC (hs h1 82 8 (o_lor (h1 82 8) (o_lshl 1 ((9 * b + a : Nat) : Int)))) f1 = R := (rC_cell h_f1 (by decide)).trans (fr h1 I1)
          have e8 : hs h1 82 8 (o_lor (h1 82 8) (o_lshl 1 ((9 * b + a : Nat) : Int))) 82 8 = o_lor (h1 82 8) (o_lshl 1 ((9 * b + a : Nat) : Int)) := hs_s
          refine c_Is_stepFrom h_f1 eR1 W (fun c r q => by rw [f82 83 (by decide)]; exact kpr h1 I1 c r q) bm rfl (by rw [f82 88 (by decide)]; omega) (fun h2 F P => ?_)
          rw [f82 88 (by decide), e8] at P
          have F1 := F.1
          have F2 := F.2
          rw [f82 88 (by decide), e8] at F2
          have g82 : h2 82 8 = o_lor (h1 82 8) (o_lshl 1 ((9 * b + a : Nat) : Int)) := by rw [F1 82 (by decide)]; exact e8
          have opn : ∀ c r, isB R c r → (btL (h2 82 8) (9 * r + c) = false ↔ btL (h1 82 8) (9 * r + c) = false ∧ ¬ (c = a ∧ r = b)) := by
            intro c r q
            rw [g82, bit _ (lt c r q), Bool.or_eq_false_iff, decide_eq_false_iff_not]
            constructor
            · intro z; exact ⟨z.1, fun y => z.2 (by rw [y.1, y.2])⟩
            · intro z; exact ⟨z.1, fun y => z.2 (un c r a b q bm y)⟩
          have cls : ∀ c r, isB R c r → (btL (h2 82 8) (9 * r + c) = true ↔ btL (h1 82 8) (9 * r + c) = true ∨ (c = a ∧ r = b)) := by
            intro c r q
            rw [g82, bit _ (lt c r q), Bool.or_eq_true, decide_eq_true_iff]
            constructor
            · intro z; exact z.elim Or.inl (fun y => Or.inr (un c r a b q bm y))
            · intro z; exact z.elim Or.inl (fun y => Or.inr (by rw [y.1, y.2]))
          -- the costs
          have cst : ∀ c r, isB R c r → h2 88 (9 * r + c) = h1 88 (9 * r + c) ∨ (nb a b c r ∧ btL (h2 82 8) (9 * r + c) = false ∧ h2 88 (9 * r + c) = h1 88 (9 * b + a) + wtW R x2 1 c r ∧ h2 88 (9 * r + c) ≤ h1 88 (9 * r + c)) := by
            intro c r q
            rcases F2 (9 * r + c) with z | ⟨c', r', z1, z2, z3, z4, z5, z6⟩
            · exact Or.inl z
            · obtain ⟨rfl, rfl⟩ := un c r c' r' q z2 z1
              right
              rw [← g82] at z4
              exact ⟨z3, z4, z5, z6⟩
          have le : ∀ c r, isB R c r → h2 88 (9 * r + c) ≤ h1 88 (9 * r + c) := fun c r q => by
            rcases cst c r q with z | z <;> omega
          have keep : ∀ c r, isB R c r → btL (h2 82 8) (9 * r + c) = true → h2 88 (9 * r + c) = h1 88 (9 * r + c) := fun c r q z => by
            rcases cst c r q with y | y
            · exact y
            · rw [z] at y; exact absurd y.2.1 (by decide)
          have clm : btL (h2 82 8) (9 * b + a) = true := (cls a b bm).mpr (Or.inr ⟨rfl, rfl⟩)
          refine g_Is_wayCost_153 h_f1 (by omega) ?_
          refine ih (turn + 1) h2 x6 _ (by omega) (by omega) ⟨fun k k1 k2 => ?_, fun c r q z => ?_, fun c r q => ?_, fun c r q z1 z2 => ?_, fun c r c' r' q1' q2' z1 z2 z3 => ?_, ?_, ?_, fun j hj z => ?_, ?_⟩
          · rw [F1 k k2, f82 k k1]; exact I1 k k1 k2
          · exact (cls c r q).mpr (Or.inl (I2 c r q z))
          · rcases cst c r q with y | y
            · rw [y]
              rcases I3 c r q with u | u
              · exact Or.inl u
              · right; exact ⟨u.1, by omega, u.2.2⟩
            · right
              have ww := wtW_rg (R := R) (l := x2) (st := 1) (c := c) (r := r) (by omega)
              rcases im with u | u
              · omega
              · rw [y.2.2.1]
                exact ⟨by omega, by omega, Pth_s u.2.2 lv y.1 q⟩
          · have kp1 := keep c r q z1
            rcases (cls c r q).mp z1 with y | y
            · have a1 := I4 c r q y z2
              refine ⟨by omega, fun c' r' p1 p2 p3 => ?_⟩
              have a2 := a1.2 c' r' p1 p2 p3
              have a3 := le c' r' p1
              omega
            · rw [y.1, y.2] at kp1 ⊢
              refine ⟨by omega, fun c' r' p1 p2 p3 => ?_⟩
              have ww := wtW_rg (R := R) (l := x2) (st := 1) (c := c') (r := r') (by omega)
              cases eb : btL (h2 82 8) (9 * r' + c') with
              | false =>
                rw [kp1]
                rw [g82] at eb
                exact P c' r' p1 p2 eb
              | true =>
                have k2 := keep c' r' p1 eb
                rcases (cls c' r' p1).mp eb with u | u
                · have := I5 c' r' a b p1 bm u p3 m2
                  omega
                · exfalso
                  rw [u.1, u.2] at p2
                  unfold nb at p2
                  omega
          · have k1 := keep c r q1' z1
            have o2 := (opn c' r' q2').mp z3
            have ww := wtW_rg (R := R) (l := x2) (st := 1) (c := c') (r := r') (by omega)
            have bound : h1 88 (9 * r + c) ≤ h1 88 (9 * r' + c') ∧ h1 88 (9 * r + c) ≤ h1 88 (9 * b + a) := by
              rcases (cls c r q1').mp z1 with y | y
              · exact ⟨I5 c r c' r' q1' q2' y z2 o2.1, I5 c r a b q1' bm y z2 m2⟩
              · rw [y.1, y.2]
                exact ⟨m4 _ (lt c' r' q2') o2.1, Int.le_refl _⟩
            rcases cst c' r' q2' with u | u <;> omega
          · exact (opn ct rt e4.2.2.1).mpr ⟨I6, fun q => ng ⟨q.1.symm, q.2.symm⟩⟩
          · have := le cs rs e3.2.2.1
            omega
          · rcases F2 j with y | ⟨c', r', y1, y2, -⟩
            · rw [y]; exact I8 j hj z
            · exfalso
              have := y2.1
              rw [y1, show (9 * r' + c') % 9 = c' by omega, show (9 * r' + c') / 9 = r' by omega] at z
              exact z y2
          · have up := cnt_upd (R := R) (p := fun c r => btL (h2 82 8) (9 * r + c) = false) (q := fun c r => btL (h1 82 8) (9 * r + c) = false) bm (fun q => by rw [clm] at q; exact absurd q (by decide)) (fun c r q => ⟨fun z => by
              by_cases y : c = a ∧ r = b
              · exact Or.inr y
              · exact Or.inl ((opn c r q).mpr ⟨z, y⟩), fun z => z.elim (fun y => ((opn c r q).mp y).1) (fun y => by rw [y.1, y.2]; exact m2)⟩)
            omega
        · -- the goal
          obtain ⟨rfl, rfl⟩ := un a b ct rt bm e4.2.2.1 (by omega)
          have ev : h1 88 (9 * b + a) = wayD R x2 cs rs a b := by
            symm
            refine mnV_eq ?_ (fun dd p => ?_)
            · rcases im with u | u
              · omega
              · exact u.2.2
            · have := p (fun x y dd => isB R x y ∧ (BC R x3 x4 (R 0 3).toNat x y ∨ (btL (h1 82 8) (9 * y + x) = true ∧ h1 88 (9 * y + x) ≤ dd) ∨ h1 88 (9 * b + a) ≤ dd)) (fun x y bb q => ?_) (fun x y dd x' y' q lv n bb => ?_)
              · rcases this.2 with u | u | u
                · exact absurd u ngB
                · rw [I6] at u; exact absurd u.1 (by decide)
                · exact u
              · refine ⟨bb, ?_⟩
                by_cases z : x = cs ∧ y = rs
                · rw [z.1, z.2]
                  right
                  cases eb : btL (h1 82 8) (9 * rs + cs) with
                  | true => left; exact ⟨rfl, I7⟩
                  | false =>
                    right
                    have := m4 _ (lt cs rs e3.2.2.1) eb
                    omega
                · exact absurd (wF0_o z) q
              · refine ⟨bb, ?_⟩
                have nB : ¬ BC R x3 x4 (R 0 3).toNat x y := fun z => bcL x y z lv
                have ww := wtW_rg (R := R) (l := x2) (st := 1) (c := x') (r := y') (by omega)
                rcases q.2 with u | u | u
                · exact absurd u nB
                · have a1 := I4 x y q.1 u.1 nB
                  by_cases z : BC R x3 x4 (R 0 3).toNat x' y'
                  · exact Or.inl z
                  · have c1 := a1.2 x' y' bb n z
                    right
                    cases eb : btL (h1 82 8) (9 * y' + x') with
                    | true => left; exact ⟨rfl, by omega⟩
                    | false =>
                      right
                      have := m4 _ (lt x' y' bb) eb
                      omega
                · right; right; omega
          exact p159 h1 _ x6 turn _ I1 ev rfl (Or.inr (by omega))
  -- the things that are in the way
  have things : ∀ (d i : Nat) (h1 : HP), (i : Int) + d = R 0 3 → (∀ k, k ≠ 82 → k ≠ 88 → h1 k = h0 k) → (∀ j, j < 63 → h1 88 j = 1000000) → (∀ c r, isB R c r → (btL (h1 82 8) (9 * r + c) = true ↔ BC R x3 x4 i c r)) → Wp true i_Is_wayCost 22 [vr 82, vr f1, vi x2, vi x3, vi x4, vi (i : Int), vr 9999, vr 9999, vr 9999] [] h1 Q := by
    intro d
    induction d with
    | zero =>
      intro i h1 e f hu hbt
      have eR1 := fr h1 f
      have d1 := cdim eR1
      have ei : i = (R 0 3).toNat := by omega
      subst ei
      have es : rmC h1 f1 3 x3.toNat * 9 + rmC h1 f1 2 x3.toNat = ((9 * rs + cs : Nat) : Int) := by rw [eR1, e3.1, e3.2.1]; omega
      have et : rmC h1 f1 3 x4.toNat * 9 + rmC h1 f1 2 x4.toNat = ((9 * rt + ct : Nat) : Int) := by rw [eR1, e4.1, e4.2.1]; omega
      have kps := kpr h1 f cs rs e3.2.2.1
      have fin : ∀ v : Int, v = wF0 R x2 cs rs cs rs → Wp true i_Is_wayCost 111 [vr 82, vr f1, vi x2, vi x3, vi x4, vi ((9 * rt + ct : Nat) : Int), vi ((9 * rs + cs : Nat) : Int), vi 0, vr 9999] [] (hs h1 88 (9 * rs + cs) v) Q := by
        intro v ev
        have f8 : hs h1 88 (9 * rs + cs) v 82 = h1 82 := hs_ne (by decide)
        have c8 : ∀ c r, isB R c r → hs h1 88 (9 * rs + cs) v 88 (9 * r + c) = wF0 R x2 cs rs c r := by
          intro c r q
          by_cases z : c = cs ∧ r = rs
          · rw [z.1, z.2, hs_s]; exact ev
          · rw [hs_o (Or.inr (fun y => z (un c r cs rs q e3.2.2.1 y))), hu _ (lt c r q), wF0_o z]
        have nset : ∀ c r, isB R c r → btL (h1 82 8) (9 * r + c) = true → ¬ BC R x3 x4 (R 0 3).toNat c r → False := fun c r q z1 z2 => z2 ((hbt c r q).mp z1)
        refine loop 63 0 _ _ _ (by omega) (by omega) ⟨fun k k1 k2 => (hs_ne k2).trans (f k k1 k2), fun c r q z => ?_, fun c r q => ?_, fun c r q z1 z2 => ?_, fun c r c' r' q1 q2 z1 z2 => ?_, ?_, ?_, fun j hj z => ?_, ?_⟩
        · rw [f8]; exact (hbt c r q).mpr z
        · rw [c8 c r q]
          by_cases z : c = cs ∧ r = rs
          · right
            rw [z.1, z.2] at q ⊢
            exact ⟨wr0.1, by omega, Pth_0 q (by omega)⟩
          · left; exact wF0_o z
        · rw [f8] at z1; exact (nset c r q z1 z2).elim
        · rw [f8] at z1; exact (nset c r q1 z1 z2).elim
        · rw [f8]
          cases eb : btL (h1 82 8) (9 * rt + ct) with
          | false => rfl
          | true =>
            exfalso
            obtain ⟨t, q1, q2, q3, q4, q5, q6⟩ := (hbt ct rt e4.2.2.1).mp eb
            have o := rOn_self W (t := t) (by omega)
            rw [q5, q6, e4.2.2.2] at o
            exact q3 o.symm
        · rw [hs_s, ev]; exact Int.le_refl _
        · rw [hs_o (Or.inr (fun y => ?_)), hu j hj]
          rw [y, show (9 * rs + cs) % 9 = cs by omega, show (9 * rs + cs) / 9 = rs by omega] at z
          exact z e3.2.2.1
        · have := cnt_rg W (fun c r => btL (hs h1 88 (9 * rs + cs) v 82 8) (9 * r + c) = false)
          omega
      refine g_Is_wayCost_22 h_f1 ?_ ?_ ?_ ?_ ?_ ?_ ?_ ?_ ?_ ?_ ?_ ?_ ?_ ?_ ?_ ?_
      · intro c1; (try simp only [Int.toNat_natCast] at c1); first | omega | (exfalso; omega) | exact ⟨by omega, by omega⟩ | (first | (rw [eR1]; exact W) | (rw [es]; omega)) | exact absurd trivial ‹¬ True›
      · intro c1; (try simp only [Int.toNat_natCast] at c1); first | omega | (exfalso; omega) | exact ⟨by omega, by omega⟩ | (first | (rw [eR1]; exact W) | (rw [es]; omega)) | exact absurd trivial ‹¬ True›
      · intro c1; (try simp only [Int.toNat_natCast] at c1); first | omega | (exfalso; omega) | exact ⟨by omega, by omega⟩ | (first | (rw [eR1]; exact W) | (rw [es]; omega)) | exact absurd trivial ‹¬ True›
      · intro c1; (try simp only [Int.toNat_natCast] at c1); first | omega | (exfalso; omega) | exact ⟨by omega, by omega⟩ | (first | (rw [eR1]; exact W) | (rw [es]; omega)) | exact absurd trivial ‹¬ True›
      · intro c1 c2; (try simp only [Int.toNat_natCast] at c1 c2)
        rw [es, Int.toNat_natCast, kps] at c2
        rw [es, et, Int.toNat_natCast]
        exact fin 100 (by rw [wF0_s, if_neg c2])
      · intro c1 c2; (try simp only [Int.toNat_natCast] at c1 c2)
        rw [es, Int.toNat_natCast, kps] at c2
        rw [es, et, Int.toNat_natCast]
        exact fin 0 (by rw [wF0_s, if_pos c2])
      · intro c1 c2; (try simp only [Int.toNat_natCast] at c1 c2); first | omega | (exfalso; omega) | exact ⟨by omega, by omega⟩ | (first | (rw [eR1]; exact W) | (rw [es]; omega)) | exact absurd trivial ‹¬ True›
      · intro c1 c2; (try simp only [Int.toNat_natCast] at c1 c2); first | (exfalso; omega) | exact absurd trivial ‹¬ True› | (skip)
      · intro c1 c2 c3; (try simp only [Int.toNat_natCast] at c1 c2 c3); first | omega | (exfalso; omega) | exact ⟨by omega, by omega⟩ | (first | (rw [eR1]; exact W) | (rw [es]; omega)) | exact absurd trivial ‹¬ True›
      · intro c1 c2 c3; (try simp only [Int.toNat_natCast] at c1 c2 c3); first | (exfalso; omega) | exact absurd trivial ‹¬ True› | (skip)
      · intro c1 c2 c3 c4; (try simp only [Int.toNat_natCast] at c1 c2 c3 c4); first | omega | (exfalso; omega) | exact ⟨by omega, by omega⟩ | (first | (rw [eR1]; exact W) | (rw [es]; omega)) | exact absurd trivial ‹¬ True›
      · intro c1 c2 c3 c4; (try simp only [Int.toNat_natCast] at c1 c2 c3 c4); first | (exfalso; omega) | exact absurd trivial ‹¬ True› | (skip)
      · intro c1 c2 c3 c4; (try simp only [Int.toNat_natCast] at c1 c2 c3 c4); first | omega | (exfalso; omega) | exact ⟨by omega, by omega⟩ | (first | (rw [eR1]; exact W) | (rw [es]; omega)) | exact absurd trivial ‹¬ True›
      · intro c1 c2 c3 c4; (try simp only [Int.toNat_natCast] at c1 c2 c3 c4); first | omega | (exfalso; omega) | exact ⟨by omega, by omega⟩ | (first | (rw [eR1]; exact W) | (rw [es]; omega)) | exact absurd trivial ‹¬ True›
      · intro c1 c2 c3 c4; (try simp only [Int.toNat_natCast] at c1 c2 c3 c4); first | omega | (exfalso; omega) | exact ⟨by omega, by omega⟩ | (first | (rw [eR1]; exact W) | (rw [es]; omega)) | exact absurd trivial ‹¬ True›
      · intro c1 c2 c3 c4; (try simp only [Int.toNat_natCast] at c1 c2 c3 c4); first | (exfalso; omega) | exact absurd trivial ‹¬ True› | (skip)
    | succ d ih =>
      intro i h1 e f hu hbt
      have eR1 := fr h1 f
      have d1 := cdim eR1
      obtain ⟨g1, g2, g3, g4, g5, g6⟩ := cR_t (h := h1) (f := f1) (i := i) (by omega)
      rw [eR1] at g6
      have ei : ((i : Int)).toNat = i := Int.toNat_natCast i
      obtain ⟨c0, r0, p1, p2, p3, p4⟩ := tb W (t := (i : Int)) (by omega)
      rw [ei] at p1 p2
      have next : ∀ h2 : HP, (∀ k, k ≠ 82 → k ≠ 88 → h2 k = h0 k) → (∀ j, j < 63 → h2 88 j = 1000000) → (∀ c r, isB R c r → (btL (h2 82 8) (9 * r + c) = true ↔ BC R x3 x4 (i + 1) c r)) → Wp true i_Is_wayCost 22 [vr 82, vr f1, vi x2, vi x3, vi x4, vi ((i : Int) + 1), vr 9999, vr 9999, vr 9999] [] h2 Q := by
        intro h2 a1 a2 a3
        have := ih (i + 1) h2 (by omega) a1 a2 a3
        rw [show ((i + 1 : Nat) : Int) = (i : Int) + 1 by omega] at this
        exact this
      have same : (¬ ((¬ (i : Int) = x3) ∧ (¬ (i : Int) = x4) ∧ R 7 i = 1)) → Wp true i_Is_wayCost 22 [vr 82, vr f1, vi x2, vi x3, vi x4, vi ((i : Int) + 1), vr 9999, vr 9999, vr 9999] [] h1 Q := by
        intro q
        refine next h1 f hu (fun c r hb => (hbt c r hb).trans ⟨fun z => ?_, fun z => ?_⟩)
        · obtain ⟨t, z1, z2⟩ := z
          exact ⟨t, by omega, z2⟩
        · obtain ⟨t, z1, z2, z3, z4, z5⟩ := z
          by_cases y : t = i
          · subst y; exact absurd ⟨z2, z3, z4⟩ q
          · exact ⟨t, by omega, z2, z3, z4, z5⟩
      refine g_Is_wayCost_22 h_f1 ?_ ?_ ?_ ?_ ?_ ?_ ?_ ?_ ?_ ?_ ?_ ?_ ?_ ?_ ?_ ?_
      · intro c1; (try simp only [Int.toNat_natCast] at c1); first | omega | (exfalso; omega) | exact ⟨by omega, by omega⟩ | ((rw [eR1]; exact W)) | exact absurd trivial ‹¬ True›
      · intro c1; (try simp only [Int.toNat_natCast] at c1); first | omega | (exfalso; omega) | exact ⟨by omega, by omega⟩ | ((rw [eR1]; exact W)) | exact absurd trivial ‹¬ True›
      · intro c1; (try simp only [Int.toNat_natCast] at c1); first | omega | (exfalso; omega) | exact ⟨by omega, by omega⟩ | ((rw [eR1]; exact W)) | exact absurd trivial ‹¬ True›
      · intro c1; (try simp only [Int.toNat_natCast] at c1); first | omega | (exfalso; omega) | exact ⟨by omega, by omega⟩ | ((rw [eR1]; exact W)) | exact absurd trivial ‹¬ True›
      · intro c1 c2; (try simp only [Int.toNat_natCast] at c1 c2); first | (exfalso; omega) | exact absurd trivial ‹¬ True› | (skip)
      · intro c1 c2; (try simp only [Int.toNat_natCast] at c1 c2); first | (exfalso; omega) | exact absurd trivial ‹¬ True› | (skip)
      · intro c1 c2; (try simp only [Int.toNat_natCast] at c1 c2); first | omega | (exfalso; omega) | exact ⟨by omega, by omega⟩ | ((rw [eR1]; exact W)) | exact absurd trivial ‹¬ True›
      · intro c1 c2; (try simp only [Int.toNat_natCast] at c1 c2); first | (exfalso; omega) | exact absurd trivial ‹¬ True› | (exact same (fun q => c2 (by rw [← g6]; exact q.2.2)))
      · intro c1 c2 c3; (try simp only [Int.toNat_natCast] at c1 c2 c3); first | omega | (exfalso; omega) | exact ⟨by omega, by omega⟩ | ((rw [eR1]; exact W)) | exact absurd trivial ‹¬ True›
      · intro c1 c2 c3; (try simp only [Int.toNat_natCast] at c1 c2 c3); first | (exfalso; omega) | exact absurd trivial ‹¬ True› | (exact same (fun q => q.1 c3))
      · intro c1 c2 c3 c4; (try simp only [Int.toNat_natCast] at c1 c2 c3 c4); first | omega | (exfalso; omega) | exact ⟨by omega, by omega⟩ | ((rw [eR1]; exact W)) | exact absurd trivial ‹¬ True›
      · intro c1 c2 c3 c4; (try simp only [Int.toNat_natCast] at c1 c2 c3 c4); first | (exfalso; omega) | exact absurd trivial ‹¬ True› | (exact same (fun q => q.2.1 c4))
      · intro c1 c2 c3 c4; (try simp only [Int.toNat_natCast] at c1 c2 c3 c4); first | omega | (exfalso; omega) | exact ⟨by omega, by omega⟩ | ((rw [eR1]; exact W)) | exact absurd trivial ‹¬ True›
      · intro c1 c2 c3 c4; (try simp only [Int.toNat_natCast] at c1 c2 c3 c4); first | omega | (exfalso; omega) | exact ⟨by omega, by omega⟩ | ((rw [eR1]; exact W)) | exact absurd trivial ‹¬ True›
      · intro c1 c2 c3 c4; (try simp only [Int.toNat_natCast] at c1 c2 c3 c4); first | omega | (exfalso; omega) | exact ⟨by omega, by omega⟩ | ((rw [eR1]; exact W)) | exact absurd trivial ‹¬ True›
      · intro c1 c2 c3 c4; (try simp only [Int.toNat_natCast] at c1 c2 c3 c4)
        rw [eR1, ei, p1, p2, show ((r0 : Int) * 9 + (c0 : Int)) = ((9 * r0 + c0 : Nat) : Int) by omega]
        have b1 := p3.1
        have b2 := p3.2
        refine next _ (fun k k1 k2 => (hs_ne k1).trans (f k k1 k2)) (fun j hj => by rw [hs_ne (by decide)]; exact hu j hj) (fun c r hb => ?_)
        rw [hs_s, bL_set (by omega) (by have := lt c r hb; omega), Bool.or_eq_true, decide_eq_true_iff, hbt c r hb]
        constructor
        · intro z
          rcases z with z | z
          · obtain ⟨t, z1, z2⟩ := z
            exact ⟨t, by omega, z2⟩
          · obtain ⟨rfl, rfl⟩ := un c r c0 r0 hb p3 z
            exact ⟨i, by omega, c3, c4, by rw [g6]; exact c2, p1, p2⟩
        · intro z
          obtain ⟨t, z1, z2, z3, z4, z5, z6⟩ := z
          by_cases y : t = i
          · subst y
            right
            rw [p1] at z5
            rw [p2] at z6
            omega
          · left; exact ⟨t, by omega, z2, z3, z4, z5, z6⟩
  refine things (R 0 3).toNat 0 _ (by omega) (fun k k1 k2 => by rw [hs_ne k1, wr_ne k2]) (fun j hj => by rw [hs_ne (by decide), wr_in (by omega)]) (fun c r hb => ?_)
  rw [hs_s, bL_0]
  exact ⟨fun q => absurd q (by decide), fun q => by obtain ⟨t, q1, -⟩ := q; omega⟩

theorem A_passes {n : Nat} {h : HP} {x1 x2 x3 : Int} (hR : Rel n h) : Agree n h i_C_passes i_M_passes [vr 0, vi x1, vi x2, vi x3, vr 9999] [vr 103, vi x1, vi x2, vi x3, vr 9999] := by
  have s := hR.2.2.2.2.2.1
  have W := s.2.1
  have dd := cdim (rfl : rmC h 10 = rmC h 10)
  by_cases c : (x1 = 0 ∨ x1 = 1) ∧ (0 ≤ x2 ∧ x2 < h 10 3) ∧ (0 ≤ x3 ∧ x3 < h 10 3) ∧ ¬ x2 = x3
  · obtain ⟨c1, c2, c3, c4⟩ := c
    obtain ⟨cs, rs, e1, e2, e3, e4⟩ := tb W (t := x2) (by omega)
    obtain ⟨ct, rt, u1, u2, u3, u4⟩ := tb W (t := x3) (by omega)
    refine ag_scr (v := vi (if wayD (rmC h 10) x1 cs rs ct rt = 1000000 then -1 else wayD (rmC h 10) x1 cs rs ct rt / 100)) (st := if wayD (rmC h 10) x1 cs rs ct rt = 1000000 then 6 else 0) hR (fun Q k => ?_) (fun g Q e gk k => ?_)
    · refine g_C_passes_0 (g_C_isCouple_0 (fun q => absurd c1 q) (fun _ q => absurd c2 q) (fun _ _ q => absurd c3 q) (fun _ _ _ q => absurd q c4) (fun _ _ _ _ => ?_))
      refine g_C_passes_7 (fun _ => ?_) (fun q => absurd q (by decide))
      refine c_Is_wayCost isF_10 rfl W (by omega) (by omega) c4 ⟨e1, e2, e3, e4⟩ ⟨u1, u2, u3, u4⟩ (fun h' f rg => ?_)
      have k := k h' f
      by_cases z : wayD (rmC h 10) x1 cs rs ct rt = 1000000
      · rw [if_pos z, if_pos z] at k
        rw [if_pos z]
        exact g_C_passes_30 (fun q => absurd q (by decide)) (fun q => absurd q (by decide)) (fun _ => k)
      · rw [if_neg z, if_neg z] at k
        rw [if_neg z]
        exact g_C_passes_30 (fun q => by omega) (fun q => k) (fun q => by omega)
    · have d := mdim e
      refine g_M_passes_0 (g_M_isWay_0 (fun q => absurd c1 q) (fun _ q => by omega) (fun _ _ q => by omega) (fun _ _ _ q => absurd q c4) (fun _ _ _ _ => ?_))
      refine g_M_passes_7 (fun _ => ?_) (fun q => absurd q (by decide))
      refine c_M_wayOf e W (by omega) (by omega) ⟨e1, e2, e3⟩ ⟨u1, u2, u3⟩ (fun h' f rg => ?_)
      have k := k h' (ScM_0 (fun k hk => f k (by omega)))
      refine g_M_passes_23 (fun q => by omega) (fun q => ?_) (fun q => ?_)
      · rw [if_neg q, if_neg q] at k; exact k
      · rw [if_pos q, if_pos q] at k; exact k
  · refine ag_act0 (v := vi (-1)) (st := 1) hR (fun Q k => ?_) (fun g Q e gk k => ?_)
    · have fin : ∀ q : Q (some (vi (-1))) (hs h 0 0 1), Wp true i_C_passes 7 [vr 0, vi x1, vi x2, vi x3, vr 9999] [vi 0] h Q := fun q => g_C_passes_7 (fun z => absurd rfl z) (fun _ => q)
      exact g_C_passes_0 (g_C_isCouple_0 (fun _ => fin k) (fun _ _ => fin k) (fun _ _ _ => fin k) (fun _ _ _ _ => fin k) (fun q1 q2 q3 q4 => absurd ⟨q1, q2, q3, q4⟩ c))
    · have d := mdim e
      have fin : ∀ q : Q (some (vi (-1))) (hs g 103 2 1), Wp true i_M_passes 7 [vr 103, vi x1, vi x2, vi x3, vr 9999] [vi 0] g Q := fun q => g_M_passes_7 (fun z => absurd rfl z) (fun _ => q)
      exact g_M_passes_0 (g_M_isWay_0 (fun _ => fin k) (fun _ _ => fin k) (fun _ _ _ => fin k) (fun _ _ _ _ => fin k) (fun q1 q2 q3 q4 => absurd ⟨q1, by omega, by omega, q4⟩ c))

theorem A_steps {n : Nat} {h : HP} {x1 x2 x3 : Int} (hR : Rel n h) : Agree n h i_C_steps i_M_steps [vr 0, vi x1, vi x2, vi x3, vr 9999] [vr 103, vi x1, vi x2, vi x3, vr 9999] := by
  have s := hR.2.2.2.2.2.1
  have W := s.2.1
  have dd := cdim (rfl : rmC h 10 = rmC h 10)
  by_cases c : (x1 = 0 ∨ x1 = 1) ∧ (0 ≤ x2 ∧ x2 < h 10 3) ∧ (0 ≤ x3 ∧ x3 < h 10 3) ∧ ¬ x2 = x3
  · obtain ⟨c1, c2, c3, c4⟩ := c
    obtain ⟨cs, rs, e1, e2, e3, e4⟩ := tb W (t := x2) (by omega)
    obtain ⟨ct, rt, u1, u2, u3, u4⟩ := tb W (t := x3) (by omega)
    refine ag_scr (v := vi (if wayD (rmC h 10) x1 cs rs ct rt = 1000000 then -1 else wayD (rmC h 10) x1 cs rs ct rt % 100)) (st := if wayD (rmC h 10) x1 cs rs ct rt = 1000000 then 6 else 0) hR (fun Q k => ?_) (fun g Q e gk k => ?_)
    · refine g_C_steps_0 (g_C_isCouple_0 (fun q => absurd c1 q) (fun _ q => absurd c2 q) (fun _ _ q => absurd c3 q) (fun _ _ _ q => absurd q c4) (fun _ _ _ _ => ?_))
      refine g_C_steps_7 (fun _ => ?_) (fun q => absurd q (by decide))
      refine c_Is_wayCost isF_10 rfl W (by omega) (by omega) c4 ⟨e1, e2, e3, e4⟩ ⟨u1, u2, u3, u4⟩ (fun h' f rg => ?_)
      have k := k h' f
      by_cases z : wayD (rmC h 10) x1 cs rs ct rt = 1000000
      · rw [if_pos z, if_pos z] at k
        rw [if_pos z]
        exact g_C_steps_30 (fun q => absurd q (by decide)) (fun q => absurd q (by decide)) (fun _ => k)
      · rw [if_neg z, if_neg z] at k
        rw [if_neg z]
        exact g_C_steps_30 (fun q => by omega) (fun q => k) (fun q => by omega)
    · have d := mdim e
      refine g_M_steps_0 (g_M_isWay_0 (fun q => absurd c1 q) (fun _ q => by omega) (fun _ _ q => by omega) (fun _ _ _ q => absurd q c4) (fun _ _ _ _ => ?_))
      refine g_M_steps_7 (fun _ => ?_) (fun q => absurd q (by decide))
      refine c_M_wayOf e W (by omega) (by omega) ⟨e1, e2, e3⟩ ⟨u1, u2, u3⟩ (fun h' f rg => ?_)
      have k := k h' (ScM_0 (fun k hk => f k (by omega)))
      refine g_M_steps_23 (fun q => by omega) (fun q => ?_) (fun q => ?_)
      · rw [if_neg q, if_neg q] at k; exact k
      · rw [if_pos q, if_pos q] at k; exact k
  · refine ag_act0 (v := vi (-1)) (st := 1) hR (fun Q k => ?_) (fun g Q e gk k => ?_)
    · have fin : ∀ q : Q (some (vi (-1))) (hs h 0 0 1), Wp true i_C_steps 7 [vr 0, vi x1, vi x2, vi x3, vr 9999] [vi 0] h Q := fun q => g_C_steps_7 (fun z => absurd rfl z) (fun _ => q)
      exact g_C_steps_0 (g_C_isCouple_0 (fun _ => fin k) (fun _ _ => fin k) (fun _ _ _ => fin k) (fun _ _ _ _ => fin k) (fun q1 q2 q3 q4 => absurd ⟨q1, q2, q3, q4⟩ c))
    · have d := mdim e
      have fin : ∀ q : Q (some (vi (-1))) (hs g 103 2 1), Wp true i_M_steps 7 [vr 103, vi x1, vi x2, vi x3, vr 9999] [vi 0] g Q := fun q => g_M_steps_7 (fun z => absurd rfl z) (fun _ => q)
      exact g_M_steps_0 (g_M_isWay_0 (fun _ => fin k) (fun _ _ => fin k) (fun _ _ _ => fin k) (fun _ _ _ _ => fin k) (fun q1 q2 q3 q4 => absurd ⟨q1, by omega, by omega, q4⟩ c))
