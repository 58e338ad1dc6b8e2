theorem g_C_live_0 {Q : PQ} {h : HP} {x1 : Int} 
    (k1 : (0 ≤ x1 ∧ x1 ≤ 9999) → ¬ h 26 0 = 0 → Wp true i_Pl_run 0 [vr 99, vr 26, vr 10, vi x1, vr 9999, vr 9999] [] h (fun r h' => Wp true i_C_live 50 [vr 0, vi x1] (r.toList ++ []) h' Q))
    (k2 : (0 ≤ x1 ∧ x1 ≤ 9999) → h 26 0 = 0 → Q (some (vi (-1))) (hs h 0 0 6))
    (k3 : ¬ (0 ≤ x1 ∧ x1 ≤ 9999) → Q (some (vi (-1))) (hs h 0 0 1)) :
    Wp true i_C_live 0 [vr 0, vi x1] [] h Q := by
  refine r_iload_n (v := x1) f_199_0 rfl ?_
  refine r_iconst f_199_1 (by decide) ?_
  refine r_sipush f_199_2 (by decide) ?_
  refine r_calls (as := [vi x1, vi 0, vi 9999]) (st' := []) (ls0 := [vi x1, vi 0, vi 9999]) f_199_5 (by decide) (by decide) rfl rfl (Nat.le_of_ble_eq_true rfl) (Nat.le_of_ble_eq_true rfl) rfl ?_
  refine c_C_within  ?_
  show Wp true i_C_live 8 [vr 0, vi x1] [vi (bi (0 ≤ x1 ∧ x1 ≤ 9999))] h Q
  refine r_br (t := 17) f_199_8 rfl cb_bt (fun c1 => ?_) (fun c1 => ?_)
  · refine r_aload_n (v := 0) f_199_17 rfl (by decide) ?_
    refine r_getr (q := 26) f_199_18 rfl (by decide) (Or.inl rfl) rfl ?_
    refine r_geti (v := h 26 0) f_199_21 rfl (by decide) rfl ?_
    refine r_br (t := 34) f_199_24 rfl cb_ne (fun c2 => ?_) (fun c2 => ?_)
    · refine r_aload_n (v := 0) f_199_34 rfl (by decide) ?_
      refine r_getr (q := 99) f_199_35 rfl (by decide) (Or.inl rfl) rfl ?_
      refine r_aload_n (v := 0) f_199_38 rfl (by decide) ?_
      refine r_getr (q := 26) f_199_39 rfl (by decide) (Or.inl rfl) rfl ?_
      refine r_aload_n (v := 0) f_199_42 rfl (by decide) ?_
      refine r_getr (q := 10) f_199_43 rfl (by decide) (Or.inl rfl) rfl ?_
      refine r_iload_n (v := x1) f_199_46 rfl ?_
      exact r_callv (as := [vr 99, vr 26, vr 10, vi x1]) (st' := []) (ls0 := [vr 99, vr 26, vr 10, vi x1, vr 9999, vr 9999]) f_199_47 (by decide) rfl rfl (Nat.le_of_ble_eq_true rfl) (Nat.le_of_ble_eq_true rfl) ⟨_, _, rfl, rfl⟩ rfl (k1 c1 c2)
    · have c2 := Decidable.not_not.mp c2
      refine r_aload_n (v := 0) f_199_27 rfl (by decide) ?_
      refine r_bipush f_199_28 (by decide) ?_
      refine r_callv (as := [vr 0, vi 6]) (st' := []) (ls0 := [vr 0, vi 6]) f_199_30 (by decide) rfl rfl (Nat.le_of_ble_eq_true rfl) (Nat.le_of_ble_eq_true rfl) ⟨_, _, rfl, rfl⟩ rfl ?_
      refine c_C_refuse  ?_
      show Wp true i_C_live 33 [vr 0, vi x1] [vi (-1)] (hs h 0 0 6) Q
      exact r_reti f_199_33 rfl (k2 c1 c2)
  · refine r_aload_n (v := 0) f_199_11 rfl (by decide) ?_
    refine r_iconst f_199_12 (by decide) ?_
    refine r_callv (as := [vr 0, vi 1]) (st' := []) (ls0 := [vr 0, vi 1]) f_199_13 (by decide) rfl rfl (Nat.le_of_ble_eq_true rfl) (Nat.le_of_ble_eq_true rfl) ⟨_, _, rfl, rfl⟩ rfl ?_
    refine c_C_refuse  ?_
    show Wp true i_C_live 16 [vr 0, vi x1] [vi (-1)] (hs h 0 0 1) Q
    exact r_reti f_199_16 rfl (k3 c1)

theorem g_C_live_50 {Q : PQ} {h : HP} {x1 : Int} 
    (k1 : Wp true i_Pl_record 0 [vr 99] [] h (fun r h' => Wp true i_C_live 57 [vr 0, vi x1] (r.toList ++ []) h' Q)) :
    Wp true i_C_live 50 [vr 0, vi x1] [] h Q := by
  refine r_aload_n (v := 0) f_199_50 rfl (by decide) ?_
  refine r_getr (q := 99) f_199_51 rfl (by decide) (Or.inl rfl) rfl ?_
  exact r_callv (as := [vr 99]) (st' := []) (ls0 := [vr 99]) f_199_54 (by decide) rfl rfl (Nat.le_of_ble_eq_true rfl) (Nat.le_of_ble_eq_true rfl) ⟨_, _, rfl, rfl⟩ rfl k1

theorem g_C_live_57 {Q : PQ} {h : HP} {x1 : Int} 
    (k1 : Q (some (vi (h 99 0))) (hs h 0 0 0)) :
    Wp true i_C_live 57 [vr 0, vi x1] [] h Q := by
  refine r_aload_n (v := 0) f_199_57 rfl (by decide) ?_
  refine r_aload_n (v := 0) f_199_58 rfl (by decide) ?_
  refine r_getr (q := 99) f_199_59 rfl (by decide) (Or.inl rfl) rfl ?_
  refine r_geti (v := h 99 0) f_199_62 rfl (by decide) rfl ?_
  refine r_callv (as := [vr 0, vi (h 99 0)]) (st' := []) (ls0 := [vr 0, vi (h 99 0)]) f_199_65 (by decide) rfl rfl (Nat.le_of_ble_eq_true rfl) (Nat.le_of_ble_eq_true rfl) ⟨_, _, rfl, rfl⟩ rfl ?_
  refine c_C_answer  ?_
  show Wp true i_C_live 68 [vr 0, vi x1] [vi (h 99 0)] (hs h 0 0 0) Q
  exact r_reti f_199_68 rfl k1

theorem g_M_live_0 {Q : PQ} {h : HP} {x1 : Int} 
    (k1 : (0 ≤ x1 ∧ x1 ≤ 9999) → ¬ h 104 7 = -1 → Wp true i_M_lives 0 [vr 103, vi x1, vr 9999, vr 9999] [] h (fun r h' => Wp true i_M_live 41 [vr 103, vi x1, vr 9999] (r.toList ++ []) h' Q))
    (k2 : (0 ≤ x1 ∧ x1 ≤ 9999) → h 104 7 = -1 → Q (some (vi (-1))) (hs h 103 2 6))
    (k3 : ¬ (0 ≤ x1 ∧ x1 ≤ 9999) → Q (some (vi (-1))) (hs h 103 2 1)) :
    Wp true i_M_live 0 [vr 103, vi x1, vr 9999] [] h Q := by
  refine r_iload_n (v := x1) f_369_0 rfl ?_
  refine r_i2l f_369_1 ?_
  refine r_lconst (v := 0) f_369_2 rfl ?_
  refine r_ldc2_w f_369_3 (by decide) ?_
  refine r_calls (as := [vj x1, vj 0, vj 9999]) (st' := []) (ls0 := [vj x1, vr 9999, vj 0, vr 9999, vj 9999, vr 9999]) f_369_6 (by decide) (by decide) rfl rfl (Nat.le_of_ble_eq_true rfl) (Nat.le_of_ble_eq_true rfl) rfl ?_
  refine c_M_isFrom  ?_
  show Wp true i_M_live 9 [vr 103, vi x1, vr 9999] [vi (bi (0 ≤ x1 ∧ x1 ≤ 9999))] h Q
  refine r_br (t := 18) f_369_9 rfl cb_bt (fun c1 => ?_) (fun c1 => ?_)
  · refine r_aload_n (v := 103) f_369_18 rfl (by decide) ?_
    refine r_getr (q := 104) f_369_19 rfl (by decide) (Or.inl rfl) rfl ?_
    refine r_bipush f_369_22 (by decide) ?_
    refine r_iaload (n := 3000) (v := h 104 7) f_369_24 ⟨rfl, rfl⟩ (by decide) rfl ?_
    refine r_iconst f_369_25 (by decide) ?_
    refine r_br2 (t := 36) f_369_26 rfl cb_ne (fun c2 => ?_) (fun c2 => ?_)
    · refine r_aload_n (v := 103) f_369_36 rfl (by decide) ?_
      refine r_iload_n (v := x1) f_369_37 rfl ?_
      exact r_callv (as := [vr 103, vi x1]) (st' := []) (ls0 := [vr 103, vi x1, vr 9999, vr 9999]) f_369_38 (by decide) rfl rfl (Nat.le_of_ble_eq_true rfl) (Nat.le_of_ble_eq_true rfl) ⟨_, _, rfl, rfl⟩ rfl (k1 c1 c2)
    · have c2 := Decidable.not_not.mp c2
      refine r_aload_n (v := 103) f_369_29 rfl (by decide) ?_
      refine r_bipush f_369_30 (by decide) ?_
      refine r_callv (as := [vr 103, vi 6]) (st' := []) (ls0 := [vr 103, vi 6]) f_369_32 (by decide) rfl rfl (Nat.le_of_ble_eq_true rfl) (Nat.le_of_ble_eq_true rfl) ⟨_, _, rfl, rfl⟩ rfl ?_
      refine c_M_refuse  ?_
      show Wp true i_M_live 35 [vr 103, vi x1, vr 9999] [vi (-1)] (hs h 103 2 6) Q
      exact r_reti f_369_35 rfl (k2 c1 c2)
  · refine r_aload_n (v := 103) f_369_12 rfl (by decide) ?_
    refine r_iconst f_369_13 (by decide) ?_
    refine r_callv (as := [vr 103, vi 1]) (st' := []) (ls0 := [vr 103, vi 1]) f_369_14 (by decide) rfl rfl (Nat.le_of_ble_eq_true rfl) (Nat.le_of_ble_eq_true rfl) ⟨_, _, rfl, rfl⟩ rfl ?_
    refine c_M_refuse  ?_
    show Wp true i_M_live 17 [vr 103, vi x1, vr 9999] [vi (-1)] (hs h 103 2 1) Q
    exact r_reti f_369_17 rfl (k3 c1)

theorem g_M_live_41 {Q : PQ} {h : HP} {x1 : Int} 
    (k1 : Wp true i_M_live 43 [vr 103, vi x1, vi 0] [] h Q) :
    Wp true i_M_live 41 [vr 103, vi x1, vr 9999] [] h Q := by
  refine r_iconst f_369_41 (by decide) ?_
  refine r_istore_n (ls' := [vr 103, vi x1, vi 0]) f_369_42 (Nat.le_of_ble_eq_true rfl) rfl ?_
  exact k1

theorem g_M_live_43 {Q : PQ} {h : HP} {x1 : Int} {x2 : Int} 
    (k1 : 5 ≤ x2 → Q (some (vi (h 103 34))) (hs (hs h 103 38 1) 103 2 0))
    (o2 : ¬ 5 ≤ x2 → 0 ≤ x2 ∧ x2 < 5)
    (o3 : ¬ 5 ≤ x2 → -2147483648 ≤ x2 + 1 ∧ x2 + 1 ≤ 2147483647)
    (k4 : ¬ 5 ≤ x2 → Wp true i_M_live 43 [vr 103, vi x1, vi (x2 + 1)] [] (hs h 122 x2.toNat (h 121 x2.toNat)) Q) :
    Wp true i_M_live 43 [vr 103, vi x1, vi x2] [] h Q := by
  refine r_iload_n (v := x2) f_369_43 rfl ?_
  refine r_iconst f_369_44 (by decide) ?_
  refine r_br2 (t := 66) f_369_45 rfl cb_ge (fun c1 => ?_) (fun c1 => ?_)
  · refine r_aload_n (v := 103) f_369_66 rfl (by decide) ?_
    refine r_iconst f_369_67 (by decide) ?_
    refine r_putz f_369_68 rfl (by decide) (by decide) ?_
    refine r_aload_n (v := 103) f_369_71 rfl (by decide) ?_
    refine r_aload_n (v := 103) f_369_72 rfl (by decide) ?_
    refine r_geti (v := h 103 34) f_369_73 rfl (by decide) (by simp [hs]) ?_
    refine r_callv (as := [vr 103, vi (h 103 34)]) (st' := []) (ls0 := [vr 103, vi (h 103 34)]) f_369_76 (by decide) rfl rfl (Nat.le_of_ble_eq_true rfl) (Nat.le_of_ble_eq_true rfl) ⟨_, _, rfl, rfl⟩ rfl ?_
    refine c_M_gives  ?_
    show Wp true i_M_live 79 [vr 103, vi x1, vi x2] [vi (h 103 34)] (hs (hs h 103 38 1) 103 2 0) Q
    exact r_reti f_369_79 rfl (k1 c1)
  · refine r_aload_n (v := 103) f_369_48 rfl (by decide) ?_
    refine r_getr (q := 122) f_369_49 rfl (by decide) (Or.inl rfl) rfl ?_
    refine r_iload_n (v := x2) f_369_52 rfl ?_
    refine r_aload_n (v := 103) f_369_53 rfl (by decide) ?_
    refine r_getr (q := 121) f_369_54 rfl (by decide) (Or.inl rfl) rfl ?_
    refine r_iload_n (v := x2) f_369_57 rfl ?_
    refine r_iaload (n := 5) (v := h 121 x2.toNat) f_369_58 ⟨rfl, rfl⟩ (o2 c1) rfl ?_
    refine r_iastore (n := 5) f_369_59 ⟨rfl, rfl⟩ (o2 c1) ?_
    refine r_iinc (v := x2) (w := x2 + 1) (ls' := [vr 103, vi x1, vi (x2 + 1)]) f_369_60 rfl rfl (o3 c1) rfl ?_
    refine r_goto (t := 43) f_369_63 rfl ?_
    exact (k4 c1)

theorem g_C_mean_0 {Q : PQ} {h : HP} {x1 : Int} {x2 : Int} {x3 : Int} 
    (k1 : ¬ (x1 = 0 ∨ x1 = 1) → Q (some (vi (bi (False)))) (hs h 0 0 1))
    (k2 : (x1 = 0 ∨ x1 = 1) → ¬ (0 ≤ x2 ∧ x2 ≤ 9999) → Q (some (vi (bi (False)))) (hs h 0 0 1))
    (k3 : (x1 = 0 ∨ x1 = 1) → (0 ≤ x2 ∧ x2 ≤ 9999) → ¬ (1 ≤ x3 ∧ x3 ≤ 20) → Q (some (vi (bi (False)))) (hs h 0 0 1))
    (o4 : (x1 = 0 ∨ x1 = 1) → (0 ≤ x2 ∧ x2 ≤ 9999) → (1 ≤ x3 ∧ x3 ≤ 20) → -2147483648 ≤ x2 + x3 ∧ x2 + x3 ≤ 2147483647)
    (o5 : (x1 = 0 ∨ x1 = 1) → (0 ≤ x2 ∧ x2 ≤ 9999) → (1 ≤ x3 ∧ x3 ≤ 20) → -2147483648 ≤ (x2 + x3) - 1 ∧ (x2 + x3) - 1 ≤ 2147483647)
    (k6 : (x1 = 0 ∨ x1 = 1) → (0 ≤ x2 ∧ x2 ≤ 9999) → (1 ≤ x3 ∧ x3 ≤ 20) → (x2 + x3) - 1 ≤ 9999 → ¬ h 26 0 = 0 → Wp true i_Fl_become 0 [vr 18, vr 10] [] h (fun r h' => Wp true i_C_mean 73 [vr 0, vi x1, vi x2, vi x3, vr 9999, vr 9999, vr 9999] (r.toList ++ []) h' Q))
    (k7 : (x1 = 0 ∨ x1 = 1) → (0 ≤ x2 ∧ x2 ≤ 9999) → (1 ≤ x3 ∧ x3 ≤ 20) → (x2 + x3) - 1 ≤ 9999 → h 26 0 = 0 → Q (some (vi (bi (False)))) (hs h 0 0 6))
    (k8 : (x1 = 0 ∨ x1 = 1) → (0 ≤ x2 ∧ x2 ≤ 9999) → (1 ≤ x3 ∧ x3 ≤ 20) → ¬ (x2 + x3) - 1 ≤ 9999 → Q (some (vi (bi (False)))) (hs h 0 0 1)) :
    Wp true i_C_mean 0 [vr 0, vi x1, vi x2, vi x3, vr 9999, vr 9999, vr 9999] [] h Q := by
  refine r_iload_n (v := x1) f_201_0 rfl ?_
  refine r_calls (as := [vi x1]) (st' := []) (ls0 := [vi x1]) f_201_1 (by decide) (by decide) rfl rfl (Nat.le_of_ble_eq_true rfl) (Nat.le_of_ble_eq_true rfl) rfl ?_
  refine c_C_isLand  ?_
  show Wp true i_C_mean 4 [vr 0, vi x1, vi x2, vi x3, vr 9999, vr 9999, vr 9999] [vi (bi (x1 = 0 ∨ x1 = 1))] h Q
  refine r_br (t := 39) f_201_4 rfl cb_bf (fun c1 => ?_) (fun c1 => ?_)
  · refine r_aload_n (v := 0) f_201_39 rfl (by decide) ?_
    refine r_iconst f_201_40 (by decide) ?_
    refine r_callv (as := [vr 0, vi 1]) (st' := []) (ls0 := [vr 0, vi 1]) f_201_41 (by decide) rfl rfl (Nat.le_of_ble_eq_true rfl) (Nat.le_of_ble_eq_true rfl) ⟨_, _, rfl, rfl⟩ rfl ?_
    refine c_C_deny  ?_
    show Wp true i_C_mean 44 [vr 0, vi x1, vi x2, vi x3, vr 9999, vr 9999, vr 9999] [vi (bi (False))] (hs h 0 0 1) Q
    exact r_retz f_201_44 rfl (bi_01 _) (k1 c1)
  · have c1 := Decidable.not_not.mp c1
    refine r_iload_n (v := x2) f_201_7 rfl ?_
    refine r_iconst f_201_8 (by decide) ?_
    refine r_sipush f_201_9 (by decide) ?_
    refine r_calls (as := [vi x2, vi 0, vi 9999]) (st' := []) (ls0 := [vi x2, vi 0, vi 9999]) f_201_12 (by decide) (by decide) rfl rfl (Nat.le_of_ble_eq_true rfl) (Nat.le_of_ble_eq_true rfl) rfl ?_
    refine c_C_within  ?_
    show Wp true i_C_mean 15 [vr 0, vi x1, vi x2, vi x3, vr 9999, vr 9999, vr 9999] [vi (bi (0 ≤ x2 ∧ x2 ≤ 9999))] h Q
    refine r_br (t := 39) f_201_15 rfl cb_bf (fun c2 => ?_) (fun c2 => ?_)
    · refine r_aload_n (v := 0) f_201_39 rfl (by decide) ?_
      refine r_iconst f_201_40 (by decide) ?_
      refine r_callv (as := [vr 0, vi 1]) (st' := []) (ls0 := [vr 0, vi 1]) f_201_41 (by decide) rfl rfl (Nat.le_of_ble_eq_true rfl) (Nat.le_of_ble_eq_true rfl) ⟨_, _, rfl, rfl⟩ rfl ?_
      refine c_C_deny  ?_
      show Wp true i_C_mean 44 [vr 0, vi x1, vi x2, vi x3, vr 9999, vr 9999, vr 9999] [vi (bi (False))] (hs h 0 0 1) Q
      exact r_retz f_201_44 rfl (bi_01 _) (k2 c1 c2)
    · have c2 := Decidable.not_not.mp c2
      refine r_iload_n (v := x3) f_201_18 rfl ?_
      refine r_iconst f_201_19 (by decide) ?_
      refine r_bipush f_201_20 (by decide) ?_
      refine r_calls (as := [vi x3, vi 1, vi 20]) (st' := []) (ls0 := [vi x3, vi 1, vi 20]) f_201_22 (by decide) (by decide) rfl rfl (Nat.le_of_ble_eq_true rfl) (Nat.le_of_ble_eq_true rfl) rfl ?_
      refine c_C_within  ?_
      show Wp true i_C_mean 25 [vr 0, vi x1, vi x2, vi x3, vr 9999, vr 9999, vr 9999] [vi (bi (1 ≤ x3 ∧ x3 ≤ 20))] h Q
      refine r_br (t := 39) f_201_25 rfl cb_bf (fun c3 => ?_) (fun c3 => ?_)
      · refine r_aload_n (v := 0) f_201_39 rfl (by decide) ?_
        refine r_iconst f_201_40 (by decide) ?_
        refine r_callv (as := [vr 0, vi 1]) (st' := []) (ls0 := [vr 0, vi 1]) f_201_41 (by decide) rfl rfl (Nat.le_of_ble_eq_true rfl) (Nat.le_of_ble_eq_true rfl) ⟨_, _, rfl, rfl⟩ rfl ?_
        refine c_C_deny  ?_
        show Wp true i_C_mean 44 [vr 0, vi x1, vi x2, vi x3, vr 9999, vr 9999, vr 9999] [vi (bi (False))] (hs h 0 0 1) Q
        exact r_retz f_201_44 rfl (bi_01 _) (k3 c1 c2 c3)
      · have c3 := Decidable.not_not.mp c3
        refine r_iload_n (v := x2) f_201_28 rfl ?_
        refine r_iload_n (v := x3) f_201_29 rfl ?_
        refine r_iadd (u := x2 + x3) f_201_30 rfl (o4 c1 c2 c3) ?_
        refine r_iconst f_201_31 (by decide) ?_
        refine r_isub (u := (x2 + x3) - 1) f_201_32 rfl (o5 c1 c2 c3) ?_
        refine r_sipush f_201_33 (by decide) ?_
        refine r_br2 (t := 45) f_201_36 rfl cb_le (fun c4 => ?_) (fun c4 => ?_)
        · refine r_aload_n (v := 0) f_201_45 rfl (by decide) ?_
          refine r_getr (q := 26) f_201_46 rfl (by decide) (Or.inl rfl) rfl ?_
          refine r_geti (v := h 26 0) f_201_49 rfl (by decide) rfl ?_
          refine r_br (t := 62) f_201_52 rfl cb_ne (fun c5 => ?_) (fun c5 => ?_)
          · refine r_aload_n (v := 0) f_201_62 rfl (by decide) ?_
            refine r_getr (q := 18) f_201_63 rfl (by decide) (Or.inl rfl) rfl ?_
            refine r_aload_n (v := 0) f_201_66 rfl (by decide) ?_
            refine r_getr (q := 10) f_201_67 rfl (by decide) (Or.inl rfl) rfl ?_
            exact r_callv (as := [vr 18, vr 10]) (st' := []) (ls0 := [vr 18, vr 10]) f_201_70 (by decide) rfl rfl (Nat.le_of_ble_eq_true rfl) (Nat.le_of_ble_eq_true rfl) ⟨_, _, rfl, rfl⟩ rfl (k6 c1 c2 c3 c4 c5)
          · have c5 := Decidable.not_not.mp c5
            refine r_aload_n (v := 0) f_201_55 rfl (by decide) ?_
            refine r_bipush f_201_56 (by decide) ?_
            refine r_callv (as := [vr 0, vi 6]) (st' := []) (ls0 := [vr 0, vi 6]) f_201_58 (by decide) rfl rfl (Nat.le_of_ble_eq_true rfl) (Nat.le_of_ble_eq_true rfl) ⟨_, _, rfl, rfl⟩ rfl ?_
            refine c_C_deny  ?_
            show Wp true i_C_mean 61 [vr 0, vi x1, vi x2, vi x3, vr 9999, vr 9999, vr 9999] [vi (bi (False))] (hs h 0 0 6) Q
            exact r_retz f_201_61 rfl (bi_01 _) (k7 c1 c2 c3 c4 c5)
        · refine r_aload_n (v := 0) f_201_39 rfl (by decide) ?_
          refine r_iconst f_201_40 (by decide) ?_
          refine r_callv (as := [vr 0, vi 1]) (st' := []) (ls0 := [vr 0, vi 1]) f_201_41 (by decide) rfl rfl (Nat.le_of_ble_eq_true rfl) (Nat.le_of_ble_eq_true rfl) ⟨_, _, rfl, rfl⟩ rfl ?_
          refine c_C_deny  ?_
          show Wp true i_C_mean 44 [vr 0, vi x1, vi x2, vi x3, vr 9999, vr 9999, vr 9999] [vi (bi (False))] (hs h 0 0 1) Q
          exact r_retz f_201_44 rfl (bi_01 _) (k8 c1 c2 c3 c4)

theorem g_C_mean_73 {Q : PQ} {h : HP} {x1 : Int} {x2 : Int} {x3 : Int} 
    (k1 : Wp true i_C_mean 79 [vr 0, vi x1, vi x2, vi x3, vj 0, vr 9999, vi 0] [] h Q) :
    Wp true i_C_mean 73 [vr 0, vi x1, vi x2, vi x3, vr 9999, vr 9999, vr 9999] [] h Q := by
  refine r_lconst (v := 0) f_201_73 rfl ?_
  refine r_lstore (ls' := [vr 0, vi x1, vi x2, vi x3, vj 0, vr 9999, vr 9999]) f_201_74 (Nat.le_of_ble_eq_true rfl) rfl ?_
  refine r_iconst f_201_76 (by decide) ?_
  refine r_istore (ls' := [vr 0, vi x1, vi x2, vi x3, vj 0, vr 9999, vi 0]) f_201_77 (Nat.le_of_ble_eq_true rfl) rfl ?_
  exact k1

theorem g_C_mean_79 {Q : PQ} {h : HP} {x1 : Int} {x2 : Int} {x3 : Int} {y4 : Int} {x6 : Int} 
    (o1 : x3 ≤ x6 → 0 ≤ y4 ∧ y4 ≤ 9223372036854775807)
    (o2 : x3 ≤ x6 → 0 < x3 ∧ x3 < 2 ^ 40)
    (k3 : x3 ≤ x6 → Q (some (vi (bi (True)))) (hs (hs (hs h 0 1 (y4 / gN y4 x3)) 0 2 (x3 / gN y4 x3)) 0 0 0))
    (o4 : ¬ x3 ≤ x6 → -2147483648 ≤ x2 + x6 ∧ x2 + x6 ≤ 2147483647)
    (k5 : ¬ x3 ≤ x6 → Wp true i_Pl_run 0 [vr 99, vr 26, vr 10, vi (x2 + x6), vr 9999, vr 9999] [] h (fun r h' => Wp true i_C_mean 104 [vr 0, vi x1, vi x2, vi x3, vj y4, vr 9999, vi x6] (r.toList ++ []) h' Q)) :
    Wp true i_C_mean 79 [vr 0, vi x1, vi x2, vi x3, vj y4, vr 9999, vi x6] [] h Q := by
  refine r_iload (v := x6) f_201_79 rfl ?_
  refine r_iload_n (v := x3) f_201_81 rfl ?_
  refine r_br2 (t := 135) f_201_82 rfl cb_ge (fun c1 => ?_) (fun c1 => ?_)
  · refine r_aload_n (v := 0) f_201_135 rfl (by decide) ?_
    refine r_lload (v := y4) f_201_136 rfl ?_
    refine r_iload_n (v := x3) f_201_138 rfl ?_
    refine r_i2l f_201_139 ?_
    refine r_callv (as := [vr 0, vj y4, vj x3]) (st' := []) (ls0 := [vr 0, vj y4, vr 9999, vj x3, vr 9999, vr 9999, vr 9999]) f_201_140 (by decide) rfl rfl (Nat.le_of_ble_eq_true rfl) (Nat.le_of_ble_eq_true rfl) ⟨_, _, rfl, rfl⟩ rfl ?_
    refine c_C_tellFraction (o1 c1) (o2 c1) ?_
    show Wp true i_C_mean 143 [vr 0, vi x1, vi x2, vi x3, vj y4, vr 9999, vi x6] [] (hs (hs h 0 1 (y4 / gN y4 x3)) 0 2 (x3 / gN y4 x3)) Q
    refine r_aload_n (v := 0) f_201_143 rfl (by decide) ?_
    refine r_callv (as := [vr 0]) (st' := []) (ls0 := [vr 0]) f_201_144 (by decide) rfl rfl (Nat.le_of_ble_eq_true rfl) (Nat.le_of_ble_eq_true rfl) ⟨_, _, rfl, rfl⟩ rfl ?_
    refine c_C_grant  ?_
    show Wp true i_C_mean 147 [vr 0, vi x1, vi x2, vi x3, vj y4, vr 9999, vi x6] [vi (bi (True))] (hs (hs (hs h 0 1 (y4 / gN y4 x3)) 0 2 (x3 / gN y4 x3)) 0 0 0) Q
    exact r_retz f_201_147 rfl (bi_01 _) (k3 c1)
  · refine r_aload_n (v := 0) f_201_85 rfl (by decide) ?_
    refine r_getr (q := 99) f_201_86 rfl (by decide) (Or.inl rfl) rfl ?_
    refine r_aload_n (v := 0) f_201_89 rfl (by decide) ?_
    refine r_getr (q := 26) f_201_90 rfl (by decide) (Or.inl rfl) rfl ?_
    refine r_aload_n (v := 0) f_201_93 rfl (by decide) ?_
    refine r_getr (q := 10) f_201_94 rfl (by decide) (Or.inl rfl) rfl ?_
    refine r_iload_n (v := x2) f_201_97 rfl ?_
    refine r_iload (v := x6) f_201_98 rfl ?_
    refine r_iadd (u := x2 + x6) f_201_100 rfl (o4 c1) ?_
    exact r_callv (as := [vr 99, vr 26, vr 10, vi (x2 + x6)]) (st' := []) (ls0 := [vr 99, vr 26, vr 10, vi (x2 + x6), vr 9999, vr 9999]) f_201_101 (by decide) rfl rfl (Nat.le_of_ble_eq_true rfl) (Nat.le_of_ble_eq_true rfl) ⟨_, _, rfl, rfl⟩ rfl (k5 c1)

theorem g_C_mean_104 {Q : PQ} {h : HP} {x1 : Int} {x2 : Int} {x3 : Int} {y4 : Int} {x6 : Int} 
    (o1 : WR (rmC h 10))
    (o2 : x1 = 0 ∨ x1 = 1)
    (o3 : -9223372036854775808 ≤ y4 + (rVal (rmC h 10) x1 x1) ∧ y4 + (rVal (rmC h 10) x1 x1) ≤ 9223372036854775807)
    (k4 : Wp true i_Fl_become 0 [vr 10, vr 18] [] h (fun r h' => Wp true i_C_mean 129 [vr 0, vi x1, vi x2, vi x3, vj (y4 + (rVal (rmC h 10) x1 x1)), vr 9999, vi x6] (r.toList ++ []) h' Q)) :
    Wp true i_C_mean 104 [vr 0, vi x1, vi x2, vi x3, vj y4, vr 9999, vi x6] [] h Q := by
  refine r_lload (v := y4) f_201_104 rfl ?_
  refine r_aload_n (v := 0) f_201_106 rfl (by decide) ?_
  refine r_getr (q := 10) f_201_107 rfl (by decide) (Or.inl rfl) rfl ?_
  refine r_iload_n (v := x1) f_201_110 rfl ?_
  refine r_callv (as := [vr 10, vi x1]) (st' := [vj y4]) (ls0 := [vr 10, vi x1]) f_201_111 (by decide) rfl rfl (Nat.le_of_ble_eq_true rfl) (Nat.le_of_ble_eq_true rfl) ⟨_, _, rfl, rfl⟩ rfl ?_
  refine c_Fl_valueOf isF_10 o1 o2 ?_
  show Wp true i_C_mean 114 [vr 0, vi x1, vi x2, vi x3, vj y4, vr 9999, vi x6] [vi (rVal (rmC h 10) x1 x1), vj y4] h Q
  refine r_i2l f_201_114 ?_
  refine r_ladd (u := y4 + (rVal (rmC h 10) x1 x1)) f_201_115 rfl o3 ?_
  refine r_lstore (ls' := [vr 0, vi x1, vi x2, vi x3, vj (y4 + (rVal (rmC h 10) x1 x1)), vr 9999, vi x6]) f_201_116 (Nat.le_of_ble_eq_true rfl) rfl ?_
  refine r_aload_n (v := 0) f_201_118 rfl (by decide) ?_
  refine r_getr (q := 10) f_201_119 rfl (by decide) (Or.inl rfl) rfl ?_
  refine r_aload_n (v := 0) f_201_122 rfl (by decide) ?_
  refine r_getr (q := 18) f_201_123 rfl (by decide) (Or.inl rfl) rfl ?_
  exact r_callv (as := [vr 10, vr 18]) (st' := []) (ls0 := [vr 10, vr 18]) f_201_126 (by decide) rfl rfl (Nat.le_of_ble_eq_true rfl) (Nat.le_of_ble_eq_true rfl) ⟨_, _, rfl, rfl⟩ rfl k4

theorem g_C_mean_129 {Q : PQ} {h : HP} {x1 : Int} {x2 : Int} {x3 : Int} {y4 : Int} {x6 : Int} 
    (o1 : -2147483648 ≤ x6 + 1 ∧ x6 + 1 ≤ 2147483647)
    (k2 : Wp true i_C_mean 79 [vr 0, vi x1, vi x2, vi x3, vj y4, vr 9999, vi (x6 + 1)] [] h Q) :
    Wp true i_C_mean 129 [vr 0, vi x1, vi x2, vi x3, vj y4, vr 9999, vi x6] [] h Q := by
  refine r_iinc (v := x6) (w := x6 + 1) (ls' := [vr 0, vi x1, vi x2, vi x3, vj y4, vr 9999, vi (x6 + 1)]) f_201_129 rfl rfl o1 rfl ?_
  refine r_goto (t := 79) f_201_132 rfl ?_
  exact k2

theorem g_M_mean_0 {Q : PQ} {h : HP} {x1 : Int} {x2 : Int} {x3 : Int} 
    (k1 : ¬ (x1 = 0 ∨ x1 = 1) → Q (some (vi (bi ((1 : Int) = 0)))) (hs h 103 2 1))
    (k2 : (x1 = 0 ∨ x1 = 1) → ¬ (0 ≤ x2 ∧ x2 ≤ 9999) → Q (some (vi (bi ((1 : Int) = 0)))) (hs h 103 2 1))
    (k3 : (x1 = 0 ∨ x1 = 1) → (0 ≤ x2 ∧ x2 ≤ 9999) → ¬ (1 ≤ x3 ∧ x3 ≤ 20) → Q (some (vi (bi ((1 : Int) = 0)))) (hs h 103 2 1))
    (o4 : (x1 = 0 ∨ x1 = 1) → (0 ≤ x2 ∧ x2 ≤ 9999) → (1 ≤ x3 ∧ x3 ≤ 20) → -2147483648 ≤ x2 + x3 ∧ x2 + x3 ≤ 2147483647)
    (o5 : (x1 = 0 ∨ x1 = 1) → (0 ≤ x2 ∧ x2 ≤ 9999) → (1 ≤ x3 ∧ x3 ≤ 20) → -2147483648 ≤ (x2 + x3) - 1 ∧ (x2 + x3) - 1 ≤ 2147483647)
    (k6 : (x1 = 0 ∨ x1 = 1) → (0 ≤ x2 ∧ x2 ≤ 9999) → (1 ≤ x3 ∧ x3 ≤ 20) → (x2 + x3) - 1 ≤ 9999 → ¬ h 104 7 = -1 → Wp true i_M_mean 69 [vr 103, vi x1, vi x2, vi x3, vi 0, vr 9999, vr 9999, vr 9999] [] h Q)
    (k7 : (x1 = 0 ∨ x1 = 1) → (0 ≤ x2 ∧ x2 ≤ 9999) → (1 ≤ x3 ∧ x3 ≤ 20) → (x2 + x3) - 1 ≤ 9999 → h 104 7 = -1 → Q (some (vi (bi ((6 : Int) = 0)))) (hs h 103 2 6))
    (k8 : (x1 = 0 ∨ x1 = 1) → (0 ≤ x2 ∧ x2 ≤ 9999) → (1 ≤ x3 ∧ x3 ≤ 20) → ¬ (x2 + x3) - 1 ≤ 9999 → Q (some (vi (bi ((1 : Int) = 0)))) (hs h 103 2 1)) :
    Wp true i_M_mean 0 [vr 103, vi x1, vi x2, vi x3, vr 9999, vr 9999, vr 9999, vr 9999] [] h Q := by
  refine r_iload_n (v := x1) f_371_0 rfl ?_
  refine r_calls (as := [vi x1]) (st' := []) (ls0 := [vi x1]) f_371_1 (by decide) (by decide) rfl rfl (Nat.le_of_ble_eq_true rfl) (Nat.le_of_ble_eq_true rfl) rfl ?_
  refine c_M_isLand  ?_
  show Wp true i_M_mean 4 [vr 103, vi x1, vi x2, vi x3, vr 9999, vr 9999, vr 9999, vr 9999] [vi (bi (x1 = 0 ∨ x1 = 1))] h Q
  refine r_br (t := 42) f_371_4 rfl cb_bf (fun c1 => ?_) (fun c1 => ?_)
  · refine r_aload_n (v := 103) f_371_42 rfl (by decide) ?_
    refine r_iconst f_371_43 (by decide) ?_
    refine r_callv (as := [vr 103, vi 1]) (st' := []) (ls0 := [vr 103, vi 1]) f_371_44 (by decide) rfl rfl (Nat.le_of_ble_eq_true rfl) (Nat.le_of_ble_eq_true rfl) ⟨_, _, rfl, rfl⟩ rfl ?_
    refine c_M_is  ?_
    show Wp true i_M_mean 47 [vr 103, vi x1, vi x2, vi x3, vr 9999, vr 9999, vr 9999, vr 9999] [vi (bi ((1 : Int) = 0))] (hs h 103 2 1) Q
    exact r_retz f_371_47 rfl (bi_01 _) (k1 c1)
  · have c1 := Decidable.not_not.mp c1
    refine r_iload_n (v := x2) f_371_7 rfl ?_
    refine r_i2l f_371_8 ?_
    refine r_lconst (v := 0) f_371_9 rfl ?_
    refine r_ldc2_w f_371_10 (by decide) ?_
    refine r_calls (as := [vj x2, vj 0, vj 9999]) (st' := []) (ls0 := [vj x2, vr 9999, vj 0, vr 9999, vj 9999, vr 9999]) f_371_13 (by decide) (by decide) rfl rfl (Nat.le_of_ble_eq_true rfl) (Nat.le_of_ble_eq_true rfl) rfl ?_
    refine c_M_isFrom  ?_
    show Wp true i_M_mean 16 [vr 103, vi x1, vi x2, vi x3, vr 9999, vr 9999, vr 9999, vr 9999] [vi (bi (0 ≤ x2 ∧ x2 ≤ 9999))] h Q
    refine r_br (t := 42) f_371_16 rfl cb_bf (fun c2 => ?_) (fun c2 => ?_)
    · refine r_aload_n (v := 103) f_371_42 rfl (by decide) ?_
      refine r_iconst f_371_43 (by decide) ?_
      refine r_callv (as := [vr 103, vi 1]) (st' := []) (ls0 := [vr 103, vi 1]) f_371_44 (by decide) rfl rfl (Nat.le_of_ble_eq_true rfl) (Nat.le_of_ble_eq_true rfl) ⟨_, _, rfl, rfl⟩ rfl ?_
      refine c_M_is  ?_
      show Wp true i_M_mean 47 [vr 103, vi x1, vi x2, vi x3, vr 9999, vr 9999, vr 9999, vr 9999] [vi (bi ((1 : Int) = 0))] (hs h 103 2 1) Q
      exact r_retz f_371_47 rfl (bi_01 _) (k2 c1 c2)
    · have c2 := Decidable.not_not.mp c2
      refine r_iload_n (v := x3) f_371_19 rfl ?_
      refine r_i2l f_371_20 ?_
      refine r_lconst (v := 1) f_371_21 rfl ?_
      refine r_ldc2_w f_371_22 (by decide) ?_
      refine r_calls (as := [vj x3, vj 1, vj 20]) (st' := []) (ls0 := [vj x3, vr 9999, vj 1, vr 9999, vj 20, vr 9999]) f_371_25 (by decide) (by decide) rfl rfl (Nat.le_of_ble_eq_true rfl) (Nat.le_of_ble_eq_true rfl) rfl ?_
      refine c_M_isFrom  ?_
      show Wp true i_M_mean 28 [vr 103, vi x1, vi x2, vi x3, vr 9999, vr 9999, vr 9999, vr 9999] [vi (bi (1 ≤ x3 ∧ x3 ≤ 20))] h Q
      refine r_br (t := 42) f_371_28 rfl cb_bf (fun c3 => ?_) (fun c3 => ?_)
      · refine r_aload_n (v := 103) f_371_42 rfl (by decide) ?_
        refine r_iconst f_371_43 (by decide) ?_
        refine r_callv (as := [vr 103, vi 1]) (st' := []) (ls0 := [vr 103, vi 1]) f_371_44 (by decide) rfl rfl (Nat.le_of_ble_eq_true rfl) (Nat.le_of_ble_eq_true rfl) ⟨_, _, rfl, rfl⟩ rfl ?_
        refine c_M_is  ?_
        show Wp true i_M_mean 47 [vr 103, vi x1, vi x2, vi x3, vr 9999, vr 9999, vr 9999, vr 9999] [vi (bi ((1 : Int) = 0))] (hs h 103 2 1) Q
        exact r_retz f_371_47 rfl (bi_01 _) (k3 c1 c2 c3)
      · have c3 := Decidable.not_not.mp c3
        refine r_iload_n (v := x2) f_371_31 rfl ?_
        refine r_iload_n (v := x3) f_371_32 rfl ?_
        refine r_iadd (u := x2 + x3) f_371_33 rfl (o4 c1 c2 c3) ?_
        refine r_iconst f_371_34 (by decide) ?_
        refine r_isub (u := (x2 + x3) - 1) f_371_35 rfl (o5 c1 c2 c3) ?_
        refine r_sipush f_371_36 (by decide) ?_
        refine r_br2 (t := 48) f_371_39 rfl cb_le (fun c4 => ?_) (fun c4 => ?_)
        · refine r_aload_n (v := 103) f_371_48 rfl (by decide) ?_
          refine r_getr (q := 104) f_371_49 rfl (by decide) (Or.inl rfl) rfl ?_
          refine r_bipush f_371_52 (by decide) ?_
          refine r_iaload (n := 3000) (v := h 104 7) f_371_54 ⟨rfl, rfl⟩ (by decide) rfl ?_
          refine r_iconst f_371_55 (by decide) ?_
          refine r_br2 (t := 66) f_371_56 rfl cb_ne (fun c5 => ?_) (fun c5 => ?_)
          · refine r_iconst f_371_66 (by decide) ?_
            refine r_istore (ls' := [vr 103, vi x1, vi x2, vi x3, vi 0, vr 9999, vr 9999, vr 9999]) f_371_67 (Nat.le_of_ble_eq_true rfl) rfl ?_
            exact (k6 c1 c2 c3 c4 c5)
          · have c5 := Decidable.not_not.mp c5
            refine r_aload_n (v := 103) f_371_59 rfl (by decide) ?_
            refine r_bipush f_371_60 (by decide) ?_
            refine r_callv (as := [vr 103, vi 6]) (st' := []) (ls0 := [vr 103, vi 6]) f_371_62 (by decide) rfl rfl (Nat.le_of_ble_eq_true rfl) (Nat.le_of_ble_eq_true rfl) ⟨_, _, rfl, rfl⟩ rfl ?_
            refine c_M_is  ?_
            show Wp true i_M_mean 65 [vr 103, vi x1, vi x2, vi x3, vr 9999, vr 9999, vr 9999, vr 9999] [vi (bi ((6 : Int) = 0))] (hs h 103 2 6) Q
            exact r_retz f_371_65 rfl (bi_01 _) (k7 c1 c2 c3 c4 c5)
        · refine r_aload_n (v := 103) f_371_42 rfl (by decide) ?_
          refine r_iconst f_371_43 (by decide) ?_
          refine r_callv (as := [vr 103, vi 1]) (st' := []) (ls0 := [vr 103, vi 1]) f_371_44 (by decide) rfl rfl (Nat.le_of_ble_eq_true rfl) (Nat.le_of_ble_eq_true rfl) ⟨_, _, rfl, rfl⟩ rfl ?_
          refine c_M_is  ?_
          show Wp true i_M_mean 47 [vr 103, vi x1, vi x2, vi x3, vr 9999, vr 9999, vr 9999, vr 9999] [vi (bi ((1 : Int) = 0))] (hs h 103 2 1) Q
          exact r_retz f_371_47 rfl (bi_01 _) (k8 c1 c2 c3 c4)

theorem g_M_mean_69 {Q : PQ} {h : HP} {x1 : Int} {x2 : Int} {x3 : Int} {x4 : Int} 
    (k1 : 75 ≤ x4 → Wp true i_M_mean 106 [vr 103, vi x1, vi x2, vi x3, vj 0, vr 9999, vi 0, vr 9999] [] h Q)
    (o2 : ¬ 75 ≤ x4 → -2147483648 ≤ 2500 + x4 ∧ 2500 + x4 ≤ 2147483647)
    (o3 : ¬ 75 ≤ x4 → 0 ≤ x4 ∧ x4 < 3000)
    (o4 : ¬ 75 ≤ x4 → 0 ≤ 2500 + x4 ∧ 2500 + x4 < 3000)
    (o5 : ¬ 75 ≤ x4 → -2147483648 ≤ x4 + 1 ∧ x4 + 1 ≤ 2147483647)
    (k6 : ¬ 75 ≤ x4 → Wp true i_M_mean 69 [vr 103, vi x1, vi x2, vi x3, vi (x4 + 1), vr 9999, vr 9999, vr 9999] [] (hs h 104 (2500 + x4).toNat (h 104 x4.toNat)) Q) :
    Wp true i_M_mean 69 [vr 103, vi x1, vi x2, vi x3, vi x4, vr 9999, vr 9999, vr 9999] [] h Q := by
  refine r_iload (v := x4) f_371_69 rfl ?_
  refine r_bipush f_371_71 (by decide) ?_
  refine r_br2 (t := 100) f_371_73 rfl cb_ge (fun c1 => ?_) (fun c1 => ?_)
  · refine r_lconst (v := 0) f_371_100 rfl ?_
    refine r_lstore (ls' := [vr 103, vi x1, vi x2, vi x3, vj 0, vr 9999, vr 9999, vr 9999]) f_371_101 (Nat.le_of_ble_eq_true rfl) rfl ?_
    refine r_iconst f_371_103 (by decide) ?_
    refine r_istore (ls' := [vr 103, vi x1, vi x2, vi x3, vj 0, vr 9999, vi 0, vr 9999]) f_371_104 (Nat.le_of_ble_eq_true rfl) rfl ?_
    exact (k1 c1)
  · refine r_aload_n (v := 103) f_371_76 rfl (by decide) ?_
    refine r_getr (q := 104) f_371_77 rfl (by decide) (Or.inl rfl) rfl ?_
    refine r_sipush f_371_80 (by decide) ?_
    refine r_iload (v := x4) f_371_83 rfl ?_
    refine r_iadd (u := 2500 + x4) f_371_85 rfl (o2 c1) ?_
    refine r_aload_n (v := 103) f_371_86 rfl (by decide) ?_
    refine r_getr (q := 104) f_371_87 rfl (by decide) (Or.inl rfl) rfl ?_
    refine r_iload (v := x4) f_371_90 rfl ?_
    refine r_iaload (n := 3000) (v := h 104 x4.toNat) f_371_92 ⟨rfl, rfl⟩ (o3 c1) rfl ?_
    refine r_iastore (n := 3000) f_371_93 ⟨rfl, rfl⟩ (o4 c1) ?_
    refine r_iinc (v := x4) (w := x4 + 1) (ls' := [vr 103, vi x1, vi x2, vi x3, vi (x4 + 1), vr 9999, vr 9999, vr 9999]) f_371_94 rfl rfl (o5 c1) rfl ?_
    refine r_goto (t := 69) f_371_97 rfl ?_
    exact (k6 c1)

theorem g_M_mean_106 {Q : PQ} {h : HP} {x1 : Int} {x2 : Int} {x3 : Int} {y4 : Int} {x6 : Int} {j7 : AV} 
    (o1 : x3 ≤ x6 → 0 ≤ y4 ∧ y4 ≤ 9223372036854775807)
    (o2 : x3 ≤ x6 → 0 < x3 ∧ x3 ≤ 9223372036854775807)
    (k3 : x3 ≤ x6 → Q (some (vi (bi ((0 : Int) = 0)))) (hs (hs (hs h 103 3 (y4 / gN y4 x3)) 103 4 (x3 / gN y4 x3)) 103 2 0))
    (o4 : ¬ x3 ≤ x6 → -2147483648 ≤ x2 + x6 ∧ x2 + x6 ≤ 2147483647)
    (k5 : ¬ x3 ≤ x6 → Wp true i_M_lives 0 [vr 103, vi (x2 + x6), vr 9999, vr 9999] [] h (fun r h' => Wp true i_M_mean 120 [vr 103, vi x1, vi x2, vi x3, vj y4, vr 9999, vi x6, j7] (r.toList ++ []) h' Q)) :
    Wp true i_M_mean 106 [vr 103, vi x1, vi x2, vi x3, vj y4, vr 9999, vi x6, j7] [] h Q := by
  refine r_iload (v := x6) f_371_106 rfl ?_
  refine r_iload_n (v := x3) f_371_108 rfl ?_
  refine r_br2 (t := 171) f_371_109 rfl cb_ge (fun c1 => ?_) (fun c1 => ?_)
  · refine r_aload_n (v := 103) f_371_171 rfl (by decide) ?_
    refine r_lload (v := y4) f_371_172 rfl ?_
    refine r_iload_n (v := x3) f_371_174 rfl ?_
    refine r_i2l f_371_175 ?_
    refine r_callv (as := [vr 103, vj y4, vj x3]) (st' := []) (ls0 := [vr 103, vj y4, vr 9999, vj x3, vr 9999, vr 9999, vr 9999, vr 9999, vr 9999, vr 9999, vr 9999]) f_371_176 (by decide) rfl rfl (Nat.le_of_ble_eq_true rfl) (Nat.le_of_ble_eq_true rfl) ⟨_, _, rfl, rfl⟩ rfl ?_
    refine c_M_tellsBy (o1 c1) (o2 c1) ?_
    show Wp true i_M_mean 179 [vr 103, vi x1, vi x2, vi x3, vj y4, vr 9999, vi x6, j7] [vi (bi ((0 : Int) = 0))] (hs (hs (hs h 103 3 (y4 / gN y4 x3)) 103 4 (x3 / gN y4 x3)) 103 2 0) Q
    exact r_retz f_371_179 rfl (bi_01 _) (k3 c1)
  · refine r_aload_n (v := 103) f_371_112 rfl (by decide) ?_
    refine r_iload_n (v := x2) f_371_113 rfl ?_
    refine r_iload (v := x6) f_371_114 rfl ?_
    refine r_iadd (u := x2 + x6) f_371_116 rfl (o4 c1) ?_
    exact r_callv (as := [vr 103, vi (x2 + x6)]) (st' := []) (ls0 := [vr 103, vi (x2 + x6), vr 9999, vr 9999]) f_371_117 (by decide) rfl rfl (Nat.le_of_ble_eq_true rfl) (Nat.le_of_ble_eq_true rfl) ⟨_, _, rfl, rfl⟩ rfl (k5 c1)

theorem g_M_mean_120 {Q : PQ} {h : HP} {x1 : Int} {x2 : Int} {x3 : Int} {y4 : Int} {x6 : Int} {j7 : AV} 
    (o1 : WR (rmM h 0))
    (o2 : x1 = 0 ∨ x1 = 1)
    (o3 : -9223372036854775808 ≤ y4 + (rVal (rmM h 0) x1 x1) ∧ y4 + (rVal (rmM h 0) x1 x1) ≤ 9223372036854775807)
    (k4 : Wp true i_M_mean 134 [vr 103, vi x1, vi x2, vi x3, vj (y4 + (rVal (rmM h 0) x1 x1)), vr 9999, vi x6, vi 0] [] h Q) :
    Wp true i_M_mean 120 [vr 103, vi x1, vi x2, vi x3, vj y4, vr 9999, vi x6, j7] [] h Q := by
  refine r_lload (v := y4) f_371_120 rfl ?_
  refine r_aload_n (v := 103) f_371_122 rfl (by decide) ?_
  refine r_iload_n (v := x1) f_371_123 rfl ?_
  refine r_callv (as := [vr 103, vi x1]) (st' := [vj y4]) (ls0 := [vr 103, vi x1, vr 9999, vr 9999]) f_371_124 (by decide) rfl rfl (Nat.le_of_ble_eq_true rfl) (Nat.le_of_ble_eq_true rfl) ⟨_, _, rfl, rfl⟩ rfl ?_
  refine c_M_valueOf o1 o2 ?_
  show Wp true i_M_mean 127 [vr 103, vi x1, vi x2, vi x3, vj y4, vr 9999, vi x6, j7] [vi (rVal (rmM h 0) x1 x1), vj y4] h Q
  refine r_i2l f_371_127 ?_
  refine r_ladd (u := y4 + (rVal (rmM h 0) x1 x1)) f_371_128 rfl o3 ?_
  refine r_lstore (ls' := [vr 103, vi x1, vi x2, vi x3, vj (y4 + (rVal (rmM h 0) x1 x1)), vr 9999, vi x6, j7]) f_371_129 (Nat.le_of_ble_eq_true rfl) rfl ?_
  refine r_iconst f_371_131 (by decide) ?_
  refine r_istore (ls' := [vr 103, vi x1, vi x2, vi x3, vj (y4 + (rVal (rmM h 0) x1 x1)), vr 9999, vi x6, vi 0]) f_371_132 (Nat.le_of_ble_eq_true rfl) rfl ?_
  exact k4

theorem g_M_mean_134 {Q : PQ} {h : HP} {x1 : Int} {x2 : Int} {x3 : Int} {y4 : Int} {x6 : Int} {x7 : Int} 
    (o1 : 75 ≤ x7 → -2147483648 ≤ x6 + 1 ∧ x6 + 1 ≤ 2147483647)
    (k2 : 75 ≤ x7 → Wp true i_M_mean 106 [vr 103, vi x1, vi x2, vi x3, vj y4, vr 9999, vi (x6 + 1), vi x7] [] h Q)
    (o3 : ¬ 75 ≤ x7 → -2147483648 ≤ 2500 + x7 ∧ 2500 + x7 ≤ 2147483647)
    (o4 : ¬ 75 ≤ x7 → 0 ≤ 2500 + x7 ∧ 2500 + x7 < 3000)
    (o5 : ¬ 75 ≤ x7 → 0 ≤ x7 ∧ x7 < 3000)
    (o6 : ¬ 75 ≤ x7 → -2147483648 ≤ x7 + 1 ∧ x7 + 1 ≤ 2147483647)
    (k7 : ¬ 75 ≤ x7 → Wp true i_M_mean 134 [vr 103, vi x1, vi x2, vi x3, vj y4, vr 9999, vi x6, vi (x7 + 1)] [] (hs h 104 x7.toNat (h 104 (2500 + x7).toNat)) Q) :
    Wp true i_M_mean 134 [vr 103, vi x1, vi x2, vi x3, vj y4, vr 9999, vi x6, vi x7] [] h Q := by
  refine r_iload (v := x7) f_371_134 rfl ?_
  refine r_bipush f_371_136 (by decide) ?_
  refine r_br2 (t := 165) f_371_138 rfl cb_ge (fun c1 => ?_) (fun c1 => ?_)
  · refine r_iinc (v := x6) (w := x6 + 1) (ls' := [vr 103, vi x1, vi x2, vi x3, vj y4, vr 9999, vi (x6 + 1), vi x7]) f_371_165 rfl rfl (o1 c1) rfl ?_
    refine r_goto (t := 106) f_371_168 rfl ?_
    exact (k2 c1)
  · refine r_aload_n (v := 103) f_371_141 rfl (by decide) ?_
    refine r_getr (q := 104) f_371_142 rfl (by decide) (Or.inl rfl) rfl ?_
    refine r_iload (v := x7) f_371_145 rfl ?_
    refine r_aload_n (v := 103) f_371_147 rfl (by decide) ?_
    refine r_getr (q := 104) f_371_148 rfl (by decide) (Or.inl rfl) rfl ?_
    refine r_sipush f_371_151 (by decide) ?_
    refine r_iload (v := x7) f_371_154 rfl ?_
    refine r_iadd (u := 2500 + x7) f_371_156 rfl (o3 c1) ?_
    refine r_iaload (n := 3000) (v := h 104 (2500 + x7).toNat) f_371_157 ⟨rfl, rfl⟩ (o4 c1) rfl ?_
    refine r_iastore (n := 3000) f_371_158 ⟨rfl, rfl⟩ (o5 c1) ?_
    refine r_iinc (v := x7) (w := x7 + 1) (ls' := [vr 103, vi x1, vi x2, vi x3, vj y4, vr 9999, vi x6, vi (x7 + 1)]) f_371_159 rfl rfl (o6 c1) rfl ?_
    refine r_goto (t := 134) f_371_162 rfl ?_
    exact (k7 c1)

theorem Rel_gen {n : Nat} {h h' : HP} (hR : Rel n h) (e0 : h' 0 0 = h' 103 2) (e1 : h' 0 1 = h' 103 3) (e2 : h' 0 2 = h' 103 4) (h13 : h' 0 13 = h 0 13) (h2 : ∀ i, i = 10 ∨ i = 16 ∨ i = 17 ∨ i = 39 → h' 103 i = h 103 i)
    (h3 : ∀ k, (2 ≤ k ∧ k ≤ 7) ∨ (40 ≤ k ∧ k < 82) ∨ (105 ≤ k ∧ k ≤ 109) → h' k = h k) (h4 : ∀ i, 500 ≤ i → i < 2000 → h' 104 i = h 104 i) (hS : Slot (n + 1) h' 10 26 0 0) (hL : RLived h') : Rel (n + 1) h' := by
  obtain ⟨-, b1, b2, b3, b4, -, b6, b7⟩ := hR
  refine ⟨e0, e1, e2, ?_, ?_, hS, ?_, hL⟩
  · exact RTray_c b3 (fun k hk => h3 k (by omega))
  · exact RTape_c b4 (fun k hk => h3 k (by omega)) (fun i hi => h2 i (by omega))
  · exact RMarks_c b6 (by omega) h13 (h2 39 (by decide)) (fun k k1 k2 => h3 k (by omega)) h4 (fun i _ _ => by rw [h3 105 (by decide)])
theorem Slot_up2 {n m : Nat} {h h' R' : HP} {f t s nb : Nat} (hS : Slot n h f t s nb) (eC : rmC h' f = R') (eM : rmM h' s = R') (hW : WR R') (h0 : R' 0 0 = rmC h f 0 0) (h1 : R' 0 1 = rmC h f 0 1) (h3 : R' 0 3 = rmC h f 0 3)
    (b : (0 ≤ R' 0 4 ∧ R' 0 4 ≤ 3000 * m) ∧ (0 ≤ R' 0 5 ∧ R' 0 5 ≤ 3000 * m) ∧ (0 ≤ R' 0 6 ∧ R' 0 6 ≤ 3000 * m))
    (hn : ∀ i, i < 10 → h' (f + 3) i = h (f + 3) i) (h5 : ∀ i, nb ≤ i → i < nb + 10 → h' 105 i = h 105 i) (ht : ∀ k, t ≤ k → k < t + 6 → h' k = h k) (hT : ∀ i, s + 75 ≤ i → i < s + 500 → h' 104 i = h 104 i) (h7 : h' 104 (s + 7) = h 104 (s + 7)) : Slot m h' f t s nb := by
  obtain ⟨a1, a2, a3, a4, a5, a6, a7⟩ := hS
  have g4 : rmC h' f 0 4 = h' (f + 1) 0 := rfl
  have g5 : rmC h' f 0 5 = h' (f + 1) 1 := rfl
  have g6 : rmC h' f 0 6 = h' f 4 := rfl
  have g3 : rmC h' f 0 3 = h' f 3 := rfl
  have g3' : rmC h f 0 3 = h f 3 := rfl
  rw [eC] at g4 g5 g6 g3
  rw [h3, g3'] at g3
  refine ⟨by rw [eC, eM], by rw [eC]; exact hW, by rw [← g4]; exact b.1, by rw [← g5]; exact b.2.1, by rw [← g6]; exact b.2.2, fun i hi => ?_, ?_⟩
  · have w3 : h f 3 ≤ 10 := a2.1.2.2.2.2.2.2.2
    rw [hn i (by omega), h5 (nb + i) (by omega) (by omega)]
    exact a6 i (by rw [g3]; exact hi)
  · have t0 := ht t (by omega) (by omega)
    rw [t0, h7, tkC_congr ht, eC]
    rcases a7 with ⟨c1, c2⟩ | ⟨c1, c2, c3, c4⟩
    · exact Or.inl ⟨c1, c2⟩
    · right
      refine ⟨c1, c2, ?_, WT_congr c4 h0 h1 h3⟩
      rw [c3, tkM_congr h7 (by rw [← c2]; exact c4.2.1) hT]
theorem rC_fr10 {h h' : HP} (e : ∀ k, 10 ≤ k → k < 18 → h' k = h k) : rmC h' 10 = rmC h 10 :=
  rmC_congr (fun i => by rw [e 10 (by decide) (by decide)]) (e _ (by decide) (by decide)) (e _ (by decide) (by decide)) (e _ (by decide) (by decide)) (e _ (by decide) (by decide)) (e _ (by decide) (by decide)) (e _ (by decide) (by decide))
def recC (h : HP) (l : Int) : HP := hs (hs (hs (hs (hs (hs h 99 7 1) 102 0 (h 99 1)) 102 1 (h 100 0)) 102 2 (h 100 1)) 102 3 (h 99 2)) 102 4 l
theorem A_live {n : Nat} {h : HP} {x1 : Int} (hR : Rel n h) (hn : n ≤ 600) : Agree n h i_C_live i_M_live [vr 0, vi x1] [vr 103, vi x1, vr 9999] := by
  have sl := hR.2.2.2.2.2.1
  have W := sl.2.1
  by_cases c : 0 ≤ x1 ∧ x1 ≤ 9999
  · rcases sl.2.2.2.2.2.2 with ⟨p0, p1, -⟩ | ⟨p0, p1, p2, p3⟩
    · refine ag_act0 (v := vi (-1)) (st := 6) hR (fun Q k => ?_) (fun g Q e gk k => ?_)
      · exact g_C_live_0 (fun _ q => absurd p0 q) (fun _ _ => k) (fun q => absurd c q)
      · refine g_M_live_0 (fun _ q => absurd (by rw [gk 104 (by decide)]; exact p1) q) (fun _ _ => k) (fun q => absurd c q)
    · have q3 := sl.2.2.1
      have q4 := sl.2.2.2.1
      have q5 := sl.2.2.2.2.1
      have hb : (0 ≤ rmC h 10 0 4 ∧ rmC h 10 0 4 ≤ 1900000000) ∧ (0 ≤ rmC h 10 0 5 ∧ rmC h 10 0 5 ≤ 1900000000) ∧ (0 ≤ rmC h 10 0 6 ∧ rmC h 10 0 6 ≤ 1900000000) := by
        have d := cdim (rfl : rmC h 10 = rmC h 10)
        have e10 : h (10 + 1) = h 11 := rfl
        rw [e10] at q3 q4 d
        omega
      obtain ⟨T, eT⟩ : ∃ T, T = tkC h 26 := ⟨_, rfl⟩
      rw [← eT] at p2 p3
      have I0 := PI_0 p3 W (x := x1) (by omega)
      have ok := run_ok p3 1204 (rmC h 10, zS x1) I0 (by have := nd_0 (T := T) x1; show ndP T (zS x1) ≤ _; omega)
      obtain ⟨fin, ef⟩ : ∃ fin, fin = runP T (h 26 2) 1204 (rmC h 10, zS x1) := ⟨_, rfl⟩
      rw [← ef] at ok
      obtain ⟨L, eL⟩ : ∃ L : Int, L = (if h 26 2 ≤ fin.2 0 0 then 0 else 1) := ⟨_, rfl⟩
      refine ⟨vi (fin.2 0 1), fun h1 => ∃ ha, CR h T fin.1 fin.2 ha ∧ h1 = hs (recC ha L) 0 0 0, fun h1 e => ?_, fun Q k => ?_, fun h1 Q e k => ?_⟩
      · obtain ⟨ha, C, rfl⟩ := e
        unfold recC
        exact ⟨by rw [hs_ne (by decide), hs_ne (by decide), hs_ne (by decide), hs_ne (by decide), hs_ne (by decide), hs_ne (by decide), hs_ne (by decide)]; exact C.2.1 1000 (by decide) (by decide) (by decide) (by decide), by rw [hs_ne (by decide), hs_ne (by decide), hs_ne (by decide), hs_ne (by decide), hs_ne (by decide), hs_ne (by decide), hs_ne (by decide)]; exact C.2.1 1001 (by decide) (by decide) (by decide) (by decide)⟩
      · refine g_C_live_0 (fun _ _ => ?_) (fun _ q => by omega) (fun q => absurd c q)
        refine c_Pl_run rfl W eT.symm rfl p3 (by omega) hb (fun ha C h3 => ?_)
        rw [← ef] at C h3
        rw [← eL] at h3
        have f0 : ∀ l, recC ha l 99 0 = fin.2 0 1 := fun l => by
          unfold recC
          rw [hs_ne (by decide), hs_ne (by decide), hs_ne (by decide), hs_ne (by decide), hs_ne (by decide), hs_o (Or.inr (by decide))]; exact C.2.2.2.1
        have fk := k _ ⟨ha, C, rfl⟩
        have l01 : L = 0 ∨ L = 1 := by rw [eL]; split; exact Or.inl rfl; exact Or.inr rfl
        refine g_C_live_50 (g_Pl_record_0 (fun q => g_C_live_57 ?_) (fun q => g_C_live_57 ?_))
        · rw [h3] at q
          rw [q] at fk
          show Q (some (vi (recC ha 0 99 0))) (hs (recC ha 0) 0 0 0)
          rw [f0]; exact fk
        · rw [h3] at q
          rw [show L = 1 by omega] at fk
          show Q (some (vi (recC ha 1 99 0))) (hs (recC ha 1) 0 0 0)
          rw [f0]; exact fk
      · obtain ⟨ha, C, rfl⟩ := e
        obtain ⟨g, eg⟩ : ∃ g, g = hs (recC ha L) 0 0 0 := ⟨_, rfl⟩
        rw [← eg]
        have gk : ∀ k, k ≠ 0 → k ≠ 99 → k ≠ 102 → g k = ha k := fun k k1 k2 k3 => by
          rw [eg, hs_ne k1]; unfold recC
          rw [hs_ne k3, hs_ne k3, hs_ne k3, hs_ne k3, hs_ne k3, hs_ne k2]
        have gh : ∀ k, 103 ≤ k → g k = h k := fun k hk => (gk k (by omega) (by omega) (by omega)).trans (C.2.1 k (by omega) (by omega) (by omega) (by omega))
        have eR : rmM g 0 = rmC h 10 := (rmM_congr (gh 104 (by decide))).trans sl.1.symm
        have eM : tkM g 0 = T := by
          rw [p2]
          exact tkM_congr (by rw [gh 104 (by decide)]) (by rw [← p1]; exact p3.2.1) (fun i _ _ => by rw [gh 104 (by decide)])
        have e7 : g 104 7 = h 26 2 := by rw [gh 104 (by decide)]; exact p1.symm
        refine g_M_live_0 (fun _ _ => ?_) (fun _ q => by have := p3.1; omega) (fun q => absurd c q)
        refine c_M_lives eR W eM e7 p3 (by omega) hb (fun g2 M h4 => ?_)
        rw [← ef] at M h4
        rw [← eL] at h4
        obtain ⟨m1, m2, m3, m4, m5, m6, m7, m8, m9, m10, m11, m12⟩ := M
        refine g_M_live_41 ?_
        have cp : ∀ (d i : Nat) (g3 : HP), i + d = 5 → (∀ k, k ≠ 122 → g3 k = g2 k) → (∀ j, j < i → g3 122 j = g2 121 j) → Wp true i_M_live 43 [vr 103, vi x1, vi (i : Int)] [] g3 Q := by
          intro d
          induction d with
          | zero =>
            intro i g3 e f fj
            refine g_M_live_43 (fun _ => ?_) (fun q => by omega) (fun q => by omega) (fun q => by omega)
            rw [show g3 103 34 = fin.2 0 1 by rw [f 103 (by decide)]; exact m6]
            have F : ∀ k, k ≠ 103 → k ≠ 122 → hs (hs g3 103 38 1) 103 2 0 k = g2 k := fun k k1 k2 => by rw [hs_ne k1, hs_ne k1, f k k2]
            have lo : ∀ k, k < 103 → hs (hs g3 103 38 1) 103 2 0 k = g k := fun k hk => by rw [F k (by omega) (by omega), m2 k (by omega) (by omega) (by omega) (by omega)]
            have f3 : ∀ i, i ≠ 2 → i ≠ 38 → i ≠ 33 → i ≠ 34 → hs (hs g3 103 38 1) 103 2 0 103 i = h 103 i := fun i i1 i2 i3 i4 => by rw [hs_o (Or.inr i1), hs_o (Or.inr i2), f 103 (by decide), m5 i i3 i4, gh 103 (by decide)]
            have g0 : ∀ i, i ≠ 0 → g 0 i = h 0 i := fun i hi => by
              rw [eg, hs_o (Or.inr hi)]; unfold recC
              rw [hs_ne (by decide), hs_ne (by decide), hs_ne (by decide), hs_ne (by decide), hs_ne (by decide), hs_ne (by decide), C.2.1 0 (by decide) (by decide) (by decide) (by decide)]
            have g00 : g 0 0 = 0 := by rw [eg, hs_s]
            have hi4 : ∀ i, 75 ≤ i → hs (hs g3 103 38 1) 103 2 0 104 i = h 104 i := fun i hi => by rw [F 104 (by decide) (by decide), m3 i hi, gh 104 (by decide)]
            have P := ok.2
            have d10 := cdim (rfl : rmC h 10 = rmC h 10)
            have e10 : h (10 + 1) = h 11 := rfl
            rw [e10] at d10
            have q3' : 0 ≤ h 11 0 ∧ h 11 0 ≤ 3000 * n := q3
            have q4' : 0 ≤ h 11 1 ∧ h 11 1 ≤ 3000 * n := q4
            obtain ⟨-, iW, iS, i1, i2, i3, i4, i5, i6, i7, -⟩ := P
            refine k _ (Rel_gen hR ?_ ?_ ?_ ?_ (fun i hi => f3 i (by omega) (by omega) (by omega) (by omega)) (fun k hk => ?_) (fun i i1 i2 => hi4 i (by omega)) ?_ ?_) ?_ ?_
            · rw [lo 0 (by decide), g00, hs_s]
            · rw [lo 0 (by decide), g0 1 (by decide), f3 3 (by decide) (by decide) (by decide) (by decide)]; exact hR.2.1
            · rw [lo 0 (by decide), g0 2 (by decide), f3 4 (by decide) (by decide) (by decide) (by decide)]; exact hR.2.2.1
            · rw [lo 0 (by decide), g0 13 (by decide)]
            · by_cases kb : k < 103
              · rw [lo k kb, gk k (by omega) (by omega) (by omega)]; exact C.2.1 k (by omega) (by omega) (by omega) (by omega)
              · rw [F k (by omega) (by omega), m2 k (by omega) (by omega) (by omega) (by omega)]; exact gh k (by omega)
            · refine Slot_upd sl (R' := fin.1) ?_ ?_ iW iS.1 iS.2.1 iS.2.2 ⟨by omega, by omega, by omega⟩ ?_ (fun i _ _ => ?_) (fun k k1 k2 => ?_) (fun i i1 i2 => hi4 i (by omega)) ?_
              · exact ((rC_fr10 (fun k k1 k2 => (lo k (by omega)).trans (gk k (by omega) (by omega) (by omega))))).trans C.1
              · exact (rmM_congr (F 104 (by decide) (by decide))).trans m1
              · rw [lo (10 + 3) (by decide), gk (10 + 3) (by decide) (by decide) (by decide)]; exact C.2.2.1
              · rw [F 105 (by decide) (by decide), m2 105 (by decide) (by decide) (by decide) (by decide), gh 105 (by decide)]
              · rw [lo k (by omega), gk k (by omega) (by omega) (by omega)]; exact C.2.1 k (by omega) (by omega) (by omega) (by omega)
              · show hs (hs g3 103 38 1) 103 2 0 104 7 = h 104 7
                rw [F 104 (by decide) (by decide), m4, gh 104 (by decide)]
            · have r99 : hs (hs g3 103 38 1) 103 2 0 99 7 = 1 := by
                rw [lo 99 (by decide), eg, hs_ne (by decide)]; unfold recC
                rw [hs_ne (by decide), hs_ne (by decide), hs_ne (by decide), hs_ne (by decide), hs_ne (by decide), hs_s]
              have r38 : hs (hs g3 103 38 1) 103 2 0 103 38 = 1 := by rw [hs_o (Or.inr (by decide)), hs_s]
              refine ⟨by rw [r99, r38], Or.inr r99, fun _ j hj => ?_⟩
              have rc : hs (hs g3 103 38 1) 103 2 0 102 j = recC ha L 102 j := by rw [lo 102 (by decide), eg, hs_ne (by decide)]
              have rm : hs (hs g3 103 38 1) 103 2 0 122 j = g2 121 j := by rw [hs_ne (by decide), hs_ne (by decide)]; exact fj j (by omega)
              rw [rc, rm]
              unfold recC
              rcases (by omega : j = 0 ∨ j = 1 ∨ j = 2 ∨ j = 3 ∨ j = 4) with rfl | rfl | rfl | rfl | rfl
              · rw [hs_o (Or.inr (by decide)), hs_o (Or.inr (by decide)), hs_o (Or.inr (by decide)), hs_o (Or.inr (by decide)), hs_s, m8]; exact C.2.2.2.2.1
              · rw [hs_o (Or.inr (by decide)), hs_o (Or.inr (by decide)), hs_o (Or.inr (by decide)), hs_s, m9]; exact C.2.2.2.2.2.2.2.2.1
              · rw [hs_o (Or.inr (by decide)), hs_o (Or.inr (by decide)), hs_s, m10]; exact C.2.2.2.2.2.2.2.2.2.1
              · rw [hs_o (Or.inr (by decide)), hs_s, m11]; exact C.2.2.2.2.2.1
              · rw [hs_s, h4]
            · rw [F 1000 (by decide) (by decide), m2 1000 (by decide) (by decide) (by decide) (by decide)]; exact gh 1000 (by decide)
            · rw [F 1001 (by decide) (by decide), m2 1001 (by decide) (by decide) (by decide) (by decide)]; exact gh 1001 (by decide)
          | succ d ih =>
            intro i g3 e f fj
            refine g_M_live_43 (fun q => by omega) (fun _ => by omega) (fun _ => by omega) (fun _ => ?_)
            rw [show ((i : Int)).toNat = i from Int.toNat_natCast _]
            refine ih (i + 1) _ (by omega) (fun k hk => by rw [hs_ne hk]; exact f k hk) (fun j hj => ?_)
            by_cases y : j = i
            · subst y; rw [hs_s, f 121 (by decide)]
            · rw [hs_o (Or.inr y)]; exact fj j (by omega)
        exact cp 5 0 g2 rfl (fun _ _ => rfl) (fun j hj => by omega)
  · refine ag_act0 (v := vi (-1)) (st := 1) hR (fun Q k => ?_) (fun g Q e gk k => ?_)
    · exact g_C_live_0 (fun q => absurd q c) (fun q => absurd q c) (fun _ => k)
    · exact g_M_live_0 (fun q => absurd q c) (fun q => absurd q c) (fun _ => k)
