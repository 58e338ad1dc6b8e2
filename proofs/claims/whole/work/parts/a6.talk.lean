theorem g_Ta_add_0 {Q : PQ} {h : HP} {x1 : Int} {x2 : Int} {x3 : Int} {x4 : Int} {t0 : Nat} (h_t0 : isT t0)
    (k1 : 60 ≤ h t0 2 → Q none h)
    (o2 : ¬ 60 ≤ h t0 2 → 0 ≤ h t0 2 ∧ h t0 2 < 60)
    (o3 : ¬ 60 ≤ h t0 2 → -2147483648 ≤ (h t0 2) + 1 ∧ (h t0 2) + 1 ≤ 2147483647)
    (k4 : ¬ 60 ≤ h t0 2 → Q none (hs (hs (hs (hs (hs (hs h (t0 + 1) (h t0 2).toNat x1) (t0 + 2) (h t0 2).toNat x2) (t0 + 3) (h t0 2).toNat x3) (t0 + 4) (h t0 2).toNat x4) (t0 + 5) (h t0 2).toNat (-1)) t0 2 ((h t0 2) + 1))) :
    Wp true i_Ta_add 0 [vr t0, vi x1, vi x2, vi x3, vi x4] [] h Q := by
  refine r_aload_n (v := t0) f_104_0 rfl (T_n h_t0) ?_
  refine r_geti (v := h t0 2) f_104_1 (T_k h_t0) (by decide) rfl ?_
  refine r_bipush f_104_4 (by decide) ?_
  refine r_br2 (t := 70) f_104_6 rfl cb_ge (fun c1 => ?_) (fun c1 => ?_)
  · exact r_retv f_104_70 rfl (k1 c1)
  · refine r_aload_n (v := t0) f_104_9 rfl (T_n h_t0) ?_
    refine r_getr (q := (t0 + 1)) f_104_10 (T_k h_t0) (by decide) (Or.inl rfl) rfl ?_
    refine r_aload_n (v := t0) f_104_13 rfl (T_n h_t0) ?_
    refine r_geti (v := h t0 2) f_104_14 (T_k h_t0) (by decide) rfl ?_
    refine r_iload_n (v := x1) f_104_17 rfl ?_
    refine r_iastore (n := 60) f_104_18 (T_1 h_t0) (o2 c1) ?_
    refine r_aload_n (v := t0) f_104_19 rfl (T_n h_t0) ?_
    refine r_getr (q := (t0 + 2)) f_104_20 (T_k h_t0) (by decide) (Or.inl rfl) rfl ?_
    refine r_aload_n (v := t0) f_104_23 rfl (T_n h_t0) ?_
    refine r_geti (v := h t0 2) f_104_24 (T_k h_t0) (by decide) (by simp [hs]) ?_
    refine r_iload_n (v := x2) f_104_27 rfl ?_
    refine r_iastore (n := 60) f_104_28 (T_2 h_t0) (o2 c1) ?_
    refine r_aload_n (v := t0) f_104_29 rfl (T_n h_t0) ?_
    refine r_getr (q := (t0 + 3)) f_104_30 (T_k h_t0) (by decide) (Or.inl rfl) rfl ?_
    refine r_aload_n (v := t0) f_104_33 rfl (T_n h_t0) ?_
    refine r_geti (v := h t0 2) f_104_34 (T_k h_t0) (by decide) (by simp [hs]) ?_
    refine r_iload_n (v := x3) f_104_37 rfl ?_
    refine r_iastore (n := 60) f_104_38 (T_3 h_t0) (o2 c1) ?_
    refine r_aload_n (v := t0) f_104_39 rfl (T_n h_t0) ?_
    refine r_getr (q := (t0 + 4)) f_104_40 (T_k h_t0) (by decide) (Or.inl rfl) rfl ?_
    refine r_aload_n (v := t0) f_104_43 rfl (T_n h_t0) ?_
    refine r_geti (v := h t0 2) f_104_44 (T_k h_t0) (by decide) (by simp [hs]) ?_
    refine r_iload (v := x4) f_104_47 rfl ?_
    refine r_iastore (n := 60) f_104_49 (T_4 h_t0) (o2 c1) ?_
    refine r_aload_n (v := t0) f_104_50 rfl (T_n h_t0) ?_
    refine r_getr (q := (t0 + 5)) f_104_51 (T_k h_t0) (by decide) (Or.inl rfl) rfl ?_
    refine r_aload_n (v := t0) f_104_54 rfl (T_n h_t0) ?_
    refine r_geti (v := h t0 2) f_104_55 (T_k h_t0) (by decide) (by simp [hs]) ?_
    refine r_iconst f_104_58 (by decide) ?_
    refine r_iastore (n := 60) f_104_59 (T_5 h_t0) (o2 c1) ?_
    refine r_aload_n (v := t0) f_104_60 rfl (T_n h_t0) ?_
    refine r_dupr f_104_61 ?_
    refine r_geti (v := h t0 2) f_104_62 (T_k h_t0) (by decide) (by simp [hs]) ?_
    refine r_iconst f_104_65 (by decide) ?_
    refine r_iadd (u := (h t0 2) + 1) f_104_66 rfl (o3 c1) ?_
    refine r_puti f_104_67 (T_k h_t0) (by decide) ?_
    exact r_retv f_104_70 rfl (k4 c1)

theorem g_Tr_beginsStep_0 {Q : PQ} {h : HP} {x0 : Int} 
    (k1 : x0 = 9 → Q (some (vi 1)) h)
    (k2 : ¬ x0 = 9 → x0 = 10 → Q (some (vi 1)) h)
    (k3 : ¬ x0 = 9 → ¬ x0 = 10 → x0 = 11 → Q (some (vi 1)) h)
    (k4 : ¬ x0 = 9 → ¬ x0 = 10 → ¬ x0 = 11 → x0 = 12 → Q (some (vi 1)) h)
    (k5 : ¬ x0 = 9 → ¬ x0 = 10 → ¬ x0 = 11 → ¬ x0 = 12 → x0 = 14 → Q (some (vi 1)) h)
    (k6 : ¬ x0 = 9 → ¬ x0 = 10 → ¬ x0 = 11 → ¬ x0 = 12 → ¬ x0 = 14 → x0 = 15 → Q (some (vi 1)) h)
    (k7 : ¬ x0 = 9 → ¬ x0 = 10 → ¬ x0 = 11 → ¬ x0 = 12 → ¬ x0 = 14 → ¬ x0 = 15 → x0 = 19 → Q (some (vi 1)) h)
    (k8 : ¬ x0 = 9 → ¬ x0 = 10 → ¬ x0 = 11 → ¬ x0 = 12 → ¬ x0 = 14 → ¬ x0 = 15 → ¬ x0 = 19 → ¬ x0 = 21 → Q (some (vi 0)) h)
    (k9 : ¬ x0 = 9 → ¬ x0 = 10 → ¬ x0 = 11 → ¬ x0 = 12 → ¬ x0 = 14 → ¬ x0 = 15 → ¬ x0 = 19 → x0 = 21 → Q (some (vi 1)) h) :
    Wp true i_Tr_beginsStep 0 [vi x0] [] h Q := by
  refine r_iload_n (v := x0) f_109_0 rfl ?_
  refine r_bipush f_109_1 (by decide) ?_
  refine r_br2 (t := 48) f_109_3 rfl cb_eq (fun c1 => ?_) (fun c1 => ?_)
  · refine r_iconst f_109_48 (by decide) ?_
    refine r_goto (t := 53) f_109_49 rfl ?_
    exact r_retz f_109_53 rfl (by decide) (k1 c1)
  · refine r_iload_n (v := x0) f_109_6 rfl ?_
    refine r_bipush f_109_7 (by decide) ?_
    refine r_br2 (t := 48) f_109_9 rfl cb_eq (fun c2 => ?_) (fun c2 => ?_)
    · refine r_iconst f_109_48 (by decide) ?_
      refine r_goto (t := 53) f_109_49 rfl ?_
      exact r_retz f_109_53 rfl (by decide) (k2 c1 c2)
    · refine r_iload_n (v := x0) f_109_12 rfl ?_
      refine r_bipush f_109_13 (by decide) ?_
      refine r_br2 (t := 48) f_109_15 rfl cb_eq (fun c3 => ?_) (fun c3 => ?_)
      · refine r_iconst f_109_48 (by decide) ?_
        refine r_goto (t := 53) f_109_49 rfl ?_
        exact r_retz f_109_53 rfl (by decide) (k3 c1 c2 c3)
      · refine r_iload_n (v := x0) f_109_18 rfl ?_
        refine r_bipush f_109_19 (by decide) ?_
        refine r_br2 (t := 48) f_109_21 rfl cb_eq (fun c4 => ?_) (fun c4 => ?_)
        · refine r_iconst f_109_48 (by decide) ?_
          refine r_goto (t := 53) f_109_49 rfl ?_
          exact r_retz f_109_53 rfl (by decide) (k4 c1 c2 c3 c4)
        · refine r_iload_n (v := x0) f_109_24 rfl ?_
          refine r_bipush f_109_25 (by decide) ?_
          refine r_br2 (t := 48) f_109_27 rfl cb_eq (fun c5 => ?_) (fun c5 => ?_)
          · refine r_iconst f_109_48 (by decide) ?_
            refine r_goto (t := 53) f_109_49 rfl ?_
            exact r_retz f_109_53 rfl (by decide) (k5 c1 c2 c3 c4 c5)
          · refine r_iload_n (v := x0) f_109_30 rfl ?_
            refine r_bipush f_109_31 (by decide) ?_
            refine r_br2 (t := 48) f_109_33 rfl cb_eq (fun c6 => ?_) (fun c6 => ?_)
            · refine r_iconst f_109_48 (by decide) ?_
              refine r_goto (t := 53) f_109_49 rfl ?_
              exact r_retz f_109_53 rfl (by decide) (k6 c1 c2 c3 c4 c5 c6)
            · refine r_iload_n (v := x0) f_109_36 rfl ?_
              refine r_bipush f_109_37 (by decide) ?_
              refine r_br2 (t := 48) f_109_39 rfl cb_eq (fun c7 => ?_) (fun c7 => ?_)
              · refine r_iconst f_109_48 (by decide) ?_
                refine r_goto (t := 53) f_109_49 rfl ?_
                exact r_retz f_109_53 rfl (by decide) (k7 c1 c2 c3 c4 c5 c6 c7)
              · refine r_iload_n (v := x0) f_109_42 rfl ?_
                refine r_bipush f_109_43 (by decide) ?_
                refine r_br2 (t := 52) f_109_45 rfl cb_ne (fun c8 => ?_) (fun c8 => ?_)
                · refine r_iconst f_109_52 (by decide) ?_
                  exact r_retz f_109_53 rfl (by decide) (k8 c1 c2 c3 c4 c5 c6 c7 c8)
                · have c8 := Decidable.not_not.mp c8
                  refine r_iconst f_109_48 (by decide) ?_
                  refine r_goto (t := 53) f_109_49 rfl ?_
                  exact r_retz f_109_53 rfl (by decide) (k9 c1 c2 c3 c4 c5 c6 c7 c8)

theorem g_Tr_takeThing_0 {Q : PQ} {h : HP}  {f1 : Nat} (h_f1 : isF f1)
    (k1 : Wp true i_To_isName 0 [vr 5] [] h (fun r h' => Wp true i_Tr_takeThing 4 [vr 5, vr f1, vr 9999] (r.toList ++ []) h' Q)) :
    Wp true i_Tr_takeThing 0 [vr 5, vr f1, vr 9999] [] h Q := by
  refine r_aload_n (v := 5) f_116_0 rfl (by decide) ?_
  exact r_callv (as := [vr 5]) (st' := []) (ls0 := [vr 5]) f_116_1 (by decide) rfl rfl (Nat.le_of_ble_eq_true rfl) (Nat.le_of_ble_eq_true rfl) ⟨_, _, rfl, rfl⟩ rfl k1

theorem g_Tr_takeThing_4 {Q : PQ} {h : HP} {s0 : Int} {f1 : Nat} (h_f1 : isF f1)
    (k1 : ¬ s0 = 0 → Wp true i_Fl_thingNamed 0 [vr f1, vj (h 5 9), vr 9999, vr 9999] [] h (fun r h' => Wp true i_Tr_takeThing 23 [vr 5, vr f1, vr 9999] (r.toList ++ []) h' Q))
    (k2 : s0 = 0 → Wp true i_To_fail 0 [vr 5, vi 2] [] h (fun r h' => Wp true i_Tr_takeThing 12 [vr 5, vr f1, vr 9999] (r.toList ++ []) h' Q)) :
    Wp true i_Tr_takeThing 4 [vr 5, vr f1, vr 9999] [vi s0] h Q := by
  refine r_br (t := 15) f_116_4 rfl cb_ne (fun c1 => ?_) (fun c1 => ?_)
  · refine r_aload_n (v := f1) f_116_15 rfl (F_n h_f1) ?_
    refine r_aload_n (v := 5) f_116_16 rfl (by decide) ?_
    refine r_getj (v := h 5 9) f_116_17 rfl (by decide) rfl ?_
    exact r_callv (as := [vr f1, vj (h 5 9)]) (st' := []) (ls0 := [vr f1, vj (h 5 9), vr 9999, vr 9999]) f_116_20 (by decide) rfl rfl (Nat.le_of_ble_eq_true rfl) (Nat.le_of_ble_eq_true rfl) ⟨_, _, rfl, (F_k h_f1)⟩ rfl (k1 c1)
  · have c1 := Decidable.not_not.mp c1
    refine r_aload_n (v := 5) f_116_7 rfl (by decide) ?_
    refine r_iconst f_116_8 (by decide) ?_
    exact r_callv (as := [vr 5, vi 2]) (st' := []) (ls0 := [vr 5, vi 2]) f_116_9 (by decide) rfl rfl (Nat.le_of_ble_eq_true rfl) (Nat.le_of_ble_eq_true rfl) ⟨_, _, rfl, rfl⟩ rfl (k2 c1)

theorem g_Tr_takeThing_12 {Q : PQ} {h : HP} {s0 : Int} {f1 : Nat} (h_f1 : isF f1)
    (k1 : Q (some (vi (-1))) h) :
    Wp true i_Tr_takeThing 12 [vr 5, vr f1, vr 9999] [vi s0] h Q := by
  refine r_popi f_116_12 ?_
  refine r_iconst f_116_13 (by decide) ?_
  exact r_reti f_116_14 rfl k1

theorem g_Tr_takeThing_23 {Q : PQ} {h : HP} {s0 : Int} {f1 : Nat} (h_f1 : isF f1)
    (k1 : 0 ≤ s0 → Wp true i_To_next 0 [vr 5] [] h (fun r h' => Wp true i_Tr_takeThing 40 [vr 5, vr f1, vi s0] (r.toList ++ []) h' Q))
    (k2 : ¬ 0 ≤ s0 → Wp true i_To_fail 0 [vr 5, vi 3] [] h (fun r h' => Wp true i_Tr_takeThing 33 [vr 5, vr f1, vi s0] (r.toList ++ []) h' Q)) :
    Wp true i_Tr_takeThing 23 [vr 5, vr f1, vr 9999] [vi s0] h Q := by
  refine r_istore_n (ls' := [vr 5, vr f1, vi s0]) f_116_23 (Nat.le_of_ble_eq_true rfl) rfl ?_
  refine r_iload_n (v := s0) f_116_24 rfl ?_
  refine r_br (t := 36) f_116_25 rfl cb_ge (fun c1 => ?_) (fun c1 => ?_)
  · refine r_aload_n (v := 5) f_116_36 rfl (by decide) ?_
    exact r_callv (as := [vr 5]) (st' := []) (ls0 := [vr 5]) f_116_37 (by decide) rfl rfl (Nat.le_of_ble_eq_true rfl) (Nat.le_of_ble_eq_true rfl) ⟨_, _, rfl, rfl⟩ rfl (k1 c1)
  · refine r_aload_n (v := 5) f_116_28 rfl (by decide) ?_
    refine r_iconst f_116_29 (by decide) ?_
    exact r_callv (as := [vr 5, vi 3]) (st' := []) (ls0 := [vr 5, vi 3]) f_116_30 (by decide) rfl rfl (Nat.le_of_ble_eq_true rfl) (Nat.le_of_ble_eq_true rfl) ⟨_, _, rfl, rfl⟩ rfl (k2 c1)

theorem g_Tr_takeThing_33 {Q : PQ} {h : HP} {x2 : Int} {s0 : Int} {f1 : Nat} (h_f1 : isF f1)
    (k1 : Q (some (vi (-1))) h) :
    Wp true i_Tr_takeThing 33 [vr 5, vr f1, vi x2] [vi s0] h Q := by
  refine r_popi f_116_33 ?_
  refine r_iconst f_116_34 (by decide) ?_
  exact r_reti f_116_35 rfl k1

theorem g_Tr_takeThing_40 {Q : PQ} {h : HP} {x2 : Int} {f1 : Nat} (h_f1 : isF f1)
    (k1 : Q (some (vi x2)) h) :
    Wp true i_Tr_takeThing 40 [vr 5, vr f1, vi x2] [] h Q := by
  refine r_iload_n (v := x2) f_116_40 rfl ?_
  exact r_reti f_116_41 rfl k1

theorem g_Tr_readOne_0 {Q : PQ} {h : HP} {x0 : Int} {x2 : Int} {x3 : Int} {t4 : Nat} (h_t4 : isT t4)
    (k1 : Wp true i_To_takeNumber 0 [vr 5, vi x2, vi x3, vr 9999] [] h (fun r h' => Wp true i_Tr_readOne 6 [vi x0, vr 5, vi x2, vi x3, vr t4, vr 9999] (r.toList ++ []) h' Q)) :
    Wp true i_Tr_readOne 0 [vi x0, vr 5, vi x2, vi x3, vr t4, vr 9999] [] h Q := by
  refine r_aload_n (v := 5) f_112_0 rfl (by decide) ?_
  refine r_iload_n (v := x2) f_112_1 rfl ?_
  refine r_iload_n (v := x3) f_112_2 rfl ?_
  exact r_callv (as := [vr 5, vi x2, vi x3]) (st' := []) (ls0 := [vr 5, vi x2, vi x3, vr 9999]) f_112_3 (by decide) rfl rfl (Nat.le_of_ble_eq_true rfl) (Nat.le_of_ble_eq_true rfl) ⟨_, _, rfl, rfl⟩ rfl k1

theorem g_Tr_readOne_6 {Q : PQ} {h : HP} {x0 : Int} {x2 : Int} {x3 : Int} {s0 : Int} {t4 : Nat} (h_t4 : isT t4)
    (k1 : 0 ≤ s0 → Wp true i_Ta_add 0 [vr t4, vi x0, vi s0, vi 0, vi 0] [] h (fun r h' => Wp true i_Tr_readOne 25 [vi x0, vr 5, vi x2, vi x3, vr t4, vi s0] (r.toList ++ []) h' Q))
    (k2 : ¬ 0 ≤ s0 → Q (some (vi 0)) h) :
    Wp true i_Tr_readOne 6 [vi x0, vr 5, vi x2, vi x3, vr t4, vr 9999] [vi s0] h Q := by
  refine r_istore (ls' := [vi x0, vr 5, vi x2, vi x3, vr t4, vi s0]) f_112_6 (Nat.le_of_ble_eq_true rfl) rfl ?_
  refine r_iload (v := s0) f_112_8 rfl ?_
  refine r_br (t := 15) f_112_10 rfl cb_ge (fun c1 => ?_) (fun c1 => ?_)
  · refine r_aload (v := t4) f_112_15 rfl (T_n h_t4) ?_
    refine r_iload_n (v := x0) f_112_17 rfl ?_
    refine r_iload (v := s0) f_112_18 rfl ?_
    refine r_iconst f_112_20 (by decide) ?_
    refine r_iconst f_112_21 (by decide) ?_
    exact r_callv (as := [vr t4, vi x0, vi s0, vi 0, vi 0]) (st' := []) (ls0 := [vr t4, vi x0, vi s0, vi 0, vi 0]) f_112_22 (by decide) rfl rfl (Nat.le_of_ble_eq_true rfl) (Nat.le_of_ble_eq_true rfl) ⟨_, _, rfl, (T_k h_t4)⟩ rfl (k1 c1)
  · refine r_iconst f_112_13 (by decide) ?_
    exact r_retz f_112_14 rfl (by decide) (k2 c1)

theorem g_Tr_readOne_25 {Q : PQ} {h : HP} {x0 : Int} {x2 : Int} {x3 : Int} {x5 : Int} {t4 : Nat} (h_t4 : isT t4)
    (k1 : Q (some (vi 1)) h) :
    Wp true i_Tr_readOne 25 [vi x0, vr 5, vi x2, vi x3, vr t4, vi x5] [] h Q := by
  refine r_iconst f_112_25 (by decide) ?_
  exact r_retz f_112_26 rfl (by decide) k1

theorem g_Tr_readYield_0 {Q : PQ} {h : HP}  {f1 : Nat} (h_f1 : isF f1) {t2 : Nat} (h_t2 : isT t2)
    (k1 : Wp true i_To_takeNumber 0 [vr 5, vi 0, vi 1, vr 9999] [] h (fun r h' => Wp true i_Tr_readYield 6 [vr 5, vr f1, vr t2, vr 9999, vr 9999, vr 9999] (r.toList ++ []) h' Q)) :
    Wp true i_Tr_readYield 0 [vr 5, vr f1, vr t2, vr 9999, vr 9999, vr 9999] [] h Q := by
  refine r_aload_n (v := 5) f_113_0 rfl (by decide) ?_
  refine r_iconst f_113_1 (by decide) ?_
  refine r_iconst f_113_2 (by decide) ?_
  exact r_callv (as := [vr 5, vi 0, vi 1]) (st' := []) (ls0 := [vr 5, vi 0, vi 1, vr 9999]) f_113_3 (by decide) rfl rfl (Nat.le_of_ble_eq_true rfl) (Nat.le_of_ble_eq_true rfl) ⟨_, _, rfl, rfl⟩ rfl k1

theorem g_Tr_readYield_6 {Q : PQ} {h : HP} {s0 : Int} {f1 : Nat} (h_f1 : isF f1) {t2 : Nat} (h_t2 : isT t2)
    (o1 : 0 ≤ s0 → -2147483648 ≤ (h f1 1) - 1 ∧ (h f1 1) - 1 ≤ 2147483647)
    (k2 : 0 ≤ s0 → Wp true i_To_takeNumber 0 [vr 5, vi 0, vi ((h f1 1) - 1), vr 9999] [] h (fun r h' => Wp true i_Tr_readYield 24 [vr 5, vr f1, vr t2, vi s0, vr 9999, vr 9999] (r.toList ++ []) h' Q))
    (k3 : ¬ 0 ≤ s0 → Q (some (vi 0)) h) :
    Wp true i_Tr_readYield 6 [vr 5, vr f1, vr t2, vr 9999, vr 9999, vr 9999] [vi s0] h Q := by
  refine r_istore_n (ls' := [vr 5, vr f1, vr t2, vi s0, vr 9999, vr 9999]) f_113_6 (Nat.le_of_ble_eq_true rfl) rfl ?_
  refine r_iload_n (v := s0) f_113_7 rfl ?_
  refine r_br (t := 13) f_113_8 rfl cb_ge (fun c1 => ?_) (fun c1 => ?_)
  · refine r_aload_n (v := 5) f_113_13 rfl (by decide) ?_
    refine r_iconst f_113_14 (by decide) ?_
    refine r_aload_n (v := f1) f_113_15 rfl (F_n h_f1) ?_
    refine r_geti (v := h f1 1) f_113_16 (F_k h_f1) (by decide) rfl ?_
    refine r_iconst f_113_19 (by decide) ?_
    refine r_isub (u := (h f1 1) - 1) f_113_20 rfl (o1 c1) ?_
    exact r_callv (as := [vr 5, vi 0, vi ((h f1 1) - 1)]) (st' := []) (ls0 := [vr 5, vi 0, vi ((h f1 1) - 1), vr 9999]) f_113_21 (by decide) rfl rfl (Nat.le_of_ble_eq_true rfl) (Nat.le_of_ble_eq_true rfl) ⟨_, _, rfl, rfl⟩ rfl (k2 c1)
  · refine r_iconst f_113_11 (by decide) ?_
    exact r_retz f_113_12 rfl (by decide) (k3 c1)

theorem g_Tr_readYield_24 {Q : PQ} {h : HP} {x3 : Int} {s0 : Int} {f1 : Nat} (h_f1 : isF f1) {t2 : Nat} (h_t2 : isT t2)
    (k1 : 0 ≤ s0 → Wp true i_To_takeNumber 0 [vr 5, vi 1, vi 9, vr 9999] [] h (fun r h' => Wp true i_Tr_readYield 40 [vr 5, vr f1, vr t2, vi x3, vi s0, vr 9999] (r.toList ++ []) h' Q))
    (k2 : ¬ 0 ≤ s0 → Q (some (vi 0)) h) :
    Wp true i_Tr_readYield 24 [vr 5, vr f1, vr t2, vi x3, vr 9999, vr 9999] [vi s0] h Q := by
  refine r_istore (ls' := [vr 5, vr f1, vr t2, vi x3, vi s0, vr 9999]) f_113_24 (Nat.le_of_ble_eq_true rfl) rfl ?_
  refine r_iload (v := s0) f_113_26 rfl ?_
  refine r_br (t := 33) f_113_28 rfl cb_ge (fun c1 => ?_) (fun c1 => ?_)
  · refine r_aload_n (v := 5) f_113_33 rfl (by decide) ?_
    refine r_iconst f_113_34 (by decide) ?_
    refine r_bipush f_113_35 (by decide) ?_
    exact r_callv (as := [vr 5, vi 1, vi 9]) (st' := []) (ls0 := [vr 5, vi 1, vi 9, vr 9999]) f_113_37 (by decide) rfl rfl (Nat.le_of_ble_eq_true rfl) (Nat.le_of_ble_eq_true rfl) ⟨_, _, rfl, rfl⟩ rfl (k1 c1)
  · refine r_iconst f_113_31 (by decide) ?_
    exact r_retz f_113_32 rfl (by decide) (k2 c1)

theorem g_Tr_readYield_40 {Q : PQ} {h : HP} {x3 : Int} {x4 : Int} {s0 : Int} {f1 : Nat} (h_f1 : isF f1) {t2 : Nat} (h_t2 : isT t2)
    (k1 : 0 ≤ s0 → Wp true i_Ta_add 0 [vr t2, vi 9, vi x3, vi x4, vi s0] [] h (fun r h' => Wp true i_Tr_readYield 60 [vr 5, vr f1, vr t2, vi x3, vi x4, vi s0] (r.toList ++ []) h' Q))
    (k2 : ¬ 0 ≤ s0 → Q (some (vi 0)) h) :
    Wp true i_Tr_readYield 40 [vr 5, vr f1, vr t2, vi x3, vi x4, vr 9999] [vi s0] h Q := by
  refine r_istore (ls' := [vr 5, vr f1, vr t2, vi x3, vi x4, vi s0]) f_113_40 (Nat.le_of_ble_eq_true rfl) rfl ?_
  refine r_iload (v := s0) f_113_42 rfl ?_
  refine r_br (t := 49) f_113_44 rfl cb_ge (fun c1 => ?_) (fun c1 => ?_)
  · refine r_aload_n (v := t2) f_113_49 rfl (T_n h_t2) ?_
    refine r_bipush f_113_50 (by decide) ?_
    refine r_iload_n (v := x3) f_113_52 rfl ?_
    refine r_iload (v := x4) f_113_53 rfl ?_
    refine r_iload (v := s0) f_113_55 rfl ?_
    exact r_callv (as := [vr t2, vi 9, vi x3, vi x4, vi s0]) (st' := []) (ls0 := [vr t2, vi 9, vi x3, vi x4, vi s0]) f_113_57 (by decide) rfl rfl (Nat.le_of_ble_eq_true rfl) (Nat.le_of_ble_eq_true rfl) ⟨_, _, rfl, (T_k h_t2)⟩ rfl (k1 c1)
  · refine r_iconst f_113_47 (by decide) ?_
    exact r_retz f_113_48 rfl (by decide) (k2 c1)

theorem g_Tr_readYield_60 {Q : PQ} {h : HP} {x3 : Int} {x4 : Int} {x5 : Int} {f1 : Nat} (h_f1 : isF f1) {t2 : Nat} (h_t2 : isT t2)
    (k1 : Q (some (vi 1)) h) :
    Wp true i_Tr_readYield 60 [vr 5, vr f1, vr t2, vi x3, vi x4, vi x5] [] h Q := by
  refine r_iconst f_113_60 (by decide) ?_
  exact r_retz f_113_61 rfl (by decide) k1

theorem g_Tr_readMove_0 {Q : PQ} {h : HP}  {f1 : Nat} (h_f1 : isF f1) {t2 : Nat} (h_t2 : isT t2)
    (k1 : Wp true i_Tr_takeThing 0 [vr 5, vr f1, vr 9999] [] h (fun r h' => Wp true i_Tr_readMove 5 [vr 5, vr f1, vr t2, vr 9999, vr 9999, vr 9999] (r.toList ++ []) h' Q)) :
    Wp true i_Tr_readMove 0 [vr 5, vr f1, vr t2, vr 9999, vr 9999, vr 9999] [] h Q := by
  refine r_aload_n (v := 5) f_114_0 rfl (by decide) ?_
  refine r_aload_n (v := f1) f_114_1 rfl (F_n h_f1) ?_
  exact r_calls (as := [vr 5, vr f1]) (st' := []) (ls0 := [vr 5, vr f1, vr 9999]) f_114_2 (by decide) (by decide) rfl rfl (Nat.le_of_ble_eq_true rfl) (Nat.le_of_ble_eq_true rfl) rfl k1

theorem g_Tr_readMove_5 {Q : PQ} {h : HP} {s0 : Int} {f1 : Nat} (h_f1 : isF f1) {t2 : Nat} (h_t2 : isT t2)
    (k1 : s0 < 0 → Q (some (vi 0)) h)
    (k2 : ¬ s0 < 0 → Wp true i_To_takeWord 0 [vr 5, vi 13] [] h (fun r h' => Wp true i_Tr_readMove 16 [vr 5, vr f1, vr t2, vi s0, vr 9999, vr 9999] (r.toList ++ []) h' Q)) :
    Wp true i_Tr_readMove 5 [vr 5, vr f1, vr t2, vr 9999, vr 9999, vr 9999] [vi s0] h Q := by
  refine r_istore_n (ls' := [vr 5, vr f1, vr t2, vi s0, vr 9999, vr 9999]) f_114_5 (Nat.le_of_ble_eq_true rfl) rfl ?_
  refine r_iload_n (v := s0) f_114_6 rfl ?_
  refine r_br (t := 19) f_114_7 rfl cb_lt (fun c1 => ?_) (fun c1 => ?_)
  · refine r_iconst f_114_19 (by decide) ?_
    exact r_retz f_114_20 rfl (by decide) (k1 c1)
  · refine r_aload_n (v := 5) f_114_10 rfl (by decide) ?_
    refine r_bipush f_114_11 (by decide) ?_
    exact r_callv (as := [vr 5, vi 13]) (st' := []) (ls0 := [vr 5, vi 13]) f_114_13 (by decide) rfl rfl (Nat.le_of_ble_eq_true rfl) (Nat.le_of_ble_eq_true rfl) ⟨_, _, rfl, rfl⟩ rfl (k2 c1)

theorem g_Tr_readMove_16 {Q : PQ} {h : HP} {x3 : Int} {s0 : Int} {f1 : Nat} (h_f1 : isF f1) {t2 : Nat} (h_t2 : isT t2)
    (o1 : ¬ s0 = 0 → -2147483648 ≤ (h f1 0) - 1 ∧ (h f1 0) - 1 ≤ 2147483647)
    (k2 : ¬ s0 = 0 → Wp true i_To_takeNumber 0 [vr 5, vi 0, vi ((h f1 0) - 1), vr 9999] [] h (fun r h' => Wp true i_Tr_readMove 32 [vr 5, vr f1, vr t2, vi x3, vr 9999, vr 9999] (r.toList ++ []) h' Q))
    (k3 : s0 = 0 → Q (some (vi 0)) h) :
    Wp true i_Tr_readMove 16 [vr 5, vr f1, vr t2, vi x3, vr 9999, vr 9999] [vi s0] h Q := by
  refine r_br (t := 21) f_114_16 rfl cb_ne (fun c1 => ?_) (fun c1 => ?_)
  · refine r_aload_n (v := 5) f_114_21 rfl (by decide) ?_
    refine r_iconst f_114_22 (by decide) ?_
    refine r_aload_n (v := f1) f_114_23 rfl (F_n h_f1) ?_
    refine r_geti (v := h f1 0) f_114_24 (F_k h_f1) (by decide) rfl ?_
    refine r_iconst f_114_27 (by decide) ?_
    refine r_isub (u := (h f1 0) - 1) f_114_28 rfl (o1 c1) ?_
    exact r_callv (as := [vr 5, vi 0, vi ((h f1 0) - 1)]) (st' := []) (ls0 := [vr 5, vi 0, vi ((h f1 0) - 1), vr 9999]) f_114_29 (by decide) rfl rfl (Nat.le_of_ble_eq_true rfl) (Nat.le_of_ble_eq_true rfl) ⟨_, _, rfl, rfl⟩ rfl (k2 c1)
  · have c1 := Decidable.not_not.mp c1
    refine r_iconst f_114_19 (by decide) ?_
    exact r_retz f_114_20 rfl (by decide) (k3 c1)

theorem g_Tr_readMove_32 {Q : PQ} {h : HP} {x3 : Int} {s0 : Int} {f1 : Nat} (h_f1 : isF f1) {t2 : Nat} (h_t2 : isT t2)
    (o1 : 0 ≤ s0 → -2147483648 ≤ (h f1 1) - 1 ∧ (h f1 1) - 1 ≤ 2147483647)
    (k2 : 0 ≤ s0 → Wp true i_To_takeNumber 0 [vr 5, vi 0, vi ((h f1 1) - 1), vr 9999] [] h (fun r h' => Wp true i_Tr_readMove 52 [vr 5, vr f1, vr t2, vi x3, vi s0, vr 9999] (r.toList ++ []) h' Q))
    (k3 : ¬ 0 ≤ s0 → Q (some (vi 0)) h) :
    Wp true i_Tr_readMove 32 [vr 5, vr f1, vr t2, vi x3, vr 9999, vr 9999] [vi s0] h Q := by
  refine r_istore (ls' := [vr 5, vr f1, vr t2, vi x3, vi s0, vr 9999]) f_114_32 (Nat.le_of_ble_eq_true rfl) rfl ?_
  refine r_iload (v := s0) f_114_34 rfl ?_
  refine r_br (t := 41) f_114_36 rfl cb_ge (fun c1 => ?_) (fun c1 => ?_)
  · refine r_aload_n (v := 5) f_114_41 rfl (by decide) ?_
    refine r_iconst f_114_42 (by decide) ?_
    refine r_aload_n (v := f1) f_114_43 rfl (F_n h_f1) ?_
    refine r_geti (v := h f1 1) f_114_44 (F_k h_f1) (by decide) rfl ?_
    refine r_iconst f_114_47 (by decide) ?_
    refine r_isub (u := (h f1 1) - 1) f_114_48 rfl (o1 c1) ?_
    exact r_callv (as := [vr 5, vi 0, vi ((h f1 1) - 1)]) (st' := []) (ls0 := [vr 5, vi 0, vi ((h f1 1) - 1), vr 9999]) f_114_49 (by decide) rfl rfl (Nat.le_of_ble_eq_true rfl) (Nat.le_of_ble_eq_true rfl) ⟨_, _, rfl, rfl⟩ rfl (k2 c1)
  · refine r_iconst f_114_39 (by decide) ?_
    exact r_retz f_114_40 rfl (by decide) (k3 c1)

theorem g_Tr_readMove_52 {Q : PQ} {h : HP} {x3 : Int} {x4 : Int} {s0 : Int} {f1 : Nat} (h_f1 : isF f1) {t2 : Nat} (h_t2 : isT t2)
    (k1 : 0 ≤ s0 → Wp true i_Ta_add 0 [vr t2, vi 12, vi x3, vi x4, vi s0] [] h (fun r h' => Wp true i_Tr_readMove 72 [vr 5, vr f1, vr t2, vi x3, vi x4, vi s0] (r.toList ++ []) h' Q))
    (k2 : ¬ 0 ≤ s0 → Q (some (vi 0)) h) :
    Wp true i_Tr_readMove 52 [vr 5, vr f1, vr t2, vi x3, vi x4, vr 9999] [vi s0] h Q := by
  refine r_istore (ls' := [vr 5, vr f1, vr t2, vi x3, vi x4, vi s0]) f_114_52 (Nat.le_of_ble_eq_true rfl) rfl ?_
  refine r_iload (v := s0) f_114_54 rfl ?_
  refine r_br (t := 61) f_114_56 rfl cb_ge (fun c1 => ?_) (fun c1 => ?_)
  · refine r_aload_n (v := t2) f_114_61 rfl (T_n h_t2) ?_
    refine r_bipush f_114_62 (by decide) ?_
    refine r_iload_n (v := x3) f_114_64 rfl ?_
    refine r_iload (v := x4) f_114_65 rfl ?_
    refine r_iload (v := s0) f_114_67 rfl ?_
    exact r_callv (as := [vr t2, vi 12, vi x3, vi x4, vi s0]) (st' := []) (ls0 := [vr t2, vi 12, vi x3, vi x4, vi s0]) f_114_69 (by decide) rfl rfl (Nat.le_of_ble_eq_true rfl) (Nat.le_of_ble_eq_true rfl) ⟨_, _, rfl, (T_k h_t2)⟩ rfl (k1 c1)
  · refine r_iconst f_114_59 (by decide) ?_
    exact r_retz f_114_60 rfl (by decide) (k2 c1)

theorem g_Tr_readMove_72 {Q : PQ} {h : HP} {x3 : Int} {x4 : Int} {x5 : Int} {f1 : Nat} (h_f1 : isF f1) {t2 : Nat} (h_t2 : isT t2)
    (k1 : Q (some (vi 1)) h) :
    Wp true i_Tr_readMove 72 [vr 5, vr f1, vr t2, vi x3, vi x4, vi x5] [] h Q := by
  refine r_iconst f_114_72 (by decide) ?_
  exact r_retz f_114_73 rfl (by decide) k1

theorem g_Tr_readWhen_0 {Q : PQ} {h : HP}  {f1 : Nat} (h_f1 : isF f1) {t2 : Nat} (h_t2 : isT t2)
    (k1 : h 5 6 = 16 → Wp true i_To_next 0 [vr 5] [] h (fun r h' => Wp true i_Tr_readWhen 33 [vr 5, vr f1, vr t2, vi (h 5 6), vr 9999, vr 9999, vr 9999] (r.toList ++ []) h' Q))
    (k2 : ¬ h 5 6 = 16 → h 5 6 = 17 → Wp true i_To_next 0 [vr 5] [] h (fun r h' => Wp true i_Tr_readWhen 33 [vr 5, vr f1, vr t2, vi (h 5 6), vr 9999, vr 9999, vr 9999] (r.toList ++ []) h' Q))
    (k3 : ¬ h 5 6 = 16 → ¬ h 5 6 = 17 → h 5 6 = 18 → Wp true i_To_next 0 [vr 5] [] h (fun r h' => Wp true i_Tr_readWhen 33 [vr 5, vr f1, vr t2, vi (h 5 6), vr 9999, vr 9999, vr 9999] (r.toList ++ []) h' Q))
    (k4 : ¬ h 5 6 = 16 → ¬ h 5 6 = 17 → ¬ h 5 6 = 18 → Wp true i_To_fail 0 [vr 5, vi 2] [] h (fun r h' => Wp true i_Tr_readWhen 28 [vr 5, vr f1, vr t2, vi (h 5 6), vr 9999, vr 9999, vr 9999] (r.toList ++ []) h' Q)) :
    Wp true i_Tr_readWhen 0 [vr 5, vr f1, vr t2, vr 9999, vr 9999, vr 9999, vr 9999] [] h Q := by
  refine r_aload_n (v := 5) f_115_0 rfl (by decide) ?_
  refine r_geti (v := h 5 6) f_115_1 rfl (by decide) rfl ?_
  refine r_istore_n (ls' := [vr 5, vr f1, vr t2, vi (h 5 6), vr 9999, vr 9999, vr 9999]) f_115_4 (Nat.le_of_ble_eq_true rfl) rfl ?_
  refine r_iload_n (v := h 5 6) f_115_5 rfl ?_
  refine r_bipush f_115_6 (by decide) ?_
  refine r_br2 (t := 29) f_115_8 rfl cb_eq (fun c1 => ?_) (fun c1 => ?_)
  · refine r_aload_n (v := 5) f_115_29 rfl (by decide) ?_
    exact r_callv (as := [vr 5]) (st' := []) (ls0 := [vr 5]) f_115_30 (by decide) rfl rfl (Nat.le_of_ble_eq_true rfl) (Nat.le_of_ble_eq_true rfl) ⟨_, _, rfl, rfl⟩ rfl (k1 c1)
  · refine r_iload_n (v := h 5 6) f_115_11 rfl ?_
    refine r_bipush f_115_12 (by decide) ?_
    refine r_br2 (t := 29) f_115_14 rfl cb_eq (fun c2 => ?_) (fun c2 => ?_)
    · refine r_aload_n (v := 5) f_115_29 rfl (by decide) ?_
      exact r_callv (as := [vr 5]) (st' := []) (ls0 := [vr 5]) f_115_30 (by decide) rfl rfl (Nat.le_of_ble_eq_true rfl) (Nat.le_of_ble_eq_true rfl) ⟨_, _, rfl, rfl⟩ rfl (k2 c1 c2)
    · refine r_iload_n (v := h 5 6) f_115_17 rfl ?_
      refine r_bipush f_115_18 (by decide) ?_
      refine r_br2 (t := 29) f_115_20 rfl cb_eq (fun c3 => ?_) (fun c3 => ?_)
      · refine r_aload_n (v := 5) f_115_29 rfl (by decide) ?_
        exact r_callv (as := [vr 5]) (st' := []) (ls0 := [vr 5]) f_115_30 (by decide) rfl rfl (Nat.le_of_ble_eq_true rfl) (Nat.le_of_ble_eq_true rfl) ⟨_, _, rfl, rfl⟩ rfl (k3 c1 c2 c3)
      · refine r_aload_n (v := 5) f_115_23 rfl (by decide) ?_
        refine r_iconst f_115_24 (by decide) ?_
        exact r_callv (as := [vr 5, vi 2]) (st' := []) (ls0 := [vr 5, vi 2]) f_115_25 (by decide) rfl rfl (Nat.le_of_ble_eq_true rfl) (Nat.le_of_ble_eq_true rfl) ⟨_, _, rfl, rfl⟩ rfl (k4 c1 c2 c3)

theorem g_Tr_readWhen_28 {Q : PQ} {h : HP} {x3 : Int} {s0 : Int} {f1 : Nat} (h_f1 : isF f1) {t2 : Nat} (h_t2 : isT t2)
    (o1 : s0 = 0 ∨ s0 = 1)
    (k2 : Q (some (vi s0)) h) :
    Wp true i_Tr_readWhen 28 [vr 5, vr f1, vr t2, vi x3, vr 9999, vr 9999, vr 9999] [vi s0] h Q := by
  exact r_retz f_115_28 rfl o1 k2

theorem g_Tr_readWhen_33 {Q : PQ} {h : HP} {x3 : Int} {f1 : Nat} (h_f1 : isF f1) {t2 : Nat} (h_t2 : isT t2)
    (k1 : Wp true i_To_takeNumber 0 [vr 5, vi 0, vi 1, vr 9999] [] h (fun r h' => Wp true i_Tr_readWhen 39 [vr 5, vr f1, vr t2, vi x3, vr 9999, vr 9999, vr 9999] (r.toList ++ []) h' Q)) :
    Wp true i_Tr_readWhen 33 [vr 5, vr f1, vr t2, vi x3, vr 9999, vr 9999, vr 9999] [] h Q := by
  refine r_aload_n (v := 5) f_115_33 rfl (by decide) ?_
  refine r_iconst f_115_34 (by decide) ?_
  refine r_iconst f_115_35 (by decide) ?_
  exact r_callv (as := [vr 5, vi 0, vi 1]) (st' := []) (ls0 := [vr 5, vi 0, vi 1, vr 9999]) f_115_36 (by decide) rfl rfl (Nat.le_of_ble_eq_true rfl) (Nat.le_of_ble_eq_true rfl) ⟨_, _, rfl, rfl⟩ rfl k1

theorem g_Tr_readWhen_39 {Q : PQ} {h : HP} {x3 : Int} {s0 : Int} {f1 : Nat} (h_f1 : isF f1) {t2 : Nat} (h_t2 : isT t2)
    (k1 : 0 ≤ s0 → ¬ x3 = 18 → ¬ h 5 5 = 3 → Wp true i_To_fail 0 [vr 5, vi 2] [] h (fun r h' => Wp true i_Tr_readWhen 103 [vr 5, vr f1, vr t2, vi x3, vi s0, vr 9999, vr 9999] (r.toList ++ []) h' Q))
    (k2 : 0 ≤ s0 → ¬ x3 = 18 → h 5 5 = 3 → Wp true i_To_isCompare 0 [vr 5] [] h (fun r h' => Wp true i_Tr_readWhen 95 [vr 5, vr f1, vr t2, vi x3, vi s0, vr 9999, vr 9999] (r.toList ++ []) h' Q))
    (k3 : 0 ≤ s0 → x3 = 18 → Wp true i_Tr_takeThing 0 [vr 5, vr f1, vr 9999] [] h (fun r h' => Wp true i_Tr_readWhen 59 [vr 5, vr f1, vr t2, vi x3, vi s0, vr 9999, vr 9999] (r.toList ++ []) h' Q))
    (k4 : ¬ 0 ≤ s0 → Q (some (vi 0)) h) :
    Wp true i_Tr_readWhen 39 [vr 5, vr f1, vr t2, vi x3, vr 9999, vr 9999, vr 9999] [vi s0] h Q := by
  refine r_istore (ls' := [vr 5, vr f1, vr t2, vi x3, vi s0, vr 9999, vr 9999]) f_115_39 (Nat.le_of_ble_eq_true rfl) rfl ?_
  refine r_iload (v := s0) f_115_41 rfl ?_
  refine r_br (t := 48) f_115_43 rfl cb_ge (fun c1 => ?_) (fun c1 => ?_)
  · refine r_iload_n (v := x3) f_115_48 rfl ?_
    refine r_bipush f_115_49 (by decide) ?_
    refine r_br2 (t := 83) f_115_51 rfl cb_ne (fun c2 => ?_) (fun c2 => ?_)
    · refine r_aload_n (v := 5) f_115_83 rfl (by decide) ?_
      refine r_geti (v := h 5 5) f_115_84 rfl (by decide) rfl ?_
      refine r_iconst f_115_87 (by decide) ?_
      refine r_br2 (t := 98) f_115_88 rfl cb_ne (fun c3 => ?_) (fun c3 => ?_)
      · refine r_aload_n (v := 5) f_115_98 rfl (by decide) ?_
        refine r_iconst f_115_99 (by decide) ?_
        exact r_callv (as := [vr 5, vi 2]) (st' := []) (ls0 := [vr 5, vi 2]) f_115_100 (by decide) rfl rfl (Nat.le_of_ble_eq_true rfl) (Nat.le_of_ble_eq_true rfl) ⟨_, _, rfl, rfl⟩ rfl (k1 c1 c2 c3)
      · have c3 := Decidable.not_not.mp c3
        refine r_aload_n (v := 5) f_115_91 rfl (by decide) ?_
        exact r_callv (as := [vr 5]) (st' := []) (ls0 := [vr 5]) f_115_92 (by decide) rfl rfl (Nat.le_of_ble_eq_true rfl) (Nat.le_of_ble_eq_true rfl) ⟨_, _, rfl, rfl⟩ rfl (k2 c1 c2 c3)
    · have c2 := Decidable.not_not.mp c2
      refine r_aload_n (v := 5) f_115_54 rfl (by decide) ?_
      refine r_aload_n (v := f1) f_115_55 rfl (F_n h_f1) ?_
      exact r_calls (as := [vr 5, vr f1]) (st' := []) (ls0 := [vr 5, vr f1, vr 9999]) f_115_56 (by decide) (by decide) rfl rfl (Nat.le_of_ble_eq_true rfl) (Nat.le_of_ble_eq_true rfl) rfl (k3 c1 c2)
  · refine r_iconst f_115_46 (by decide) ?_
    exact r_retz f_115_47 rfl (by decide) (k4 c1)

theorem g_Tr_readWhen_59 {Q : PQ} {h : HP} {x3 : Int} {x4 : Int} {s0 : Int} {f1 : Nat} (h_f1 : isF f1) {t2 : Nat} (h_t2 : isT t2)
    (k1 : Wp true i_Ta_add 0 [vr t2, vi 18, vi x4, vi s0, vi 0] [] h (fun r h' => Wp true i_Tr_readWhen 72 [vr 5, vr f1, vr t2, vi x3, vi x4, vi s0, vr 9999] (r.toList ++ []) h' Q)) :
    Wp true i_Tr_readWhen 59 [vr 5, vr f1, vr t2, vi x3, vi x4, vr 9999, vr 9999] [vi s0] h Q := by
  refine r_istore (ls' := [vr 5, vr f1, vr t2, vi x3, vi x4, vi s0, vr 9999]) f_115_59 (Nat.le_of_ble_eq_true rfl) rfl ?_
  refine r_aload_n (v := t2) f_115_61 rfl (T_n h_t2) ?_
  refine r_bipush f_115_62 (by decide) ?_
  refine r_iload (v := x4) f_115_64 rfl ?_
  refine r_iload (v := s0) f_115_66 rfl ?_
  refine r_iconst f_115_68 (by decide) ?_
  exact r_callv (as := [vr t2, vi 18, vi x4, vi s0, vi 0]) (st' := []) (ls0 := [vr t2, vi 18, vi x4, vi s0, vi 0]) f_115_69 (by decide) rfl rfl (Nat.le_of_ble_eq_true rfl) (Nat.le_of_ble_eq_true rfl) ⟨_, _, rfl, (T_k h_t2)⟩ rfl k1

theorem g_Tr_readWhen_72 {Q : PQ} {h : HP} {x3 : Int} {x4 : Int} {x5 : Int} {f1 : Nat} (h_f1 : isF f1) {t2 : Nat} (h_t2 : isT t2)
    (k1 : x5 < 0 → Q (some (vi 0)) h)
    (k2 : ¬ x5 < 0 → Q (some (vi 1)) h) :
    Wp true i_Tr_readWhen 72 [vr 5, vr f1, vr t2, vi x3, vi x4, vi x5, vr 9999] [] h Q := by
  refine r_iload (v := x5) f_115_72 rfl ?_
  refine r_br (t := 81) f_115_74 rfl cb_lt (fun c1 => ?_) (fun c1 => ?_)
  · refine r_iconst f_115_81 (by decide) ?_
    exact r_retz f_115_82 rfl (by decide) (k1 c1)
  · refine r_iconst f_115_77 (by decide) ?_
    refine r_goto (t := 82) f_115_78 rfl ?_
    exact r_retz f_115_82 rfl (by decide) (k2 c1)

theorem g_Tr_readWhen_95 {Q : PQ} {h : HP} {x3 : Int} {x4 : Int} {s0 : Int} {f1 : Nat} (h_f1 : isF f1) {t2 : Nat} (h_t2 : isT t2)
    (k1 : ¬ s0 = 0 → Wp true i_To_next 0 [vr 5] [] h (fun r h' => Wp true i_Tr_readWhen 114 [vr 5, vr f1, vr t2, vi x3, vi x4, vi (h 5 8), vr 9999] (r.toList ++ []) h' Q))
    (k2 : s0 = 0 → Wp true i_To_fail 0 [vr 5, vi 2] [] h (fun r h' => Wp true i_Tr_readWhen 103 [vr 5, vr f1, vr t2, vi x3, vi x4, vr 9999, vr 9999] (r.toList ++ []) h' Q)) :
    Wp true i_Tr_readWhen 95 [vr 5, vr f1, vr t2, vi x3, vi x4, vr 9999, vr 9999] [vi s0] h Q := by
  refine r_br (t := 104) f_115_95 rfl cb_ne (fun c1 => ?_) (fun c1 => ?_)
  · refine r_aload_n (v := 5) f_115_104 rfl (by decide) ?_
    refine r_geti (v := h 5 8) f_115_105 rfl (by decide) rfl ?_
    refine r_istore (ls' := [vr 5, vr f1, vr t2, vi x3, vi x4, vi (h 5 8), vr 9999]) f_115_108 (Nat.le_of_ble_eq_true rfl) rfl ?_
    refine r_aload_n (v := 5) f_115_110 rfl (by decide) ?_
    exact r_callv (as := [vr 5]) (st' := []) (ls0 := [vr 5]) f_115_111 (by decide) rfl rfl (Nat.le_of_ble_eq_true rfl) (Nat.le_of_ble_eq_true rfl) ⟨_, _, rfl, rfl⟩ rfl (k1 c1)
  · have c1 := Decidable.not_not.mp c1
    refine r_aload_n (v := 5) f_115_98 rfl (by decide) ?_
    refine r_iconst f_115_99 (by decide) ?_
    exact r_callv (as := [vr 5, vi 2]) (st' := []) (ls0 := [vr 5, vi 2]) f_115_100 (by decide) rfl rfl (Nat.le_of_ble_eq_true rfl) (Nat.le_of_ble_eq_true rfl) ⟨_, _, rfl, rfl⟩ rfl (k2 c1)

theorem g_Tr_readWhen_103 {Q : PQ} {h : HP} {x3 : Int} {x4 : Int} {s0 : Int} {f1 : Nat} (h_f1 : isF f1) {t2 : Nat} (h_t2 : isT t2)
    (o1 : s0 = 0 ∨ s0 = 1)
    (k2 : Q (some (vi s0)) h) :
    Wp true i_Tr_readWhen 103 [vr 5, vr f1, vr t2, vi x3, vi x4, vr 9999, vr 9999] [vi s0] h Q := by
  exact r_retz f_115_103 rfl o1 k2

theorem g_Tr_readWhen_114 {Q : PQ} {h : HP} {x3 : Int} {x4 : Int} {x5 : Int} {f1 : Nat} (h_f1 : isF f1) {t2 : Nat} (h_t2 : isT t2)
    (k1 : ¬ x3 = 16 → Wp true i_To_takeNumber 0 [vr 5, vi 0, vi 999, vr 9999] [] h (fun r h' => Wp true i_Tr_readWhen 133 [vr 5, vr f1, vr t2, vi x3, vi x4, vi x5, vr 9999] (r.toList ++ []) h' Q))
    (k2 : x3 = 16 → Wp true i_To_takeNumber 0 [vr 5, vi 0, vi 99, vr 9999] [] h (fun r h' => Wp true i_Tr_readWhen 133 [vr 5, vr f1, vr t2, vi x3, vi x4, vi x5, vr 9999] (r.toList ++ []) h' Q)) :
    Wp true i_Tr_readWhen 114 [vr 5, vr f1, vr t2, vi x3, vi x4, vi x5, vr 9999] [] h Q := by
  refine r_aload_n (v := 5) f_115_114 rfl (by decide) ?_
  refine r_iconst f_115_115 (by decide) ?_
  refine r_iload_n (v := x3) f_115_116 rfl ?_
  refine r_bipush f_115_117 (by decide) ?_
  refine r_br2 (t := 127) f_115_119 rfl cb_ne (fun c1 => ?_) (fun c1 => ?_)
  · refine r_sipush f_115_127 (by decide) ?_
    exact r_callv (as := [vr 5, vi 0, vi 999]) (st' := []) (ls0 := [vr 5, vi 0, vi 999, vr 9999]) f_115_130 (by decide) rfl rfl (Nat.le_of_ble_eq_true rfl) (Nat.le_of_ble_eq_true rfl) ⟨_, _, rfl, rfl⟩ rfl (k1 c1)
  · have c1 := Decidable.not_not.mp c1
    refine r_bipush f_115_122 (by decide) ?_
    refine r_goto (t := 130) f_115_124 rfl ?_
    exact r_callv (as := [vr 5, vi 0, vi 99]) (st' := []) (ls0 := [vr 5, vi 0, vi 99, vr 9999]) f_115_130 (by decide) rfl rfl (Nat.le_of_ble_eq_true rfl) (Nat.le_of_ble_eq_true rfl) ⟨_, _, rfl, rfl⟩ rfl (k2 c1)

theorem g_Tr_readWhen_133 {Q : PQ} {h : HP} {x3 : Int} {x4 : Int} {x5 : Int} {s0 : Int} {f1 : Nat} (h_f1 : isF f1) {t2 : Nat} (h_t2 : isT t2)
    (k1 : Wp true i_Ta_add 0 [vr t2, vi x3, vi x4, vi x5, vi s0] [] h (fun r h' => Wp true i_Tr_readWhen 146 [vr 5, vr f1, vr t2, vi x3, vi x4, vi x5, vi s0] (r.toList ++ []) h' Q)) :
    Wp true i_Tr_readWhen 133 [vr 5, vr f1, vr t2, vi x3, vi x4, vi x5, vr 9999] [vi s0] h Q := by
  refine r_istore (ls' := [vr 5, vr f1, vr t2, vi x3, vi x4, vi x5, vi s0]) f_115_133 (Nat.le_of_ble_eq_true rfl) rfl ?_
  refine r_aload_n (v := t2) f_115_135 rfl (T_n h_t2) ?_
  refine r_iload_n (v := x3) f_115_136 rfl ?_
  refine r_iload (v := x4) f_115_137 rfl ?_
  refine r_iload (v := x5) f_115_139 rfl ?_
  refine r_iload (v := s0) f_115_141 rfl ?_
  exact r_callv (as := [vr t2, vi x3, vi x4, vi x5, vi s0]) (st' := []) (ls0 := [vr t2, vi x3, vi x4, vi x5, vi s0]) f_115_143 (by decide) rfl rfl (Nat.le_of_ble_eq_true rfl) (Nat.le_of_ble_eq_true rfl) ⟨_, _, rfl, (T_k h_t2)⟩ rfl k1

theorem g_Tr_readWhen_146 {Q : PQ} {h : HP} {x3 : Int} {x4 : Int} {x5 : Int} {x6 : Int} {f1 : Nat} (h_f1 : isF f1) {t2 : Nat} (h_t2 : isT t2)
    (k1 : x6 < 0 → Q (some (vi 0)) h)
    (k2 : ¬ x6 < 0 → Q (some (vi 1)) h) :
    Wp true i_Tr_readWhen 146 [vr 5, vr f1, vr t2, vi x3, vi x4, vi x5, vi x6] [] h Q := by
  refine r_iload (v := x6) f_115_146 rfl ?_
  refine r_br (t := 155) f_115_148 rfl cb_lt (fun c1 => ?_) (fun c1 => ?_)
  · refine r_iconst f_115_155 (by decide) ?_
    exact r_retz f_115_156 rfl (by decide) (k1 c1)
  · refine r_iconst f_115_151 (by decide) ?_
    refine r_goto (t := 156) f_115_152 rfl ?_
    exact r_retz f_115_156 rfl (by decide) (k2 c1)

theorem g_Tr_open_0 {Q : PQ} {h : HP}  {t1 : Nat} (h_t1 : isT t1)
    (o1 : -2147483648 ≤ (h t1 2) - 1 ∧ (h t1 2) - 1 ≤ 2147483647)
    (o2 : 0 ≤ (h t1 2) - 1 ∧ (h t1 2) - 1 < 60)
    (o3 : -2147483648 ≤ ((hs h (t1 + 5) ((h t1 2) - 1).toNat (h 9 1)) 9 0) + 1 ∧ ((hs h (t1 + 5) ((h t1 2) - 1).toNat (h 9 1)) 9 0) + 1 ≤ 2147483647)
    (k4 : Q (some (vi 1)) (hs (hs (hs h (t1 + 5) ((h t1 2) - 1).toNat (h 9 1)) 9 1 ((h t1 2) - 1)) 9 0 (((hs h (t1 + 5) ((h t1 2) - 1).toNat (h 9 1)) 9 0) + 1))) :
    Wp true i_Tr_open 0 [vr 9, vr t1, vr 9999] [] h Q := by
  refine r_aload_n (v := t1) f_111_0 rfl (T_n h_t1) ?_
  refine r_geti (v := h t1 2) f_111_1 (T_k h_t1) (by decide) rfl ?_
  refine r_iconst f_111_4 (by decide) ?_
  refine r_isub (u := (h t1 2) - 1) f_111_5 rfl o1 ?_
  refine r_istore_n (ls' := [vr 9, vr t1, vi ((h t1 2) - 1)]) f_111_6 (Nat.le_of_ble_eq_true rfl) rfl ?_
  refine r_aload_n (v := t1) f_111_7 rfl (T_n h_t1) ?_
  refine r_getr (q := (t1 + 5)) f_111_8 (T_k h_t1) (by decide) (Or.inl rfl) rfl ?_
  refine r_iload_n (v := (h t1 2) - 1) f_111_11 rfl ?_
  refine r_aload_n (v := 9) f_111_12 rfl (by decide) ?_
  refine r_geti (v := h 9 1) f_111_13 rfl (by decide) rfl ?_
  refine r_iastore (n := 60) f_111_16 (T_5 h_t1) o2 ?_
  refine r_aload_n (v := 9) f_111_17 rfl (by decide) ?_
  refine r_iload_n (v := (h t1 2) - 1) f_111_18 rfl ?_
  refine r_puti f_111_19 rfl (by decide) ?_
  refine r_aload_n (v := 9) f_111_22 rfl (by decide) ?_
  refine r_dupr f_111_23 ?_
  refine r_geti (v := (hs h (t1 + 5) ((h t1 2) - 1).toNat (h 9 1)) 9 0) f_111_24 rfl (by decide) (by simp [hs]) ?_
  refine r_iconst f_111_27 (by decide) ?_
  refine r_iadd (u := ((hs h (t1 + 5) ((h t1 2) - 1).toNat (h 9 1)) 9 0) + 1) f_111_28 rfl o3 ?_
  refine r_puti f_111_29 rfl (by decide) ?_
  refine r_iconst f_111_32 (by decide) ?_
  exact r_retz f_111_33 rfl (by decide) k4

theorem g_Tr_readEnd_0 {Q : PQ} {h : HP}  {t2 : Nat} (h_t2 : isT t2)
    (k1 : 0 ≤ h 9 1 → Wp true i_Ta_add 0 [vr t2, vi 20, vi 0, vi 0, vi 0] [] h (fun r h' => Wp true i_Tr_readEnd 33 [vr 9, vr 5, vr t2, vi (h 9 1), vi (h t2 2)] (r.toList ++ []) h' Q))
    (k2 : ¬ 0 ≤ h 9 1 → Wp true i_To_fail 0 [vr 5, vi 2] [] h (fun r h' => Wp true i_Tr_readEnd 12 [vr 9, vr 5, vr t2, vr 9999, vr 9999] (r.toList ++ []) h' Q)) :
    Wp true i_Tr_readEnd 0 [vr 9, vr 5, vr t2, vr 9999, vr 9999] [] h Q := by
  refine r_aload_n (v := 9) f_110_0 rfl (by decide) ?_
  refine r_geti (v := h 9 1) f_110_1 rfl (by decide) rfl ?_
  refine r_br (t := 13) f_110_4 rfl cb_ge (fun c1 => ?_) (fun c1 => ?_)
  · refine r_aload_n (v := 9) f_110_13 rfl (by decide) ?_
    refine r_geti (v := h 9 1) f_110_14 rfl (by decide) rfl ?_
    refine r_istore_n (ls' := [vr 9, vr 5, vr t2, vi (h 9 1), vr 9999]) f_110_17 (Nat.le_of_ble_eq_true rfl) rfl ?_
    refine r_aload_n (v := t2) f_110_18 rfl (T_n h_t2) ?_
    refine r_geti (v := h t2 2) f_110_19 (T_k h_t2) (by decide) rfl ?_
    refine r_istore (ls' := [vr 9, vr 5, vr t2, vi (h 9 1), vi (h t2 2)]) f_110_22 (Nat.le_of_ble_eq_true rfl) rfl ?_
    refine r_aload_n (v := t2) f_110_24 rfl (T_n h_t2) ?_
    refine r_bipush f_110_25 (by decide) ?_
    refine r_iconst f_110_27 (by decide) ?_
    refine r_iconst f_110_28 (by decide) ?_
    refine r_iconst f_110_29 (by decide) ?_
    exact r_callv (as := [vr t2, vi 20, vi 0, vi 0, vi 0]) (st' := []) (ls0 := [vr t2, vi 20, vi 0, vi 0, vi 0]) f_110_30 (by decide) rfl rfl (Nat.le_of_ble_eq_true rfl) (Nat.le_of_ble_eq_true rfl) ⟨_, _, rfl, (T_k h_t2)⟩ rfl (k1 c1)
  · refine r_aload_n (v := 5) f_110_7 rfl (by decide) ?_
    refine r_iconst f_110_8 (by decide) ?_
    exact r_callv (as := [vr 5, vi 2]) (st' := []) (ls0 := [vr 5, vi 2]) f_110_9 (by decide) rfl rfl (Nat.le_of_ble_eq_true rfl) (Nat.le_of_ble_eq_true rfl) ⟨_, _, rfl, rfl⟩ rfl (k2 c1)

theorem g_Tr_readEnd_12 {Q : PQ} {h : HP} {s0 : Int} {t2 : Nat} (h_t2 : isT t2)
    (o1 : s0 = 0 ∨ s0 = 1)
    (k2 : Q (some (vi s0)) h) :
    Wp true i_Tr_readEnd 12 [vr 9, vr 5, vr t2, vr 9999, vr 9999] [vi s0] h Q := by
  exact r_retz f_110_12 rfl o1 k2

theorem g_Tr_readEnd_33 {Q : PQ} {h : HP} {x3 : Int} {x4 : Int} {t2 : Nat} (h_t2 : isT t2)
    (o1 : 0 ≤ x3 ∧ x3 < 60)
    (o2 : 0 ≤ x4 ∧ x4 < 60)
    (o3 : -2147483648 ≤ ((hs (hs (hs h 9 1 (h (t2 + 5) x3.toNat)) (t2 + 5) x3.toNat x4) (t2 + 5) x4.toNat x3) 9 0) - 1 ∧ ((hs (hs (hs h 9 1 (h (t2 + 5) x3.toNat)) (t2 + 5) x3.toNat x4) (t2 + 5) x4.toNat x3) 9 0) - 1 ≤ 2147483647)
    (k4 : Wp true i_To_next 0 [vr 5] [] (hs (hs (hs (hs h 9 1 (h (t2 + 5) x3.toNat)) (t2 + 5) x3.toNat x4) (t2 + 5) x4.toNat x3) 9 0 (((hs (hs (hs h 9 1 (h (t2 + 5) x3.toNat)) (t2 + 5) x3.toNat x4) (t2 + 5) x4.toNat x3) 9 0) - 1)) (fun r h' => Wp true i_Tr_readEnd 73 [vr 9, vr 5, vr t2, vi x3, vi x4] (r.toList ++ []) h' Q)) :
    Wp true i_Tr_readEnd 33 [vr 9, vr 5, vr t2, vi x3, vi x4] [] h Q := by
  refine r_aload_n (v := 9) f_110_33 rfl (by decide) ?_
  refine r_aload_n (v := t2) f_110_34 rfl (T_n h_t2) ?_
  refine r_getr (q := (t2 + 5)) f_110_35 (T_k h_t2) (by decide) (Or.inl rfl) rfl ?_
  refine r_iload_n (v := x3) f_110_38 rfl ?_
  refine r_iaload (n := 60) (v := h (t2 + 5) x3.toNat) f_110_39 (T_5 h_t2) o1 rfl ?_
  refine r_puti f_110_40 rfl (by decide) ?_
  refine r_aload_n (v := t2) f_110_43 rfl (T_n h_t2) ?_
  refine r_getr (q := (t2 + 5)) f_110_44 (T_k h_t2) (by decide) (Or.inl rfl) rfl ?_
  refine r_iload_n (v := x3) f_110_47 rfl ?_
  refine r_iload (v := x4) f_110_48 rfl ?_
  refine r_iastore (n := 60) f_110_50 (T_5 h_t2) o1 ?_
  refine r_aload_n (v := t2) f_110_51 rfl (T_n h_t2) ?_
  refine r_getr (q := (t2 + 5)) f_110_52 (T_k h_t2) (by decide) (Or.inl rfl) rfl ?_
  refine r_iload (v := x4) f_110_55 rfl ?_
  refine r_iload_n (v := x3) f_110_57 rfl ?_
  refine r_iastore (n := 60) f_110_58 (T_5 h_t2) o2 ?_
  refine r_aload_n (v := 9) f_110_59 rfl (by decide) ?_
  refine r_dupr f_110_60 ?_
  refine r_geti (v := (hs (hs (hs h 9 1 (h (t2 + 5) x3.toNat)) (t2 + 5) x3.toNat x4) (t2 + 5) x4.toNat x3) 9 0) f_110_61 rfl (by decide) rfl ?_
  refine r_iconst f_110_64 (by decide) ?_
  refine r_isub (u := ((hs (hs (hs h 9 1 (h (t2 + 5) x3.toNat)) (t2 + 5) x3.toNat x4) (t2 + 5) x4.toNat x3) 9 0) - 1) f_110_65 rfl o3 ?_
  refine r_puti f_110_66 rfl (by decide) ?_
  refine r_aload_n (v := 5) f_110_69 rfl (by decide) ?_
  exact r_callv (as := [vr 5]) (st' := []) (ls0 := [vr 5]) f_110_70 (by decide) rfl rfl (Nat.le_of_ble_eq_true rfl) (Nat.le_of_ble_eq_true rfl) ⟨_, _, rfl, rfl⟩ rfl k4

theorem g_Tr_readEnd_73 {Q : PQ} {h : HP} {x3 : Int} {x4 : Int} {t2 : Nat} (h_t2 : isT t2)
    (k1 : Wp true i_To_takeEndOfPart 0 [vr 5] [] h (fun r h' => Wp true i_Tr_readEnd 77 [vr 9, vr 5, vr t2, vi x3, vi x4] (r.toList ++ []) h' Q)) :
    Wp true i_Tr_readEnd 73 [vr 9, vr 5, vr t2, vi x3, vi x4] [] h Q := by
  refine r_aload_n (v := 5) f_110_73 rfl (by decide) ?_
  exact r_callv (as := [vr 5]) (st' := []) (ls0 := [vr 5]) f_110_74 (by decide) rfl rfl (Nat.le_of_ble_eq_true rfl) (Nat.le_of_ble_eq_true rfl) ⟨_, _, rfl, rfl⟩ rfl k1

theorem g_Tr_readEnd_77 {Q : PQ} {h : HP} {x3 : Int} {x4 : Int} {s0 : Int} {t2 : Nat} (h_t2 : isT t2)
    (o1 : s0 = 0 ∨ s0 = 1)
    (k2 : Q (some (vi s0)) h) :
    Wp true i_Tr_readEnd 77 [vr 9, vr 5, vr t2, vi x3, vi x4] [vi s0] h Q := by
  exact r_retz f_110_77 rfl o1 k2

theorem g_Tr_readStep_0 {Q : PQ} {h : HP}  {f2 : Nat} (h_f2 : isF f2) {t3 : Nat} (h_t3 : isT t3)
    (k1 : ¬ h 5 6 = 20 → Wp true i_Tr_beginsStep 0 [vi (h 5 6)] [] h (fun r h' => Wp true i_Tr_readStep 25 [vr 9, vr 5, vr f2, vr t3, vi (h 5 6)] (r.toList ++ []) h' Q))
    (k2 : h 5 6 = 20 → Wp true i_Tr_readEnd 0 [vr 9, vr 5, vr t3, vr 9999, vr 9999] [] h (fun r h' => Wp true i_Tr_readStep 19 [vr 9, vr 5, vr f2, vr t3, vi (h 5 6)] (r.toList ++ []) h' Q)) :
    Wp true i_Tr_readStep 0 [vr 9, vr 5, vr f2, vr t3, vr 9999] [] h Q := by
  refine r_aload_n (v := 5) f_108_0 rfl (by decide) ?_
  refine r_geti (v := h 5 6) f_108_1 rfl (by decide) rfl ?_
  refine r_istore (ls' := [vr 9, vr 5, vr f2, vr t3, vi (h 5 6)]) f_108_4 (Nat.le_of_ble_eq_true rfl) rfl ?_
  refine r_iload (v := h 5 6) f_108_6 rfl ?_
  refine r_bipush f_108_8 (by decide) ?_
  refine r_br2 (t := 20) f_108_10 rfl cb_ne (fun c1 => ?_) (fun c1 => ?_)
  · refine r_iload (v := h 5 6) f_108_20 rfl ?_
    exact r_calls (as := [vi (h 5 6)]) (st' := []) (ls0 := [vi (h 5 6)]) f_108_22 (by decide) (by decide) rfl rfl (Nat.le_of_ble_eq_true rfl) (Nat.le_of_ble_eq_true rfl) rfl (k1 c1)
  · have c1 := Decidable.not_not.mp c1
    refine r_aload_n (v := 9) f_108_13 rfl (by decide) ?_
    refine r_aload_n (v := 5) f_108_14 rfl (by decide) ?_
    refine r_aload_n (v := t3) f_108_15 rfl (T_n h_t3) ?_
    exact r_callv (as := [vr 9, vr 5, vr t3]) (st' := []) (ls0 := [vr 9, vr 5, vr t3, vr 9999, vr 9999]) f_108_16 (by decide) rfl rfl (Nat.le_of_ble_eq_true rfl) (Nat.le_of_ble_eq_true rfl) ⟨_, _, rfl, rfl⟩ rfl (k2 c1)

theorem g_Tr_readStep_19 {Q : PQ} {h : HP} {x4 : Int} {s0 : Int} {f2 : Nat} (h_f2 : isF f2) {t3 : Nat} (h_t3 : isT t3)
    (o1 : s0 = 0 ∨ s0 = 1)
    (k2 : Q (some (vi s0)) h) :
    Wp true i_Tr_readStep 19 [vr 9, vr 5, vr f2, vr t3, vi x4] [vi s0] h Q := by
  exact r_retz f_108_19 rfl o1 k2

theorem g_Tr_readStep_25 {Q : PQ} {h : HP} {x4 : Int} {s0 : Int} {f2 : Nat} (h_f2 : isF f2) {t3 : Nat} (h_t3 : isT t3)
    (k1 : ¬ s0 = 0 → h t3 1 < 30 → x4 = 15 → Wp true i_Tr_readStep 64 [vr 9, vr 5, vr f2, vr t3, vi x4] [] h Q)
    (o2 : ¬ s0 = 0 → h t3 1 < 30 → ¬ x4 = 15 → ¬ x4 = 19 → -2147483648 ≤ (h t3 1) + 1 ∧ (h t3 1) + 1 ≤ 2147483647)
    (k3 : ¬ s0 = 0 → h t3 1 < 30 → ¬ x4 = 15 → ¬ x4 = 19 → Wp true i_To_next 0 [vr 5] [] (hs h t3 1 ((h t3 1) + 1)) (fun r h' => Wp true i_Tr_readStep 93 [vr 9, vr 5, vr f2, vr t3, vi x4] (r.toList ++ []) h' Q))
    (k4 : ¬ s0 = 0 → h t3 1 < 30 → ¬ x4 = 15 → x4 = 19 → Wp true i_Tr_readStep 64 [vr 9, vr 5, vr f2, vr t3, vi x4] [] h Q)
    (k5 : ¬ s0 = 0 → ¬ h t3 1 < 30 → Wp true i_To_fail 0 [vr 5, vi 6] [] h (fun r h' => Wp true i_Tr_readStep 49 [vr 9, vr 5, vr f2, vr t3, vi x4] (r.toList ++ []) h' Q))
    (k6 : s0 = 0 → Wp true i_To_fail 0 [vr 5, vi 2] [] h (fun r h' => Wp true i_Tr_readStep 33 [vr 9, vr 5, vr f2, vr t3, vi x4] (r.toList ++ []) h' Q)) :
    Wp true i_Tr_readStep 25 [vr 9, vr 5, vr f2, vr t3, vi x4] [vi s0] h Q := by
  refine r_br (t := 34) f_108_25 rfl cb_ne (fun c1 => ?_) (fun c1 => ?_)
  · refine r_aload_n (v := t3) f_108_34 rfl (T_n h_t3) ?_
    refine r_geti (v := h t3 1) f_108_35 (T_k h_t3) (by decide) rfl ?_
    refine r_bipush f_108_38 (by decide) ?_
    refine r_br2 (t := 50) f_108_40 rfl cb_lt (fun c2 => ?_) (fun c2 => ?_)
    · refine r_iload (v := x4) f_108_50 rfl ?_
      refine r_bipush f_108_52 (by decide) ?_
      refine r_br2 (t := 64) f_108_54 rfl cb_eq (fun c3 => ?_) (fun c3 => ?_)
      · exact (k1 c1 c2 c3)
      · refine r_iload (v := x4) f_108_57 rfl ?_
        refine r_bipush f_108_59 (by decide) ?_
        refine r_br2 (t := 79) f_108_61 rfl cb_ne (fun c4 => ?_) (fun c4 => ?_)
        · refine r_aload_n (v := t3) f_108_79 rfl (T_n h_t3) ?_
          refine r_dupr f_108_80 ?_
          refine r_geti (v := h t3 1) f_108_81 (T_k h_t3) (by decide) rfl ?_
          refine r_iconst f_108_84 (by decide) ?_
          refine r_iadd (u := (h t3 1) + 1) f_108_85 rfl (o2 c1 c2 c3 c4) ?_
          refine r_puti f_108_86 (T_k h_t3) (by decide) ?_
          refine r_aload_n (v := 5) f_108_89 rfl (by decide) ?_
          exact r_callv (as := [vr 5]) (st' := []) (ls0 := [vr 5]) f_108_90 (by decide) rfl rfl (Nat.le_of_ble_eq_true rfl) (Nat.le_of_ble_eq_true rfl) ⟨_, _, rfl, rfl⟩ rfl (k3 c1 c2 c3 c4)
        · have c4 := Decidable.not_not.mp c4
          exact (k4 c1 c2 c3 c4)
    · refine r_aload_n (v := 5) f_108_43 rfl (by decide) ?_
      refine r_bipush f_108_44 (by decide) ?_
      exact r_callv (as := [vr 5, vi 6]) (st' := []) (ls0 := [vr 5, vi 6]) f_108_46 (by decide) rfl rfl (Nat.le_of_ble_eq_true rfl) (Nat.le_of_ble_eq_true rfl) ⟨_, _, rfl, rfl⟩ rfl (k5 c1 c2)
  · have c1 := Decidable.not_not.mp c1
    refine r_aload_n (v := 5) f_108_28 rfl (by decide) ?_
    refine r_iconst f_108_29 (by decide) ?_
    exact r_callv (as := [vr 5, vi 2]) (st' := []) (ls0 := [vr 5, vi 2]) f_108_30 (by decide) rfl rfl (Nat.le_of_ble_eq_true rfl) (Nat.le_of_ble_eq_true rfl) ⟨_, _, rfl, rfl⟩ rfl (k6 c1)

theorem g_Tr_readStep_33 {Q : PQ} {h : HP} {x4 : Int} {s0 : Int} {f2 : Nat} (h_f2 : isF f2) {t3 : Nat} (h_t3 : isT t3)
    (o1 : s0 = 0 ∨ s0 = 1)
    (k2 : Q (some (vi s0)) h) :
    Wp true i_Tr_readStep 33 [vr 9, vr 5, vr f2, vr t3, vi x4] [vi s0] h Q := by
  exact r_retz f_108_33 rfl o1 k2

theorem g_Tr_readStep_49 {Q : PQ} {h : HP} {x4 : Int} {s0 : Int} {f2 : Nat} (h_f2 : isF f2) {t3 : Nat} (h_t3 : isT t3)
    (o1 : s0 = 0 ∨ s0 = 1)
    (k2 : Q (some (vi s0)) h) :
    Wp true i_Tr_readStep 49 [vr 9, vr 5, vr f2, vr t3, vi x4] [vi s0] h Q := by
  exact r_retz f_108_49 rfl o1 k2

theorem g_Tr_readStep_64 {Q : PQ} {h : HP} {x4 : Int} {f2 : Nat} (h_f2 : isF f2) {t3 : Nat} (h_t3 : isT t3)
    (o1 : h 9 0 < 3 → -2147483648 ≤ (h t3 1) + 1 ∧ (h t3 1) + 1 ≤ 2147483647)
    (k2 : h 9 0 < 3 → Wp true i_To_next 0 [vr 5] [] (hs h t3 1 ((h t3 1) + 1)) (fun r h' => Wp true i_Tr_readStep 93 [vr 9, vr 5, vr f2, vr t3, vi x4] (r.toList ++ []) h' Q))
    (k3 : ¬ h 9 0 < 3 → Wp true i_To_fail 0 [vr 5, vi 7] [] h (fun r h' => Wp true i_Tr_readStep 78 [vr 9, vr 5, vr f2, vr t3, vi x4] (r.toList ++ []) h' Q)) :
    Wp true i_Tr_readStep 64 [vr 9, vr 5, vr f2, vr t3, vi x4] [] h Q := by
  refine r_aload_n (v := 9) f_108_64 rfl (by decide) ?_
  refine r_geti (v := h 9 0) f_108_65 rfl (by decide) rfl ?_
  refine r_iconst f_108_68 (by decide) ?_
  refine r_br2 (t := 79) f_108_69 rfl cb_lt (fun c1 => ?_) (fun c1 => ?_)
  · refine r_aload_n (v := t3) f_108_79 rfl (T_n h_t3) ?_
    refine r_dupr f_108_80 ?_
    refine r_geti (v := h t3 1) f_108_81 (T_k h_t3) (by decide) rfl ?_
    refine r_iconst f_108_84 (by decide) ?_
    refine r_iadd (u := (h t3 1) + 1) f_108_85 rfl (o1 c1) ?_
    refine r_puti f_108_86 (T_k h_t3) (by decide) ?_
    refine r_aload_n (v := 5) f_108_89 rfl (by decide) ?_
    exact r_callv (as := [vr 5]) (st' := []) (ls0 := [vr 5]) f_108_90 (by decide) rfl rfl (Nat.le_of_ble_eq_true rfl) (Nat.le_of_ble_eq_true rfl) ⟨_, _, rfl, rfl⟩ rfl (k2 c1)
  · refine r_aload_n (v := 5) f_108_72 rfl (by decide) ?_
    refine r_bipush f_108_73 (by decide) ?_
    exact r_callv (as := [vr 5, vi 7]) (st' := []) (ls0 := [vr 5, vi 7]) f_108_75 (by decide) rfl rfl (Nat.le_of_ble_eq_true rfl) (Nat.le_of_ble_eq_true rfl) ⟨_, _, rfl, rfl⟩ rfl (k3 c1)

theorem g_Tr_readStep_78 {Q : PQ} {h : HP} {x4 : Int} {s0 : Int} {f2 : Nat} (h_f2 : isF f2) {t3 : Nat} (h_t3 : isT t3)
    (o1 : s0 = 0 ∨ s0 = 1)
    (k2 : Q (some (vi s0)) h) :
    Wp true i_Tr_readStep 78 [vr 9, vr 5, vr f2, vr t3, vi x4] [vi s0] h Q := by
  exact r_retz f_108_78 rfl o1 k2

theorem g_Tr_readStep_93 {Q : PQ} {h : HP} {x4 : Int} {f2 : Nat} (h_f2 : isF f2) {t3 : Nat} (h_t3 : isT t3)
    (k1 : x4 = 9 → Wp true i_Tr_readYield 0 [vr 5, vr f2, vr t3, vr 9999, vr 9999, vr 9999] [] h (fun r h' => Wp true i_Tr_readStep 158 [vr 9, vr 5, vr f2, vr t3, vi x4] (r.toList ++ []) h' Q))
    (o2 : x4 = 11 → -2147483648 ≤ (h f2 1) - 1 ∧ (h f2 1) - 1 ≤ 2147483647)
    (k3 : x4 = 11 → Wp true i_Tr_readOne 0 [vi 11, vr 5, vi 0, vi ((h f2 1) - 1), vr t3, vr 9999] [] h (fun r h' => Wp true i_Tr_readStep 188 [vr 9, vr 5, vr f2, vr t3, vi x4] (r.toList ++ []) h' Q))
    (k4 : x4 = 12 → Wp true i_Tr_readMove 0 [vr 5, vr f2, vr t3, vr 9999, vr 9999, vr 9999] [] h (fun r h' => Wp true i_Tr_readStep 210 [vr 9, vr 5, vr f2, vr t3, vi x4] (r.toList ++ []) h' Q))
    (k5 : x4 = 14 → Wp true i_Tr_readOne 0 [vi 14, vr 5, vi 0, vi 1, vr t3, vr 9999] [] h (fun r h' => Wp true i_Tr_readStep 235 [vr 9, vr 5, vr f2, vr t3, vi x4] (r.toList ++ []) h' Q))
    (k6 : x4 = 15 → Wp true i_Tr_readWhen 0 [vr 5, vr f2, vr t3, vr 9999, vr 9999, vr 9999, vr 9999] [] h (fun r h' => Wp true i_Tr_readStep 257 [vr 9, vr 5, vr f2, vr t3, vi x4] (r.toList ++ []) h' Q))
    (k7 : x4 = 19 → Wp true i_Tr_readOne 0 [vi 19, vr 5, vi 1, vi 99, vr t3, vr 9999] [] h (fun r h' => Wp true i_Tr_readStep 291 [vr 9, vr 5, vr f2, vr t3, vi x4] (r.toList ++ []) h' Q))
    (k8 : x4 = 10 → Wp true i_Ta_add 0 [vr t3, vi x4, vi 0, vi 0, vi 0] [] h (fun r h' => Wp true i_Tr_readStep 324 [vr 9, vr 5, vr f2, vr t3, vi x4] (r.toList ++ []) h' Q))
    (k9 : x4 = 13 → Wp true i_Ta_add 0 [vr t3, vi x4, vi 0, vi 0, vi 0] [] h (fun r h' => Wp true i_Tr_readStep 324 [vr 9, vr 5, vr f2, vr t3, vi x4] (r.toList ++ []) h' Q))
    (k10 : x4 = 16 → Wp true i_Ta_add 0 [vr t3, vi x4, vi 0, vi 0, vi 0] [] h (fun r h' => Wp true i_Tr_readStep 324 [vr 9, vr 5, vr f2, vr t3, vi x4] (r.toList ++ []) h' Q))
    (k11 : x4 = 17 → Wp true i_Ta_add 0 [vr t3, vi x4, vi 0, vi 0, vi 0] [] h (fun r h' => Wp true i_Tr_readStep 324 [vr 9, vr 5, vr f2, vr t3, vi x4] (r.toList ++ []) h' Q))
    (k12 : x4 = 18 → Wp true i_Ta_add 0 [vr t3, vi x4, vi 0, vi 0, vi 0] [] h (fun r h' => Wp true i_Tr_readStep 324 [vr 9, vr 5, vr f2, vr t3, vi x4] (r.toList ++ []) h' Q))
    (k13 : ¬ x4 = 9 → ¬ x4 = 11 → ¬ x4 = 12 → ¬ x4 = 14 → ¬ x4 = 15 → ¬ x4 = 19 → ¬ x4 = 10 → ¬ x4 = 13 → ¬ x4 = 16 → ¬ x4 = 17 → ¬ x4 = 18 → Wp true i_Ta_add 0 [vr t3, vi x4, vi 0, vi 0, vi 0] [] h (fun r h' => Wp true i_Tr_readStep 324 [vr 9, vr 5, vr f2, vr t3, vi x4] (r.toList ++ []) h' Q)) :
    Wp true i_Tr_readStep 93 [vr 9, vr 5, vr f2, vr t3, vi x4] [] h Q := by
  refine r_iload (v := x4) f_108_93 rfl ?_
  by_cases c1 : x4 = 9
  · refine r_swi (t := 152) f_108_95 9 c1 (by decide) rfl rfl ?_
    refine r_aload_n (v := 5) f_108_152 rfl (by decide) ?_
    refine r_aload_n (v := f2) f_108_153 rfl (F_n h_f2) ?_
    refine r_aload_n (v := t3) f_108_154 rfl (T_n h_t3) ?_
    exact r_calls (as := [vr 5, vr f2, vr t3]) (st' := []) (ls0 := [vr 5, vr f2, vr t3, vr 9999, vr 9999, vr 9999]) f_108_155 (by decide) (by decide) rfl rfl (Nat.le_of_ble_eq_true rfl) (Nat.le_of_ble_eq_true rfl) rfl (k1 c1)
  by_cases c2 : x4 = 11
  · refine r_swi (t := 174) f_108_95 11 c2 (by decide) rfl rfl ?_
    refine r_bipush f_108_174 (by decide) ?_
    refine r_aload_n (v := 5) f_108_176 rfl (by decide) ?_
    refine r_iconst f_108_177 (by decide) ?_
    refine r_aload_n (v := f2) f_108_178 rfl (F_n h_f2) ?_
    refine r_geti (v := h f2 1) f_108_179 (F_k h_f2) (by decide) rfl ?_
    refine r_iconst f_108_182 (by decide) ?_
    refine r_isub (u := (h f2 1) - 1) f_108_183 rfl (o2 c2) ?_
    refine r_aload_n (v := t3) f_108_184 rfl (T_n h_t3) ?_
    exact r_calls (as := [vi 11, vr 5, vi 0, vi ((h f2 1) - 1), vr t3]) (st' := []) (ls0 := [vi 11, vr 5, vi 0, vi ((h f2 1) - 1), vr t3, vr 9999]) f_108_185 (by decide) (by decide) rfl rfl (Nat.le_of_ble_eq_true rfl) (Nat.le_of_ble_eq_true rfl) rfl (k3 c2)
  by_cases c3 : x4 = 12
  · refine r_swi (t := 204) f_108_95 12 c3 (by decide) rfl rfl ?_
    refine r_aload_n (v := 5) f_108_204 rfl (by decide) ?_
    refine r_aload_n (v := f2) f_108_205 rfl (F_n h_f2) ?_
    refine r_aload_n (v := t3) f_108_206 rfl (T_n h_t3) ?_
    exact r_calls (as := [vr 5, vr f2, vr t3]) (st' := []) (ls0 := [vr 5, vr f2, vr t3, vr 9999, vr 9999, vr 9999]) f_108_207 (by decide) (by decide) rfl rfl (Nat.le_of_ble_eq_true rfl) (Nat.le_of_ble_eq_true rfl) rfl (k4 c3)
  by_cases c4 : x4 = 14
  · refine r_swi (t := 226) f_108_95 14 c4 (by decide) rfl rfl ?_
    refine r_bipush f_108_226 (by decide) ?_
    refine r_aload_n (v := 5) f_108_228 rfl (by decide) ?_
    refine r_iconst f_108_229 (by decide) ?_
    refine r_iconst f_108_230 (by decide) ?_
    refine r_aload_n (v := t3) f_108_231 rfl (T_n h_t3) ?_
    exact r_calls (as := [vi 14, vr 5, vi 0, vi 1, vr t3]) (st' := []) (ls0 := [vi 14, vr 5, vi 0, vi 1, vr t3, vr 9999]) f_108_232 (by decide) (by decide) rfl rfl (Nat.le_of_ble_eq_true rfl) (Nat.le_of_ble_eq_true rfl) rfl (k5 c4)
  by_cases c5 : x4 = 15
  · refine r_swi (t := 251) f_108_95 15 c5 (by decide) rfl rfl ?_
    refine r_aload_n (v := 5) f_108_251 rfl (by decide) ?_
    refine r_aload_n (v := f2) f_108_252 rfl (F_n h_f2) ?_
    refine r_aload_n (v := t3) f_108_253 rfl (T_n h_t3) ?_
    exact r_calls (as := [vr 5, vr f2, vr t3]) (st' := []) (ls0 := [vr 5, vr f2, vr t3, vr 9999, vr 9999, vr 9999, vr 9999]) f_108_254 (by decide) (by decide) rfl rfl (Nat.le_of_ble_eq_true rfl) (Nat.le_of_ble_eq_true rfl) rfl (k6 c5)
  by_cases c6 : x4 = 19
  · refine r_swi (t := 281) f_108_95 19 c6 (by decide) rfl rfl ?_
    refine r_bipush f_108_281 (by decide) ?_
    refine r_aload_n (v := 5) f_108_283 rfl (by decide) ?_
    refine r_iconst f_108_284 (by decide) ?_
    refine r_bipush f_108_285 (by decide) ?_
    refine r_aload_n (v := t3) f_108_287 rfl (T_n h_t3) ?_
    exact r_calls (as := [vi 19, vr 5, vi 1, vi 99, vr t3]) (st' := []) (ls0 := [vi 19, vr 5, vi 1, vi 99, vr t3, vr 9999]) f_108_288 (by decide) (by decide) rfl rfl (Nat.le_of_ble_eq_true rfl) (Nat.le_of_ble_eq_true rfl) rfl (k7 c6)
  by_cases c7 : x4 = 10
  · refine r_swi (t := 315) f_108_95 10 c7 (by decide) rfl rfl ?_
    refine r_aload_n (v := t3) f_108_315 rfl (T_n h_t3) ?_
    refine r_iload (v := x4) f_108_316 rfl ?_
    refine r_iconst f_108_318 (by decide) ?_
    refine r_iconst f_108_319 (by decide) ?_
    refine r_iconst f_108_320 (by decide) ?_
    exact r_callv (as := [vr t3, vi x4, vi 0, vi 0, vi 0]) (st' := []) (ls0 := [vr t3, vi x4, vi 0, vi 0, vi 0]) f_108_321 (by decide) rfl rfl (Nat.le_of_ble_eq_true rfl) (Nat.le_of_ble_eq_true rfl) ⟨_, _, rfl, (T_k h_t3)⟩ rfl (k8 c7)
  by_cases c8 : x4 = 13
  · refine r_swi (t := 315) f_108_95 13 c8 (by decide) rfl rfl ?_
    refine r_aload_n (v := t3) f_108_315 rfl (T_n h_t3) ?_
    refine r_iload (v := x4) f_108_316 rfl ?_
    refine r_iconst f_108_318 (by decide) ?_
    refine r_iconst f_108_319 (by decide) ?_
    refine r_iconst f_108_320 (by decide) ?_
    exact r_callv (as := [vr t3, vi x4, vi 0, vi 0, vi 0]) (st' := []) (ls0 := [vr t3, vi x4, vi 0, vi 0, vi 0]) f_108_321 (by decide) rfl rfl (Nat.le_of_ble_eq_true rfl) (Nat.le_of_ble_eq_true rfl) ⟨_, _, rfl, (T_k h_t3)⟩ rfl (k9 c8)
  by_cases c9 : x4 = 16
  · refine r_swi (t := 315) f_108_95 16 c9 (by decide) rfl rfl ?_
    refine r_aload_n (v := t3) f_108_315 rfl (T_n h_t3) ?_
    refine r_iload (v := x4) f_108_316 rfl ?_
    refine r_iconst f_108_318 (by decide) ?_
    refine r_iconst f_108_319 (by decide) ?_
    refine r_iconst f_108_320 (by decide) ?_
    exact r_callv (as := [vr t3, vi x4, vi 0, vi 0, vi 0]) (st' := []) (ls0 := [vr t3, vi x4, vi 0, vi 0, vi 0]) f_108_321 (by decide) rfl rfl (Nat.le_of_ble_eq_true rfl) (Nat.le_of_ble_eq_true rfl) ⟨_, _, rfl, (T_k h_t3)⟩ rfl (k10 c9)
  by_cases c10 : x4 = 17
  · refine r_swi (t := 315) f_108_95 17 c10 (by decide) rfl rfl ?_
    refine r_aload_n (v := t3) f_108_315 rfl (T_n h_t3) ?_
    refine r_iload (v := x4) f_108_316 rfl ?_
    refine r_iconst f_108_318 (by decide) ?_
    refine r_iconst f_108_319 (by decide) ?_
    refine r_iconst f_108_320 (by decide) ?_
    exact r_callv (as := [vr t3, vi x4, vi 0, vi 0, vi 0]) (st' := []) (ls0 := [vr t3, vi x4, vi 0, vi 0, vi 0]) f_108_321 (by decide) rfl rfl (Nat.le_of_ble_eq_true rfl) (Nat.le_of_ble_eq_true rfl) ⟨_, _, rfl, (T_k h_t3)⟩ rfl (k11 c10)
  by_cases c11 : x4 = 18
  · refine r_swi (t := 315) f_108_95 18 c11 (by decide) rfl rfl ?_
    refine r_aload_n (v := t3) f_108_315 rfl (T_n h_t3) ?_
    refine r_iload (v := x4) f_108_316 rfl ?_
    refine r_iconst f_108_318 (by decide) ?_
    refine r_iconst f_108_319 (by decide) ?_
    refine r_iconst f_108_320 (by decide) ?_
    exact r_callv (as := [vr t3, vi x4, vi 0, vi 0, vi 0]) (st' := []) (ls0 := [vr t3, vi x4, vi 0, vi 0, vi 0]) f_108_321 (by decide) rfl rfl (Nat.le_of_ble_eq_true rfl) (Nat.le_of_ble_eq_true rfl) ⟨_, _, rfl, (T_k h_t3)⟩ rfl (k12 c11)
  refine r_swo (t := 315) f_108_95 (by omega) rfl ?_
  refine r_aload_n (v := t3) f_108_315 rfl (T_n h_t3) ?_
  refine r_iload (v := x4) f_108_316 rfl ?_
  refine r_iconst f_108_318 (by decide) ?_
  refine r_iconst f_108_319 (by decide) ?_
  refine r_iconst f_108_320 (by decide) ?_
  exact r_callv (as := [vr t3, vi x4, vi 0, vi 0, vi 0]) (st' := []) (ls0 := [vr t3, vi x4, vi 0, vi 0, vi 0]) f_108_321 (by decide) rfl rfl (Nat.le_of_ble_eq_true rfl) (Nat.le_of_ble_eq_true rfl) ⟨_, _, rfl, (T_k h_t3)⟩ rfl (k13 c1 c2 c3 c4 c5 c6 c7 c8 c9 c10 c11)

theorem g_Tr_readStep_158 {Q : PQ} {h : HP} {x4 : Int} {s0 : Int} {f2 : Nat} (h_f2 : isF f2) {t3 : Nat} (h_t3 : isT t3)
    (k1 : s0 = 0 → Q (some (vi 0)) h)
    (k2 : ¬ s0 = 0 → Wp true i_To_takeEndOfPart 0 [vr 5] [] h (fun r h' => Wp true i_Tr_readStep 165 [vr 9, vr 5, vr f2, vr t3, vi x4] (r.toList ++ []) h' Q)) :
    Wp true i_Tr_readStep 158 [vr 9, vr 5, vr f2, vr t3, vi x4] [vi s0] h Q := by
  refine r_br (t := 172) f_108_158 rfl cb_eq (fun c1 => ?_) (fun c1 => ?_)
  · refine r_iconst f_108_172 (by decide) ?_
    exact r_retz f_108_173 rfl (by decide) (k1 c1)
  · refine r_aload_n (v := 5) f_108_161 rfl (by decide) ?_
    exact r_callv (as := [vr 5]) (st' := []) (ls0 := [vr 5]) f_108_162 (by decide) rfl rfl (Nat.le_of_ble_eq_true rfl) (Nat.le_of_ble_eq_true rfl) ⟨_, _, rfl, rfl⟩ rfl (k2 c1)

theorem g_Tr_readStep_165 {Q : PQ} {h : HP} {x4 : Int} {s0 : Int} {f2 : Nat} (h_f2 : isF f2) {t3 : Nat} (h_t3 : isT t3)
    (k1 : s0 = 0 → Q (some (vi 0)) h)
    (k2 : ¬ s0 = 0 → Q (some (vi 1)) h) :
    Wp true i_Tr_readStep 165 [vr 9, vr 5, vr f2, vr t3, vi x4] [vi s0] h Q := by
  refine r_br (t := 172) f_108_165 rfl cb_eq (fun c1 => ?_) (fun c1 => ?_)
  · refine r_iconst f_108_172 (by decide) ?_
    exact r_retz f_108_173 rfl (by decide) (k1 c1)
  · refine r_iconst f_108_168 (by decide) ?_
    refine r_goto (t := 173) f_108_169 rfl ?_
    exact r_retz f_108_173 rfl (by decide) (k2 c1)

theorem g_Tr_readStep_188 {Q : PQ} {h : HP} {x4 : Int} {s0 : Int} {f2 : Nat} (h_f2 : isF f2) {t3 : Nat} (h_t3 : isT t3)
    (k1 : s0 = 0 → Q (some (vi 0)) h)
    (k2 : ¬ s0 = 0 → Wp true i_To_takeEndOfPart 0 [vr 5] [] h (fun r h' => Wp true i_Tr_readStep 195 [vr 9, vr 5, vr f2, vr t3, vi x4] (r.toList ++ []) h' Q)) :
    Wp true i_Tr_readStep 188 [vr 9, vr 5, vr f2, vr t3, vi x4] [vi s0] h Q := by
  refine r_br (t := 202) f_108_188 rfl cb_eq (fun c1 => ?_) (fun c1 => ?_)
  · refine r_iconst f_108_202 (by decide) ?_
    exact r_retz f_108_203 rfl (by decide) (k1 c1)
  · refine r_aload_n (v := 5) f_108_191 rfl (by decide) ?_
    exact r_callv (as := [vr 5]) (st' := []) (ls0 := [vr 5]) f_108_192 (by decide) rfl rfl (Nat.le_of_ble_eq_true rfl) (Nat.le_of_ble_eq_true rfl) ⟨_, _, rfl, rfl⟩ rfl (k2 c1)

theorem g_Tr_readStep_195 {Q : PQ} {h : HP} {x4 : Int} {s0 : Int} {f2 : Nat} (h_f2 : isF f2) {t3 : Nat} (h_t3 : isT t3)
    (k1 : s0 = 0 → Q (some (vi 0)) h)
    (k2 : ¬ s0 = 0 → Q (some (vi 1)) h) :
    Wp true i_Tr_readStep 195 [vr 9, vr 5, vr f2, vr t3, vi x4] [vi s0] h Q := by
  refine r_br (t := 202) f_108_195 rfl cb_eq (fun c1 => ?_) (fun c1 => ?_)
  · refine r_iconst f_108_202 (by decide) ?_
    exact r_retz f_108_203 rfl (by decide) (k1 c1)
  · refine r_iconst f_108_198 (by decide) ?_
    refine r_goto (t := 203) f_108_199 rfl ?_
    exact r_retz f_108_203 rfl (by decide) (k2 c1)

theorem g_Tr_readStep_210 {Q : PQ} {h : HP} {x4 : Int} {s0 : Int} {f2 : Nat} (h_f2 : isF f2) {t3 : Nat} (h_t3 : isT t3)
    (k1 : s0 = 0 → Q (some (vi 0)) h)
    (k2 : ¬ s0 = 0 → Wp true i_To_takeEndOfPart 0 [vr 5] [] h (fun r h' => Wp true i_Tr_readStep 217 [vr 9, vr 5, vr f2, vr t3, vi x4] (r.toList ++ []) h' Q)) :
    Wp true i_Tr_readStep 210 [vr 9, vr 5, vr f2, vr t3, vi x4] [vi s0] h Q := by
  refine r_br (t := 224) f_108_210 rfl cb_eq (fun c1 => ?_) (fun c1 => ?_)
  · refine r_iconst f_108_224 (by decide) ?_
    exact r_retz f_108_225 rfl (by decide) (k1 c1)
  · refine r_aload_n (v := 5) f_108_213 rfl (by decide) ?_
    exact r_callv (as := [vr 5]) (st' := []) (ls0 := [vr 5]) f_108_214 (by decide) rfl rfl (Nat.le_of_ble_eq_true rfl) (Nat.le_of_ble_eq_true rfl) ⟨_, _, rfl, rfl⟩ rfl (k2 c1)

theorem g_Tr_readStep_217 {Q : PQ} {h : HP} {x4 : Int} {s0 : Int} {f2 : Nat} (h_f2 : isF f2) {t3 : Nat} (h_t3 : isT t3)
    (k1 : s0 = 0 → Q (some (vi 0)) h)
    (k2 : ¬ s0 = 0 → Q (some (vi 1)) h) :
    Wp true i_Tr_readStep 217 [vr 9, vr 5, vr f2, vr t3, vi x4] [vi s0] h Q := by
  refine r_br (t := 224) f_108_217 rfl cb_eq (fun c1 => ?_) (fun c1 => ?_)
  · refine r_iconst f_108_224 (by decide) ?_
    exact r_retz f_108_225 rfl (by decide) (k1 c1)
  · refine r_iconst f_108_220 (by decide) ?_
    refine r_goto (t := 225) f_108_221 rfl ?_
    exact r_retz f_108_225 rfl (by decide) (k2 c1)

theorem g_Tr_readStep_235 {Q : PQ} {h : HP} {x4 : Int} {s0 : Int} {f2 : Nat} (h_f2 : isF f2) {t3 : Nat} (h_t3 : isT t3)
    (k1 : s0 = 0 → Q (some (vi 0)) h)
    (k2 : ¬ s0 = 0 → Wp true i_To_takeEndOfPart 0 [vr 5] [] h (fun r h' => Wp true i_Tr_readStep 242 [vr 9, vr 5, vr f2, vr t3, vi x4] (r.toList ++ []) h' Q)) :
    Wp true i_Tr_readStep 235 [vr 9, vr 5, vr f2, vr t3, vi x4] [vi s0] h Q := by
  refine r_br (t := 249) f_108_235 rfl cb_eq (fun c1 => ?_) (fun c1 => ?_)
  · refine r_iconst f_108_249 (by decide) ?_
    exact r_retz f_108_250 rfl (by decide) (k1 c1)
  · refine r_aload_n (v := 5) f_108_238 rfl (by decide) ?_
    exact r_callv (as := [vr 5]) (st' := []) (ls0 := [vr 5]) f_108_239 (by decide) rfl rfl (Nat.le_of_ble_eq_true rfl) (Nat.le_of_ble_eq_true rfl) ⟨_, _, rfl, rfl⟩ rfl (k2 c1)

theorem g_Tr_readStep_242 {Q : PQ} {h : HP} {x4 : Int} {s0 : Int} {f2 : Nat} (h_f2 : isF f2) {t3 : Nat} (h_t3 : isT t3)
    (k1 : s0 = 0 → Q (some (vi 0)) h)
    (k2 : ¬ s0 = 0 → Q (some (vi 1)) h) :
    Wp true i_Tr_readStep 242 [vr 9, vr 5, vr f2, vr t3, vi x4] [vi s0] h Q := by
  refine r_br (t := 249) f_108_242 rfl cb_eq (fun c1 => ?_) (fun c1 => ?_)
  · refine r_iconst f_108_249 (by decide) ?_
    exact r_retz f_108_250 rfl (by decide) (k1 c1)
  · refine r_iconst f_108_245 (by decide) ?_
    refine r_goto (t := 250) f_108_246 rfl ?_
    exact r_retz f_108_250 rfl (by decide) (k2 c1)

theorem g_Tr_readStep_257 {Q : PQ} {h : HP} {x4 : Int} {s0 : Int} {f2 : Nat} (h_f2 : isF f2) {t3 : Nat} (h_t3 : isT t3)
    (k1 : s0 = 0 → Q (some (vi 0)) h)
    (k2 : ¬ s0 = 0 → Wp true i_Tr_open 0 [vr 9, vr t3, vr 9999] [] h (fun r h' => Wp true i_Tr_readStep 265 [vr 9, vr 5, vr f2, vr t3, vi x4] (r.toList ++ []) h' Q)) :
    Wp true i_Tr_readStep 257 [vr 9, vr 5, vr f2, vr t3, vi x4] [vi s0] h Q := by
  refine r_br (t := 279) f_108_257 rfl cb_eq (fun c1 => ?_) (fun c1 => ?_)
  · refine r_iconst f_108_279 (by decide) ?_
    exact r_retz f_108_280 rfl (by decide) (k1 c1)
  · refine r_aload_n (v := 9) f_108_260 rfl (by decide) ?_
    refine r_aload_n (v := t3) f_108_261 rfl (T_n h_t3) ?_
    exact r_callv (as := [vr 9, vr t3]) (st' := []) (ls0 := [vr 9, vr t3, vr 9999]) f_108_262 (by decide) rfl rfl (Nat.le_of_ble_eq_true rfl) (Nat.le_of_ble_eq_true rfl) ⟨_, _, rfl, rfl⟩ rfl (k2 c1)

theorem g_Tr_readStep_265 {Q : PQ} {h : HP} {x4 : Int} {s0 : Int} {f2 : Nat} (h_f2 : isF f2) {t3 : Nat} (h_t3 : isT t3)
    (k1 : s0 = 0 → Q (some (vi 0)) h)
    (k2 : ¬ s0 = 0 → Wp true i_To_takeEndOfPart 0 [vr 5] [] h (fun r h' => Wp true i_Tr_readStep 272 [vr 9, vr 5, vr f2, vr t3, vi x4] (r.toList ++ []) h' Q)) :
    Wp true i_Tr_readStep 265 [vr 9, vr 5, vr f2, vr t3, vi x4] [vi s0] h Q := by
  refine r_br (t := 279) f_108_265 rfl cb_eq (fun c1 => ?_) (fun c1 => ?_)
  · refine r_iconst f_108_279 (by decide) ?_
    exact r_retz f_108_280 rfl (by decide) (k1 c1)
  · refine r_aload_n (v := 5) f_108_268 rfl (by decide) ?_
    exact r_callv (as := [vr 5]) (st' := []) (ls0 := [vr 5]) f_108_269 (by decide) rfl rfl (Nat.le_of_ble_eq_true rfl) (Nat.le_of_ble_eq_true rfl) ⟨_, _, rfl, rfl⟩ rfl (k2 c1)

theorem g_Tr_readStep_272 {Q : PQ} {h : HP} {x4 : Int} {s0 : Int} {f2 : Nat} (h_f2 : isF f2) {t3 : Nat} (h_t3 : isT t3)
    (k1 : s0 = 0 → Q (some (vi 0)) h)
    (k2 : ¬ s0 = 0 → Q (some (vi 1)) h) :
    Wp true i_Tr_readStep 272 [vr 9, vr 5, vr f2, vr t3, vi x4] [vi s0] h Q := by
  refine r_br (t := 279) f_108_272 rfl cb_eq (fun c1 => ?_) (fun c1 => ?_)
  · refine r_iconst f_108_279 (by decide) ?_
    exact r_retz f_108_280 rfl (by decide) (k1 c1)
  · refine r_iconst f_108_275 (by decide) ?_
    refine r_goto (t := 280) f_108_276 rfl ?_
    exact r_retz f_108_280 rfl (by decide) (k2 c1)

theorem g_Tr_readStep_291 {Q : PQ} {h : HP} {x4 : Int} {s0 : Int} {f2 : Nat} (h_f2 : isF f2) {t3 : Nat} (h_t3 : isT t3)
    (k1 : s0 = 0 → Q (some (vi 0)) h)
    (k2 : ¬ s0 = 0 → Wp true i_Tr_open 0 [vr 9, vr t3, vr 9999] [] h (fun r h' => Wp true i_Tr_readStep 299 [vr 9, vr 5, vr f2, vr t3, vi x4] (r.toList ++ []) h' Q)) :
    Wp true i_Tr_readStep 291 [vr 9, vr 5, vr f2, vr t3, vi x4] [vi s0] h Q := by
  refine r_br (t := 313) f_108_291 rfl cb_eq (fun c1 => ?_) (fun c1 => ?_)
  · refine r_iconst f_108_313 (by decide) ?_
    exact r_retz f_108_314 rfl (by decide) (k1 c1)
  · refine r_aload_n (v := 9) f_108_294 rfl (by decide) ?_
    refine r_aload_n (v := t3) f_108_295 rfl (T_n h_t3) ?_
    exact r_callv (as := [vr 9, vr t3]) (st' := []) (ls0 := [vr 9, vr t3, vr 9999]) f_108_296 (by decide) rfl rfl (Nat.le_of_ble_eq_true rfl) (Nat.le_of_ble_eq_true rfl) ⟨_, _, rfl, rfl⟩ rfl (k2 c1)

theorem g_Tr_readStep_299 {Q : PQ} {h : HP} {x4 : Int} {s0 : Int} {f2 : Nat} (h_f2 : isF f2) {t3 : Nat} (h_t3 : isT t3)
    (k1 : s0 = 0 → Q (some (vi 0)) h)
    (k2 : ¬ s0 = 0 → Wp true i_To_takeEndOfPart 0 [vr 5] [] h (fun r h' => Wp true i_Tr_readStep 306 [vr 9, vr 5, vr f2, vr t3, vi x4] (r.toList ++ []) h' Q)) :
    Wp true i_Tr_readStep 299 [vr 9, vr 5, vr f2, vr t3, vi x4] [vi s0] h Q := by
  refine r_br (t := 313) f_108_299 rfl cb_eq (fun c1 => ?_) (fun c1 => ?_)
  · refine r_iconst f_108_313 (by decide) ?_
    exact r_retz f_108_314 rfl (by decide) (k1 c1)
  · refine r_aload_n (v := 5) f_108_302 rfl (by decide) ?_
    exact r_callv (as := [vr 5]) (st' := []) (ls0 := [vr 5]) f_108_303 (by decide) rfl rfl (Nat.le_of_ble_eq_true rfl) (Nat.le_of_ble_eq_true rfl) ⟨_, _, rfl, rfl⟩ rfl (k2 c1)

theorem g_Tr_readStep_306 {Q : PQ} {h : HP} {x4 : Int} {s0 : Int} {f2 : Nat} (h_f2 : isF f2) {t3 : Nat} (h_t3 : isT t3)
    (k1 : s0 = 0 → Q (some (vi 0)) h)
    (k2 : ¬ s0 = 0 → Q (some (vi 1)) h) :
    Wp true i_Tr_readStep 306 [vr 9, vr 5, vr f2, vr t3, vi x4] [vi s0] h Q := by
  refine r_br (t := 313) f_108_306 rfl cb_eq (fun c1 => ?_) (fun c1 => ?_)
  · refine r_iconst f_108_313 (by decide) ?_
    exact r_retz f_108_314 rfl (by decide) (k1 c1)
  · refine r_iconst f_108_309 (by decide) ?_
    refine r_goto (t := 314) f_108_310 rfl ?_
    exact r_retz f_108_314 rfl (by decide) (k2 c1)

theorem g_Tr_readStep_324 {Q : PQ} {h : HP} {x4 : Int} {f2 : Nat} (h_f2 : isF f2) {t3 : Nat} (h_t3 : isT t3)
    (k1 : Wp true i_To_takeEndOfPart 0 [vr 5] [] h (fun r h' => Wp true i_Tr_readStep 328 [vr 9, vr 5, vr f2, vr t3, vi x4] (r.toList ++ []) h' Q)) :
    Wp true i_Tr_readStep 324 [vr 9, vr 5, vr f2, vr t3, vi x4] [] h Q := by
  refine r_aload_n (v := 5) f_108_324 rfl (by decide) ?_
  exact r_callv (as := [vr 5]) (st' := []) (ls0 := [vr 5]) f_108_325 (by decide) rfl rfl (Nat.le_of_ble_eq_true rfl) (Nat.le_of_ble_eq_true rfl) ⟨_, _, rfl, rfl⟩ rfl k1

theorem g_Tr_readStep_328 {Q : PQ} {h : HP} {x4 : Int} {s0 : Int} {f2 : Nat} (h_f2 : isF f2) {t3 : Nat} (h_t3 : isT t3)
    (o1 : s0 = 0 ∨ s0 = 1)
    (k2 : Q (some (vi s0)) h) :
    Wp true i_Tr_readStep 328 [vr 9, vr 5, vr f2, vr t3, vi x4] [vi s0] h Q := by
  exact r_retz f_108_328 rfl o1 k2

theorem g_Tr_readAll_0 {Q : PQ} {h : HP}  {f2 : Nat} (h_f2 : isF f2) {t3 : Nat} (h_t3 : isT t3)
    (k1 : Wp true i_Ta_clear 0 [vr t3] [] h (fun r h' => Wp true i_Tr_readAll 4 [vr 9, vr 5, vr f2, vr t3, vr 9999] (r.toList ++ []) h' Q)) :
    Wp true i_Tr_readAll 0 [vr 9, vr 5, vr f2, vr t3, vr 9999] [] h Q := by
  refine r_aload_n (v := t3) f_107_0 rfl (T_n h_t3) ?_
  exact r_callv (as := [vr t3]) (st' := []) (ls0 := [vr t3]) f_107_1 (by decide) rfl rfl (Nat.le_of_ble_eq_true rfl) (Nat.le_of_ble_eq_true rfl) ⟨_, _, rfl, (T_k h_t3)⟩ rfl k1

theorem g_Tr_readAll_4 {Q : PQ} {h : HP}  {f2 : Nat} (h_f2 : isF f2) {t3 : Nat} (h_t3 : isT t3)
    (k1 : Wp true i_Tr_readAll 17 [vr 9, vr 5, vr f2, vr t3, vi 0] [] (hs (hs h 9 0 0) 9 1 (-1)) Q) :
    Wp true i_Tr_readAll 4 [vr 9, vr 5, vr f2, vr t3, vr 9999] [] h Q := by
  refine r_aload_n (v := 9) f_107_4 rfl (by decide) ?_
  refine r_iconst f_107_5 (by decide) ?_
  refine r_puti f_107_6 rfl (by decide) ?_
  refine r_aload_n (v := 9) f_107_9 rfl (by decide) ?_
  refine r_iconst f_107_10 (by decide) ?_
  refine r_puti f_107_11 rfl (by decide) ?_
  refine r_iconst f_107_14 (by decide) ?_
  refine r_istore (ls' := [vr 9, vr 5, vr f2, vr t3, vi 0]) f_107_15 (Nat.le_of_ble_eq_true rfl) rfl ?_
  exact k1

theorem g_Tr_readAll_17 {Q : PQ} {h : HP} {x4 : Int} {f2 : Nat} (h_f2 : isF f2) {t3 : Nat} (h_t3 : isT t3)
    (k1 : 300 < x4 → Wp true i_Tr_readAll 50 [vr 9, vr 5, vr f2, vr t3, vi x4] [] h Q)
    (k2 : ¬ 300 < x4 → h 5 5 = 0 → Wp true i_Tr_readAll 50 [vr 9, vr 5, vr f2, vr t3, vi x4] [] h Q)
    (k3 : ¬ 300 < x4 → ¬ h 5 5 = 0 → Wp true i_Tr_readStep 0 [vr 9, vr 5, vr f2, vr t3, vr 9999] [] h (fun r h' => Wp true i_Tr_readAll 39 [vr 9, vr 5, vr f2, vr t3, vi x4] (r.toList ++ []) h' Q)) :
    Wp true i_Tr_readAll 17 [vr 9, vr 5, vr f2, vr t3, vi x4] [] h Q := by
  refine r_iload (v := x4) f_107_17 rfl ?_
  refine r_sipush f_107_19 (by decide) ?_
  refine r_br2 (t := 50) f_107_22 rfl cb_gt (fun c1 => ?_) (fun c1 => ?_)
  · exact (k1 c1)
  · refine r_aload_n (v := 5) f_107_25 rfl (by decide) ?_
    refine r_geti (v := h 5 5) f_107_26 rfl (by decide) rfl ?_
    refine r_br (t := 50) f_107_29 rfl cb_eq (fun c2 => ?_) (fun c2 => ?_)
    · exact (k2 c1 c2)
    · refine r_aload_n (v := 9) f_107_32 rfl (by decide) ?_
      refine r_aload_n (v := 5) f_107_33 rfl (by decide) ?_
      refine r_aload_n (v := f2) f_107_34 rfl (F_n h_f2) ?_
      refine r_aload_n (v := t3) f_107_35 rfl (T_n h_t3) ?_
      exact r_callv (as := [vr 9, vr 5, vr f2, vr t3]) (st' := []) (ls0 := [vr 9, vr 5, vr f2, vr t3, vr 9999]) f_107_36 (by decide) rfl rfl (Nat.le_of_ble_eq_true rfl) (Nat.le_of_ble_eq_true rfl) ⟨_, _, rfl, rfl⟩ rfl (k3 c1 c2)

theorem g_Tr_readAll_39 {Q : PQ} {h : HP} {x4 : Int} {s0 : Int} {f2 : Nat} (h_f2 : isF f2) {t3 : Nat} (h_t3 : isT t3)
    (o1 : ¬ s0 = 0 → -2147483648 ≤ x4 + 1 ∧ x4 + 1 ≤ 2147483647)
    (k2 : ¬ s0 = 0 → Wp true i_Tr_readAll 17 [vr 9, vr 5, vr f2, vr t3, vi (x4 + 1)] [] h Q)
    (k3 : s0 = 0 → Q (some (vi 0)) h) :
    Wp true i_Tr_readAll 39 [vr 9, vr 5, vr f2, vr t3, vi x4] [vi s0] h Q := by
  refine r_br (t := 44) f_107_39 rfl cb_ne (fun c1 => ?_) (fun c1 => ?_)
  · refine r_iinc (v := x4) (w := x4 + 1) (ls' := [vr 9, vr 5, vr f2, vr t3, vi (x4 + 1)]) f_107_44 rfl rfl (o1 c1) rfl ?_
    refine r_goto (t := 17) f_107_47 rfl ?_
    exact (k2 c1)
  · have c1 := Decidable.not_not.mp c1
    refine r_iconst f_107_42 (by decide) ?_
    exact r_retz f_107_43 rfl (by decide) (k3 c1)

theorem g_Tr_readAll_50 {Q : PQ} {h : HP} {x4 : Int} {f2 : Nat} (h_f2 : isF f2) {t3 : Nat} (h_t3 : isT t3)
    (k1 : h 9 0 ≤ 0 → Q (some (vi 1)) (hs h t3 0 1))
    (k2 : ¬ h 9 0 ≤ 0 → Wp true i_To_fail 0 [vr 5, vi 2] [] h (fun r h' => Wp true i_Tr_readAll 62 [vr 9, vr 5, vr f2, vr t3, vi x4] (r.toList ++ []) h' Q)) :
    Wp true i_Tr_readAll 50 [vr 9, vr 5, vr f2, vr t3, vi x4] [] h Q := by
  refine r_aload_n (v := 9) f_107_50 rfl (by decide) ?_
  refine r_geti (v := h 9 0) f_107_51 rfl (by decide) rfl ?_
  refine r_br (t := 63) f_107_54 rfl cb_le (fun c1 => ?_) (fun c1 => ?_)
  · refine r_aload_n (v := t3) f_107_63 rfl (T_n h_t3) ?_
    refine r_iconst f_107_64 (by decide) ?_
    refine r_putz f_107_65 (T_k h_t3) (by decide) (by decide) ?_
    refine r_iconst f_107_68 (by decide) ?_
    exact r_retz f_107_69 rfl (by decide) (k1 c1)
  · refine r_aload_n (v := 5) f_107_57 rfl (by decide) ?_
    refine r_iconst f_107_58 (by decide) ?_
    exact r_callv (as := [vr 5, vi 2]) (st' := []) (ls0 := [vr 5, vi 2]) f_107_59 (by decide) rfl rfl (Nat.le_of_ble_eq_true rfl) (Nat.le_of_ble_eq_true rfl) ⟨_, _, rfl, rfl⟩ rfl (k2 c1)

theorem g_Tr_readAll_62 {Q : PQ} {h : HP} {x4 : Int} {s0 : Int} {f2 : Nat} (h_f2 : isF f2) {t3 : Nat} (h_t3 : isT t3)
    (o1 : s0 = 0 ∨ s0 = 1)
    (k2 : Q (some (vi s0)) h) :
    Wp true i_Tr_readAll 62 [vr 9, vr 5, vr f2, vr t3, vi x4] [vi s0] h Q := by
  exact r_retz f_107_62 rfl o1 k2

theorem g_C_talks_0 {Q : PQ} {h : HP} {x1 : Int} 
    (k1 : ¬ (0 ≤ x1 ∧ x1 ≤ (h 5 2)) → Q (some (vi (-1))) (hs h 0 0 1))
    (k2 : (0 ≤ x1 ∧ x1 ≤ (h 5 2)) → x1 ≤ 300 → Wp true i_To_begin 0 [vr 5, vi x1] [] h (fun r h' => Wp true i_C_talks 36 [vr 0, vi x1, vr 9999] (r.toList ++ []) h' Q))
    (k3 : (0 ≤ x1 ∧ x1 ≤ (h 5 2)) → ¬ x1 ≤ 300 → Q (some (vi (-1))) (hs h 0 0 1)) :
    Wp true i_C_talks 0 [vr 0, vi x1, vr 9999] [] h Q := by
  refine r_iload_n (v := x1) f_151_0 rfl ?_
  refine r_iconst f_151_1 (by decide) ?_
  refine r_aload_n (v := 0) f_151_2 rfl (by decide) ?_
  refine r_getr (q := 5) f_151_3 rfl (by decide) (Or.inl rfl) rfl ?_
  refine r_geti (v := h 5 2) f_151_6 rfl (by decide) rfl ?_
  refine r_calls (as := [vi x1, vi 0, vi (h 5 2)]) (st' := []) (ls0 := [vi x1, vi 0, vi (h 5 2)]) f_151_9 (by decide) (by decide) rfl rfl (Nat.le_of_ble_eq_true rfl) (Nat.le_of_ble_eq_true rfl) rfl ?_
  refine c_C_within  ?_
  show Wp true i_C_talks 12 [vr 0, vi x1, vr 9999] [vi (bi (0 ≤ x1 ∧ x1 ≤ (h 5 2)))] h Q
  refine r_br (t := 22) f_151_12 rfl cb_bf (fun c1 => ?_) (fun c1 => ?_)
  · refine r_aload_n (v := 0) f_151_22 rfl (by decide) ?_
    refine r_iconst f_151_23 (by decide) ?_
    refine r_callv (as := [vr 0, vi 1]) (st' := []) (ls0 := [vr 0, vi 1]) f_151_24 (by decide) rfl rfl (Nat.le_of_ble_eq_true rfl) (Nat.le_of_ble_eq_true rfl) ⟨_, _, rfl, rfl⟩ rfl ?_
    refine c_C_refuse  ?_
    show Wp true i_C_talks 27 [vr 0, vi x1, vr 9999] [vi (-1)] (hs h 0 0 1) Q
    exact r_reti f_151_27 rfl (k1 c1)
  · have c1 := Decidable.not_not.mp c1
    refine r_iload_n (v := x1) f_151_15 rfl ?_
    refine r_sipush f_151_16 (by decide) ?_
    refine r_br2 (t := 28) f_151_19 rfl cb_le (fun c2 => ?_) (fun c2 => ?_)
    · refine r_aload_n (v := 0) f_151_28 rfl (by decide) ?_
      refine r_getr (q := 5) f_151_29 rfl (by decide) (Or.inl rfl) rfl ?_
      refine r_iload_n (v := x1) f_151_32 rfl ?_
      exact r_callv (as := [vr 5, vi x1]) (st' := []) (ls0 := [vr 5, vi x1]) f_151_33 (by decide) rfl rfl (Nat.le_of_ble_eq_true rfl) (Nat.le_of_ble_eq_true rfl) ⟨_, _, rfl, rfl⟩ rfl (k2 c1 c2)
    · refine r_aload_n (v := 0) f_151_22 rfl (by decide) ?_
      refine r_iconst f_151_23 (by decide) ?_
      refine r_callv (as := [vr 0, vi 1]) (st' := []) (ls0 := [vr 0, vi 1]) f_151_24 (by decide) rfl rfl (Nat.le_of_ble_eq_true rfl) (Nat.le_of_ble_eq_true rfl) ⟨_, _, rfl, rfl⟩ rfl ?_
      refine c_C_refuse  ?_
      show Wp true i_C_talks 27 [vr 0, vi x1, vr 9999] [vi (-1)] (hs h 0 0 1) Q
      exact r_reti f_151_27 rfl (k3 c1 c2)

theorem g_C_talks_36 {Q : PQ} {h : HP} {x1 : Int} 
    (k1 : Wp true i_Tr_readAll 0 [vr 9, vr 5, vr 10, vr 32, vr 9999] [] h (fun r h' => Wp true i_C_talks 55 [vr 0, vi x1, vr 9999] (r.toList ++ []) h' Q)) :
    Wp true i_C_talks 36 [vr 0, vi x1, vr 9999] [] h Q := by
  refine r_aload_n (v := 0) f_151_36 rfl (by decide) ?_
  refine r_getr (q := 9) f_151_37 rfl (by decide) (Or.inl rfl) rfl ?_
  refine r_aload_n (v := 0) f_151_40 rfl (by decide) ?_
  refine r_getr (q := 5) f_151_41 rfl (by decide) (Or.inl rfl) rfl ?_
  refine r_aload_n (v := 0) f_151_44 rfl (by decide) ?_
  refine r_getr (q := 10) f_151_45 rfl (by decide) (Or.inl rfl) rfl ?_
  refine r_aload_n (v := 0) f_151_48 rfl (by decide) ?_
  refine r_getr (q := 32) f_151_49 rfl (by decide) (Or.inl rfl) rfl ?_
  exact r_callv (as := [vr 9, vr 5, vr 10, vr 32]) (st' := []) (ls0 := [vr 9, vr 5, vr 10, vr 32, vr 9999]) f_151_52 (by decide) rfl rfl (Nat.le_of_ble_eq_true rfl) (Nat.le_of_ble_eq_true rfl) ⟨_, _, rfl, rfl⟩ rfl k1

theorem g_C_talks_55 {Q : PQ} {h : HP} {x1 : Int} {s0 : Int} 
    (k1 : Wp true i_To_emptyTape 0 [vr 5] [] h (fun r h' => Wp true i_C_talks 63 [vr 0, vi x1, vi s0] (r.toList ++ []) h' Q)) :
    Wp true i_C_talks 55 [vr 0, vi x1, vr 9999] [vi s0] h Q := by
  refine r_istore_n (ls' := [vr 0, vi x1, vi s0]) f_151_55 (Nat.le_of_ble_eq_true rfl) rfl ?_
  refine r_aload_n (v := 0) f_151_56 rfl (by decide) ?_
  refine r_getr (q := 5) f_151_57 rfl (by decide) (Or.inl rfl) rfl ?_
  exact r_callv (as := [vr 5]) (st' := []) (ls0 := [vr 5]) f_151_60 (by decide) rfl rfl (Nat.le_of_ble_eq_true rfl) (Nat.le_of_ble_eq_true rfl) ⟨_, _, rfl, rfl⟩ rfl k1

theorem g_C_talks_63 {Q : PQ} {h : HP} {x1 : Int} {x2 : Int} 
    (k1 : ¬ x2 = 0 → Wp true i_Ta_become 0 [vr 26, vr 32] [] h (fun r h' => Wp true i_C_talks 85 [vr 0, vi x1, vi x2] (r.toList ++ []) h' Q))
    (k2 : x2 = 0 → Q (some (vi (-1))) (hs h 0 0 9)) :
    Wp true i_C_talks 63 [vr 0, vi x1, vi x2] [] h Q := by
  refine r_iload_n (v := x2) f_151_63 rfl ?_
  refine r_br (t := 74) f_151_64 rfl cb_ne (fun c1 => ?_) (fun c1 => ?_)
  · refine r_aload_n (v := 0) f_151_74 rfl (by decide) ?_
    refine r_getr (q := 26) f_151_75 rfl (by decide) (Or.inl rfl) rfl ?_
    refine r_aload_n (v := 0) f_151_78 rfl (by decide) ?_
    refine r_getr (q := 32) f_151_79 rfl (by decide) (Or.inl rfl) rfl ?_
    exact r_callv (as := [vr 26, vr 32]) (st' := []) (ls0 := [vr 26, vr 32]) f_151_82 (by decide) rfl rfl (Nat.le_of_ble_eq_true rfl) (Nat.le_of_ble_eq_true rfl) ⟨_, _, rfl, rfl⟩ rfl (k1 c1)
  · have c1 := Decidable.not_not.mp c1
    refine r_aload_n (v := 0) f_151_67 rfl (by decide) ?_
    refine r_bipush f_151_68 (by decide) ?_
    refine r_callv (as := [vr 0, vi 9]) (st' := []) (ls0 := [vr 0, vi 9]) f_151_70 (by decide) rfl rfl (Nat.le_of_ble_eq_true rfl) (Nat.le_of_ble_eq_true rfl) ⟨_, _, rfl, rfl⟩ rfl ?_
    refine c_C_refuse  ?_
    show Wp true i_C_talks 73 [vr 0, vi x1, vi x2] [vi (-1)] (hs h 0 0 9) Q
    exact r_reti f_151_73 rfl (k2 c1)

theorem g_C_talks_85 {Q : PQ} {h : HP} {x1 : Int} {x2 : Int} 
    (k1 : Q (some (vi (h 26 1))) (hs h 0 0 0)) :
    Wp true i_C_talks 85 [vr 0, vi x1, vi x2] [] h Q := by
  refine r_aload_n (v := 0) f_151_85 rfl (by decide) ?_
  refine r_aload_n (v := 0) f_151_86 rfl (by decide) ?_
  refine r_getr (q := 26) f_151_87 rfl (by decide) (Or.inl rfl) rfl ?_
  refine r_geti (v := h 26 1) f_151_90 rfl (by decide) rfl ?_
  refine r_callv (as := [vr 0, vi (h 26 1)]) (st' := []) (ls0 := [vr 0, vi (h 26 1)]) f_151_93 (by decide) rfl rfl (Nat.le_of_ble_eq_true rfl) (Nat.le_of_ble_eq_true rfl) ⟨_, _, rfl, rfl⟩ rfl ?_
  refine c_C_answer  ?_
  show Wp true i_C_talks 96 [vr 0, vi x1, vi x2] [vi (h 26 1)] (hs h 0 0 0) Q
  exact r_reti f_151_96 rfl k1

/-! ===== the class reads TALKS ===== -/
def Chn (P : Nat → Int) : List Nat → Int → Prop
  | [], v => v = -1
  | o :: st, v => v = o ∧ Chn P st (P o)
theorem Chn_c {P P' : Nat → Int} : ∀ st v, (∀ o ∈ st, P' o = P o) → Chn P st v → Chn P' st v
  | [], _, _, h => h
  | o :: st, v, e, h => ⟨h.1, by rw [e o List.mem_cons_self]; exact Chn_c st _ (fun o' ho => e o' (List.mem_cons_of_mem _ ho)) h.2⟩
def TCe (X T : HP) (e : Nat) : Prop := wdM (X 33 e) = T 0 e ∧ X 34 e = T 1 e ∧ (if X 33 e = 16 ∨ X 33 e = 17 then X 36 e else X 35 e) = T 2 e ∧ (if X 33 e = 16 ∨ X 33 e = 17 then 0 else X 36 e) = T 3 e ∧ (if X 33 e = 16 ∨ X 33 e = 17 then X 35 e else 0) = T 5 e ∧ ((16 ≤ X 33 e ∧ X 33 e ≤ 20) ↔ (isO (T 0 e) ∨ T 0 e = 17))
def TC (X T : HP) (m c : Nat) (st : List Nat) : Prop := X 32 1 = c ∧ X 32 2 = m ∧ X 9 0 = st.length ∧ Chn (X 37) st (X 9 1) ∧ ∀ e, e < m → TCe X T e ∧ ((isO (T 0 e) ∨ T 0 e = 17) → e ∉ st → X 37 e = T 4 e)
theorem TC_fin {X T R : HP} {m c : Nat} (C : TC X T m c []) (W : WP T m c [] R) : tkC X 32 = T := by
  obtain ⟨-, c2, -, -, ce⟩ := C
  obtain ⟨-, -, -, -, -, -, -, a7, a8⟩ := W
  funext k e
  unfold tkC
  rw [c2]
  by_cases z : (e : Int) < m
  · rw [if_pos z]
    obtain ⟨⟨b1, b2, b3, b4, b5, b6⟩, b7⟩ := ce e (by omega)
    rcases (show k = 0 ∨ k = 1 ∨ k = 2 ∨ k = 3 ∨ k = 4 ∨ k = 5 ∨ 6 ≤ k by omega) with rfl | rfl | rfl | rfl | rfl | rfl | k6
    · exact b1
    · exact b2
    · exact b3
    · exact b4
    · show (if 16 ≤ X 33 e ∧ X 33 e ≤ 20 then X 37 e else 0) = T 4 e
      by_cases y : 16 ≤ X 33 e ∧ X 33 e ≤ 20
      · rw [if_pos y]; exact b7 (b6.mp y) List.not_mem_nil
      · rw [if_neg y]
        have ny : ¬ (isO (T 0 e) ∨ T 0 e = 17) := fun q => y (b6.mpr q)
        exact (a8 e (by omega) (fun q => ny (Or.inl q)) (fun q => ny (Or.inr q))).symm
    · exact b5
    · rw [if_neg (by omega), if_neg (by omega), if_neg (by omega), if_neg (by omega), if_neg (by omega), if_neg (by omega), a7 k e (Or.inr k6)]
  · rw [if_neg z, a7 k e (by omega)]
def cw (w : Int) : Int := if w = 13 then 14 else if w = 16 then 19 else if w = 18 then 21 else if w = 1519 then 16 else if w = 1520 then 17 else if w = 1521 then 18 else w
def addC (X : HP) (m : Nat) (w a b c : Int) : HP := hs (hs (hs (hs (hs (hs X 33 m w) 34 m a) 35 m b) 36 m c) 37 m (-1)) 32 2 ((m : Int) + 1)
def addX (X : HP) (m : Nat) (x : EN) : HP := addC X m (cw x.1) x.2.1 (if x.1 = 1519 ∨ x.1 = 1520 then x.2.2.2.2 else x.2.2.1) (if x.1 = 1519 ∨ x.1 = 1520 then x.2.2.1 else x.2.2.2.1)
def nE (x : EN) : Prop := ((x.1 = 1519 ∨ x.1 = 1520) ∧ x.2.2.2.1 = 0) ∨ (¬ (x.1 = 1519 ∨ x.1 = 1520) ∧ x.2.2.2.2 = 0)
theorem hd_T {α : Type} {x : PR α} {K : α → Prop} (h : ∀ a, K a) : hd x (fun _ _ => True) K := by
  rcases x with ⟨k, p⟩ | a
  · trivial
  · exact h a
theorem sOrd_n {B : Bt} {n s : Nat} {w : Int} {R : HP} {N : NT} : hd (sOrd B n w s R N) (fun _ _ => True) (fun a => nE a.2) := by
  unfold sOrd
  split
  · exact hd_bd.mpr (hd_T fun a => hd_bd.mpr (hd_T fun b => hd_bd.mpr (hd_T fun c => Or.inr ⟨by show ¬ ((9 : Int) = 1519 ∨ (9 : Int) = 1520); decide, rfl⟩)))
  · split
    · exact hd_bd.mpr (hd_T fun a => Or.inr ⟨by show ¬ ((11 : Int) = 1519 ∨ (11 : Int) = 1520); decide, rfl⟩)
    · split
      · exact hd_bd.mpr (hd_T fun t => hd_bd.mpr (hd_T fun s2 => hd_bd.mpr (hd_T fun b => hd_bd.mpr (hd_T fun c => Or.inr ⟨by show ¬ ((12 : Int) = 1519 ∨ (12 : Int) = 1520); decide, rfl⟩))))
      · split
        · exact hd_bd.mpr (hd_T fun a => Or.inr ⟨by show ¬ ((13 : Int) = 1519 ∨ (13 : Int) = 1520); decide, rfl⟩)
        · split
          · unfold sTest
            split
            · refine hd_bd.mpr (hd_T fun l => ?_)
              split
              · exact hd_bd.mpr (hd_T fun t => Or.inr ⟨by show ¬ ((1521 : Int) = 1519 ∨ (1521 : Int) = 1520); decide, rfl⟩)
              · unfold sCmp
                split
                · exact hd_bd.mpr (hd_T fun v => Or.inl ⟨by show 1503 + tW B n s = 1519 ∨ 1503 + tW B n s = 1520; omega, rfl⟩)
                · trivial
            · trivial
          · split
            · exact hd_bd.mpr (hd_T fun a => Or.inr ⟨by show ¬ ((16 : Int) = 1519 ∨ (16 : Int) = 1520); decide, rfl⟩)
            · refine Or.inr ⟨?_, rfl⟩
              show ¬ ((if w = 10 then (10 : Int) else 18) = 1519 ∨ (if w = 10 then (10 : Int) else 18) = 1520)
              split <;> decide
section
variable {X T R : HP} {m c : Nat} {st : List Nat}
theorem addC_f {w a b d : Int} : (∀ k, k ≠ 32 → ¬ (33 ≤ k ∧ k < 38) → addC X m w a b d k = X k) ∧ (∀ i, i ≠ 2 → addC X m w a b d 32 i = X 32 i) ∧ addC X m w a b d 32 2 = (m : Int) + 1 ∧ (∀ k e, 33 ≤ k → k < 38 → e ≠ m → addC X m w a b d k e = X k e) ∧ addC X m w a b d 33 m = w ∧ addC X m w a b d 34 m = a ∧ addC X m w a b d 35 m = b ∧ addC X m w a b d 36 m = d ∧ addC X m w a b d 37 m = -1 := by
  unfold addC
  refine ⟨fun k k1 k2 => ?_, fun i hi => ?_, hs_s, fun k e k1 k2 he => ?_, ?_, ?_, ?_, ?_, ?_⟩
  · rw [hs_ne k1, hs_ne (by omega), hs_ne (by omega), hs_ne (by omega), hs_ne (by omega), hs_ne (by omega)]
  · rw [hs_o (Or.inr hi), hs_ne (by decide), hs_ne (by decide), hs_ne (by decide), hs_ne (by decide), hs_ne (by decide)]
  · rw [hs_ne (by omega), hs_o (Or.inr he), hs_o (Or.inr he), hs_o (Or.inr he), hs_o (Or.inr he), hs_o (Or.inr he)]
  · rw [hs_ne (by decide), hs_ne (by decide), hs_ne (by decide), hs_ne (by decide), hs_ne (by decide), hs_s]
  · rw [hs_ne (by decide), hs_ne (by decide), hs_ne (by decide), hs_ne (by decide), hs_s]
  · rw [hs_ne (by decide), hs_ne (by decide), hs_ne (by decide), hs_s]
  · rw [hs_ne (by decide), hs_ne (by decide), hs_s]
  · rw [hs_ne (by decide), hs_s]
theorem TCe_new {x : EN} (ok : okEn R x) (nx' : nE x) : TCe (addX X m x) (tAdd T m x) m := by
  obtain ⟨-, -, -, -, f33, f34, f35, f36, -⟩ := addC_f (X := X) (m := m) (w := cw x.1) (a := x.2.1) (b := if x.1 = 1519 ∨ x.1 = 1520 then x.2.2.2.2 else x.2.2.1) (d := if x.1 = 1519 ∨ x.1 = 1520 then x.2.2.1 else x.2.2.2.1)
  unfold TCe addX
  rw [f33, f34, f35, f36]
  have t0 : tAdd T m x 0 m = x.1 := by simp [tAdd]
  have t1 : tAdd T m x 1 m = x.2.1 := by simp [tAdd]
  have t2 : tAdd T m x 2 m = x.2.2.1 := by simp [tAdd]
  have t3 : tAdd T m x 3 m = x.2.2.2.1 := by simp [tAdd]
  have t5 : tAdd T m x 5 m = x.2.2.2.2 := by simp [tAdd]
  rw [t0, t1, t2, t3, t5]
  have wc : x.1 = 9 ∨ x.1 = 10 ∨ x.1 = 11 ∨ x.1 = 12 ∨ x.1 = 13 ∨ x.1 = 18 ∨ x.1 = 16 ∨ x.1 = 1519 ∨ x.1 = 1520 ∨ x.1 = 1521 := by
    unfold okEn at ok
    omega
  have e1 : ¬ (x.1 = 1519 ∨ x.1 = 1520) → x.2.2.2.2 = 0 := by
    intro z
    rcases nx' with q | q
    · exact absurd q.1 z
    · exact q.2
  have e2 : (x.1 = 1519 ∨ x.1 = 1520) → x.2.2.2.1 = 0 := by
    intro z
    rcases nx' with q | q
    · exact q.2
    · exact absurd z q.1
  have key : ∀ w : Int, x.1 = w → (w = 9 ∨ w = 10 ∨ w = 11 ∨ w = 12 ∨ w = 13 ∨ w = 18 ∨ w = 16 ∨ w = 1521) → wdM (cw w) = w → ¬ (cw w = 16 ∨ cw w = 17) → ((16 ≤ cw w ∧ cw w ≤ 20) ↔ (isO w ∨ w = 17)) →
      wdM (cw x.1) = x.1 ∧ x.2.1 = x.2.1 ∧ (if cw x.1 = 16 ∨ cw x.1 = 17 then (if x.1 = 1519 ∨ x.1 = 1520 then x.2.2.1 else x.2.2.2.1) else (if x.1 = 1519 ∨ x.1 = 1520 then x.2.2.2.2 else x.2.2.1)) = x.2.2.1 ∧ (if cw x.1 = 16 ∨ cw x.1 = 17 then 0 else (if x.1 = 1519 ∨ x.1 = 1520 then x.2.2.1 else x.2.2.2.1)) = x.2.2.2.1 ∧ (if cw x.1 = 16 ∨ cw x.1 = 17 then (if x.1 = 1519 ∨ x.1 = 1520 then x.2.2.2.2 else x.2.2.1) else 0) = x.2.2.2.2 ∧ ((16 ≤ cw x.1 ∧ cw x.1 ≤ 20) ↔ (isO x.1 ∨ x.1 = 17)) := by
    intro w ew hw h1 h2 h3
    rw [ew] at e1 ⊢
    have nw : ¬ (w = 1519 ∨ w = 1520) := by omega
    rw [if_neg h2, if_neg h2, if_neg h2, if_neg nw, if_neg nw]
    exact ⟨h1, rfl, rfl, rfl, (e1 nw).symm, h3⟩
  have key2 : ∀ w : Int, x.1 = w → (w = 1519 ∨ w = 1520) → wdM (cw w) = w → (cw w = 16 ∨ cw w = 17) → ((16 ≤ cw w ∧ cw w ≤ 20) ↔ (isO w ∨ w = 17)) →
      wdM (cw x.1) = x.1 ∧ x.2.1 = x.2.1 ∧ (if cw x.1 = 16 ∨ cw x.1 = 17 then (if x.1 = 1519 ∨ x.1 = 1520 then x.2.2.1 else x.2.2.2.1) else (if x.1 = 1519 ∨ x.1 = 1520 then x.2.2.2.2 else x.2.2.1)) = x.2.2.1 ∧ (if cw x.1 = 16 ∨ cw x.1 = 17 then 0 else (if x.1 = 1519 ∨ x.1 = 1520 then x.2.2.1 else x.2.2.2.1)) = x.2.2.2.1 ∧ (if cw x.1 = 16 ∨ cw x.1 = 17 then (if x.1 = 1519 ∨ x.1 = 1520 then x.2.2.2.2 else x.2.2.1) else 0) = x.2.2.2.2 ∧ ((16 ≤ cw x.1 ∧ cw x.1 ≤ 20) ↔ (isO x.1 ∨ x.1 = 17)) := by
    intro w ew hw h1 h2 h3
    rw [ew] at e2 ⊢
    rw [if_pos h2, if_pos h2, if_pos h2, if_pos hw, if_pos hw]
    exact ⟨h1, rfl, rfl, (e2 hw).symm, rfl, h3⟩
  rcases wc with z | z | z | z | z | z | z | z | z | z
  · exact key 9 z (by decide) (by decide) (by decide) (by decide)
  · exact key 10 z (by decide) (by decide) (by decide) (by decide)
  · exact key 11 z (by decide) (by decide) (by decide) (by decide)
  · exact key 12 z (by decide) (by decide) (by decide) (by decide)
  · exact key 13 z (by decide) (by decide) (by decide) (by decide)
  · exact key 18 z (by decide) (by decide) (by decide) (by decide)
  · exact key 16 z (by decide) (by decide) (by decide) (by decide)
  · exact key2 1519 z (by decide) (by decide) (by decide) (by decide)
  · exact key2 1520 z (by decide) (by decide) (by decide) (by decide)
  · exact key 1521 z (by decide) (by decide) (by decide) (by decide)
theorem TCe_c {Y T' : HP} {e : Nat} (h : TCe X T e) (ex : ∀ k, 33 ≤ k → k < 37 → Y k e = X k e) (et : ∀ k, k ≠ 4 → T' k e = T k e) : TCe Y T' e := by
  unfold TCe
  rw [ex 33 (by decide) (by decide), ex 34 (by decide) (by decide), ex 35 (by decide) (by decide), ex 36 (by decide) (by decide), et 0 (by decide), et 1 (by decide), et 2 (by decide), et 3 (by decide), et 5 (by decide)]
  exact h
/-- a STEP that opens nothing -/
theorem TC_add {x : EN} (C : TC X T m c st) (W : WP T m c st R) (ok : okEn R x) (nx' : nE x) (no : ¬ isO x.1) : TC (addX (hs X 32 1 ((c : Int) + 1)) m x) (tAdd T m x) (m + 1) (c + 1) st := by
  obtain ⟨c1, c2, c3, c4, ce⟩ := C
  obtain ⟨f1, f2, f3, f4, -, -, -, -, f37⟩ := addC_f (X := hs X 32 1 ((c : Int) + 1)) (m := m) (w := cw x.1) (a := x.2.1) (b := if x.1 = 1519 ∨ x.1 = 1520 then x.2.2.2.2 else x.2.2.1) (d := if x.1 = 1519 ∨ x.1 = 1520 then x.2.2.1 else x.2.2.2.1)
  have n17 := okEn_17 ok
  have ol := Opn_lt st W.2.1
  refine ⟨?_, f3, ?_, ?_, fun e he => ?_⟩
  · show addC _ _ _ _ _ _ 32 1 = _
    rw [f2 1 (by decide), hs_s]; omega
  · show addC _ _ _ _ _ _ 9 0 = _
    rw [f1 9 (by decide) (by decide), hs_ne (by decide)]; exact c3
  · show Chn (addC _ _ _ _ _ _ 37) st (addC _ _ _ _ _ _ 9 1)
    rw [f1 9 (by decide) (by decide), hs_ne (by decide)]
    refine Chn_c st _ (fun o ho => ?_) c4
    rw [f4 37 o (by decide) (by decide) (by have := (ol o ho).1; omega), hs_ne (by decide)]
  · by_cases z : e = m
    · subst z
      refine ⟨TCe_new ok nx', fun q => ?_⟩
      have t0 : tAdd T e x 0 e = x.1 := by simp [tAdd]
      rw [t0] at q
      rcases q with q | q
      · exact absurd q no
      · exact absurd q n17
    · have ce := ce e (by omega)
      have t : ∀ k, tAdd T m x k e = T k e := fun k => if_neg z
      refine ⟨TCe_c ce.1 (fun k k1 k2 => ?_) (fun k _ => t k), fun q hn => ?_⟩
      · show addC _ _ _ _ _ _ k e = X k e
        rw [f4 k e k1 (by omega) z, hs_ne (by omega)]
      · rw [t 0] at q
        show addC _ _ _ _ _ _ 37 e = _
        rw [f4 37 e (by decide) (by decide) z, hs_ne (by decide), t 4]; exact ce.2 q hn
/-- a STEP that has an end -/
theorem TC_open {x : EN} (C : TC X T m c st) (W : WP T m c st R) (ok : okEn R x) (nx' : nE x) : TC (hs (hs (hs (addX (hs X 32 1 ((c : Int) + 1)) m x) 37 m (X 9 1)) 9 1 (m : Int)) 9 0 ((st.length : Int) + 1)) (tAdd T m x) (m + 1) (c + 1) (m :: st) := by
  obtain ⟨c1, c2, c3, c4, ce⟩ := C
  obtain ⟨f1, f2, f3, f4, -, -, -, -, f37⟩ := addC_f (X := hs X 32 1 ((c : Int) + 1)) (m := m) (w := cw x.1) (a := x.2.1) (b := if x.1 = 1519 ∨ x.1 = 1520 then x.2.2.2.2 else x.2.2.1) (d := if x.1 = 1519 ∨ x.1 = 1520 then x.2.2.1 else x.2.2.2.1)
  have ol := Opn_lt st W.2.1
  have g32 : (hs (hs (hs (addX (hs X 32 1 ((c : Int) + 1)) m x) 37 m (X 9 1)) 9 1 (m : Int)) 9 0 ((st.length : Int) + 1)) 32 = addX (hs X 32 1 ((c : Int) + 1)) m x 32 := by rw [hs_ne (by decide), hs_ne (by decide), hs_ne (by decide)]
  have gk : ∀ k e, 33 ≤ k → k < 37 → (hs (hs (hs (addX (hs X 32 1 ((c : Int) + 1)) m x) 37 m (X 9 1)) 9 1 (m : Int)) 9 0 ((st.length : Int) + 1)) k e = addX (hs X 32 1 ((c : Int) + 1)) m x k e := fun k e k1 k2 => by rw [hs_ne (by omega), hs_ne (by omega), hs_ne (by omega)]
  have g37 : ∀ e, e ≠ m → (hs (hs (hs (addX (hs X 32 1 ((c : Int) + 1)) m x) 37 m (X 9 1)) 9 1 (m : Int)) 9 0 ((st.length : Int) + 1)) 37 e = X 37 e := fun e he => by
    rw [hs_ne (by decide), hs_ne (by decide), hs_o (Or.inr he)]
    show addC _ _ _ _ _ _ 37 e = _
    rw [f4 37 e (by decide) (by decide) he, hs_ne (by decide)]
  refine ⟨?_, ?_, ?_, ?_, fun e he => ?_⟩
  · rw [g32]
    show addC _ _ _ _ _ _ 32 1 = _
    rw [f2 1 (by decide), hs_s]; omega
  · rw [g32]; exact f3
  · rw [hs_s, List.length_cons]; omega
  · refine ⟨?_, ?_⟩
    · rw [hs_o (by decide), hs_s]
    · have e : (hs (hs (hs (addX (hs X 32 1 ((c : Int) + 1)) m x) 37 m (X 9 1)) 9 1 (m : Int)) 9 0 ((st.length : Int) + 1)) 37 m = X 9 1 := by rw [hs_ne (by decide), hs_ne (by decide), hs_s]
      rw [e]
      exact Chn_c st _ (fun o ho => g37 o (by have := (ol o ho).1; omega)) c4
  · by_cases z : e = m
    · subst z
      refine ⟨TCe_c (TCe_new (X := hs X 32 1 ((c : Int) + 1)) (T := T) ok nx') (fun k k1 k2 => gk k e k1 k2) (fun k _ => rfl), fun _ hn => absurd List.mem_cons_self hn⟩
    · have ce := ce e (by omega)
      have t : ∀ k, tAdd T m x k e = T k e := fun k => if_neg z
      refine ⟨TCe_c ce.1 (fun k k1 k2 => ?_) (fun k _ => t k), fun q hn => ?_⟩
      · rw [gk k e k1 k2]
        show addC _ _ _ _ _ _ k e = X k e
        rw [f4 k e k1 (by omega) z, hs_ne (by omega)]
      · rw [t 0] at q
        rw [g37 e z, t 4]
        exact ce.2 q (fun y => hn (List.mem_cons_of_mem _ y))
/-- an end -/
theorem TC_end {o : Nat} (C : TC X T m c (o :: st)) (W : WP T m c (o :: st) R) : TC (hs (hs (hs (hs (addC X m 20 0 0 0) 9 1 (X 37 o)) 37 o (m : Int)) 37 m (o : Int)) 9 0 (st.length : Int)) (tEnd T m o) (m + 1) c st := by
  obtain ⟨c1, c2, c3, c4, ce⟩ := C
  obtain ⟨f1, f2, f3, f4, f33, f34, f35, f36, f37⟩ := addC_f (X := X) (m := m) (w := 20) (a := 0) (b := 0) (d := 0)
  have wo := W.2.1
  obtain ⟨⟨b1, b2, b3, b4, b5⟩, b6⟩ := wo
  have b2' : isO (T 0 o) := b2
  have gk : ∀ k e, 32 ≤ k → k < 37 → (hs (hs (hs (hs (addC X m 20 0 0 0) 9 1 (X 37 o)) 37 o (m : Int)) 37 m (o : Int)) 9 0 (st.length : Int)) k e = addC X m 20 0 0 0 k e := fun k e k1 k2 => by rw [hs_ne (by omega), hs_ne (by omega), hs_ne (by omega), hs_ne (by omega)]
  have g37 : ∀ e, e ≠ m → e ≠ o → (hs (hs (hs (hs (addC X m 20 0 0 0) 9 1 (X 37 o)) 37 o (m : Int)) 37 m (o : Int)) 9 0 (st.length : Int)) 37 e = X 37 e := fun e h1 h2 => by
    rw [hs_ne (by decide), hs_o (Or.inr h1), hs_o (Or.inr h2), hs_ne (by decide), f4 37 e (by decide) (by decide) h1]
  refine ⟨?_, ?_, ?_, ?_, fun e he => ?_⟩
  · rw [gk 32 1 (by decide) (by decide), f2 1 (by decide)]; exact c1
  · rw [gk 32 2 (by decide) (by decide)]; exact f3
  · exact hs_s
  · have e1 : (hs (hs (hs (hs (addC X m 20 0 0 0) 9 1 (X 37 o)) 37 o (m : Int)) 37 m (o : Int)) 9 0 (st.length : Int)) 9 1 = X 37 o := by rw [hs_o (by decide), hs_ne (by decide), hs_ne (by decide), hs_s]
    rw [e1]
    refine Chn_c st _ (fun o' ho => g37 o' ?_ ?_) c4.2
    · have := b5 o' ho; omega
    · have := b5 o' ho; omega
  · by_cases z : e = m
    · subst z
      refine ⟨?_, fun _ _ => ?_⟩
      · unfold TCe
        rw [gk 33 e (by decide) (by decide), gk 34 e (by decide) (by decide), gk 35 e (by decide) (by decide), gk 36 e (by decide) (by decide), f33, f34, f35, f36]
        have t0 : tEnd T e o 0 e = 17 := by simp [tEnd]
        have t1 : tEnd T e o 1 e = 0 := by simp [tEnd]
        have t2 : tEnd T e o 2 e = 0 := by simp [tEnd]
        have t3 : tEnd T e o 3 e = 0 := by simp [tEnd]
        have t5 : tEnd T e o 5 e = 0 := by simp [tEnd]
        rw [t0, t1, t2, t3, t5]
        exact ⟨by decide, rfl, by decide, by decide, by decide, by decide⟩
      · rw [hs_ne (by decide), hs_s]
        have t4 : tEnd T e o 4 e = o := by simp [tEnd]
        rw [t4]
    · have ce := ce e (by omega)
      have t : ∀ k, k ≠ 4 → tEnd T m o k e = T k e := fun k hk => by
        unfold tEnd
        rw [if_neg z, if_neg (by omega)]
      refine ⟨TCe_c ce.1 (fun k k1 k2 => ?_) t, fun q hn => ?_⟩
      · rw [gk k e (by omega) k2, f4 k e k1 (by omega) z]
      · rw [t 0 (by decide)] at q
        by_cases eo : e = o
        · subst eo
          rw [hs_ne (by decide), hs_o (Or.inr z), hs_s]
          unfold tEnd
          rw [if_neg z, if_pos ⟨rfl, rfl⟩]
        · rw [g37 e z eo]
          have : tEnd T m o 4 e = T 4 e := by
            unfold tEnd
            rw [if_neg z, if_neg (by omega)]
          rw [this]
          exact ce.2 q (by simp only [List.mem_cons, not_or]; exact ⟨eo, hn⟩)
end
/-! the readers -/
def RC (X R : HP) (N : NT) : Prop := X 10 0 = R 0 0 ∧ X 10 1 = R 0 1 ∧ X 10 3 = R 0 3 ∧ ∀ i : Nat, (i : Int) < R 0 3 → X 13 i = nm32 (N i) ∧ ∀ c ∈ N i, 1 ≤ c ∧ c ≤ 26
def FaX (H X g : HP) (fk : Int) (fp : Nat) : Prop := FaC H g fk fp ∧ ∀ k, k ≠ 5 → g k = X k
section
variable {Q : PQ} {h H X R : HP} {B : Bt} {n s m : Nat} {N : NT}
theorem RC_g {g : HP} (C : RC H R N) (F : FX H X) (e : EC X g) : RC g R N := by
  have e1 : g 10 = H 10 := (e.1 10 (by decide)).trans (F 10 (by unfold scC; omega))
  have e3 : g 13 = H 13 := (e.1 13 (by decide)).trans (F 13 (by unfold scC; omega))
  unfold RC
  rw [e1, e3]; exact C
theorem FaX_of {g : HP} {fk : Int} {fp : Nat} (F : FX H X) (e : EC X h) (f : FtC h g fk fp) : FaX H X g fk fp := ⟨FaC_of F e f, fun k hk => (f.2.2.2 k hk).trans (e.1 k hk)⟩
theorem sc32 {j : Nat} (h : j < 6) : scC (32 + j) := Or.inr (Or.inr (Or.inr (by omega)))
theorem sc9 : scC 9 := Or.inr (Or.inl rfl)
theorem c4_num {lo hi : Int} (F : FX H X) (S : St B n s X h) (lo0 : 0 ≤ lo) (k : hd (sNum B n s lo hi) (fun fk fp => ∀ g, FaX H X g fk fp → Q (some (vi (-1))) g) (fun a => lo ≤ a.1 → a.1 ≤ hi → ∀ g, St B n a.2 X g → Q (some (vi a.1)) g)) : Wp true i_To_takeNumber 0 [vr 5, vi lo, vi hi, vr 9999] [] h Q :=
  c_To_takeNumber S.2 lo0 (hd_m k (fun _ _ q g f => q g (FaX_of F S.1 f)) (fun _ q l1 l2 g S' o => q l1 l2 g ⟨EC_o S.1 o, S'⟩))
theorem c_Ta_add {x1 x2 x3 x4 : Int} (e : h 32 2 = m) (hm : m < 60) (k : Q none (addC h m x1 x2 x3 x4)) : Wp true i_Ta_add 0 [vr 32, vi x1, vi x2, vi x3, vi x4] [] h Q := by
  refine g_Ta_add_0 isT_32 (fun z => by omega) (fun _ => by omega) (fun _ => by omega) (fun _ => ?_)
  rw [e, Int.toNat_natCast]
  exact k
theorem St_add {x1 x2 x3 x4 : Int} (S : St B n s X h) : St B n s (addC X m x1 x2 x3 x4) (addC h m x1 x2 x3 x4) := by
  unfold addC
  exact St_w (St_w (St_w (St_w (St_w (St_w S (by decide)) (by decide)) (by decide)) (by decide)) (by decide)) (by decide)
theorem FX_add {x1 x2 x3 x4 : Int} (F : FX H X) : FX H (addC X m x1 x2 x3 x4) := by
  unfold addC
  exact FX_w (FX_w (FX_w (FX_w (FX_w (FX_w F (sc32 (j := 1) (by decide))) (sc32 (j := 2) (by decide))) (sc32 (j := 3) (by decide))) (sc32 (j := 4) (by decide))) (sc32 (j := 5) (by decide))) (sc32 (j := 0) (by decide))
theorem FaC_add {g : HP} {fk : Int} {fp : Nat} {x1 x2 x3 x4 : Int} (f : FaC H g fk fp) : FaC H (addC g m x1 x2 x3 x4) fk fp := by
  unfold addC
  exact FaC_w (FaC_w (FaC_w (FaC_w (FaC_w (FaC_w f (by decide) (sc32 (j := 1) (by decide))) (by decide) (sc32 (j := 2) (by decide))) (by decide) (sc32 (j := 3) (by decide))) (by decide) (sc32 (j := 4) (by decide))) (by decide) (sc32 (j := 5) (by decide))) (by decide) (sc32 (j := 0) (by decide))
theorem c_Tr_takeThing (F : FX H X) (C : RC H R N) (r3 : 0 ≤ R 0 3 ∧ R 0 3 ≤ 10) (S : St B n s X h) (k : hd (sName B n s R N) (fun fk fp => ∀ g, FaX H X g fk fp → Q (some (vi (-1))) g) (fun a => 0 ≤ a.1 → ∀ g, St B n a.2 X g → Q (some (vi a.1)) g)) : Wp true i_Tr_takeThing 0 [vr 5, vr 10, vr 9999] [] h Q := by
  have Ch := RC_g C F S.1
  unfold sName at k
  refine g_Tr_takeThing_0 isF_10 (c_To_isName S.2 (fun nm e9 => ?_) (fun nn => ?_))
  · rw [if_pos nm] at k
    have okL := isNm_ok nm
    refine g_Tr_takeThing_4 isF_10 (fun _ => c_Fl_thingNamed isF_10 (N := N) (L := tL B n s) e9 okL.2.2 (by rw [Ch.2.2.1]; exact r3) (fun i hi => Ch.2.2.2 i (by rw [Ch.2.2.1] at hi; exact hi)) ?_) (fun z => absurd z (by decide))
    rw [Ch.2.2.1]
    have fr := fnd_at (p := fun i => N i = tL B n s) (R 0 3).toNat 0
    by_cases z : fnd (fun i => N i = tL B n s) (R 0 3).toNat 0 = -1
    · rw [if_pos z] at k
      refine g_Tr_takeThing_23 isF_10 (fun q => by omega) (fun _ => ?_)
      exact c_To_fail S.2 (hd_m k (fun _ _ q g f => g_Tr_takeThing_33 isF_10 (q g (FaX_of F S.1 f))) (fun _ q => q))
    · rw [if_neg z] at k
      have p0 : 0 ≤ fnd (fun i => N i = tL B n s) (R 0 3).toNat 0 := by
        rcases fr with ⟨a, -⟩ | ⟨j, a, -⟩
        · exact absurd a z
        · rw [a]; omega
      exact g_Tr_takeThing_23 isF_10 (fun _ => c2_next S (fun g S' => g_Tr_takeThing_40 isF_10 (k p0 g S'))) (fun q => absurd p0 q)
  · rw [if_neg nn] at k
    exact g_Tr_takeThing_4 isF_10 (fun z => absurd rfl z) (fun _ => c_To_fail S.2 (hd_m k (fun _ _ q g f => g_Tr_takeThing_12 isF_10 (q g (FaX_of F S.1 f))) (fun _ q => q)))
theorem c_Tr_readOne {w lo hi : Int} (F : FX H X) (S : St B n s X h) (lo0 : 0 ≤ lo) (em : X 32 2 = m) (hm : m < 60) (k : hd (sNum B n s lo hi) (fun fk fp => ∀ g, FaC H g fk fp → Q (some (vi 0)) g) (fun a => ∀ g, St B n a.2 (addC X m w a.1 0 0) g → Q (some (vi 1)) g)) : Wp true i_Tr_readOne 0 [vi w, vr 5, vi lo, vi hi, vr 32, vr 9999] [] h Q := by
  refine g_Tr_readOne_0 isT_32 (c2_num F S lo0 (hd_m k (fun fk fp q g f => g_Tr_readOne_6 isT_32 (fun z => absurd z (by decide)) (fun _ => q g f)) (fun a q l1 l2 g S' => ?_)))
  exact g_Tr_readOne_6 isT_32 (fun _ => c_Ta_add (m := m) (by rw [S'.1.1 32 (by decide)]; exact em) hm (g_Tr_readOne_25 isT_32 (q _ (St_add S')))) (fun z => by omega)
theorem c_Tr_readYield (F : FX H X) (C : RC H R N) (r7 : 0 ≤ R 0 1 ∧ R 0 1 ≤ 7) (S : St B n s X h) (em : X 32 2 = m) (hm : m < 60) (k : hd (sNum B n s 0 1) (fun fk fp => ∀ g, FaC H g fk fp → Q (some (vi 0)) g) (fun a => hd (sNum B n a.2 0 (R 0 1 - 1)) (fun fk fp => ∀ g, FaC H g fk fp → Q (some (vi 0)) g) (fun b => hd (sNum B n b.2 1 9) (fun fk fp => ∀ g, FaC H g fk fp → Q (some (vi 0)) g) (fun c => ∀ g, St B n c.2 (addC X m 9 a.1 b.1 c.1) g → Q (some (vi 1)) g)))) : Wp true i_Tr_readYield 0 [vr 5, vr 10, vr 32, vr 9999, vr 9999, vr 9999] [] h Q := by
  refine g_Tr_readYield_0 isF_10 isT_32 (c2_num F S (by decide) (hd_m k (fun fk fp q g f => g_Tr_readYield_6 isF_10 isT_32 (fun z => absurd z (by decide)) (fun z => absurd z (by decide)) (fun _ => q g f)) (fun a q l1 l2 g1 S1 => ?_)))
  have C1 := RC_g C F S1.1
  refine g_Tr_readYield_6 isF_10 isT_32 (fun _ => by rw [C1.2.1]; omega) (fun _ => ?_) (fun z => by omega)
  rw [C1.2.1]
  refine c2_num F S1 (by decide) (hd_m q (fun fk fp q g f => g_Tr_readYield_24 isF_10 isT_32 (fun z => absurd z (by decide)) (fun _ => q g f)) (fun b q l3 l4 g2 S2 => ?_))
  refine g_Tr_readYield_24 isF_10 isT_32 (fun _ => c2_num F S2 (by decide) (hd_m q (fun fk fp q g f => g_Tr_readYield_40 isF_10 isT_32 (fun z => absurd z (by decide)) (fun _ => q g f)) (fun c q l5 l6 g3 S3 => ?_))) (fun z => by omega)
  exact g_Tr_readYield_40 isF_10 isT_32 (fun _ => c_Ta_add (m := m) (by rw [S3.1.1 32 (by decide)]; exact em) hm (g_Tr_readYield_60 isF_10 isT_32 (q _ (St_add S3)))) (fun z => by omega)
theorem c_Tr_readMove (F : FX H X) (C : RC H R N) (W : WR R) (S : St B n s X h) (em : X 32 2 = m) (hm : m < 60) (k : hd (sName B n s R N) (fun fk fp => ∀ g, FaC H g fk fp → Q (some (vi 0)) g) (fun t => hd (sWord B n t.2 13) (fun fk fp => ∀ g, FaC H g fk fp → Q (some (vi 0)) g) (fun s2 => hd (sNum B n s2 0 (R 0 0 - 1)) (fun fk fp => ∀ g, FaC H g fk fp → Q (some (vi 0)) g) (fun b => hd (sNum B n b.2 0 (R 0 1 - 1)) (fun fk fp => ∀ g, FaC H g fk fp → Q (some (vi 0)) g) (fun c => ∀ g, St B n c.2 (addC X m 12 t.1 b.1 c.1) g → Q (some (vi 1)) g))))) : Wp true i_Tr_readMove 0 [vr 5, vr 10, vr 32, vr 9999, vr 9999, vr 9999] [] h Q := by
  have r := W.1
  refine g_Tr_readMove_0 isF_10 isT_32 (c_Tr_takeThing F C (by omega) S (hd_m k (fun fk fp q g f => g_Tr_readMove_5 isF_10 isT_32 (fun _ => q g f.1) (fun z => absurd (by decide) z)) (fun t q p0 g1 S1 => ?_)))
  refine g_Tr_readMove_5 isF_10 isT_32 (fun z => by omega) (fun _ => c2_word F S1 (hd_m q (fun fk fp q g f => g_Tr_readMove_16 isF_10 isT_32 (fun z => absurd rfl z) (fun z => absurd rfl z) (fun _ => q g f)) (fun s2 q g2 S2 => ?_)))
  have C2 := RC_g C F S2.1
  refine g_Tr_readMove_16 isF_10 isT_32 (fun _ => by rw [C2.1]; omega) (fun _ => ?_) (fun z => absurd z (by decide))
  rw [C2.1]
  refine c2_num F S2 (by decide) (hd_m q (fun fk fp q g f => g_Tr_readMove_32 isF_10 isT_32 (fun z => absurd z (by decide)) (fun z => absurd z (by decide)) (fun _ => q g f)) (fun b q l3 l4 g3 S3 => ?_))
  have C3 := RC_g C F S3.1
  refine g_Tr_readMove_32 isF_10 isT_32 (fun _ => by rw [C3.2.1]; omega) (fun _ => ?_) (fun z => by omega)
  rw [C3.2.1]
  refine c2_num F S3 (by decide) (hd_m q (fun fk fp q g f => g_Tr_readMove_52 isF_10 isT_32 (fun z => absurd z (by decide)) (fun _ => q g f)) (fun c q l5 l6 g4 S4 => ?_))
  exact g_Tr_readMove_52 isF_10 isT_32 (fun _ => c_Ta_add (m := m) (by rw [S4.1.1 32 (by decide)]; exact em) hm (g_Tr_readMove_72 isF_10 isT_32 (q _ (St_add S4)))) (fun z => by omega)
theorem c_Tr_readWhen (F : FX H X) (C : RC H R N) (W : WR R) (S : St B n s X h) (em : X 32 2 = m) (hm : m < 60) (k : hd (sTest B n s R N) (fun fk fp => ∀ g, FaC H g fk fp → Q (some (vi 0)) g) (fun a => ∀ g, St B n a.1 (addX X m a.2) g → Q (some (vi 1)) g)) : Wp true i_Tr_readWhen 0 [vr 5, vr 10, vr 32, vr 9999, vr 9999, vr 9999, vr 9999] [] h Q := by
  have r := W.1
  have e6 : h 5 6 = tW B n s := S.2.2.2.2.2.2.1
  unfold sTest at k
  by_cases cw' : 16 ≤ tW B n s ∧ tW B n s ≤ 18
  · rw [if_pos cw'] at k
    have go : Wp true i_To_next 0 [vr 5] [] h (fun r h' => Wp true i_Tr_readWhen 33 [vr 5, vr 10, vr 32, vi (h 5 6), vr 9999, vr 9999, vr 9999] (r.toList ++ []) h' Q) := by
      rw [e6]
      refine c2_next S (fun g1 S1 => g_Tr_readWhen_33 isF_10 isT_32 (c2_num F S1 (by decide) (hd_m (hd_bd.mp k) (fun fk fp q g f => g_Tr_readWhen_39 isF_10 isT_32 (fun z => absurd z (by decide)) (fun z => absurd z (by decide)) (fun z => absurd z (by decide)) (fun _ => q g f)) (fun l q l1 l2 g2 S2 => ?_))))
      by_cases w18 : tW B n s = 18
      · rw [if_pos w18] at q
        refine g_Tr_readWhen_39 isF_10 isT_32 (fun _ z => absurd w18 z) (fun _ z => absurd w18 z) (fun _ _ => ?_) (fun z => by omega)
        refine c_Tr_takeThing F C (by omega) S2 (hd_m (hd_bd.mp q) (fun fk fp q g f => ?_) (fun t q p0 g3 S3 => ?_))
        · refine g_Tr_readWhen_59 isF_10 isT_32 (c_Ta_add (m := m) (by rw [f.2 32 (by decide)]; exact em) hm (g_Tr_readWhen_72 isF_10 isT_32 (fun _ => q _ (FaC_add f.1)) (fun z => absurd (by decide) z)))
        · refine g_Tr_readWhen_59 isF_10 isT_32 (c_Ta_add (m := m) (by rw [S3.1.1 32 (by decide)]; exact em) hm (g_Tr_readWhen_72 isF_10 isT_32 (fun z => by omega) (fun _ => q _ (St_add S3))))
      · rw [if_neg w18] at q
        have k5 : g2 5 5 = tK B n l.2 := S2.2.2.2.2.2.1
        have k8 : tK B n l.2 = 3 → g2 5 8 = B l.2 := S2.2.2.2.2.2.2.2.2.1
        unfold sCmp at q
        refine g_Tr_readWhen_39 isF_10 isT_32 (fun _ _ z => ?_) (fun _ _ z => ?_) (fun _ z => absurd z w18) (fun z => by omega)
        · rw [if_neg (by omega)] at q
          exact c2_fail F S2 (hd_m q (fun fk fp q g f => g_Tr_readWhen_103 isF_10 isT_32 (Or.inl rfl) (q g f)) (fun _ q => q))
        · have t3 : tK B n l.2 = 3 := by omega
          have k8 := k8 t3
          have sg := sgn_rg t3
          have no : B l.2 = 59 → Wp true i_Tr_readWhen 95 [vr 5, vr 10, vr 32, vi (tW B n s), vi l.1, vr 9999, vr 9999] [vi 0] g2 Q := by
            intro y
            rw [if_neg (by omega)] at q
            exact g_Tr_readWhen_95 isF_10 isT_32 (fun z => absurd rfl z) (fun _ => c2_fail F S2 (hd_m q (fun fk fp q g f => g_Tr_readWhen_103 isF_10 isT_32 (Or.inl rfl) (q g f)) (fun _ q => q)))
          have ye : ¬ B l.2 = 59 → Wp true i_Tr_readWhen 95 [vr 5, vr 10, vr 32, vi (tW B n s), vi l.1, vr 9999, vr 9999] [vi 1] g2 Q := by
            intro y
            rw [if_pos ⟨t3, y⟩] at q
            refine g_Tr_readWhen_95 isF_10 isT_32 (fun _ => ?_) (fun z => absurd z (by decide))
            rw [k8]
            refine c2_next S2 (fun g3 S3 => ?_)
            have fin : ∀ hi : Int, hi = (if tW B n s = 16 then 99 else 999) → Wp true i_To_takeNumber 0 [vr 5, vi 0, vi hi, vr 9999] [] g3 (fun r h' => Wp true i_Tr_readWhen 133 [vr 5, vr 10, vr 32, vi (tW B n s), vi l.1, vi (B l.2), vr 9999] (r.toList ++ []) h' Q) := by
              intro hi ehi
              subst ehi
              refine c4_num F S3 (by decide) (hd_m (hd_bd.mp q) (fun fk fp q g f => ?_) (fun v q v1 v2 g4 S4 => ?_))
              · exact g_Tr_readWhen_133 isF_10 isT_32 (c_Ta_add (m := m) (by rw [f.2 32 (by decide)]; exact em) hm (g_Tr_readWhen_146 isF_10 isT_32 (fun _ => q _ (FaC_add f.1)) (fun z => absurd (by decide) z)))
              · refine g_Tr_readWhen_133 isF_10 isT_32 (c_Ta_add (m := m) (by rw [S4.1.1 32 (by decide)]; exact em) hm (g_Tr_readWhen_146 isF_10 isT_32 (fun z => by omega) (fun _ => q _ ?_)))
                have ea : addX X m (1503 + tW B n s, l.1, v.1, 0, B l.2) = addC X m (tW B n s) l.1 (B l.2) v.1 := by
                  unfold addX
                  rcases (show tW B n s = 16 ∨ tW B n s = 17 by omega) with z | z
                  · rw [z]; rfl
                  · rw [z]; rfl
                show St B n v.2 (addX X m (1503 + tW B n s, l.1, v.1, 0, B l.2)) _
                rw [ea]
                exact St_add S4
            refine g_Tr_readWhen_114 isF_10 isT_32 (fun z => fin 999 (by rw [if_neg z])) (fun z => fin 99 (by rw [if_pos z]))
          refine g_To_isCompare_0 (fun z => ye (by omega)) (fun _ z => ye (by omega)) (fun z1 z2 z3 => no (by omega)) (fun _ _ z => ye (by omega))
    exact g_Tr_readWhen_0 isF_10 isT_32 (fun _ => go) (fun _ _ => go) (fun _ _ _ => go) (fun z1 z2 z3 => by omega)
  · rw [if_neg cw'] at k
    exact g_Tr_readWhen_0 isF_10 isT_32 (fun z => by omega) (fun _ z => by omega) (fun _ _ z => by omega) (fun _ _ _ => c2_fail F S (hd_m k (fun fk fp q g f => g_Tr_readWhen_28 isF_10 isT_32 (Or.inl rfl) (q g f)) (fun _ q => q)))
end
