theorem g_Fl_clear_0 {Q : PQ} {h : HP}  {f0 : Nat} (h_f0 : isF f0)
    (k1 : Q none (hs (hs (hs (hs (hs (hs (hs (hs h f0 0 0) f0 1 0) f0 2 9) f0 3 0) f0 4 0) f0 12 0) (f0 + 1) 0 0) (f0 + 1) 1 0)) :
    Wp true i_Fl_clear 0 [vr f0] [] h Q := by
  refine r_aload_n (v := f0) f_27_0 rfl (F_n h_f0) ?_
  refine r_iconst f_27_1 (by decide) ?_
  refine r_puti f_27_2 (F_k h_f0) (by decide) ?_
  refine r_aload_n (v := f0) f_27_5 rfl (F_n h_f0) ?_
  refine r_iconst f_27_6 (by decide) ?_
  refine r_puti f_27_7 (F_k h_f0) (by decide) ?_
  refine r_aload_n (v := f0) f_27_10 rfl (F_n h_f0) ?_
  refine r_bipush f_27_11 (by decide) ?_
  refine r_puti f_27_13 (F_k h_f0) (by decide) ?_
  refine r_aload_n (v := f0) f_27_16 rfl (F_n h_f0) ?_
  refine r_iconst f_27_17 (by decide) ?_
  refine r_puti f_27_18 (F_k h_f0) (by decide) ?_
  refine r_aload_n (v := f0) f_27_21 rfl (F_n h_f0) ?_
  refine r_iconst f_27_22 (by decide) ?_
  refine r_puti f_27_23 (F_k h_f0) (by decide) ?_
  refine r_aload_n (v := f0) f_27_26 rfl (F_n h_f0) ?_
  refine r_iconst f_27_27 (by decide) ?_
  refine r_puti f_27_28 (F_k h_f0) (by decide) ?_
  refine r_aload_n (v := f0) f_27_31 rfl (F_n h_f0) ?_
  refine r_getr (q := (f0 + 1)) f_27_32 (F_k h_f0) (by decide) (Or.inl rfl) rfl ?_
  refine r_iconst f_27_35 (by decide) ?_
  refine r_iconst f_27_36 (by decide) ?_
  refine r_iastore (n := 2) f_27_37 (F_1 h_f0) (by decide) ?_
  refine r_aload_n (v := f0) f_27_38 rfl (F_n h_f0) ?_
  refine r_getr (q := (f0 + 1)) f_27_39 (F_k h_f0) (by decide) (Or.inl rfl) rfl ?_
  refine r_iconst f_27_42 (by decide) ?_
  refine r_iconst f_27_43 (by decide) ?_
  refine r_iastore (n := 2) f_27_44 (F_1 h_f0) (by decide) ?_
  exact r_retv f_27_45 rfl k1

theorem g_Fl_lay_0 {Q : PQ} {h : HP} {x1 : Int} {x2 : Int} {f0 : Nat} (h_f0 : isF f0)
    (k1 : Wp true i_Fl_lay 12 [vr f0, vi x1, vi x2, vi 0] [] (hs (hs h f0 0 x1) f0 1 x2) Q) :
    Wp true i_Fl_lay 0 [vr f0, vi x1, vi x2, vr 9999] [] h Q := by
  refine r_aload_n (v := f0) f_28_0 rfl (F_n h_f0) ?_
  refine r_iload_n (v := x1) f_28_1 rfl ?_
  refine r_puti f_28_2 (F_k h_f0) (by decide) ?_
  refine r_aload_n (v := f0) f_28_5 rfl (F_n h_f0) ?_
  refine r_iload_n (v := x2) f_28_6 rfl ?_
  refine r_puti f_28_7 (F_k h_f0) (by decide) ?_
  refine r_iconst f_28_10 (by decide) ?_
  refine r_istore_n (ls' := [vr f0, vi x1, vi x2, vi 0]) f_28_11 (Nat.le_of_ble_eq_true rfl) rfl ?_
  exact k1

theorem g_Fl_lay_12 {Q : PQ} {h : HP} {x1 : Int} {x2 : Int} {x3 : Int} {f0 : Nat} (h_f0 : isF f0)
    (k1 : h f0 1 ≤ x3 → Q none h)
    (o2 : ¬ h f0 1 ≤ x3 → 0 ≤ h f0 0 ∧ h f0 0 ≤ 2147483647)
    (o3 : ¬ h f0 1 ≤ x3 → 0 ≤ x3 ∧ x3 < 7)
    (o4 : ¬ h f0 1 ≤ x3 → -2147483648 ≤ x3 + 1 ∧ x3 + 1 ≤ 2147483647)
    (k5 : ¬ h f0 1 ≤ x3 → Wp true i_Fl_lay 12 [vr f0, vi x1, vi x2, vi (x3 + 1)] [] (hs h (f0 + 2) x3.toNat ((h f0 0) / 2)) Q) :
    Wp true i_Fl_lay 12 [vr f0, vi x1, vi x2, vi x3] [] h Q := by
  refine r_iload_n (v := x3) f_28_12 rfl ?_
  refine r_aload_n (v := f0) f_28_13 rfl (F_n h_f0) ?_
  refine r_geti (v := h f0 1) f_28_14 (F_k h_f0) (by decide) rfl ?_
  refine r_br2 (t := 38) f_28_17 rfl cb_ge (fun c1 => ?_) (fun c1 => ?_)
  · exact r_retv f_28_38 rfl (k1 c1)
  · refine r_aload_n (v := f0) f_28_20 rfl (F_n h_f0) ?_
    refine r_getr (q := (f0 + 2)) f_28_21 (F_k h_f0) (by decide) (Or.inl rfl) rfl ?_
    refine r_iload_n (v := x3) f_28_24 rfl ?_
    refine r_aload_n (v := f0) f_28_25 rfl (F_n h_f0) ?_
    refine r_geti (v := h f0 0) f_28_26 (F_k h_f0) (by decide) rfl ?_
    refine r_iconst f_28_29 (by decide) ?_
    refine r_idiv f_28_30 (o2 c1) (by decide) ?_
    refine r_iastore (n := 7) f_28_31 (F_2 h_f0) (o3 c1) ?_
    refine r_iinc (v := x3) (w := x3 + 1) (ls' := [vr f0, vi x1, vi x2, vi (x3 + 1)]) f_28_32 rfl rfl (o4 c1) rfl ?_
    refine r_goto (t := 12) f_28_35 rfl ?_
    exact (k5 c1)

theorem g_Fl_thingNamed_0 {Q : PQ} {h : HP} {y1 : Int} {f0 : Nat} (h_f0 : isF f0)
    (k1 : Wp true i_Fl_thingNamed 2 [vr f0, vj y1, vr 9999, vi 0] [] h Q) :
    Wp true i_Fl_thingNamed 0 [vr f0, vj y1, vr 9999, vr 9999] [] h Q := by
  refine r_iconst f_36_0 (by decide) ?_
  refine r_istore_n (ls' := [vr f0, vj y1, vr 9999, vi 0]) f_36_1 (Nat.le_of_ble_eq_true rfl) rfl ?_
  exact k1

theorem g_Fl_thingNamed_2 {Q : PQ} {h : HP} {y1 : Int} {x3 : Int} {f0 : Nat} (h_f0 : isF f0)
    (k1 : h f0 3 ≤ x3 → Q (some (vi (-1))) h)
    (o2 : ¬ h f0 3 ≤ x3 → 0 ≤ x3 ∧ x3 < 10)
    (o3 : ¬ h f0 3 ≤ x3 → ¬ h (f0 + 3) x3.toNat = y1 → -2147483648 ≤ x3 + 1 ∧ x3 + 1 ≤ 2147483647)
    (k4 : ¬ h f0 3 ≤ x3 → ¬ h (f0 + 3) x3.toNat = y1 → Wp true i_Fl_thingNamed 2 [vr f0, vj y1, vr 9999, vi (x3 + 1)] [] h Q)
    (k5 : ¬ h f0 3 ≤ x3 → h (f0 + 3) x3.toNat = y1 → Q (some (vi x3)) h) :
    Wp true i_Fl_thingNamed 2 [vr f0, vj y1, vr 9999, vi x3] [] h Q := by
  refine r_iload_n (v := x3) f_36_2 rfl ?_
  refine r_aload_n (v := f0) f_36_3 rfl (F_n h_f0) ?_
  refine r_geti (v := h f0 3) f_36_4 (F_k h_f0) (by decide) rfl ?_
  refine r_br2 (t := 29) f_36_7 rfl cb_ge (fun c1 => ?_) (fun c1 => ?_)
  · refine r_iconst f_36_29 (by decide) ?_
    exact r_reti f_36_30 rfl (k1 c1)
  · refine r_aload_n (v := f0) f_36_10 rfl (F_n h_f0) ?_
    refine r_getr (q := (f0 + 3)) f_36_11 (F_k h_f0) (by decide) (Or.inl rfl) rfl ?_
    refine r_iload_n (v := x3) f_36_14 rfl ?_
    refine r_laload (n := 10) (v := h (f0 + 3) x3.toNat) f_36_15 (F_3 h_f0) (o2 c1) rfl ?_
    refine r_lload_n (v := y1) f_36_16 rfl ?_
    refine r_lcmp f_36_17 ?_
    refine r_br (t := 23) f_36_18 rfl lc_ne (fun c2 => ?_) (fun c2 => ?_)
    · refine r_iinc (v := x3) (w := x3 + 1) (ls' := [vr f0, vj y1, vr 9999, vi (x3 + 1)]) f_36_23 rfl rfl (o3 c1 c2) rfl ?_
      refine r_goto (t := 2) f_36_26 rfl ?_
      exact (k4 c1 c2)
    · have c2 := Decidable.not_not.mp c2
      refine r_iload_n (v := x3) f_36_21 rfl ?_
      exact r_reti f_36_22 rfl (k5 c1 c2)

theorem g_Rr_readSize_0 {Q : PQ} {h : HP}  {f2 : Nat} (h_f2 : isF f2)
    (k1 : Wp true i_To_next 0 [vr 5] [] h (fun r h' => Wp true i_Rr_readSize 4 [vr 8, vr 5, vr f2, vr 9999, vr 9999] (r.toList ++ []) h' Q)) :
    Wp true i_Rr_readSize 0 [vr 8, vr 5, vr f2, vr 9999, vr 9999] [] h Q := by
  refine r_aload_n (v := 5) f_94_0 rfl (by decide) ?_
  exact r_callv (as := [vr 5]) (st' := []) (ls0 := [vr 5]) f_94_1 (by decide) rfl rfl (Nat.le_of_ble_eq_true rfl) (Nat.le_of_ble_eq_true rfl) ⟨_, _, rfl, rfl⟩ rfl k1

theorem g_Rr_readSize_4 {Q : PQ} {h : HP}  {f2 : Nat} (h_f2 : isF f2)
    (k1 : Wp true i_To_takeNumber 0 [vr 5, vi 1, vi 9, vr 9999] [] h (fun r h' => Wp true i_Rr_readSize 11 [vr 8, vr 5, vr f2, vr 9999, vr 9999] (r.toList ++ []) h' Q)) :
    Wp true i_Rr_readSize 4 [vr 8, vr 5, vr f2, vr 9999, vr 9999] [] h Q := by
  refine r_aload_n (v := 5) f_94_4 rfl (by decide) ?_
  refine r_iconst f_94_5 (by decide) ?_
  refine r_bipush f_94_6 (by decide) ?_
  exact r_callv (as := [vr 5, vi 1, vi 9]) (st' := []) (ls0 := [vr 5, vi 1, vi 9, vr 9999]) f_94_8 (by decide) rfl rfl (Nat.le_of_ble_eq_true rfl) (Nat.le_of_ble_eq_true rfl) ⟨_, _, rfl, rfl⟩ rfl k1

theorem g_Rr_readSize_11 {Q : PQ} {h : HP} {s0 : Int} {f2 : Nat} (h_f2 : isF f2)
    (k1 : s0 < 0 → Q (some (vi 0)) h)
    (k2 : ¬ s0 < 0 → Wp true i_To_takeWord 0 [vr 5, vi 1] [] h (fun r h' => Wp true i_Rr_readSize 21 [vr 8, vr 5, vr f2, vi s0, vr 9999] (r.toList ++ []) h' Q)) :
    Wp true i_Rr_readSize 11 [vr 8, vr 5, vr f2, vr 9999, vr 9999] [vi s0] h Q := by
  refine r_istore_n (ls' := [vr 8, vr 5, vr f2, vi s0, vr 9999]) f_94_11 (Nat.le_of_ble_eq_true rfl) rfl ?_
  refine r_iload_n (v := s0) f_94_12 rfl ?_
  refine r_br (t := 24) f_94_13 rfl cb_lt (fun c1 => ?_) (fun c1 => ?_)
  · refine r_iconst f_94_24 (by decide) ?_
    exact r_retz f_94_25 rfl (by decide) (k1 c1)
  · refine r_aload_n (v := 5) f_94_16 rfl (by decide) ?_
    refine r_iconst f_94_17 (by decide) ?_
    exact r_callv (as := [vr 5, vi 1]) (st' := []) (ls0 := [vr 5, vi 1]) f_94_18 (by decide) rfl rfl (Nat.le_of_ble_eq_true rfl) (Nat.le_of_ble_eq_true rfl) ⟨_, _, rfl, rfl⟩ rfl (k2 c1)

theorem g_Rr_readSize_21 {Q : PQ} {h : HP} {x3 : Int} {s0 : Int} {f2 : Nat} (h_f2 : isF f2)
    (k1 : ¬ s0 = 0 → Wp true i_To_takeNumber 0 [vr 5, vi 1, vi 7, vr 9999] [] h (fun r h' => Wp true i_Rr_readSize 33 [vr 8, vr 5, vr f2, vi x3, vr 9999] (r.toList ++ []) h' Q))
    (k2 : s0 = 0 → Q (some (vi 0)) h) :
    Wp true i_Rr_readSize 21 [vr 8, vr 5, vr f2, vi x3, vr 9999] [vi s0] h Q := by
  refine r_br (t := 26) f_94_21 rfl cb_ne (fun c1 => ?_) (fun c1 => ?_)
  · refine r_aload_n (v := 5) f_94_26 rfl (by decide) ?_
    refine r_iconst f_94_27 (by decide) ?_
    refine r_bipush f_94_28 (by decide) ?_
    exact r_callv (as := [vr 5, vi 1, vi 7]) (st' := []) (ls0 := [vr 5, vi 1, vi 7, vr 9999]) f_94_30 (by decide) rfl rfl (Nat.le_of_ble_eq_true rfl) (Nat.le_of_ble_eq_true rfl) ⟨_, _, rfl, rfl⟩ rfl (k1 c1)
  · have c1 := Decidable.not_not.mp c1
    refine r_iconst f_94_24 (by decide) ?_
    exact r_retz f_94_25 rfl (by decide) (k2 c1)

theorem g_Rr_readSize_33 {Q : PQ} {h : HP} {x3 : Int} {s0 : Int} {f2 : Nat} (h_f2 : isF f2)
    (k1 : 0 ≤ s0 → Wp true i_Fl_lay 0 [vr f2, vi x3, vi s0, vr 9999] [] h (fun r h' => Wp true i_Rr_readSize 49 [vr 8, vr 5, vr f2, vi x3, vi s0] (r.toList ++ []) h' Q))
    (k2 : ¬ 0 ≤ s0 → Q (some (vi 0)) h) :
    Wp true i_Rr_readSize 33 [vr 8, vr 5, vr f2, vi x3, vr 9999] [vi s0] h Q := by
  refine r_istore (ls' := [vr 8, vr 5, vr f2, vi x3, vi s0]) f_94_33 (Nat.le_of_ble_eq_true rfl) rfl ?_
  refine r_iload (v := s0) f_94_35 rfl ?_
  refine r_br (t := 42) f_94_37 rfl cb_ge (fun c1 => ?_) (fun c1 => ?_)
  · refine r_aload_n (v := f2) f_94_42 rfl (F_n h_f2) ?_
    refine r_iload_n (v := x3) f_94_43 rfl ?_
    refine r_iload (v := s0) f_94_44 rfl ?_
    exact r_callv (as := [vr f2, vi x3, vi s0]) (st' := []) (ls0 := [vr f2, vi x3, vi s0, vr 9999]) f_94_46 (by decide) rfl rfl (Nat.le_of_ble_eq_true rfl) (Nat.le_of_ble_eq_true rfl) ⟨_, _, rfl, (F_k h_f2)⟩ rfl (k1 c1)
  · refine r_iconst f_94_40 (by decide) ?_
    exact r_retz f_94_41 rfl (by decide) (k2 c1)

theorem g_Rr_readSize_49 {Q : PQ} {h : HP} {x3 : Int} {x4 : Int} {f2 : Nat} (h_f2 : isF f2)
    (k1 : Wp true i_To_takeEndOfPart 0 [vr 5] [] h (fun r h' => Wp true i_Rr_readSize 53 [vr 8, vr 5, vr f2, vi x3, vi x4] (r.toList ++ []) h' Q)) :
    Wp true i_Rr_readSize 49 [vr 8, vr 5, vr f2, vi x3, vi x4] [] h Q := by
  refine r_aload_n (v := 5) f_94_49 rfl (by decide) ?_
  exact r_callv (as := [vr 5]) (st' := []) (ls0 := [vr 5]) f_94_50 (by decide) rfl rfl (Nat.le_of_ble_eq_true rfl) (Nat.le_of_ble_eq_true rfl) ⟨_, _, rfl, rfl⟩ rfl k1

theorem g_Rr_readSize_53 {Q : PQ} {h : HP} {x3 : Int} {x4 : Int} {s0 : Int} {f2 : Nat} (h_f2 : isF f2)
    (o1 : s0 = 0 ∨ s0 = 1)
    (k2 : Q (some (vi s0)) h) :
    Wp true i_Rr_readSize 53 [vr 8, vr 5, vr f2, vi x3, vi x4] [vi s0] h Q := by
  exact r_retz f_94_53 rfl o1 k2

theorem g_Rr_readLine_0 {Q : PQ} {h : HP}  {f2 : Nat} (h_f2 : isF f2)
    (k1 : Wp true i_To_next 0 [vr 5] [] (hs h 8 0 1) (fun r h' => Wp true i_Rr_readLine 9 [vr 8, vr 5, vr f2, vr 9999, vr 9999] (r.toList ++ []) h' Q)) :
    Wp true i_Rr_readLine 0 [vr 8, vr 5, vr f2, vr 9999, vr 9999] [] h Q := by
  refine r_aload_n (v := 8) f_95_0 rfl (by decide) ?_
  refine r_iconst f_95_1 (by decide) ?_
  refine r_putz f_95_2 rfl (by decide) (by decide) ?_
  refine r_aload_n (v := 5) f_95_5 rfl (by decide) ?_
  exact r_callv (as := [vr 5]) (st' := []) (ls0 := [vr 5]) f_95_6 (by decide) rfl rfl (Nat.le_of_ble_eq_true rfl) (Nat.le_of_ble_eq_true rfl) ⟨_, _, rfl, rfl⟩ rfl k1

theorem g_Rr_readLine_9 {Q : PQ} {h : HP}  {f2 : Nat} (h_f2 : isF f2)
    (k1 : Wp true i_Rr_readLine 11 [vr 8, vr 5, vr f2, vi 0, vr 9999] [] h Q) :
    Wp true i_Rr_readLine 9 [vr 8, vr 5, vr f2, vr 9999, vr 9999] [] h Q := by
  refine r_iconst f_95_9 (by decide) ?_
  refine r_istore_n (ls' := [vr 8, vr 5, vr f2, vi 0, vr 9999]) f_95_10 (Nat.le_of_ble_eq_true rfl) rfl ?_
  exact k1

theorem g_Rr_readLine_11 {Q : PQ} {h : HP} {x3 : Int} {j4 : AV} {f2 : Nat} (h_f2 : isF f2)
    (k1 : h f2 1 ≤ x3 → Wp true i_To_takeEndOfPart 0 [vr 5] [] h (fun r h' => Wp true i_Rr_readLine 55 [vr 8, vr 5, vr f2, vi x3, j4] (r.toList ++ []) h' Q))
    (k2 : ¬ h f2 1 ≤ x3 → Wp true i_To_takeNumber 0 [vr 5, vi 0, vi (h f2 0), vr 9999] [] h (fun r h' => Wp true i_Rr_readLine 28 [vr 8, vr 5, vr f2, vi x3, j4] (r.toList ++ []) h' Q)) :
    Wp true i_Rr_readLine 11 [vr 8, vr 5, vr f2, vi x3, j4] [] h Q := by
  refine r_iload_n (v := x3) f_95_11 rfl ?_
  refine r_aload_n (v := f2) f_95_12 rfl (F_n h_f2) ?_
  refine r_geti (v := h f2 1) f_95_13 (F_k h_f2) (by decide) rfl ?_
  refine r_br2 (t := 51) f_95_16 rfl cb_ge (fun c1 => ?_) (fun c1 => ?_)
  · refine r_aload_n (v := 5) f_95_51 rfl (by decide) ?_
    exact r_callv (as := [vr 5]) (st' := []) (ls0 := [vr 5]) f_95_52 (by decide) rfl rfl (Nat.le_of_ble_eq_true rfl) (Nat.le_of_ble_eq_true rfl) ⟨_, _, rfl, rfl⟩ rfl (k1 c1)
  · refine r_aload_n (v := 5) f_95_19 rfl (by decide) ?_
    refine r_iconst f_95_20 (by decide) ?_
    refine r_aload_n (v := f2) f_95_21 rfl (F_n h_f2) ?_
    refine r_geti (v := h f2 0) f_95_22 (F_k h_f2) (by decide) rfl ?_
    exact r_callv (as := [vr 5, vi 0, vi (h f2 0)]) (st' := []) (ls0 := [vr 5, vi 0, vi (h f2 0), vr 9999]) f_95_25 (by decide) rfl rfl (Nat.le_of_ble_eq_true rfl) (Nat.le_of_ble_eq_true rfl) ⟨_, _, rfl, rfl⟩ rfl (k2 c1)

theorem g_Rr_readLine_28 {Q : PQ} {h : HP} {x3 : Int} {j4 : AV} {s0 : Int} {f2 : Nat} (h_f2 : isF f2)
    (o1 : 0 ≤ s0 → 0 ≤ x3 ∧ x3 < 7)
    (o2 : 0 ≤ s0 → -2147483648 ≤ x3 + 1 ∧ x3 + 1 ≤ 2147483647)
    (k3 : 0 ≤ s0 → Wp true i_Rr_readLine 11 [vr 8, vr 5, vr f2, vi (x3 + 1), vi s0] [] (hs h (f2 + 2) x3.toNat s0) Q)
    (k4 : ¬ 0 ≤ s0 → Q (some (vi 0)) h) :
    Wp true i_Rr_readLine 28 [vr 8, vr 5, vr f2, vi x3, j4] [vi s0] h Q := by
  refine r_istore (ls' := [vr 8, vr 5, vr f2, vi x3, vi s0]) f_95_28 (Nat.le_of_ble_eq_true rfl) rfl ?_
  refine r_iload (v := s0) f_95_30 rfl ?_
  refine r_br (t := 37) f_95_32 rfl cb_ge (fun c1 => ?_) (fun c1 => ?_)
  · refine r_aload_n (v := f2) f_95_37 rfl (F_n h_f2) ?_
    refine r_getr (q := (f2 + 2)) f_95_38 (F_k h_f2) (by decide) (Or.inl rfl) rfl ?_
    refine r_iload_n (v := x3) f_95_41 rfl ?_
    refine r_iload (v := s0) f_95_42 rfl ?_
    refine r_iastore (n := 7) f_95_44 (F_2 h_f2) (o1 c1) ?_
    refine r_iinc (v := x3) (w := x3 + 1) (ls' := [vr 8, vr 5, vr f2, vi (x3 + 1), vi s0]) f_95_45 rfl rfl (o2 c1) rfl ?_
    refine r_goto (t := 11) f_95_48 rfl ?_
    exact (k3 c1)
  · refine r_iconst f_95_35 (by decide) ?_
    exact r_retz f_95_36 rfl (by decide) (k4 c1)

theorem g_Rr_readLine_55 {Q : PQ} {h : HP} {x3 : Int} {j4 : AV} {s0 : Int} {f2 : Nat} (h_f2 : isF f2)
    (o1 : s0 = 0 ∨ s0 = 1)
    (k2 : Q (some (vi s0)) h) :
    Wp true i_Rr_readLine 55 [vr 8, vr 5, vr f2, vi x3, j4] [vi s0] h Q := by
  exact r_retz f_95_55 rfl o1 k2

theorem g_Rr_readBends_0 {Q : PQ} {h : HP}  {f2 : Nat} (h_f2 : isF f2)
    (k1 : Wp true i_To_next 0 [vr 5] [] (hs h 8 1 1) (fun r h' => Wp true i_Rr_readBends 9 [vr 8, vr 5, vr f2, vr 9999] (r.toList ++ []) h' Q)) :
    Wp true i_Rr_readBends 0 [vr 8, vr 5, vr f2, vr 9999] [] h Q := by
  refine r_aload_n (v := 8) f_96_0 rfl (by decide) ?_
  refine r_iconst f_96_1 (by decide) ?_
  refine r_putz f_96_2 rfl (by decide) (by decide) ?_
  refine r_aload_n (v := 5) f_96_5 rfl (by decide) ?_
  exact r_callv (as := [vr 5]) (st' := []) (ls0 := [vr 5]) f_96_6 (by decide) rfl rfl (Nat.le_of_ble_eq_true rfl) (Nat.le_of_ble_eq_true rfl) ⟨_, _, rfl, rfl⟩ rfl k1

theorem g_Rr_readBends_9 {Q : PQ} {h : HP}  {f2 : Nat} (h_f2 : isF f2)
    (k1 : Wp true i_To_takeNumber 0 [vr 5, vi 0, vi 9, vr 9999] [] h (fun r h' => Wp true i_Rr_readBends 16 [vr 8, vr 5, vr f2, vr 9999] (r.toList ++ []) h' Q)) :
    Wp true i_Rr_readBends 9 [vr 8, vr 5, vr f2, vr 9999] [] h Q := by
  refine r_aload_n (v := 5) f_96_9 rfl (by decide) ?_
  refine r_iconst f_96_10 (by decide) ?_
  refine r_bipush f_96_11 (by decide) ?_
  exact r_callv (as := [vr 5, vi 0, vi 9]) (st' := []) (ls0 := [vr 5, vi 0, vi 9, vr 9999]) f_96_13 (by decide) rfl rfl (Nat.le_of_ble_eq_true rfl) (Nat.le_of_ble_eq_true rfl) ⟨_, _, rfl, rfl⟩ rfl k1

theorem g_Rr_readBends_16 {Q : PQ} {h : HP} {s0 : Int} {f2 : Nat} (h_f2 : isF f2)
    (k1 : 0 ≤ s0 → Wp true i_To_takeEndOfPart 0 [vr 5] [] (hs h f2 2 s0) (fun r h' => Wp true i_Rr_readBends 32 [vr 8, vr 5, vr f2, vi s0] (r.toList ++ []) h' Q))
    (k2 : ¬ 0 ≤ s0 → Q (some (vi 0)) h) :
    Wp true i_Rr_readBends 16 [vr 8, vr 5, vr f2, vr 9999] [vi s0] h Q := by
  refine r_istore_n (ls' := [vr 8, vr 5, vr f2, vi s0]) f_96_16 (Nat.le_of_ble_eq_true rfl) rfl ?_
  refine r_iload_n (v := s0) f_96_17 rfl ?_
  refine r_br (t := 23) f_96_18 rfl cb_ge (fun c1 => ?_) (fun c1 => ?_)
  · refine r_aload_n (v := f2) f_96_23 rfl (F_n h_f2) ?_
    refine r_iload_n (v := s0) f_96_24 rfl ?_
    refine r_puti f_96_25 (F_k h_f2) (by decide) ?_
    refine r_aload_n (v := 5) f_96_28 rfl (by decide) ?_
    exact r_callv (as := [vr 5]) (st' := []) (ls0 := [vr 5]) f_96_29 (by decide) rfl rfl (Nat.le_of_ble_eq_true rfl) (Nat.le_of_ble_eq_true rfl) ⟨_, _, rfl, rfl⟩ rfl (k1 c1)
  · refine r_iconst f_96_21 (by decide) ?_
    exact r_retz f_96_22 rfl (by decide) (k2 c1)

theorem g_Rr_readBends_32 {Q : PQ} {h : HP} {x3 : Int} {s0 : Int} {f2 : Nat} (h_f2 : isF f2)
    (o1 : s0 = 0 ∨ s0 = 1)
    (k2 : Q (some (vi s0)) h) :
    Wp true i_Rr_readBends 32 [vr 8, vr 5, vr f2, vi x3] [vi s0] h Q := by
  exact r_retz f_96_32 rfl o1 k2

theorem g_Rr_readBoard_0 {Q : PQ} {h : HP}  {f1 : Nat} (h_f1 : isF f1)
    (o1 : -2147483648 ≤ (h f1 0) - 1 ∧ (h f1 0) - 1 ≤ 2147483647)
    (k2 : Wp true i_To_takeNumber 0 [vr 5, vi 0, vi ((h f1 0) - 1), vr 9999] [] h (fun r h' => Wp true i_Rr_readBoard 11 [vr 5, vr f1, vr 9999, vr 9999] (r.toList ++ []) h' Q)) :
    Wp true i_Rr_readBoard 0 [vr 5, vr f1, vr 9999, vr 9999] [] h Q := by
  refine r_aload_n (v := 5) f_98_0 rfl (by decide) ?_
  refine r_iconst f_98_1 (by decide) ?_
  refine r_aload_n (v := f1) f_98_2 rfl (F_n h_f1) ?_
  refine r_geti (v := h f1 0) f_98_3 (F_k h_f1) (by decide) rfl ?_
  refine r_iconst f_98_6 (by decide) ?_
  refine r_isub (u := (h f1 0) - 1) f_98_7 rfl o1 ?_
  exact r_callv (as := [vr 5, vi 0, vi ((h f1 0) - 1)]) (st' := []) (ls0 := [vr 5, vi 0, vi ((h f1 0) - 1), vr 9999]) f_98_8 (by decide) rfl rfl (Nat.le_of_ble_eq_true rfl) (Nat.le_of_ble_eq_true rfl) ⟨_, _, rfl, rfl⟩ rfl k2

theorem g_Rr_readBoard_11 {Q : PQ} {h : HP} {s0 : Int} {f1 : Nat} (h_f1 : isF f1)
    (o1 : 0 ≤ s0 → -2147483648 ≤ (h f1 1) - 1 ∧ (h f1 1) - 1 ≤ 2147483647)
    (k2 : 0 ≤ s0 → Wp true i_To_lookForNumber 0 [vr 5, vi 0, vi ((h f1 1) - 1)] [] h (fun r h' => Wp true i_Rr_readBoard 29 [vr 5, vr f1, vi s0, vr 9999] (r.toList ++ []) h' Q))
    (k3 : ¬ 0 ≤ s0 → Q (some (vi 0)) h) :
    Wp true i_Rr_readBoard 11 [vr 5, vr f1, vr 9999, vr 9999] [vi s0] h Q := by
  refine r_istore_n (ls' := [vr 5, vr f1, vi s0, vr 9999]) f_98_11 (Nat.le_of_ble_eq_true rfl) rfl ?_
  refine r_iload_n (v := s0) f_98_12 rfl ?_
  refine r_br (t := 18) f_98_13 rfl cb_ge (fun c1 => ?_) (fun c1 => ?_)
  · refine r_aload_n (v := 5) f_98_18 rfl (by decide) ?_
    refine r_iconst f_98_19 (by decide) ?_
    refine r_aload_n (v := f1) f_98_20 rfl (F_n h_f1) ?_
    refine r_geti (v := h f1 1) f_98_21 (F_k h_f1) (by decide) rfl ?_
    refine r_iconst f_98_24 (by decide) ?_
    refine r_isub (u := (h f1 1) - 1) f_98_25 rfl (o1 c1) ?_
    exact r_callv (as := [vr 5, vi 0, vi ((h f1 1) - 1)]) (st' := []) (ls0 := [vr 5, vi 0, vi ((h f1 1) - 1)]) f_98_26 (by decide) rfl rfl (Nat.le_of_ble_eq_true rfl) (Nat.le_of_ble_eq_true rfl) ⟨_, _, rfl, rfl⟩ rfl (k2 c1)
  · refine r_iconst f_98_16 (by decide) ?_
    exact r_retz f_98_17 rfl (by decide) (k3 c1)

theorem g_Rr_readBoard_29 {Q : PQ} {h : HP} {x2 : Int} {s0 : Int} {f1 : Nat} (h_f1 : isF f1)
    (o1 : 0 ≤ s0 → WR (rmC h f1))
    (k2 : 0 ≤ s0 → rOn (rmC h f1) x2 s0 = -1 → Wp true i_To_next 0 [vr 5] [] h (fun r h' => Wp true i_Rr_readBoard 56 [vr 5, vr f1, vi x2, vi s0] (r.toList ++ []) h' Q))
    (k3 : 0 ≤ s0 → ¬ rOn (rmC h f1) x2 s0 = -1 → Wp true i_To_fail 0 [vr 5, vi 5] [] h (fun r h' => Wp true i_Rr_readBoard 51 [vr 5, vr f1, vi x2, vi s0] (r.toList ++ []) h' Q))
    (k4 : ¬ 0 ≤ s0 → Q (some (vi 0)) h) :
    Wp true i_Rr_readBoard 29 [vr 5, vr f1, vi x2, vr 9999] [vi s0] h Q := by
  refine r_istore_n (ls' := [vr 5, vr f1, vi x2, vi s0]) f_98_29 (Nat.le_of_ble_eq_true rfl) rfl ?_
  refine r_iload_n (v := s0) f_98_30 rfl ?_
  refine r_br (t := 36) f_98_31 rfl cb_ge (fun c1 => ?_) (fun c1 => ?_)
  · refine r_aload_n (v := f1) f_98_36 rfl (F_n h_f1) ?_
    refine r_iload_n (v := x2) f_98_37 rfl ?_
    refine r_iload_n (v := s0) f_98_38 rfl ?_
    refine r_callv (as := [vr f1, vi x2, vi s0]) (st' := []) (ls0 := [vr f1, vi x2, vi s0, vr 9999]) f_98_39 (by decide) rfl rfl (Nat.le_of_ble_eq_true rfl) (Nat.le_of_ble_eq_true rfl) ⟨_, _, rfl, (F_k h_f1)⟩ rfl ?_
    refine c_Fl_thingAt h_f1 (o1 c1) ?_
    show Wp true i_Rr_readBoard 42 [vr 5, vr f1, vi x2, vi s0] [vi (rOn (rmC h f1) x2 s0)] h Q
    refine r_iconst f_98_42 (by decide) ?_
    refine r_br2 (t := 52) f_98_43 rfl cb_eq (fun c2 => ?_) (fun c2 => ?_)
    · refine r_aload_n (v := 5) f_98_52 rfl (by decide) ?_
      exact r_callv (as := [vr 5]) (st' := []) (ls0 := [vr 5]) f_98_53 (by decide) rfl rfl (Nat.le_of_ble_eq_true rfl) (Nat.le_of_ble_eq_true rfl) ⟨_, _, rfl, rfl⟩ rfl (k2 c1 c2)
    · refine r_aload_n (v := 5) f_98_46 rfl (by decide) ?_
      refine r_iconst f_98_47 (by decide) ?_
      exact r_callv (as := [vr 5, vi 5]) (st' := []) (ls0 := [vr 5, vi 5]) f_98_48 (by decide) rfl rfl (Nat.le_of_ble_eq_true rfl) (Nat.le_of_ble_eq_true rfl) ⟨_, _, rfl, rfl⟩ rfl (k3 c1 c2)
  · refine r_iconst f_98_34 (by decide) ?_
    exact r_retz f_98_35 rfl (by decide) (k4 c1)

theorem g_Rr_readBoard_51 {Q : PQ} {h : HP} {x2 : Int} {x3 : Int} {s0 : Int} {f1 : Nat} (h_f1 : isF f1)
    (o1 : s0 = 0 ∨ s0 = 1)
    (k2 : Q (some (vi s0)) h) :
    Wp true i_Rr_readBoard 51 [vr 5, vr f1, vi x2, vi x3] [vi s0] h Q := by
  exact r_retz f_98_51 rfl o1 k2

theorem g_Rr_readBoard_56 {Q : PQ} {h : HP} {x2 : Int} {x3 : Int} {f1 : Nat} (h_f1 : isF f1)
    (o1 : 0 ≤ h f1 3 ∧ h f1 3 < 10)
    (k2 : Q (some (vi 1)) (hs (hs h (f1 + 4) (h f1 3).toNat x2) (f1 + 5) (h f1 3).toNat x3)) :
    Wp true i_Rr_readBoard 56 [vr 5, vr f1, vi x2, vi x3] [] h Q := by
  refine r_aload_n (v := f1) f_98_56 rfl (F_n h_f1) ?_
  refine r_getr (q := (f1 + 4)) f_98_57 (F_k h_f1) (by decide) (Or.inl rfl) rfl ?_
  refine r_aload_n (v := f1) f_98_60 rfl (F_n h_f1) ?_
  refine r_geti (v := h f1 3) f_98_61 (F_k h_f1) (by decide) rfl ?_
  refine r_iload_n (v := x2) f_98_64 rfl ?_
  refine r_iastore (n := 10) f_98_65 (F_4 h_f1) o1 ?_
  refine r_aload_n (v := f1) f_98_66 rfl (F_n h_f1) ?_
  refine r_getr (q := (f1 + 5)) f_98_67 (F_k h_f1) (by decide) (Or.inl rfl) rfl ?_
  refine r_aload_n (v := f1) f_98_70 rfl (F_n h_f1) ?_
  refine r_geti (v := h f1 3) f_98_71 (F_k h_f1) (by decide) (by simp [hs]) ?_
  refine r_iload_n (v := x3) f_98_74 rfl ?_
  refine r_iastore (n := 10) f_98_75 (F_5 h_f1) o1 ?_
  refine r_iconst f_98_76 (by decide) ?_
  exact r_retz f_98_77 rfl (by decide) k2

theorem g_Rr_readWorth_0 {Q : PQ} {h : HP} {x2 : Int} {f1 : Nat} (h_f1 : isF f1)
    (k1 : Wp true i_To_takeNumber 0 [vr 5, vi 0, vi 99, vr 9999] [] h (fun r h' => Wp true i_Rr_readWorth 7 [vr 5, vr f1, vi x2, vr 9999] (r.toList ++ []) h' Q)) :
    Wp true i_Rr_readWorth 0 [vr 5, vr f1, vi x2, vr 9999] [] h Q := by
  refine r_aload_n (v := 5) f_99_0 rfl (by decide) ?_
  refine r_iconst f_99_1 (by decide) ?_
  refine r_bipush f_99_2 (by decide) ?_
  exact r_callv (as := [vr 5, vi 0, vi 99]) (st' := []) (ls0 := [vr 5, vi 0, vi 99, vr 9999]) f_99_4 (by decide) rfl rfl (Nat.le_of_ble_eq_true rfl) (Nat.le_of_ble_eq_true rfl) ⟨_, _, rfl, rfl⟩ rfl k1

theorem g_Rr_readWorth_7 {Q : PQ} {h : HP} {x2 : Int} {s0 : Int} {f1 : Nat} (h_f1 : isF f1)
    (o1 : 0 ≤ s0 → -2147483648 ≤ (h f1 3) * 2 ∧ (h f1 3) * 2 ≤ 2147483647)
    (o2 : 0 ≤ s0 → -2147483648 ≤ ((h f1 3) * 2) + x2 ∧ ((h f1 3) * 2) + x2 ≤ 2147483647)
    (o3 : 0 ≤ s0 → 0 ≤ ((h f1 3) * 2) + x2 ∧ ((h f1 3) * 2) + x2 < 20)
    (k4 : 0 ≤ s0 → Q (some (vi 1)) (hs h (f1 + 6) (((h f1 3) * 2) + x2).toNat s0))
    (k5 : ¬ 0 ≤ s0 → Q (some (vi 0)) h) :
    Wp true i_Rr_readWorth 7 [vr 5, vr f1, vi x2, vr 9999] [vi s0] h Q := by
  refine r_istore_n (ls' := [vr 5, vr f1, vi x2, vi s0]) f_99_7 (Nat.le_of_ble_eq_true rfl) rfl ?_
  refine r_iload_n (v := s0) f_99_8 rfl ?_
  refine r_br (t := 14) f_99_9 rfl cb_ge (fun c1 => ?_) (fun c1 => ?_)
  · refine r_aload_n (v := f1) f_99_14 rfl (F_n h_f1) ?_
    refine r_getr (q := (f1 + 6)) f_99_15 (F_k h_f1) (by decide) (Or.inl rfl) rfl ?_
    refine r_aload_n (v := f1) f_99_18 rfl (F_n h_f1) ?_
    refine r_geti (v := h f1 3) f_99_19 (F_k h_f1) (by decide) rfl ?_
    refine r_iconst f_99_22 (by decide) ?_
    refine r_imul (u := (h f1 3) * 2) f_99_23 rfl (o1 c1) ?_
    refine r_iload_n (v := x2) f_99_24 rfl ?_
    refine r_iadd (u := ((h f1 3) * 2) + x2) f_99_25 rfl (o2 c1) ?_
    refine r_iload_n (v := s0) f_99_26 rfl ?_
    refine r_iastore (n := 20) f_99_27 (F_6 h_f1) (o3 c1) ?_
    refine r_iconst f_99_28 (by decide) ?_
    exact r_retz f_99_29 rfl (by decide) (k4 c1)
  · refine r_iconst f_99_12 (by decide) ?_
    exact r_retz f_99_13 rfl (by decide) (k5 c1)

theorem g_Rr_readLeg_0 {Q : PQ} {h : HP}  {f1 : Nat} (h_f1 : isF f1)
    (o1 : 0 ≤ h f1 3 ∧ h f1 3 < 10)
    (k2 : (hs h (f1 + 7) (h f1 3).toNat (-1)) 5 6 = 7 → Wp true i_To_next 0 [vr 5] [] (hs h (f1 + 7) (h f1 3).toNat (-1)) (fun r h' => Wp true i_Rr_readLeg 25 [vr 5, vr f1, vr 9999] (r.toList ++ []) h' Q))
    (k3 : ¬ (hs h (f1 + 7) (h f1 3).toNat (-1)) 5 6 = 7 → Q (some (vi 1)) (hs h (f1 + 7) (h f1 3).toNat (-1))) :
    Wp true i_Rr_readLeg 0 [vr 5, vr f1, vr 9999] [] h Q := by
  refine r_aload_n (v := f1) f_100_0 rfl (F_n h_f1) ?_
  refine r_getr (q := (f1 + 7)) f_100_1 (F_k h_f1) (by decide) (Or.inl rfl) rfl ?_
  refine r_aload_n (v := f1) f_100_4 rfl (F_n h_f1) ?_
  refine r_geti (v := h f1 3) f_100_5 (F_k h_f1) (by decide) rfl ?_
  refine r_iconst f_100_8 (by decide) ?_
  refine r_iastore (n := 10) f_100_9 (F_7 h_f1) o1 ?_
  refine r_aload_n (v := 5) f_100_10 rfl (by decide) ?_
  refine r_geti (v := (hs h (f1 + 7) (h f1 3).toNat (-1)) 5 6) f_100_11 rfl (by decide) rfl ?_
  refine r_bipush f_100_14 (by decide) ?_
  refine r_br2 (t := 21) f_100_16 rfl cb_eq (fun c1 => ?_) (fun c1 => ?_)
  · refine r_aload_n (v := 5) f_100_21 rfl (by decide) ?_
    exact r_callv (as := [vr 5]) (st' := []) (ls0 := [vr 5]) f_100_22 (by decide) rfl rfl (Nat.le_of_ble_eq_true rfl) (Nat.le_of_ble_eq_true rfl) ⟨_, _, rfl, rfl⟩ rfl (k2 c1)
  · refine r_iconst f_100_19 (by decide) ?_
    exact r_retz f_100_20 rfl (by decide) (k3 c1)

theorem g_Rr_readLeg_25 {Q : PQ} {h : HP}  {f1 : Nat} (h_f1 : isF f1)
    (k1 : Wp true i_To_takeNumber 0 [vr 5, vi 0, vi 1, vr 9999] [] h (fun r h' => Wp true i_Rr_readLeg 31 [vr 5, vr f1, vr 9999] (r.toList ++ []) h' Q)) :
    Wp true i_Rr_readLeg 25 [vr 5, vr f1, vr 9999] [] h Q := by
  refine r_aload_n (v := 5) f_100_25 rfl (by decide) ?_
  refine r_iconst f_100_26 (by decide) ?_
  refine r_iconst f_100_27 (by decide) ?_
  exact r_callv (as := [vr 5, vi 0, vi 1]) (st' := []) (ls0 := [vr 5, vi 0, vi 1, vr 9999]) f_100_28 (by decide) rfl rfl (Nat.le_of_ble_eq_true rfl) (Nat.le_of_ble_eq_true rfl) ⟨_, _, rfl, rfl⟩ rfl k1

theorem g_Rr_readLeg_31 {Q : PQ} {h : HP} {s0 : Int} {f1 : Nat} (h_f1 : isF f1)
    (o1 : 0 ≤ h f1 3 ∧ h f1 3 < 10)
    (k2 : s0 < 0 → Q (some (vi 0)) (hs h (f1 + 7) (h f1 3).toNat s0))
    (k3 : ¬ s0 < 0 → Q (some (vi 1)) (hs h (f1 + 7) (h f1 3).toNat s0)) :
    Wp true i_Rr_readLeg 31 [vr 5, vr f1, vr 9999] [vi s0] h Q := by
  refine r_istore_n (ls' := [vr 5, vr f1, vi s0]) f_100_31 (Nat.le_of_ble_eq_true rfl) rfl ?_
  refine r_aload_n (v := f1) f_100_32 rfl (F_n h_f1) ?_
  refine r_getr (q := (f1 + 7)) f_100_33 (F_k h_f1) (by decide) (Or.inl rfl) rfl ?_
  refine r_aload_n (v := f1) f_100_36 rfl (F_n h_f1) ?_
  refine r_geti (v := h f1 3) f_100_37 (F_k h_f1) (by decide) rfl ?_
  refine r_iload_n (v := s0) f_100_40 rfl ?_
  refine r_iastore (n := 10) f_100_41 (F_7 h_f1) o1 ?_
  refine r_iload_n (v := s0) f_100_42 rfl ?_
  refine r_br (t := 50) f_100_43 rfl cb_lt (fun c1 => ?_) (fun c1 => ?_)
  · refine r_iconst f_100_50 (by decide) ?_
    exact r_retz f_100_51 rfl (by decide) (k2 c1)
  · refine r_iconst f_100_46 (by decide) ?_
    refine r_goto (t := 51) f_100_47 rfl ?_
    exact r_retz f_100_51 rfl (by decide) (k3 c1)

theorem g_Rr_readBig_0 {Q : PQ} {h : HP}  {f1 : Nat} (h_f1 : isF f1)
    (k1 : ¬ h 5 6 = 8 → Wp true i_Rr_readBig 28 [vr 5, vr f1] [] h Q)
    (k2 : h 5 6 = 8 → Wp true i_To_next 0 [vr 5] [] (hs h f1 12 (o_or (h f1 12) (o_shl 1 (h f1 3)))) (fun r h' => Wp true i_Rr_readBig 28 [vr 5, vr f1] (r.toList ++ []) h' Q)) :
    Wp true i_Rr_readBig 0 [vr 5, vr f1] [] h Q := by
  refine r_aload_n (v := 5) f_101_0 rfl (by decide) ?_
  refine r_geti (v := h 5 6) f_101_1 rfl (by decide) rfl ?_
  refine r_bipush f_101_4 (by decide) ?_
  refine r_br2 (t := 28) f_101_6 rfl cb_ne (fun c1 => ?_) (fun c1 => ?_)
  · exact (k1 c1)
  · have c1 := Decidable.not_not.mp c1
    refine r_aload_n (v := f1) f_101_9 rfl (F_n h_f1) ?_
    refine r_dupr f_101_10 ?_
    refine r_geti (v := h f1 12) f_101_11 (F_k h_f1) (by decide) rfl ?_
    refine r_iconst f_101_14 (by decide) ?_
    refine r_aload_n (v := f1) f_101_15 rfl (F_n h_f1) ?_
    refine r_geti (v := h f1 3) f_101_16 (F_k h_f1) (by decide) rfl ?_
    refine r_ishl f_101_19 ?_
    refine r_ior f_101_20 ?_
    refine r_puti f_101_21 (F_k h_f1) (by decide) ?_
    refine r_aload_n (v := 5) f_101_24 rfl (by decide) ?_
    exact r_callv (as := [vr 5]) (st' := []) (ls0 := [vr 5]) f_101_25 (by decide) rfl rfl (Nat.le_of_ble_eq_true rfl) (Nat.le_of_ble_eq_true rfl) ⟨_, _, rfl, rfl⟩ rfl (k2 c1)

theorem g_Rr_readBig_28 {Q : PQ} {h : HP}  {f1 : Nat} (h_f1 : isF f1)
    (k1 : Q (some (vi 1)) h) :
    Wp true i_Rr_readBig 28 [vr 5, vr f1] [] h Q := by
  refine r_iconst f_101_28 (by decide) ?_
  exact r_retz f_101_29 rfl (by decide) k1

theorem g_Rr_readThing_0 {Q : PQ} {h : HP}  {f2 : Nat} (h_f2 : isF f2)
    (k1 : Wp true i_To_next 0 [vr 5] [] h (fun r h' => Wp true i_Rr_readThing 4 [vr 8, vr 5, vr f2, vr 9999] (r.toList ++ []) h' Q)) :
    Wp true i_Rr_readThing 0 [vr 8, vr 5, vr f2, vr 9999] [] h Q := by
  refine r_aload_n (v := 5) f_97_0 rfl (by decide) ?_
  exact r_callv (as := [vr 5]) (st' := []) (ls0 := [vr 5]) f_97_1 (by decide) rfl rfl (Nat.le_of_ble_eq_true rfl) (Nat.le_of_ble_eq_true rfl) ⟨_, _, rfl, rfl⟩ rfl k1

theorem g_Rr_readThing_4 {Q : PQ} {h : HP}  {f2 : Nat} (h_f2 : isF f2)
    (k1 : Wp true i_To_isName 0 [vr 5] [] h (fun r h' => Wp true i_Rr_readThing 8 [vr 8, vr 5, vr f2, vr 9999] (r.toList ++ []) h' Q)) :
    Wp true i_Rr_readThing 4 [vr 8, vr 5, vr f2, vr 9999] [] h Q := by
  refine r_aload_n (v := 5) f_97_4 rfl (by decide) ?_
  exact r_callv (as := [vr 5]) (st' := []) (ls0 := [vr 5]) f_97_5 (by decide) rfl rfl (Nat.le_of_ble_eq_true rfl) (Nat.le_of_ble_eq_true rfl) ⟨_, _, rfl, rfl⟩ rfl k1

theorem g_Rr_readThing_8 {Q : PQ} {h : HP} {s0 : Int} {f2 : Nat} (h_f2 : isF f2)
    (k1 : ¬ s0 = 0 → Wp true i_Fl_thingNamed 0 [vr f2, vj (h 5 9), vr 9999, vr 9999] [] h (fun r h' => Wp true i_Rr_readThing 25 [vr 8, vr 5, vr f2, vr 9999] (r.toList ++ []) h' Q))
    (k2 : s0 = 0 → Wp true i_To_fail 0 [vr 5, vi 2] [] h (fun r h' => Wp true i_Rr_readThing 16 [vr 8, vr 5, vr f2, vr 9999] (r.toList ++ []) h' Q)) :
    Wp true i_Rr_readThing 8 [vr 8, vr 5, vr f2, vr 9999] [vi s0] h Q := by
  refine r_br (t := 17) f_97_8 rfl cb_ne (fun c1 => ?_) (fun c1 => ?_)
  · refine r_aload_n (v := f2) f_97_17 rfl (F_n h_f2) ?_
    refine r_aload_n (v := 5) f_97_18 rfl (by decide) ?_
    refine r_getj (v := h 5 9) f_97_19 rfl (by decide) rfl ?_
    exact r_callv (as := [vr f2, vj (h 5 9)]) (st' := []) (ls0 := [vr f2, vj (h 5 9), vr 9999, vr 9999]) f_97_22 (by decide) rfl rfl (Nat.le_of_ble_eq_true rfl) (Nat.le_of_ble_eq_true rfl) ⟨_, _, rfl, (F_k h_f2)⟩ rfl (k1 c1)
  · have c1 := Decidable.not_not.mp c1
    refine r_aload_n (v := 5) f_97_11 rfl (by decide) ?_
    refine r_iconst f_97_12 (by decide) ?_
    exact r_callv (as := [vr 5, vi 2]) (st' := []) (ls0 := [vr 5, vi 2]) f_97_13 (by decide) rfl rfl (Nat.le_of_ble_eq_true rfl) (Nat.le_of_ble_eq_true rfl) ⟨_, _, rfl, rfl⟩ rfl (k2 c1)

theorem g_Rr_readThing_16 {Q : PQ} {h : HP} {s0 : Int} {f2 : Nat} (h_f2 : isF f2)
    (o1 : s0 = 0 ∨ s0 = 1)
    (k2 : Q (some (vi s0)) h) :
    Wp true i_Rr_readThing 16 [vr 8, vr 5, vr f2, vr 9999] [vi s0] h Q := by
  exact r_retz f_97_16 rfl o1 k2

theorem g_Rr_readThing_25 {Q : PQ} {h : HP} {s0 : Int} {f2 : Nat} (h_f2 : isF f2)
    (o1 : s0 = -1 → 0 ≤ h f2 3 ∧ h f2 3 < 10)
    (k2 : s0 = -1 → Wp true i_To_next 0 [vr 5] [] (hs h (f2 + 3) (h f2 3).toNat (h 5 9)) (fun r h' => Wp true i_Rr_readThing 52 [vr 8, vr 5, vr f2, vr 9999] (r.toList ++ []) h' Q))
    (k3 : ¬ s0 = -1 → Wp true i_To_fail 0 [vr 5, vi 3] [] h (fun r h' => Wp true i_Rr_readThing 34 [vr 8, vr 5, vr f2, vr 9999] (r.toList ++ []) h' Q)) :
    Wp true i_Rr_readThing 25 [vr 8, vr 5, vr f2, vr 9999] [vi s0] h Q := by
  refine r_iconst f_97_25 (by decide) ?_
  refine r_br2 (t := 35) f_97_26 rfl cb_eq (fun c1 => ?_) (fun c1 => ?_)
  · refine r_aload_n (v := f2) f_97_35 rfl (F_n h_f2) ?_
    refine r_getr (q := (f2 + 3)) f_97_36 (F_k h_f2) (by decide) (Or.inl rfl) rfl ?_
    refine r_aload_n (v := f2) f_97_39 rfl (F_n h_f2) ?_
    refine r_geti (v := h f2 3) f_97_40 (F_k h_f2) (by decide) rfl ?_
    refine r_aload_n (v := 5) f_97_43 rfl (by decide) ?_
    refine r_getj (v := h 5 9) f_97_44 rfl (by decide) rfl ?_
    refine r_lastore (n := 10) f_97_47 (F_3 h_f2) (o1 c1) ?_
    refine r_aload_n (v := 5) f_97_48 rfl (by decide) ?_
    exact r_callv (as := [vr 5]) (st' := []) (ls0 := [vr 5]) f_97_49 (by decide) rfl rfl (Nat.le_of_ble_eq_true rfl) (Nat.le_of_ble_eq_true rfl) ⟨_, _, rfl, rfl⟩ rfl (k2 c1)
  · refine r_aload_n (v := 5) f_97_29 rfl (by decide) ?_
    refine r_iconst f_97_30 (by decide) ?_
    exact r_callv (as := [vr 5, vi 3]) (st' := []) (ls0 := [vr 5, vi 3]) f_97_31 (by decide) rfl rfl (Nat.le_of_ble_eq_true rfl) (Nat.le_of_ble_eq_true rfl) ⟨_, _, rfl, rfl⟩ rfl (k3 c1)

theorem g_Rr_readThing_34 {Q : PQ} {h : HP} {s0 : Int} {f2 : Nat} (h_f2 : isF f2)
    (o1 : s0 = 0 ∨ s0 = 1)
    (k2 : Q (some (vi s0)) h) :
    Wp true i_Rr_readThing 34 [vr 8, vr 5, vr f2, vr 9999] [vi s0] h Q := by
  exact r_retz f_97_34 rfl o1 k2

theorem g_Rr_readThing_52 {Q : PQ} {h : HP}  {f2 : Nat} (h_f2 : isF f2)
    (k1 : Wp true i_To_takeWord 0 [vr 5, vi 5] [] h (fun r h' => Wp true i_Rr_readThing 57 [vr 8, vr 5, vr f2, vr 9999] (r.toList ++ []) h' Q)) :
    Wp true i_Rr_readThing 52 [vr 8, vr 5, vr f2, vr 9999] [] h Q := by
  refine r_aload_n (v := 5) f_97_52 rfl (by decide) ?_
  refine r_iconst f_97_53 (by decide) ?_
  exact r_callv (as := [vr 5, vi 5]) (st' := []) (ls0 := [vr 5, vi 5]) f_97_54 (by decide) rfl rfl (Nat.le_of_ble_eq_true rfl) (Nat.le_of_ble_eq_true rfl) ⟨_, _, rfl, rfl⟩ rfl k1

theorem g_Rr_readThing_57 {Q : PQ} {h : HP} {s0 : Int} {f2 : Nat} (h_f2 : isF f2)
    (k1 : s0 = 0 → Wp true i_Rr_readThing 123 [vr 8, vr 5, vr f2, vr 9999] [vi 0] h Q)
    (k2 : ¬ s0 = 0 → Wp true i_Rr_readBoard 0 [vr 5, vr f2, vr 9999, vr 9999] [] h (fun r h' => Wp true i_Rr_readThing 65 [vr 8, vr 5, vr f2, vr 9999] (r.toList ++ []) h' Q)) :
    Wp true i_Rr_readThing 57 [vr 8, vr 5, vr f2, vr 9999] [vi s0] h Q := by
  refine r_br (t := 122) f_97_57 rfl cb_eq (fun c1 => ?_) (fun c1 => ?_)
  · refine r_iconst f_97_122 (by decide) ?_
    exact (k1 c1)
  · refine r_aload_n (v := 5) f_97_60 rfl (by decide) ?_
    refine r_aload_n (v := f2) f_97_61 rfl (F_n h_f2) ?_
    exact r_calls (as := [vr 5, vr f2]) (st' := []) (ls0 := [vr 5, vr f2, vr 9999, vr 9999]) f_97_62 (by decide) (by decide) rfl rfl (Nat.le_of_ble_eq_true rfl) (Nat.le_of_ble_eq_true rfl) rfl (k2 c1)

theorem g_Rr_readThing_65 {Q : PQ} {h : HP} {s0 : Int} {f2 : Nat} (h_f2 : isF f2)
    (k1 : s0 = 0 → Wp true i_Rr_readThing 123 [vr 8, vr 5, vr f2, vr 9999] [vi 0] h Q)
    (k2 : ¬ s0 = 0 → Wp true i_To_takeWord 0 [vr 5, vi 6] [] h (fun r h' => Wp true i_Rr_readThing 74 [vr 8, vr 5, vr f2, vr 9999] (r.toList ++ []) h' Q)) :
    Wp true i_Rr_readThing 65 [vr 8, vr 5, vr f2, vr 9999] [vi s0] h Q := by
  refine r_br (t := 122) f_97_65 rfl cb_eq (fun c1 => ?_) (fun c1 => ?_)
  · refine r_iconst f_97_122 (by decide) ?_
    exact (k1 c1)
  · refine r_aload_n (v := 5) f_97_68 rfl (by decide) ?_
    refine r_bipush f_97_69 (by decide) ?_
    exact r_callv (as := [vr 5, vi 6]) (st' := []) (ls0 := [vr 5, vi 6]) f_97_71 (by decide) rfl rfl (Nat.le_of_ble_eq_true rfl) (Nat.le_of_ble_eq_true rfl) ⟨_, _, rfl, rfl⟩ rfl (k2 c1)

theorem g_Rr_readThing_74 {Q : PQ} {h : HP} {s0 : Int} {f2 : Nat} (h_f2 : isF f2)
    (k1 : s0 = 0 → Wp true i_Rr_readThing 123 [vr 8, vr 5, vr f2, vr 9999] [vi 0] h Q)
    (k2 : ¬ s0 = 0 → Wp true i_Rr_readWorth 0 [vr 5, vr f2, vi 0, vr 9999] [] h (fun r h' => Wp true i_Rr_readThing 83 [vr 8, vr 5, vr f2, vr 9999] (r.toList ++ []) h' Q)) :
    Wp true i_Rr_readThing 74 [vr 8, vr 5, vr f2, vr 9999] [vi s0] h Q := by
  refine r_br (t := 122) f_97_74 rfl cb_eq (fun c1 => ?_) (fun c1 => ?_)
  · refine r_iconst f_97_122 (by decide) ?_
    exact (k1 c1)
  · refine r_aload_n (v := 5) f_97_77 rfl (by decide) ?_
    refine r_aload_n (v := f2) f_97_78 rfl (F_n h_f2) ?_
    refine r_iconst f_97_79 (by decide) ?_
    exact r_calls (as := [vr 5, vr f2, vi 0]) (st' := []) (ls0 := [vr 5, vr f2, vi 0, vr 9999]) f_97_80 (by decide) (by decide) rfl rfl (Nat.le_of_ble_eq_true rfl) (Nat.le_of_ble_eq_true rfl) rfl (k2 c1)

theorem g_Rr_readThing_83 {Q : PQ} {h : HP} {s0 : Int} {f2 : Nat} (h_f2 : isF f2)
    (k1 : s0 = 0 → Wp true i_Rr_readThing 123 [vr 8, vr 5, vr f2, vr 9999] [vi 0] h Q)
    (k2 : ¬ s0 = 0 → Wp true i_Rr_readWorth 0 [vr 5, vr f2, vi 1, vr 9999] [] h (fun r h' => Wp true i_Rr_readThing 92 [vr 8, vr 5, vr f2, vr 9999] (r.toList ++ []) h' Q)) :
    Wp true i_Rr_readThing 83 [vr 8, vr 5, vr f2, vr 9999] [vi s0] h Q := by
  refine r_br (t := 122) f_97_83 rfl cb_eq (fun c1 => ?_) (fun c1 => ?_)
  · refine r_iconst f_97_122 (by decide) ?_
    exact (k1 c1)
  · refine r_aload_n (v := 5) f_97_86 rfl (by decide) ?_
    refine r_aload_n (v := f2) f_97_87 rfl (F_n h_f2) ?_
    refine r_iconst f_97_88 (by decide) ?_
    exact r_calls (as := [vr 5, vr f2, vi 1]) (st' := []) (ls0 := [vr 5, vr f2, vi 1, vr 9999]) f_97_89 (by decide) (by decide) rfl rfl (Nat.le_of_ble_eq_true rfl) (Nat.le_of_ble_eq_true rfl) rfl (k2 c1)

theorem g_Rr_readThing_92 {Q : PQ} {h : HP} {s0 : Int} {f2 : Nat} (h_f2 : isF f2)
    (k1 : s0 = 0 → Wp true i_Rr_readThing 123 [vr 8, vr 5, vr f2, vr 9999] [vi 0] h Q)
    (k2 : ¬ s0 = 0 → Wp true i_Rr_readLeg 0 [vr 5, vr f2, vr 9999] [] h (fun r h' => Wp true i_Rr_readThing 100 [vr 8, vr 5, vr f2, vr 9999] (r.toList ++ []) h' Q)) :
    Wp true i_Rr_readThing 92 [vr 8, vr 5, vr f2, vr 9999] [vi s0] h Q := by
  refine r_br (t := 122) f_97_92 rfl cb_eq (fun c1 => ?_) (fun c1 => ?_)
  · refine r_iconst f_97_122 (by decide) ?_
    exact (k1 c1)
  · refine r_aload_n (v := 5) f_97_95 rfl (by decide) ?_
    refine r_aload_n (v := f2) f_97_96 rfl (F_n h_f2) ?_
    exact r_calls (as := [vr 5, vr f2]) (st' := []) (ls0 := [vr 5, vr f2, vr 9999]) f_97_97 (by decide) (by decide) rfl rfl (Nat.le_of_ble_eq_true rfl) (Nat.le_of_ble_eq_true rfl) rfl (k2 c1)

theorem g_Rr_readThing_100 {Q : PQ} {h : HP} {s0 : Int} {f2 : Nat} (h_f2 : isF f2)
    (k1 : s0 = 0 → Wp true i_Rr_readThing 123 [vr 8, vr 5, vr f2, vr 9999] [vi 0] h Q)
    (k2 : ¬ s0 = 0 → Wp true i_Rr_readBig 0 [vr 5, vr f2] [] h (fun r h' => Wp true i_Rr_readThing 108 [vr 8, vr 5, vr f2, vr 9999] (r.toList ++ []) h' Q)) :
    Wp true i_Rr_readThing 100 [vr 8, vr 5, vr f2, vr 9999] [vi s0] h Q := by
  refine r_br (t := 122) f_97_100 rfl cb_eq (fun c1 => ?_) (fun c1 => ?_)
  · refine r_iconst f_97_122 (by decide) ?_
    exact (k1 c1)
  · refine r_aload_n (v := 5) f_97_103 rfl (by decide) ?_
    refine r_aload_n (v := f2) f_97_104 rfl (F_n h_f2) ?_
    exact r_calls (as := [vr 5, vr f2]) (st' := []) (ls0 := [vr 5, vr f2]) f_97_105 (by decide) (by decide) rfl rfl (Nat.le_of_ble_eq_true rfl) (Nat.le_of_ble_eq_true rfl) rfl (k2 c1)

theorem g_Rr_readThing_108 {Q : PQ} {h : HP} {s0 : Int} {f2 : Nat} (h_f2 : isF f2)
    (k1 : s0 = 0 → Wp true i_Rr_readThing 123 [vr 8, vr 5, vr f2, vr 9999] [vi 0] h Q)
    (k2 : ¬ s0 = 0 → Wp true i_To_takeEndOfPart 0 [vr 5] [] h (fun r h' => Wp true i_Rr_readThing 115 [vr 8, vr 5, vr f2, vr 9999] (r.toList ++ []) h' Q)) :
    Wp true i_Rr_readThing 108 [vr 8, vr 5, vr f2, vr 9999] [vi s0] h Q := by
  refine r_br (t := 122) f_97_108 rfl cb_eq (fun c1 => ?_) (fun c1 => ?_)
  · refine r_iconst f_97_122 (by decide) ?_
    exact (k1 c1)
  · refine r_aload_n (v := 5) f_97_111 rfl (by decide) ?_
    exact r_callv (as := [vr 5]) (st' := []) (ls0 := [vr 5]) f_97_112 (by decide) rfl rfl (Nat.le_of_ble_eq_true rfl) (Nat.le_of_ble_eq_true rfl) ⟨_, _, rfl, rfl⟩ rfl (k2 c1)

theorem g_Rr_readThing_115 {Q : PQ} {h : HP} {s0 : Int} {f2 : Nat} (h_f2 : isF f2)
    (k1 : s0 = 0 → Wp true i_Rr_readThing 123 [vr 8, vr 5, vr f2, vr 9999] [vi 0] h Q)
    (k2 : ¬ s0 = 0 → Wp true i_Rr_readThing 123 [vr 8, vr 5, vr f2, vr 9999] [vi 1] h Q) :
    Wp true i_Rr_readThing 115 [vr 8, vr 5, vr f2, vr 9999] [vi s0] h Q := by
  refine r_br (t := 122) f_97_115 rfl cb_eq (fun c1 => ?_) (fun c1 => ?_)
  · refine r_iconst f_97_122 (by decide) ?_
    exact (k1 c1)
  · refine r_iconst f_97_118 (by decide) ?_
    refine r_goto (t := 123) f_97_119 rfl ?_
    exact (k2 c1)

theorem g_Rr_readThing_123 {Q : PQ} {h : HP} {s0 : Int} {f2 : Nat} (h_f2 : isF f2)
    (o1 : s0 = 0 → s0 = 0 ∨ s0 = 1)
    (k2 : s0 = 0 → Q (some (vi s0)) h)
    (o3 : ¬ s0 = 0 → -2147483648 ≤ (h f2 3) + 1 ∧ (h f2 3) + 1 ≤ 2147483647)
    (o4 : ¬ s0 = 0 → s0 = 0 ∨ s0 = 1)
    (k5 : ¬ s0 = 0 → Q (some (vi s0)) (hs h f2 3 ((h f2 3) + 1))) :
    Wp true i_Rr_readThing 123 [vr 8, vr 5, vr f2, vr 9999] [vi s0] h Q := by
  refine r_istore_n (ls' := [vr 8, vr 5, vr f2, vi s0]) f_97_123 (Nat.le_of_ble_eq_true rfl) rfl ?_
  refine r_iload_n (v := s0) f_97_124 rfl ?_
  refine r_br (t := 138) f_97_125 rfl cb_eq (fun c1 => ?_) (fun c1 => ?_)
  · refine r_iload_n (v := s0) f_97_138 rfl ?_
    exact r_retz f_97_139 rfl (o1 c1) (k2 c1)
  · refine r_aload_n (v := f2) f_97_128 rfl (F_n h_f2) ?_
    refine r_dupr f_97_129 ?_
    refine r_geti (v := h f2 3) f_97_130 (F_k h_f2) (by decide) rfl ?_
    refine r_iconst f_97_133 (by decide) ?_
    refine r_iadd (u := (h f2 3) + 1) f_97_134 rfl (o3 c1) ?_
    refine r_puti f_97_135 (F_k h_f2) (by decide) ?_
    refine r_iload_n (v := s0) f_97_138 rfl ?_
    exact r_retz f_97_139 rfl (o4 c1) (k5 c1)

theorem g_Rr_readAll_0 {Q : PQ} {h : HP}  {f2 : Nat} (h_f2 : isF f2)
    (k1 : Wp true i_Fl_clear 0 [vr f2] [] h (fun r h' => Wp true i_Rr_readAll 4 [vr 8, vr 5, vr f2, vr 9999, vr 9999, vr 9999, vr 9999] (r.toList ++ []) h' Q)) :
    Wp true i_Rr_readAll 0 [vr 8, vr 5, vr f2, vr 9999, vr 9999, vr 9999, vr 9999] [] h Q := by
  refine r_aload_n (v := f2) f_93_0 rfl (F_n h_f2) ?_
  exact r_callv (as := [vr f2]) (st' := []) (ls0 := [vr f2]) f_93_1 (by decide) rfl rfl (Nat.le_of_ble_eq_true rfl) (Nat.le_of_ble_eq_true rfl) ⟨_, _, rfl, (F_k h_f2)⟩ rfl k1

theorem g_Rr_readAll_4 {Q : PQ} {h : HP}  {f2 : Nat} (h_f2 : isF f2)
    (k1 : Wp true i_Rr_readAll 19 [vr 8, vr 5, vr f2, vi 1, vi 0, vr 9999, vr 9999] [] (hs (hs h 8 0 0) 8 1 0) Q) :
    Wp true i_Rr_readAll 4 [vr 8, vr 5, vr f2, vr 9999, vr 9999, vr 9999, vr 9999] [] h Q := by
  refine r_aload_n (v := 8) f_93_4 rfl (by decide) ?_
  refine r_iconst f_93_5 (by decide) ?_
  refine r_putz f_93_6 rfl (by decide) (by decide) ?_
  refine r_aload_n (v := 8) f_93_9 rfl (by decide) ?_
  refine r_iconst f_93_10 (by decide) ?_
  refine r_putz f_93_11 rfl (by decide) (by decide) ?_
  refine r_iconst f_93_14 (by decide) ?_
  refine r_istore_n (ls' := [vr 8, vr 5, vr f2, vi 1, vr 9999, vr 9999, vr 9999]) f_93_15 (Nat.le_of_ble_eq_true rfl) rfl ?_
  refine r_iconst f_93_16 (by decide) ?_
  refine r_istore (ls' := [vr 8, vr 5, vr f2, vi 1, vi 0, vr 9999, vr 9999]) f_93_17 (Nat.le_of_ble_eq_true rfl) rfl ?_
  exact k1

theorem g_Rr_readAll_19 {Q : PQ} {h : HP} {x3 : Int} {x4 : Int} {j5 : AV} {j6 : AV} {f2 : Nat} (h_f2 : isF f2)
    (o1 : 900 < x4 → x3 = 0 ∨ x3 = 1)
    (k2 : 900 < x4 → Q (some (vi x3)) h)
    (o3 : ¬ 900 < x4 → x3 = 0 → x3 = 0 ∨ x3 = 1)
    (k4 : ¬ 900 < x4 → x3 = 0 → Q (some (vi x3)) h)
    (o5 : ¬ 900 < x4 → ¬ x3 = 0 → h 5 5 = 0 → x3 = 0 ∨ x3 = 1)
    (k6 : ¬ 900 < x4 → ¬ x3 = 0 → h 5 5 = 0 → Q (some (vi x3)) h)
    (k7 : ¬ 900 < x4 → ¬ x3 = 0 → ¬ h 5 5 = 0 → h f2 1 ≤ 0 → Wp true i_Rr_readAll 50 [vr 8, vr 5, vr f2, vi x3, vi x4, j5, j6] [vi 0] h Q)
    (k8 : ¬ 900 < x4 → ¬ x3 = 0 → ¬ h 5 5 = 0 → ¬ h f2 1 ≤ 0 → Wp true i_Rr_readAll 50 [vr 8, vr 5, vr f2, vi x3, vi x4, j5, j6] [vi 1] h Q) :
    Wp true i_Rr_readAll 19 [vr 8, vr 5, vr f2, vi x3, vi x4, j5, j6] [] h Q := by
  refine r_iload (v := x4) f_93_19 rfl ?_
  refine r_sipush f_93_21 (by decide) ?_
  refine r_br2 (t := 225) f_93_24 rfl cb_gt (fun c1 => ?_) (fun c1 => ?_)
  · refine r_iload_n (v := x3) f_93_225 rfl ?_
    exact r_retz f_93_226 rfl (o1 c1) (k2 c1)
  · refine r_iload_n (v := x3) f_93_27 rfl ?_
    refine r_br (t := 225) f_93_28 rfl cb_eq (fun c2 => ?_) (fun c2 => ?_)
    · refine r_iload_n (v := x3) f_93_225 rfl ?_
      exact r_retz f_93_226 rfl (o3 c1 c2) (k4 c1 c2)
    · refine r_aload_n (v := 5) f_93_31 rfl (by decide) ?_
      refine r_geti (v := h 5 5) f_93_32 rfl (by decide) rfl ?_
      refine r_br (t := 225) f_93_35 rfl cb_eq (fun c3 => ?_) (fun c3 => ?_)
      · refine r_iload_n (v := x3) f_93_225 rfl ?_
        exact r_retz f_93_226 rfl (o5 c1 c2 c3) (k6 c1 c2 c3)
      · refine r_aload_n (v := f2) f_93_38 rfl (F_n h_f2) ?_
        refine r_geti (v := h f2 1) f_93_39 (F_k h_f2) (by decide) rfl ?_
        refine r_br (t := 49) f_93_42 rfl cb_le (fun c4 => ?_) (fun c4 => ?_)
        · refine r_iconst f_93_49 (by decide) ?_
          exact (k7 c1 c2 c3 c4)
        · refine r_iconst f_93_45 (by decide) ?_
          refine r_goto (t := 50) f_93_46 rfl ?_
          exact (k8 c1 c2 c3 c4)

theorem g_Rr_readAll_50 {Q : PQ} {h : HP} {x3 : Int} {x4 : Int} {j5 : AV} {j6 : AV} {s0 : Int} {f2 : Nat} (h_f2 : isF f2)
    (k1 : ¬ s0 = 0 → Wp true i_Rr_readAll 72 [vr 8, vr 5, vr f2, vi x3, vi x4, vi s0, j6] [vi (h 5 6)] h Q)
    (k2 : s0 = 0 → ¬ h 5 6 = 0 → Wp true i_Rr_readAll 72 [vr 8, vr 5, vr f2, vi x3, vi x4, vi s0, j6] [vi (-1)] h Q)
    (k3 : s0 = 0 → h 5 6 = 0 → Wp true i_Rr_readAll 72 [vr 8, vr 5, vr f2, vi x3, vi x4, vi s0, j6] [vi (h 5 6)] h Q) :
    Wp true i_Rr_readAll 50 [vr 8, vr 5, vr f2, vi x3, vi x4, j5, j6] [vi s0] h Q := by
  refine r_istore (ls' := [vr 8, vr 5, vr f2, vi x3, vi x4, vi s0, j6]) f_93_50 (Nat.le_of_ble_eq_true rfl) rfl ?_
  refine r_iload (v := s0) f_93_52 rfl ?_
  refine r_br (t := 64) f_93_54 rfl cb_ne (fun c1 => ?_) (fun c1 => ?_)
  · refine r_aload_n (v := 5) f_93_64 rfl (by decide) ?_
    refine r_geti (v := h 5 6) f_93_65 rfl (by decide) rfl ?_
    refine r_goto (t := 72) f_93_68 rfl ?_
    exact (k1 c1)
  · have c1 := Decidable.not_not.mp c1
    refine r_aload_n (v := 5) f_93_57 rfl (by decide) ?_
    refine r_geti (v := h 5 6) f_93_58 rfl (by decide) rfl ?_
    refine r_br (t := 71) f_93_61 rfl cb_ne (fun c2 => ?_) (fun c2 => ?_)
    · refine r_iconst f_93_71 (by decide) ?_
      exact (k2 c1 c2)
    · have c2 := Decidable.not_not.mp c2
      refine r_aload_n (v := 5) f_93_64 rfl (by decide) ?_
      refine r_geti (v := h 5 6) f_93_65 rfl (by decide) rfl ?_
      refine r_goto (t := 72) f_93_68 rfl ?_
      exact (k3 c1 c2)

theorem g_Rr_readAll_72 {Q : PQ} {h : HP} {x3 : Int} {x4 : Int} {x5 : Int} {j6 : AV} {s0 : Int} {f2 : Nat} (h_f2 : isF f2)
    (k1 : s0 = 0 → x5 = 0 → Wp true i_Rr_readSize 0 [vr 8, vr 5, vr f2, vr 9999, vr 9999] [] h (fun r h' => Wp true i_Rr_readAll 131 [vr 8, vr 5, vr f2, vi x3, vi x4, vi x5, vi s0] (r.toList ++ []) h' Q))
    (k2 : s0 = 0 → ¬ x5 = 0 → Wp true i_To_fail 0 [vr 5, vi 5] [] h (fun r h' => Wp true i_Rr_readAll 122 [vr 8, vr 5, vr f2, vi x3, vi x4, vi x5, vi s0] (r.toList ++ []) h' Q))
    (k3 : s0 = 2 → h 8 0 = 0 → Wp true i_Rr_readLine 0 [vr 8, vr 5, vr f2, vr 9999, vr 9999] [] h (fun r h' => Wp true i_Rr_readAll 156 [vr 8, vr 5, vr f2, vi x3, vi x4, vi x5, vi s0] (r.toList ++ []) h' Q))
    (k4 : s0 = 2 → ¬ h 8 0 = 0 → Wp true i_To_fail 0 [vr 5, vi 5] [] h (fun r h' => Wp true i_Rr_readAll 147 [vr 8, vr 5, vr f2, vi x3, vi x4, vi x5, vi s0] (r.toList ++ []) h' Q))
    (k5 : s0 = 3 → h 8 1 = 0 → Wp true i_Rr_readBends 0 [vr 8, vr 5, vr f2, vr 9999] [] h (fun r h' => Wp true i_Rr_readAll 181 [vr 8, vr 5, vr f2, vi x3, vi x4, vi x5, vi s0] (r.toList ++ []) h' Q))
    (k6 : s0 = 3 → ¬ h 8 1 = 0 → Wp true i_To_fail 0 [vr 5, vi 5] [] h (fun r h' => Wp true i_Rr_readAll 172 [vr 8, vr 5, vr f2, vi x3, vi x4, vi x5, vi s0] (r.toList ++ []) h' Q))
    (k7 : s0 = 4 → h f2 3 < 10 → Wp true i_Rr_readThing 0 [vr 8, vr 5, vr f2, vr 9999] [] h (fun r h' => Wp true i_Rr_readAll 209 [vr 8, vr 5, vr f2, vi x3, vi x4, vi x5, vi s0] (r.toList ++ []) h' Q))
    (k8 : s0 = 4 → ¬ h f2 3 < 10 → Wp true i_To_fail 0 [vr 5, vi 6] [] h (fun r h' => Wp true i_Rr_readAll 200 [vr 8, vr 5, vr f2, vi x3, vi x4, vi x5, vi s0] (r.toList ++ []) h' Q))
    (k9 : s0 = 1 → Wp true i_To_fail 0 [vr 5, vi 2] [] h (fun r h' => Wp true i_Rr_readAll 218 [vr 8, vr 5, vr f2, vi x3, vi x4, vi x5, vi s0] (r.toList ++ []) h' Q))
    (k10 : ¬ s0 = 0 → ¬ s0 = 2 → ¬ s0 = 3 → ¬ s0 = 4 → ¬ s0 = 1 → Wp true i_To_fail 0 [vr 5, vi 2] [] h (fun r h' => Wp true i_Rr_readAll 218 [vr 8, vr 5, vr f2, vi x3, vi x4, vi x5, vi s0] (r.toList ++ []) h' Q)) :
    Wp true i_Rr_readAll 72 [vr 8, vr 5, vr f2, vi x3, vi x4, vi x5, j6] [vi s0] h Q := by
  refine r_istore (ls' := [vr 8, vr 5, vr f2, vi x3, vi x4, vi x5, vi s0]) f_93_72 (Nat.le_of_ble_eq_true rfl) rfl ?_
  refine r_iload (v := s0) f_93_74 rfl ?_
  by_cases c1 : s0 = 0
  · refine r_swi (t := 112) f_93_76 0 c1 (by decide) rfl rfl ?_
    refine r_iload (v := x5) f_93_112 rfl ?_
    refine r_br (t := 125) f_93_114 rfl cb_eq (fun c2 => ?_) (fun c2 => ?_)
    · refine r_aload_n (v := 8) f_93_125 rfl (by decide) ?_
      refine r_aload_n (v := 5) f_93_126 rfl (by decide) ?_
      refine r_aload_n (v := f2) f_93_127 rfl (F_n h_f2) ?_
      exact r_callv (as := [vr 8, vr 5, vr f2]) (st' := []) (ls0 := [vr 8, vr 5, vr f2, vr 9999, vr 9999]) f_93_128 (by decide) rfl rfl (Nat.le_of_ble_eq_true rfl) (Nat.le_of_ble_eq_true rfl) ⟨_, _, rfl, rfl⟩ rfl (k1 c1 c2)
    · refine r_aload_n (v := 5) f_93_117 rfl (by decide) ?_
      refine r_iconst f_93_118 (by decide) ?_
      exact r_callv (as := [vr 5, vi 5]) (st' := []) (ls0 := [vr 5, vi 5]) f_93_119 (by decide) rfl rfl (Nat.le_of_ble_eq_true rfl) (Nat.le_of_ble_eq_true rfl) ⟨_, _, rfl, rfl⟩ rfl (k2 c1 c2)
  by_cases c2 : s0 = 2
  · refine r_swi (t := 135) f_93_76 2 c2 (by decide) rfl rfl ?_
    refine r_aload_n (v := 8) f_93_135 rfl (by decide) ?_
    refine r_geti (v := h 8 0) f_93_136 rfl (by decide) rfl ?_
    refine r_br (t := 150) f_93_139 rfl cb_eq (fun c3 => ?_) (fun c3 => ?_)
    · refine r_aload_n (v := 8) f_93_150 rfl (by decide) ?_
      refine r_aload_n (v := 5) f_93_151 rfl (by decide) ?_
      refine r_aload_n (v := f2) f_93_152 rfl (F_n h_f2) ?_
      exact r_callv (as := [vr 8, vr 5, vr f2]) (st' := []) (ls0 := [vr 8, vr 5, vr f2, vr 9999, vr 9999]) f_93_153 (by decide) rfl rfl (Nat.le_of_ble_eq_true rfl) (Nat.le_of_ble_eq_true rfl) ⟨_, _, rfl, rfl⟩ rfl (k3 c2 c3)
    · refine r_aload_n (v := 5) f_93_142 rfl (by decide) ?_
      refine r_iconst f_93_143 (by decide) ?_
      exact r_callv (as := [vr 5, vi 5]) (st' := []) (ls0 := [vr 5, vi 5]) f_93_144 (by decide) rfl rfl (Nat.le_of_ble_eq_true rfl) (Nat.le_of_ble_eq_true rfl) ⟨_, _, rfl, rfl⟩ rfl (k4 c2 c3)
  by_cases c3 : s0 = 3
  · refine r_swi (t := 160) f_93_76 3 c3 (by decide) rfl rfl ?_
    refine r_aload_n (v := 8) f_93_160 rfl (by decide) ?_
    refine r_geti (v := h 8 1) f_93_161 rfl (by decide) rfl ?_
    refine r_br (t := 175) f_93_164 rfl cb_eq (fun c4 => ?_) (fun c4 => ?_)
    · refine r_aload_n (v := 8) f_93_175 rfl (by decide) ?_
      refine r_aload_n (v := 5) f_93_176 rfl (by decide) ?_
      refine r_aload_n (v := f2) f_93_177 rfl (F_n h_f2) ?_
      exact r_callv (as := [vr 8, vr 5, vr f2]) (st' := []) (ls0 := [vr 8, vr 5, vr f2, vr 9999]) f_93_178 (by decide) rfl rfl (Nat.le_of_ble_eq_true rfl) (Nat.le_of_ble_eq_true rfl) ⟨_, _, rfl, rfl⟩ rfl (k5 c3 c4)
    · refine r_aload_n (v := 5) f_93_167 rfl (by decide) ?_
      refine r_iconst f_93_168 (by decide) ?_
      exact r_callv (as := [vr 5, vi 5]) (st' := []) (ls0 := [vr 5, vi 5]) f_93_169 (by decide) rfl rfl (Nat.le_of_ble_eq_true rfl) (Nat.le_of_ble_eq_true rfl) ⟨_, _, rfl, rfl⟩ rfl (k6 c3 c4)
  by_cases c4 : s0 = 4
  · refine r_swi (t := 185) f_93_76 4 c4 (by decide) rfl rfl ?_
    refine r_aload_n (v := f2) f_93_185 rfl (F_n h_f2) ?_
    refine r_geti (v := h f2 3) f_93_186 (F_k h_f2) (by decide) rfl ?_
    refine r_bipush f_93_189 (by decide) ?_
    refine r_br2 (t := 203) f_93_191 rfl cb_lt (fun c5 => ?_) (fun c5 => ?_)
    · refine r_aload_n (v := 8) f_93_203 rfl (by decide) ?_
      refine r_aload_n (v := 5) f_93_204 rfl (by decide) ?_
      refine r_aload_n (v := f2) f_93_205 rfl (F_n h_f2) ?_
      exact r_callv (as := [vr 8, vr 5, vr f2]) (st' := []) (ls0 := [vr 8, vr 5, vr f2, vr 9999]) f_93_206 (by decide) rfl rfl (Nat.le_of_ble_eq_true rfl) (Nat.le_of_ble_eq_true rfl) ⟨_, _, rfl, rfl⟩ rfl (k7 c4 c5)
    · refine r_aload_n (v := 5) f_93_194 rfl (by decide) ?_
      refine r_bipush f_93_195 (by decide) ?_
      exact r_callv (as := [vr 5, vi 6]) (st' := []) (ls0 := [vr 5, vi 6]) f_93_197 (by decide) rfl rfl (Nat.le_of_ble_eq_true rfl) (Nat.le_of_ble_eq_true rfl) ⟨_, _, rfl, rfl⟩ rfl (k8 c4 c5)
  by_cases c5 : s0 = 1
  · refine r_swi (t := 213) f_93_76 1 c5 (by decide) rfl rfl ?_
    refine r_aload_n (v := 5) f_93_213 rfl (by decide) ?_
    refine r_iconst f_93_214 (by decide) ?_
    exact r_callv (as := [vr 5, vi 2]) (st' := []) (ls0 := [vr 5, vi 2]) f_93_215 (by decide) rfl rfl (Nat.le_of_ble_eq_true rfl) (Nat.le_of_ble_eq_true rfl) ⟨_, _, rfl, rfl⟩ rfl (k9 c5)
  refine r_swo (t := 213) f_93_76 (by omega) rfl ?_
  refine r_aload_n (v := 5) f_93_213 rfl (by decide) ?_
  refine r_iconst f_93_214 (by decide) ?_
  exact r_callv (as := [vr 5, vi 2]) (st' := []) (ls0 := [vr 5, vi 2]) f_93_215 (by decide) rfl rfl (Nat.le_of_ble_eq_true rfl) (Nat.le_of_ble_eq_true rfl) ⟨_, _, rfl, rfl⟩ rfl (k10 c1 c2 c3 c4 c5)

theorem g_Rr_readAll_122 {Q : PQ} {h : HP} {x3 : Int} {x4 : Int} {x5 : Int} {x6 : Int} {s0 : Int} {f2 : Nat} (h_f2 : isF f2)
    (k1 : Wp true i_Rr_readAll 131 [vr 8, vr 5, vr f2, vi x3, vi x4, vi x5, vi x6] [vi s0] h Q) :
    Wp true i_Rr_readAll 122 [vr 8, vr 5, vr f2, vi x3, vi x4, vi x5, vi x6] [vi s0] h Q := by
  refine r_goto (t := 131) f_93_122 rfl ?_
  exact k1

theorem g_Rr_readAll_131 {Q : PQ} {h : HP} {x3 : Int} {x4 : Int} {x5 : Int} {x6 : Int} {s0 : Int} {f2 : Nat} (h_f2 : isF f2)
    (o1 : -2147483648 ≤ x4 + 1 ∧ x4 + 1 ≤ 2147483647)
    (k2 : Wp true i_Rr_readAll 19 [vr 8, vr 5, vr f2, vi s0, vi (x4 + 1), vi x5, vi x6] [] h Q) :
    Wp true i_Rr_readAll 131 [vr 8, vr 5, vr f2, vi x3, vi x4, vi x5, vi x6] [vi s0] h Q := by
  refine r_istore_n (ls' := [vr 8, vr 5, vr f2, vi s0, vi x4, vi x5, vi x6]) f_93_131 (Nat.le_of_ble_eq_true rfl) rfl ?_
  refine r_goto (t := 219) f_93_132 rfl ?_
  refine r_iinc (v := x4) (w := x4 + 1) (ls' := [vr 8, vr 5, vr f2, vi s0, vi (x4 + 1), vi x5, vi x6]) f_93_219 rfl rfl o1 rfl ?_
  refine r_goto (t := 19) f_93_222 rfl ?_
  exact k2

theorem g_Rr_readAll_147 {Q : PQ} {h : HP} {x3 : Int} {x4 : Int} {x5 : Int} {x6 : Int} {s0 : Int} {f2 : Nat} (h_f2 : isF f2)
    (k1 : Wp true i_Rr_readAll 156 [vr 8, vr 5, vr f2, vi x3, vi x4, vi x5, vi x6] [vi s0] h Q) :
    Wp true i_Rr_readAll 147 [vr 8, vr 5, vr f2, vi x3, vi x4, vi x5, vi x6] [vi s0] h Q := by
  refine r_goto (t := 156) f_93_147 rfl ?_
  exact k1

theorem g_Rr_readAll_156 {Q : PQ} {h : HP} {x3 : Int} {x4 : Int} {x5 : Int} {x6 : Int} {s0 : Int} {f2 : Nat} (h_f2 : isF f2)
    (o1 : -2147483648 ≤ x4 + 1 ∧ x4 + 1 ≤ 2147483647)
    (k2 : Wp true i_Rr_readAll 19 [vr 8, vr 5, vr f2, vi s0, vi (x4 + 1), vi x5, vi x6] [] h Q) :
    Wp true i_Rr_readAll 156 [vr 8, vr 5, vr f2, vi x3, vi x4, vi x5, vi x6] [vi s0] h Q := by
  refine r_istore_n (ls' := [vr 8, vr 5, vr f2, vi s0, vi x4, vi x5, vi x6]) f_93_156 (Nat.le_of_ble_eq_true rfl) rfl ?_
  refine r_goto (t := 219) f_93_157 rfl ?_
  refine r_iinc (v := x4) (w := x4 + 1) (ls' := [vr 8, vr 5, vr f2, vi s0, vi (x4 + 1), vi x5, vi x6]) f_93_219 rfl rfl o1 rfl ?_
  refine r_goto (t := 19) f_93_222 rfl ?_
  exact k2

theorem g_Rr_readAll_172 {Q : PQ} {h : HP} {x3 : Int} {x4 : Int} {x5 : Int} {x6 : Int} {s0 : Int} {f2 : Nat} (h_f2 : isF f2)
    (k1 : Wp true i_Rr_readAll 181 [vr 8, vr 5, vr f2, vi x3, vi x4, vi x5, vi x6] [vi s0] h Q) :
    Wp true i_Rr_readAll 172 [vr 8, vr 5, vr f2, vi x3, vi x4, vi x5, vi x6] [vi s0] h Q := by
  refine r_goto (t := 181) f_93_172 rfl ?_
  exact k1

theorem g_Rr_readAll_181 {Q : PQ} {h : HP} {x3 : Int} {x4 : Int} {x5 : Int} {x6 : Int} {s0 : Int} {f2 : Nat} (h_f2 : isF f2)
    (o1 : -2147483648 ≤ x4 + 1 ∧ x4 + 1 ≤ 2147483647)
    (k2 : Wp true i_Rr_readAll 19 [vr 8, vr 5, vr f2, vi s0, vi (x4 + 1), vi x5, vi x6] [] h Q) :
    Wp true i_Rr_readAll 181 [vr 8, vr 5, vr f2, vi x3, vi x4, vi x5, vi x6] [vi s0] h Q := by
  refine r_istore_n (ls' := [vr 8, vr 5, vr f2, vi s0, vi x4, vi x5, vi x6]) f_93_181 (Nat.le_of_ble_eq_true rfl) rfl ?_
  refine r_goto (t := 219) f_93_182 rfl ?_
  refine r_iinc (v := x4) (w := x4 + 1) (ls' := [vr 8, vr 5, vr f2, vi s0, vi (x4 + 1), vi x5, vi x6]) f_93_219 rfl rfl o1 rfl ?_
  refine r_goto (t := 19) f_93_222 rfl ?_
  exact k2

theorem g_Rr_readAll_200 {Q : PQ} {h : HP} {x3 : Int} {x4 : Int} {x5 : Int} {x6 : Int} {s0 : Int} {f2 : Nat} (h_f2 : isF f2)
    (k1 : Wp true i_Rr_readAll 209 [vr 8, vr 5, vr f2, vi x3, vi x4, vi x5, vi x6] [vi s0] h Q) :
    Wp true i_Rr_readAll 200 [vr 8, vr 5, vr f2, vi x3, vi x4, vi x5, vi x6] [vi s0] h Q := by
  refine r_goto (t := 209) f_93_200 rfl ?_
  exact k1

theorem g_Rr_readAll_209 {Q : PQ} {h : HP} {x3 : Int} {x4 : Int} {x5 : Int} {x6 : Int} {s0 : Int} {f2 : Nat} (h_f2 : isF f2)
    (o1 : -2147483648 ≤ x4 + 1 ∧ x4 + 1 ≤ 2147483647)
    (k2 : Wp true i_Rr_readAll 19 [vr 8, vr 5, vr f2, vi s0, vi (x4 + 1), vi x5, vi x6] [] h Q) :
    Wp true i_Rr_readAll 209 [vr 8, vr 5, vr f2, vi x3, vi x4, vi x5, vi x6] [vi s0] h Q := by
  refine r_istore_n (ls' := [vr 8, vr 5, vr f2, vi s0, vi x4, vi x5, vi x6]) f_93_209 (Nat.le_of_ble_eq_true rfl) rfl ?_
  refine r_goto (t := 219) f_93_210 rfl ?_
  refine r_iinc (v := x4) (w := x4 + 1) (ls' := [vr 8, vr 5, vr f2, vi s0, vi (x4 + 1), vi x5, vi x6]) f_93_219 rfl rfl o1 rfl ?_
  refine r_goto (t := 19) f_93_222 rfl ?_
  exact k2

theorem g_Rr_readAll_218 {Q : PQ} {h : HP} {x3 : Int} {x4 : Int} {x5 : Int} {x6 : Int} {s0 : Int} {f2 : Nat} (h_f2 : isF f2)
    (o1 : -2147483648 ≤ x4 + 1 ∧ x4 + 1 ≤ 2147483647)
    (k2 : Wp true i_Rr_readAll 19 [vr 8, vr 5, vr f2, vi s0, vi (x4 + 1), vi x5, vi x6] [] h Q) :
    Wp true i_Rr_readAll 218 [vr 8, vr 5, vr f2, vi x3, vi x4, vi x5, vi x6] [vi s0] h Q := by
  refine r_istore_n (ls' := [vr 8, vr 5, vr f2, vi s0, vi x4, vi x5, vi x6]) f_93_218 (Nat.le_of_ble_eq_true rfl) rfl ?_
  refine r_iinc (v := x4) (w := x4 + 1) (ls' := [vr 8, vr 5, vr f2, vi s0, vi (x4 + 1), vi x5, vi x6]) f_93_219 rfl rfl o1 rfl ?_
  refine r_goto (t := 19) f_93_222 rfl ?_
  exact k2

/-! ===== the class reads a ROOM: X is the heap but for the TOKEN that is looked at ===== -/
def EC (X g : HP) : Prop := (∀ k, k ≠ 5 → g k = X k) ∧ ∀ i, i < 5 → g 5 i = X 5 i
def St (B : Bt) (n s : Nat) (X g : HP) : Prop := EC X g ∧ CS B n s g
def scC (k : Nat) : Prop := k = 8 ∨ k = 9 ∨ (18 ≤ k ∧ k < 26) ∨ (32 ≤ k ∧ k < 38)
def FX (H X : HP) : Prop := ∀ k, ¬ scC k → X k = H k
def FaC (H g : HP) (fk : Int) (fp : Nat) : Prop := (∀ k, k ≠ 5 → ¬ scC k → g k = H k) ∧ g 5 2 = H 5 2 ∧ g 5 3 = fk ∧ g 5 4 = fp
theorem EC_r {X : HP} : EC X X := ⟨fun _ _ => rfl, fun _ _ => rfl⟩
theorem EC_o {X g f : HP} (e : EC X g) (o : Oth 5 TLC g f) : EC X f := ⟨fun k hk => (o.1 k hk).trans (e.1 k hk), fun i hi => (o.2 i (by simp only [List.mem_cons, List.not_mem_nil, or_false, not_or]; omega)).trans (e.2 i hi)⟩
theorem EC_w {X g : HP} {k i : Nat} {v : Int} (e : EC X g) (hk : k ≠ 5) : EC (hs X k i v) (hs g k i v) := by
  refine ⟨fun k' hk' => ?_, fun i' hi' => ?_⟩
  · funext j
    simp only [hs, e.1 k' hk']
  · rw [hs_ne (fun q => hk q.symm), hs_ne (fun q => hk q.symm)]; exact e.2 i' hi'
theorem CS_f {B : Bt} {n s : Nat} {h g : HP} (S : CS B n s h) (e5 : g 5 = h 5) (e6 : g 6 = h 6) (e7 : g 7 = h 7) : CS B n s g := by
  unfold CS TpC TkC
  rw [e5, e6, e7]; exact S
theorem St_w {B : Bt} {n s : Nat} {X g : HP} {k i : Nat} {v : Int} (S : St B n s X g) (hk : 8 ≤ k) : St B n s (hs X k i v) (hs g k i v) :=
  ⟨EC_w S.1 (by omega), CS_f S.2 (hs_ne (by omega)) (hs_ne (by omega)) (hs_ne (by omega))⟩
theorem St_wr {B : Bt} {n s : Nat} {X g : HP} {k a m : Nat} {T : Nat → Int} (S : St B n s X g) (hk : 8 ≤ k) : St B n s (wr X k a m T) (wr g k a m T) := by
  refine ⟨⟨fun k' hk' => ?_, fun i' hi' => ?_⟩, CS_f S.2 (wr_ne (by omega)) (wr_ne (by omega)) (wr_ne (by omega))⟩
  · funext j
    simp only [wr, S.1.1 k' hk']
  · rw [wr_ne (by omega), wr_ne (by omega)]; exact S.1.2 i' hi'
theorem FX_r {H : HP} : FX H H := fun _ _ => rfl
theorem FX_w {H X : HP} {k i : Nat} {v : Int} (F : FX H X) (hk : scC k) : FX H (hs X k i v) := fun k' hk' => by
  rw [hs_ne (fun q => hk' (by rw [q]; exact hk))]; exact F k' hk'
theorem FX_wr {H X : HP} {k a m : Nat} {T : Nat → Int} (F : FX H X) (hk : scC k) : FX H (wr X k a m T) := fun k' hk' => by
  rw [wr_ne (fun q => hk' (by rw [q]; exact hk))]; exact F k' hk'
theorem sc5 : ¬ scC 5 := by unfold scC; omega
theorem sc8 : scC 8 := Or.inl rfl
theorem sc18 {j : Nat} (h : j < 8) : scC (18 + j) := Or.inr (Or.inr (Or.inl (by omega)))
theorem FaC_of {H X h g : HP} {fk : Int} {fp : Nat} (F : FX H X) (e : EC X h) (f : FtC h g fk fp) : FaC H g fk fp := by
  refine ⟨fun k hk hs => ?_, ?_, f.1, f.2.1⟩
  · rw [f.2.2.2 k hk, e.1 k hk, F k hs]
  · rw [f.2.2.1, e.2 2 (by decide), F 5 sc5]
theorem FaC_w {H g : HP} {fk : Int} {fp k i : Nat} {v : Int} (f : FaC H g fk fp) (k5 : k ≠ 5) (hk : scC k) : FaC H (hs g k i v) fk fp := by
  refine ⟨fun j hj hs' => ?_, ?_, ?_, ?_⟩
  · rw [hs_ne (fun q => hs' (by rw [q]; exact hk))]; exact f.1 j hj hs'
  · rw [hs_ne (fun q => k5 q.symm)]; exact f.2.1
  · rw [hs_ne (fun q => k5 q.symm)]; exact f.2.2.1
  · rw [hs_ne (fun q => k5 q.symm)]; exact f.2.2.2
section
variable {Q : PQ} {h H X : HP} {B : Bt} {n s : Nat}
theorem c2_next (S : St B n s X h) (k : ∀ g, St B n (nx B n s) X g → Q none g) : Wp true i_To_next 0 [vr 5] [] h Q :=
  c_To_nx S.2 (fun g S' o => k g ⟨EC_o S.1 o, S'⟩)
theorem c2_fail {x1 : Int} {α : Type} {K : α → Prop} (F : FX H X) (S : St B n s X h) (k : hd (fl B n s x1 : PR α) (fun fk fp => ∀ g, FaC H g fk fp → Q (some (vi 0)) g) K) : Wp true i_To_fail 0 [vr 5, vi x1] [] h Q :=
  c_To_fail S.2 (hd_m k (fun _ _ q g f => q g (FaC_of F S.1 f)) (fun _ q => q))
theorem c2_word {w : Int} (F : FX H X) (S : St B n s X h) (k : hd (sWord B n s w) (fun fk fp => ∀ g, FaC H g fk fp → Q (some (vi 0)) g) (fun s' => ∀ g, St B n s' X g → Q (some (vi 1)) g)) : Wp true i_To_takeWord 0 [vr 5, vi w] [] h Q :=
  c_To_takeWord S.2 (hd_m k (fun _ _ q g f => q g (FaC_of F S.1 f)) (fun _ q g S' o => q g ⟨EC_o S.1 o, S'⟩))
theorem c2_end (F : FX H X) (S : St B n s X h) (k : hd (sEnd B n s) (fun fk fp => ∀ g, FaC H g fk fp → Q (some (vi 0)) g) (fun s' => ∀ g, St B n s' X g → Q (some (vi 1)) g)) : Wp true i_To_takeEndOfPart 0 [vr 5] [] h Q :=
  c_To_takeEnd S.2 (hd_m k (fun _ _ q g f => q g (FaC_of F S.1 f)) (fun _ q g S' o => q g ⟨EC_o S.1 o, S'⟩))
theorem c2_num {lo hi : Int} (F : FX H X) (S : St B n s X h) (lo0 : 0 ≤ lo) (k : hd (sNum B n s lo hi) (fun fk fp => ∀ g, FaC H g fk fp → Q (some (vi (-1))) g) (fun a => lo ≤ a.1 → a.1 ≤ hi → ∀ g, St B n a.2 X g → Q (some (vi a.1)) g)) : Wp true i_To_takeNumber 0 [vr 5, vi lo, vi hi, vr 9999] [] h Q :=
  c_To_takeNumber S.2 lo0 (hd_m k (fun _ _ q g f => q g (FaC_of F S.1 f)) (fun _ q l1 l2 g S' o => q l1 l2 g ⟨EC_o S.1 o, S'⟩))
theorem c2_look {lo hi : Int} (F : FX H X) (S : St B n s X h) (k : hd (sNum B n s lo hi) (fun fk fp => ∀ g, FaC H g fk fp → Q (some (vi (-1))) g) (fun a => lo ≤ a.1 → a.1 ≤ hi → a.2 = nx B n s → Q (some (vi a.1)) h)) : Wp true i_To_lookForNumber 0 [vr 5, vi lo, vi hi] [] h Q := by
  refine c_To_lookFor S.2 ?_
  rcases sNum_c (B := B) (n := n) (s := s) (lo := lo) (hi := hi) with ⟨fk, fp, e⟩ | ⟨e, l1, l2, -⟩
  · rw [e] at k ⊢
    exact fun g f => k g (FaC_of F S.1 f)
  · rw [e] at k ⊢
    exact k l1 l2 rfl
/-- the draft of a ROOM -/
def DX (X R : HP) (N : NT) : Prop := rmC X 18 = R ∧ (∀ i : Nat, (i : Int) < R 0 3 → X 21 i = nm32 (N i)) ∧ ∀ k : Nat, R 0 3 ≤ k → k < 32 → btI (X 18 12) k = false
theorem rmC_E {X g : HP} (e : EC X g) : rmC g 18 = rmC X 18 :=
  rmC_congr (fun i => by rw [e.1 18 (by decide)]) (e.1 _ (by decide)) (e.1 _ (by decide)) (e.1 _ (by decide)) (e.1 _ (by decide)) (e.1 _ (by decide)) (e.1 _ (by decide))
theorem DX_0 {R : HP} {N : NT} (D : DX X R N) : X 18 0 = R 0 0 ∧ X 18 1 = R 0 1 ∧ X 18 3 = R 0 3 := by
  rw [← D.1]; exact ⟨rfl, rfl, rfl⟩
theorem c_Fl_lay {w d : Int} (hw : 0 ≤ w ∧ w ≤ 9) (hd : 0 ≤ d ∧ d ≤ 7) (k : Q none (wr (hs (hs h 18 0 w) 18 1 d) 20 0 d.toNat (fun _ => w / 2))) : Wp true i_Fl_lay 0 [vr 18, vi w, vi d, vr 9999] [] h Q := by
  refine g_Fl_lay_0 isF_18 ?_
  have lp : ∀ (m i : Nat), (i : Int) + m = d → Wp true i_Fl_lay 12 [vr 18, vi w, vi d, vi (i : Int)] [] (wr (hs (hs h 18 0 w) 18 1 d) 20 0 i (fun _ => w / 2)) Q := by
    intro m
    induction m with
    | zero =>
      intro i hi
      have e1 : (wr (hs (hs h 18 0 w) 18 1 d) 20 0 i (fun _ => w / 2)) 18 1 = d := by rw [wr_ne (by decide), hs_s]
      have ei : i = d.toNat := by omega
      refine g_Fl_lay_12 isF_18 (fun _ => by rw [ei]; exact k) (fun c => by omega) (fun c => by omega) (fun c => by omega) (fun c => by omega)
    | succ m ih =>
      intro i hi
      have e0 : (wr (hs (hs h 18 0 w) 18 1 d) 20 0 i (fun _ => w / 2)) 18 0 = w := by rw [wr_ne (by decide), hs_o (by decide), hs_s]
      have e1 : (wr (hs (hs h 18 0 w) 18 1 d) 20 0 i (fun _ => w / 2)) 18 1 = d := by rw [wr_ne (by decide), hs_s]
      refine g_Fl_lay_12 isF_18 (fun c => by omega) (fun c => by omega) (fun c => by omega) (fun c => by omega) (fun c => ?_)
      have st := ih (i + 1) (by omega)
      have := wr_s (h := hs (hs h 18 0 w) 18 1 d) (k := 20) (a := 0) (n := i) (T := fun _ => w / 2)
      rw [Nat.zero_add] at this
      rw [e0, Int.toNat_natCast]
      show Wp true i_Fl_lay 12 [vr 18, vi w, vi d, vi ((i : Int) + 1)] [] (hs (wr (hs (hs h 18 0 w) 18 1 d) 20 0 i (fun _ => w / 2)) 20 i (w / 2)) Q
      rw [this]
      exact st
  have := lp d.toNat 0 (by omega)
  rw [wr_0] at this
  exact this
theorem DX_lay {R : HP} {N : NT} {w d : Int} (D : DX X R N) (hd : 0 ≤ d) : DX (wr (hs (hs X 18 0 w) 18 1 d) 20 0 d.toNat (fun _ => w / 2)) (rLay R w d) N := by
  obtain ⟨Y, eY⟩ : ∃ Y, Y = wr (hs (hs X 18 0 w) 18 1 d) 20 0 d.toNat (fun _ => w / 2) := ⟨_, rfl⟩
  have h18 : ∀ j, Y 18 j = if j = 0 then w else if j = 1 then d else X 18 j := by
    intro j
    rw [eY, wr_ne (by decide)]
    simp only [hs]
    by_cases z : j = 1
    · subst z; simp
    · by_cases y : j = 0
      · subst y; simp
      · simp [z, y]
  have h20 : ∀ j, Y 20 j = if j < d.toNat then w / 2 else X 20 j := by
    intro j
    rw [eY]
    simp only [wr, hs]
    by_cases z : j < d.toNat
    · simp [z]
    · simp [z]
  have ho : ∀ k, k ≠ 18 → k ≠ 20 → Y k = X k := fun k h1 h2 => by rw [eY, wr_ne h2, hs_ne h1, hs_ne h1]
  rw [← eY]
  have e3 : rLay R w d 0 3 = R 0 3 := rfl
  refine ⟨?_, fun i hi => ?_, fun k hk h32 => ?_⟩
  · rw [← D.1]
    funext k i
    have h19 : Y (18 + 1) = X 19 := ho 19 (by decide) (by decide)
    have h22 : Y (18 + 4) = X 22 := ho 22 (by decide) (by decide)
    have h23 : Y (18 + 5) = X 23 := ho 23 (by decide) (by decide)
    have h24 : Y (18 + 6) = X 24 := ho 24 (by decide) (by decide)
    have h25 : Y (18 + 7) = X 25 := ho 25 (by decide) (by decide)
    have h20' : ∀ j, Y (18 + 2) j = if j < d.toNat then w / 2 else X 20 j := h20
    simp only [rmC, rLay, h18, h19, h20', h22, h23, h24, h25]
    by_cases k0 : k = 0
    · subst k0
      by_cases i0 : i = 0
      · subst i0; simp
      · by_cases i1 : i = 1
        · subst i1; simp
        · simp [i0, i1]
    · by_cases k1 : k = 1
      · subst k1
        by_cases c : (i : Int) < d
        · simp [c, show i < d.toNat by omega]
        · simp [c]
      · simp [k0, k1]
  · rw [e3] at hi
    rw [ho 21 (by decide) (by decide)]; exact D.2.1 i hi
  · rw [e3] at hk
    rw [h18]
    exact D.2.2 k hk h32
theorem c_Rr_readSize {R : HP} {N : NT} (F : FX H X) (S : St B n s X h) (D : DX X R N) (k : hd (sSize B n s R) (fun fk fp => ∀ g, FaC H g fk fp → Q (some (vi 0)) g) (fun a => ∀ Y g, FX H Y → St B n a.1 Y g → DX Y a.2 N → Y 8 = X 8 → Q (some (vi 1)) g)) : Wp true i_Rr_readSize 0 [vr 8, vr 5, vr 18, vr 9999, vr 9999] [] h Q := by
  unfold sSize at k
  refine g_Rr_readSize_0 isF_18 (c2_next S (fun g1 S1 => g_Rr_readSize_4 isF_18 (c2_num F S1 (by decide) ?_)))
  refine hd_m (hd_bd.mp k) (fun fk fp q g f => g_Rr_readSize_11 isF_18 (fun _ => q g f) (fun z => absurd (by decide) z)) (fun a q la ha g2 S2 => ?_)
  refine g_Rr_readSize_11 isF_18 (fun z => by omega) (fun _ => c2_word F S2 (hd_m (hd_bd.mp q) (fun fk fp q g f => g_Rr_readSize_21 isF_18 (fun z => absurd rfl z) (fun _ => q g f)) (fun s2 q2 g3 S3 => ?_)))
  refine g_Rr_readSize_21 isF_18 (fun _ => c2_num F S3 (by decide) (hd_m (hd_bd.mp q2) (fun fk fp q g f => g_Rr_readSize_33 isF_18 (fun z => absurd z (by decide)) (fun _ => q g f)) (fun d q3 ld hd4 g4 S4 => ?_))) (fun z => absurd z (by decide))
  refine g_Rr_readSize_33 isF_18 (fun _ => c_Fl_lay ⟨by omega, ha⟩ ⟨by omega, hd4⟩ ?_) (fun z => by omega)
  have F5 : FX H (wr (hs (hs X 18 0 a.1) 18 1 d.1) 20 0 d.1.toNat (fun _ => a.1 / 2)) := FX_wr (FX_w (FX_w F (sc18 (j := 0) (by decide))) (sc18 (j := 0) (by decide))) (sc18 (j := 2) (by decide))
  have S5 := St_wr (k := 20) (a := 0) (m := d.1.toNat) (T := fun _ => a.1 / 2) (St_w (k := 18) (i := 1) (v := d.1) (St_w (k := 18) (i := 0) (v := a.1) S4 (by decide)) (by decide)) (by decide)
  refine g_Rr_readSize_49 isF_18 (c2_end F5 S5 (hd_m (hd_bd.mp q3) (fun fk fp q g f => g_Rr_readSize_53 isF_18 (Or.inl rfl) (q g f)) (fun s4 q4 g6 S6 => g_Rr_readSize_53 isF_18 (Or.inr rfl) (q4 _ g6 F5 S6 (DX_lay D (by omega)) ?_))))
  rw [wr_ne (by decide), hs_ne (by decide), hs_ne (by decide)]
theorem DX_cut {R : HP} {N : NT} {r : Nat} {v : Int} (D : DX X R N) (hr : (r : Int) < R 0 1) : DX (hs X 20 r v) (hs R 1 r v) N := by
  have e3 : (hs R 1 r v) 0 3 = R 0 3 := hs_o (Or.inl (by decide))
  have x1 := (DX_0 D).2.1
  refine ⟨?_, fun i hi => ?_, fun k hk h32 => ?_⟩
  · rw [← D.1]
    funext k i
    have h18 : (hs X 20 r v) 18 = X 18 := hs_ne (by decide)
    have h19 : (hs X 20 r v) (18 + 1) = X 19 := hs_ne (by decide)
    have h22 : (hs X 20 r v) (18 + 4) = X 22 := hs_ne (by decide)
    have h23 : (hs X 20 r v) (18 + 5) = X 23 := hs_ne (by decide)
    have h24 : (hs X 20 r v) (18 + 6) = X 24 := hs_ne (by decide)
    have h25 : (hs X 20 r v) (18 + 7) = X 25 := hs_ne (by decide)
    by_cases k1 : k = 1
    · subst k1
      by_cases z : i = r
      · subst z
        rw [hs_s]
        show (if (i : Int) < (hs X 20 i v) 18 1 then (hs X 20 i v) 20 i else 0) = v
        rw [h18, if_pos (by omega), hs_s]
      · rw [hs_o (Or.inr z)]
        show (if (i : Int) < (hs X 20 r v) 18 1 then (hs X 20 r v) 20 i else 0) = (if (i : Int) < X 18 1 then X 20 i else 0)
        rw [h18, hs_o (Or.inr z)]
    · rw [hs_o (Or.inl k1)]
      simp only [rmC, h18, h19, h22, h23, h24, h25, k1, if_false]
  · rw [e3] at hi
    rw [hs_ne (by decide)]; exact D.2.1 i hi
  · rw [e3] at hk
    rw [hs_ne (by decide)]
    exact D.2.2 k hk h32
theorem c_Rr_readLine {R : HP} {N : NT} (F : FX H X) (S : St B n s X h) (D : DX X R N) (h7 : 0 ≤ R 0 1 ∧ R 0 1 ≤ 7) (k : hd (sLine B n s R) (fun fk fp => ∀ g, FaC H g fk fp → Q (some (vi 0)) g) (fun a => ∀ Y g, FX H Y → St B n a.1 Y g → DX Y a.2 N → Y 8 0 = 1 → Y 8 1 = X 8 1 → Q (some (vi 1)) g)) : Wp true i_Rr_readLine 0 [vr 8, vr 5, vr 18, vr 9999, vr 9999] [] h Q := by
  unfold sLine at k
  have lp : ∀ (d r s : Nat) (Y g R' : HP) (j4 : AV), (r : Int) + d = R 0 1 → R' 0 1 = R 0 1 → FX H Y → St B n s Y g → DX Y R' N → Y 8 0 = 1 → Y 8 1 = X 8 1 →
      hd (sCuts B n d r s R') (fun fk fp => ∀ g, FaC H g fk fp → Q (some (vi 0)) g) (fun a => hd (bd (sEnd B n a.1) fun s' => (.inr (s', a.2) : PR (Nat × HP))) (fun fk fp => ∀ g, FaC H g fk fp → Q (some (vi 0)) g) (fun a => ∀ Y g, FX H Y → St B n a.1 Y g → DX Y a.2 N → Y 8 0 = 1 → Y 8 1 = X 8 1 → Q (some (vi 1)) g)) →
      Wp true i_Rr_readLine 11 [vr 8, vr 5, vr 18, vi (r : Int), j4] [] g Q := by
    intro d
    induction d with
    | zero =>
      intro r s Y g R' j4 hr eR FY SY DY y0 y1 kk
      have e1 : g 18 1 = R 0 1 := by rw [SY.1.1 18 (by decide), (DX_0 DY).2.1, eR]
      refine g_Rr_readLine_11 isF_18 (fun _ => ?_) (fun c => by omega)
      exact c2_end FY SY (hd_m (hd_bd.mp kk) (fun fk fp q g f => g_Rr_readLine_55 isF_18 (Or.inl rfl) (q g f)) (fun s' q g' S' => g_Rr_readLine_55 isF_18 (Or.inr rfl) (q Y g' FY S' DY y0 y1)))
    | succ d ih =>
      intro r s Y g R' j4 hr eR FY SY DY y0 y1 kk
      have e1 : g 18 1 = R 0 1 := by rw [SY.1.1 18 (by decide), (DX_0 DY).2.1, eR]
      have e0 : g 18 0 = R' 0 0 := by rw [SY.1.1 18 (by decide), (DX_0 DY).1]
      refine g_Rr_readLine_11 isF_18 (fun c => by omega) (fun _ => ?_)
      rw [e0]
      rw [sCuts] at kk
      refine c2_num FY SY (by decide) (hd_m (hd_bd.mp kk) (fun fk fp q g f => g_Rr_readLine_28 isF_18 (fun z => absurd z (by decide)) (fun z => absurd z (by decide)) (fun z => absurd z (by decide)) (fun _ => q g f)) (fun a q l1 l2 g' S' => ?_))
      refine g_Rr_readLine_28 isF_18 (fun _ => by omega) (fun _ => by omega) (fun _ => ?_) (fun z => by omega)
      rw [Int.toNat_natCast]
      exact ih (r + 1) a.2 (hs Y 20 r a.1) _ (hs R' 1 r a.1) _ (by omega) (by rw [hs_o (Or.inl (by decide))]; exact eR) (FX_w FY (sc18 (j := 2) (by decide))) (St_w S' (by decide)) (DX_cut DY (by omega)) (by rw [hs_ne (by decide)]; exact y0) (by rw [hs_ne (by decide)]; exact y1) q
  have D1 : DX (hs X 8 0 1) R N := by
    refine ⟨?_, ?_, ?_⟩
    · rw [← D.1]; exact rmC_congr (fun i => by rw [hs_ne (by decide)]) (hs_ne (by decide)) (hs_ne (by decide)) (hs_ne (by decide)) (hs_ne (by decide)) (hs_ne (by decide)) (hs_ne (by decide))
    · rw [hs_ne (by decide)]; exact D.2.1
    · rw [hs_ne (by decide)]; exact D.2.2
  refine g_Rr_readLine_0 isF_18 (c2_next (St_w (k := 8) (i := 0) (v := 1) S (by decide)) (fun g1 S1 => g_Rr_readLine_9 isF_18 ?_))
  exact lp (R 0 1).toNat 0 _ _ g1 R _ (by omega) rfl (FX_w F sc8) S1 D1 hs_s (hs_o (by decide)) (hd_bd.mp k)
theorem DX_bend {R : HP} {N : NT} {v : Int} (D : DX X R N) : DX (hs X 18 2 v) (hs R 0 2 v) N := by
  have e3 : (hs R 0 2 v) 0 3 = R 0 3 := hs_o (by decide)
  refine ⟨?_, fun i hi => ?_, fun k hk h32 => ?_⟩
  · rw [← D.1]
    funext k i
    have h18 : ∀ j, (hs X 18 2 v) 18 j = if j = 2 then v else X 18 j := fun j => by simp [hs]
    have h19 : (hs X 18 2 v) (18 + 1) = X 19 := hs_ne (by decide)
    have h20 : (hs X 18 2 v) (18 + 2) = X 20 := hs_ne (by decide)
    have h22 : (hs X 18 2 v) (18 + 4) = X 22 := hs_ne (by decide)
    have h23 : (hs X 18 2 v) (18 + 5) = X 23 := hs_ne (by decide)
    have h24 : (hs X 18 2 v) (18 + 6) = X 24 := hs_ne (by decide)
    have h25 : (hs X 18 2 v) (18 + 7) = X 25 := hs_ne (by decide)
    by_cases k0 : k = 0
    · subst k0
      by_cases i2 : i = 2
      · subst i2
        rw [hs_s]
        show (hs X 18 2 v) 18 2 = v
        exact hs_s
      · rw [hs_o (Or.inr i2)]
        simp only [rmC, h18, h19, i2, if_false]
        simp
    · rw [hs_o (Or.inl k0)]
      simp only [rmC, h18, h19, h20, h22, h23, h24, h25, k0, if_false]
      simp
  · rw [e3] at hi
    rw [hs_ne (by decide)]; exact D.2.1 i hi
  · rw [e3] at hk
    rw [hs_o (by decide)]
    exact D.2.2 k hk h32
theorem c_Rr_readBends {R : HP} {N : NT} (F : FX H X) (S : St B n s X h) (D : DX X R N) (k : hd (sBends B n s R) (fun fk fp => ∀ g, FaC H g fk fp → Q (some (vi 0)) g) (fun a => ∀ Y g, FX H Y → St B n a.1 Y g → DX Y a.2 N → Y 8 0 = X 8 0 → Y 8 1 = 1 → Q (some (vi 1)) g)) : Wp true i_Rr_readBends 0 [vr 8, vr 5, vr 18, vr 9999] [] h Q := by
  unfold sBends at k
  have D1 : DX (hs X 8 1 1) R N := by
    refine ⟨?_, ?_, ?_⟩
    · rw [← D.1]; exact rmC_congr (fun i => by rw [hs_ne (by decide)]) (hs_ne (by decide)) (hs_ne (by decide)) (hs_ne (by decide)) (hs_ne (by decide)) (hs_ne (by decide)) (hs_ne (by decide))
    · rw [hs_ne (by decide)]; exact D.2.1
    · rw [hs_ne (by decide)]; exact D.2.2
  refine g_Rr_readBends_0 isF_18 (c2_next (St_w (k := 8) (i := 1) (v := 1) S (by decide)) (fun g1 S1 => g_Rr_readBends_9 isF_18 (c2_num (FX_w F sc8) S1 (by decide) ?_)))
  refine hd_m (hd_bd.mp k) (fun fk fp q g f => g_Rr_readBends_16 isF_18 (fun z => absurd z (by decide)) (fun _ => q g f)) (fun a q l1 l2 g2 S2 => ?_)
  have F2 : FX H (hs (hs X 8 1 1) 18 2 a.1) := FX_w (FX_w F sc8) (sc18 (j := 0) (by decide))
  refine g_Rr_readBends_16 isF_18 (fun _ => c2_end F2 (St_w S2 (by decide)) (hd_m (hd_bd.mp q) (fun fk fp q g f => g_Rr_readBends_32 isF_18 (Or.inl rfl) (q g f)) (fun s' q g' S' => g_Rr_readBends_32 isF_18 (Or.inr rfl) (q _ g' F2 S' (DX_bend D1) ?_ ?_)))) (fun z => by omega)
  · rw [hs_ne (by decide), hs_o (by decide)]
  · rw [hs_ne (by decide), hs_s]
theorem hs_hs {h : HP} {k i : Nat} {a b : Int} : hs (hs h k i a) k i b = hs h k i b := by
  funext k' i'
  simp only [hs]
  split <;> rfl
theorem c_Fl_thingNamed {f : Nat} (hf : isF f) {N : NT} {L : List Nat} {y : Int} (ey : y = nm32 L) (hL : ∀ c ∈ L, 1 ≤ c ∧ c ≤ 26) (h10 : 0 ≤ h f 3 ∧ h f 3 ≤ 10) (hn : ∀ i : Nat, (i : Int) < h f 3 → h (f + 3) i = nm32 (N i) ∧ ∀ c ∈ N i, 1 ≤ c ∧ c ≤ 26) (k : Q (some (vi (fnd (fun i => N i = L) (h f 3).toNat 0))) h) : Wp true i_Fl_thingNamed 0 [vr f, vj y, vr 9999, vr 9999] [] h Q := by
  subst ey
  have lp : ∀ (d i : Nat), (i : Int) + d = h f 3 → Q (some (vi (fnd (fun i => N i = L) d i))) h → Wp true i_Fl_thingNamed 2 [vr f, vj (nm32 L), vr 9999, vi (i : Int)] [] h Q := by
    intro d
    induction d with
    | zero =>
      intro i hi kk
      exact g_Fl_thingNamed_2 hf (fun _ => kk) (fun c => by omega) (fun c => by omega) (fun c => by omega) (fun c => by omega)
    | succ d ih =>
      intro i hi kk
      have q := hn i (by omega)
      refine g_Fl_thingNamed_2 hf (fun c => by omega) (fun c => by omega) (fun c _ => by omega) (fun c y => ?_) (fun c y => ?_)
      · rw [Int.toNat_natCast, q.1] at y
        refine ih (i + 1) (by omega) ?_
        rw [fnd_s (fun z : N i = L => y (by rw [z]))] at kk; exact kk
      · rw [Int.toNat_natCast, q.1] at y
        rw [fnd_h (nm32_inj _ _ q.2 hL y)] at kk; exact kk
  exact g_Fl_thingNamed_0 hf (lp (h f 3).toNat 0 (by omega) k)
theorem c_Rr_readBoard {R : HP} {c : Nat} (F : FX H X) (S : St B n s X h) (eR : rmC X 18 = R) (W : WR R) (ec : R 0 3 = c) (c10 : c < 10) (k : hd (sNum B n s 0 (R 0 0 - 1)) (fun fk fp => ∀ g, FaC H g fk fp → Q (some (vi 0)) g) (fun a => hd (sRow B n a.2 R a.1) (fun fk fp => ∀ g, FaC H g fk fp → Q (some (vi 0)) g) (fun r => ∀ g, St B n r.2 (hs (hs X 22 c a.1) 23 c r.1) g → Q (some (vi 1)) g))) : Wp true i_Rr_readBoard 0 [vr 5, vr 18, vr 9999, vr 9999] [] h Q := by
  have w := W.1
  have d : ∀ g, EC X g → g 18 0 = R 0 0 ∧ g 18 1 = R 0 1 ∧ g 18 3 = c := fun g e => by
    rw [e.1 18 (by decide), ← ec, ← eR]; exact ⟨rfl, rfl, rfl⟩
  have dh := d h S.1
  refine g_Rr_readBoard_0 isF_18 (by omega) ?_
  rw [dh.1]
  refine c2_num F S (by decide) (hd_m k (fun fk fp q g f => g_Rr_readBoard_11 isF_18 (fun z => absurd z (by decide)) (fun z => absurd z (by decide)) (fun _ => q g f)) (fun a q l1 l2 g1 S1 => ?_))
  have d1 := d g1 S1.1
  refine g_Rr_readBoard_11 isF_18 (fun _ => by omega) (fun _ => ?_) (fun z => by omega)
  rw [d1.2.1]
  unfold sRow at q
  refine c2_look F S1 (hd_m (hd_bd.mp q) (fun fk fp q g f => g_Rr_readBoard_29 isF_18 (fun z => absurd z (by decide)) (fun z => absurd z (by decide)) (fun z => absurd z (by decide)) (fun _ => q g f)) (fun r q2 m1 m2 e2 => ?_))
  have eg : rmC g1 18 = R := (rmC_E S1.1).trans eR
  refine g_Rr_readBoard_29 isF_18 (fun _ => by rw [eg]; exact W) (fun _ z => ?_) (fun _ z => ?_) (fun z => by omega)
  · rw [eg] at z
    rw [if_pos z] at q2
    refine c2_next S1 (fun g2 S2 => ?_)
    have d2 := d g2 S2.1
    refine g_Rr_readBoard_56 isF_18 (by omega) ?_
    rw [d2.2.2, Int.toNat_natCast]
    refine q2 _ ?_
    rw [e2]
    exact St_w (St_w S2 (by decide)) (by decide)
  · rw [eg] at z
    rw [if_neg z] at q2
    exact c2_fail F S1 (hd_m q2 (fun fk fp q g f => g_Rr_readBoard_51 isF_18 (Or.inl rfl) (q g f)) (fun a q => q))
theorem c_Rr_readWorth {c j : Nat} (F : FX H X) (S : St B n s X h) (ec : X 18 3 = c) (c10 : c < 10) (hj : j < 2) (k : hd (sNum B n s 0 99) (fun fk fp => ∀ g, FaC H g fk fp → Q (some (vi 0)) g) (fun a => ∀ g, St B n a.2 (hs X 24 (2 * c + j) a.1) g → Q (some (vi 1)) g)) : Wp true i_Rr_readWorth 0 [vr 5, vr 18, vi (j : Int), vr 9999] [] h Q := by
  refine g_Rr_readWorth_0 isF_18 (c2_num F S (by decide) (hd_m k (fun fk fp q g f => g_Rr_readWorth_7 isF_18 (fun z => absurd z (by decide)) (fun z => absurd z (by decide)) (fun z => absurd z (by decide)) (fun z => absurd z (by decide)) (fun _ => q g f)) (fun a q l1 l2 g1 S1 => ?_)))
  have d1 : g1 18 3 = c := by rw [S1.1.1 18 (by decide)]; exact ec
  refine g_Rr_readWorth_7 isF_18 (fun _ => by omega) (fun _ => by omega) (fun _ => by omega) (fun _ => ?_) (fun z => by omega)
  rw [show (((g1 18 3) * 2) + (j : Int)).toNat = 2 * c + j by omega]
  exact q _ (St_w S1 (by decide))
theorem c_Rr_readLeg {c : Nat} (F : FX H X) (S : St B n s X h) (ec : X 18 3 = c) (c10 : c < 10) (k : hd (sLeg B n s) (fun fk fp => ∀ g, FaC H g fk fp → Q (some (vi 0)) g) (fun a => ∀ g, St B n a.2 (hs X 25 c a.1) g → Q (some (vi 1)) g)) : Wp true i_Rr_readLeg 0 [vr 5, vr 18, vr 9999] [] h Q := by
  have d : ∀ Y g, EC Y g → Y 18 = X 18 → g 18 3 = c := fun Y g e y => by rw [e.1 18 (by decide), y]; exact ec
  have dh := d X h S.1 rfl
  unfold sLeg at k
  have S1 := St_w (k := 25) (i := c) (v := -1) S (by decide)
  have F1 : FX H (hs X 25 c (-1)) := FX_w F (sc18 (j := 7) (by decide))
  have e6 : (hs h 25 c (-1)) 5 6 = tW B n s := S1.2.2.2.2.2.2.1
  refine g_Rr_readLeg_0 isF_18 (by omega) (fun z => ?_) (fun z => ?_)
  · rw [dh, Int.toNat_natCast] at z ⊢
    have z : (hs h 25 c (-1)) 5 6 = 7 := z
    rw [if_pos (by omega)] at k
    refine c2_next S1 (fun g1 T1 => g_Rr_readLeg_25 isF_18 (c_To_takeNumber T1.2 (by decide) (hd_m k (fun fk fp q g f => ?_) (fun a q l1 l2 g2 T2' o2 => ?_))))
    · have d2 : g 18 3 = c := (congrFun (f.2.2.2 18 (by decide)) 3).trans (d _ g1 T1.1 (hs_ne (by decide)))
      refine g_Rr_readLeg_31 isF_18 (by omega) (fun _ => q _ (FaC_w (FaC_of F1 T1.1 f) (by decide) (sc18 (j := 7) (by decide)))) (fun z => absurd (by decide) z)
    · have T2 : St B n a.2 (hs X 25 c (-1)) g2 := ⟨EC_o T1.1 o2, T2'⟩
      have d2 := d _ g2 T2.1 (hs_ne (by decide))
      refine g_Rr_readLeg_31 isF_18 (by omega) (fun z => by omega) (fun _ => ?_)
      rw [d2, Int.toNat_natCast]
      refine q _ ?_
      have := St_w (k := 25) (i := c) (v := a.1) T2 (by decide)
      rw [hs_hs] at this
      exact this
  · rw [dh, Int.toNat_natCast] at z ⊢
    have z : ¬ (hs h 25 c (-1)) 5 6 = 7 := z
    rw [if_neg (by omega)] at k
    exact k _ S1
theorem c_Rr_readBig {c : Nat} (S : St B n s X h) (ec : X 18 3 = c) (k : ∀ g, St B n (sBig B n s).2 (hs X 18 12 (if tW B n s = 8 then o_or (X 18 12) (o_shl 1 c) else X 18 12)) g → Q (some (vi 1)) g) : Wp true i_Rr_readBig 0 [vr 5, vr 18] [] h Q := by
  have e6 : h 5 6 = tW B n s := S.2.2.2.2.2.2.1
  unfold sBig at k
  refine g_Rr_readBig_0 isF_18 (fun z => ?_) (fun z => ?_)
  · rw [if_neg (by omega), if_neg (by omega), hs_id] at k
    exact g_Rr_readBig_28 isF_18 (k h S)
  · rw [if_pos (by omega), if_pos (by omega)] at k
    rw [show h 18 12 = X 18 12 by rw [S.1.1 18 (by decide)], show h 18 3 = c by rw [S.1.1 18 (by decide)]; exact ec]
    exact c2_next (St_w S (by decide)) (fun g1 S1 => g_Rr_readBig_28 isF_18 (k g1 S1))
theorem DX_add {R : HP} {N : NT} {c : Nat} {L : List Nat} {co ro w0 w1 l bg b : Int} (D : DX X R N) (ec : R 0 3 = c) (c10 : c < 10) (hb : (b = 1 ∧ bg = o_or (X 18 12) (o_shl 1 c)) ∨ (b = 0 ∧ bg = X 18 12)) :
    DX (hs (hs (hs (hs (hs (hs (hs (hs X 21 c (nm32 L)) 22 c co) 23 c ro) 24 (2 * c + 0) w0) 24 (2 * c + 1) w1) 25 c l) 18 12 bg) 18 3 ((c : Int) + 1)) (rAdd R co ro w0 w1 l b) (nAdd N c L) := by
  obtain ⟨Y, eY⟩ : ∃ Y, Y = hs (hs (hs (hs (hs (hs (hs (hs X 21 c (nm32 L)) 22 c co) 23 c ro) 24 (2 * c + 0) w0) 24 (2 * c + 1) w1) 25 c l) 18 12 bg) 18 3 ((c : Int) + 1) := ⟨_, rfl⟩
  rw [← eY]
  have x3 : X 18 3 = c := by rw [(DX_0 D).2.2]; exact ec
  have h18 : ∀ j, Y 18 j = if j = 3 then (c : Int) + 1 else if j = 12 then bg else X 18 j := by
    intro j; rw [eY]; simp only [hs]; simp
  have h19 : Y 19 = X 19 := by rw [eY]; simp only [hs_ne (show (19 : Nat) ≠ 18 by decide), hs_ne (show (19 : Nat) ≠ 25 by decide), hs_ne (show (19 : Nat) ≠ 24 by decide), hs_ne (show (19 : Nat) ≠ 23 by decide), hs_ne (show (19 : Nat) ≠ 22 by decide), hs_ne (show (19 : Nat) ≠ 21 by decide)]
  have h20 : Y 20 = X 20 := by rw [eY]; simp only [hs_ne (show (20 : Nat) ≠ 18 by decide), hs_ne (show (20 : Nat) ≠ 25 by decide), hs_ne (show (20 : Nat) ≠ 24 by decide), hs_ne (show (20 : Nat) ≠ 23 by decide), hs_ne (show (20 : Nat) ≠ 22 by decide), hs_ne (show (20 : Nat) ≠ 21 by decide)]
  have h21 : ∀ j, Y 21 j = if j = c then nm32 L else X 21 j := by
    intro j; rw [eY]; simp only [hs]; simp
  have h22 : ∀ j, Y 22 j = if j = c then co else X 22 j := by
    intro j; rw [eY]; simp only [hs]; simp
  have h23 : ∀ j, Y 23 j = if j = c then ro else X 23 j := by
    intro j; rw [eY]; simp only [hs]; simp
  have h24 : ∀ j, Y 24 j = if j = 2 * c + 1 then w1 else if j = 2 * c then w0 else X 24 j := by
    intro j; rw [eY]; simp only [hs]; simp
  have h25 : ∀ j, Y 25 j = if j = c then l else X 25 j := by
    intro j; rw [eY]; simp only [hs]; simp
  have bits : ∀ k, k < 32 → btI bg k = (btI (X 18 12) k || (decide (k = c) && decide (b = 1))) := by
    intro k hk
    rcases hb with ⟨z1, z2⟩ | ⟨z1, z2⟩
    · rw [z2, bI_set (by omega) hk, z1]; simp
    · rw [z2, z1]; simp
  have bc : btI (X 18 12) c = false := D.2.2 c (by omega) (by omega)
  refine ⟨?_, fun i hi => ?_, fun k hk h32 => ?_⟩
  · rw [← D.1]
    have rec3 : rmC X 18 0 3 = c := x3
    funext k i
    simp only [rAdd, rec3]
    by_cases k0 : k = 0
    · subst k0
      by_cases i3 : i = 3
      · subst i3
        show Y 18 3 = _
        rw [h18]; simp
      · have e1 : rmC Y 18 0 i = rmC X 18 0 i := by
          simp only [rmC, h18, show Y (18 + 1) = X 19 from h19, if_true]
          by_cases i4 : i < 4
          · rw [if_pos i4, if_pos i4, if_neg i3, if_neg (show ¬ i = 12 by omega)]
          · rw [if_neg i4, if_neg i4]
            simp
        rw [e1]; simp [i3]
    · by_cases k1 : k = 1
      · subst k1
        have e1 : rmC Y 18 1 i = rmC X 18 1 i := by
          simp only [rmC, h18, show Y (18 + 2) = X 20 from h20]
          simp
        rw [e1]; simp
      · have e18 : Y 18 3 = (c : Int) + 1 := by rw [h18]; simp
        have e12 : Y 18 12 = bg := by rw [h18]; simp
        by_cases lt : i < c
        · have a1 := cR_t (h := Y) (f := 18) (i := i) (by rw [e18]; omega)
          have a2 := cR_t (h := X) (f := 18) (i := i) (by rw [x3]; omega)
          rw [if_neg (by omega), if_neg (by omega)]
          have n7 : ∀ g : HP, 8 ≤ k → rmC g 18 k i = 0 := fun g hk => by
            simp only [rmC]
            rw [if_neg k0, if_neg k1]
            split
            · rw [if_neg (by omega), if_neg (by omega), if_neg (by omega), if_neg (by omega), if_neg (by omega), if_neg (by omega)]
            · rfl
          rcases (show k = 2 ∨ k = 3 ∨ k = 4 ∨ k = 5 ∨ k = 6 ∨ k = 7 ∨ 8 ≤ k by omega) with rfl | rfl | rfl | rfl | rfl | rfl | z
          · rw [a1.1, a2.1]; show Y 22 i = X 22 i; rw [h22, if_neg (by omega)]
          · rw [a1.2.1, a2.2.1]; show Y 23 i = X 23 i; rw [h23, if_neg (by omega)]
          · rw [a1.2.2.1, a2.2.2.1]; show Y 24 (2 * i) = X 24 (2 * i); rw [h24, if_neg (by omega), if_neg (by omega)]
          · rw [a1.2.2.2.1, a2.2.2.2.1]; show Y 24 (2 * i + 1) = X 24 (2 * i + 1); rw [h24, if_neg (by omega), if_neg (by omega)]
          · rw [a1.2.2.2.2.1, a2.2.2.2.2.1]; show Y 25 i = X 25 i; rw [h25, if_neg (by omega)]
          · rw [a1.2.2.2.2.2, a2.2.2.2.2.2, e12, bI_shr (by omega), bI_shr (by omega), bits i (by omega)]
            have : decide (i = c) = false := by simp; omega
            rw [this]; simp
          · rw [n7 Y z, n7 X z]
        · by_cases eq : i = c
          · subst eq
            have a1 := cR_t (h := Y) (f := 18) (i := i) (by rw [e18]; omega)
            rw [if_neg (by omega), if_pos ⟨by omega, rfl⟩]
            rcases (show k = 2 ∨ k = 3 ∨ k = 4 ∨ k = 5 ∨ k = 6 ∨ k = 7 ∨ 8 ≤ k by omega) with rfl | rfl | rfl | rfl | rfl | rfl | z
            · rw [a1.1]; show Y 22 i = _; rw [h22]; simp
            · rw [a1.2.1]; show Y 23 i = _; rw [h23]; simp
            · rw [a1.2.2.1]; show Y 24 (2 * i) = _; rw [h24, if_neg (by omega), if_pos rfl]; simp
            · rw [a1.2.2.2.1]; show Y 24 (2 * i + 1) = _; rw [h24, if_pos rfl]; simp
            · rw [a1.2.2.2.2.1]; show Y 25 i = _; rw [h25]; simp
            · rw [a1.2.2.2.2.2, e12, bI_shr (by omega), bits i (by omega), bc]
              rcases hb with ⟨z1, -⟩ | ⟨z1, -⟩
              · rw [z1]; simp
              · rw [z1]; simp
            · have n7 : rmC Y 18 k i = 0 := by
                simp only [rmC]
                rw [if_neg k0, if_neg k1]
                split
                · rw [if_neg (by omega), if_neg (by omega), if_neg (by omega), if_neg (by omega), if_neg (by omega), if_neg (by omega)]
                · rfl
              rw [n7, if_neg (show ¬ k = 2 by omega), if_neg (show ¬ k = 3 by omega), if_neg (show ¬ k = 4 by omega), if_neg (show ¬ k = 5 by omega), if_neg (show ¬ k = 6 by omega), if_neg (show ¬ k = 7 by omega)]
          · have g1 : ∀ g : HP, g 18 3 ≤ (c : Int) + 1 → rmC g 18 k i = 0 := fun g hg => by
              simp only [rmC]
              rw [if_neg k0, if_neg k1, if_neg (by omega)]
            rw [g1 Y (by omega), if_neg (by omega), if_neg (by omega), g1 X (by omega)]
  · have e3 : rAdd R co ro w0 w1 l b 0 3 = R 0 3 + 1 := rfl
    rw [e3] at hi
    rw [h21]
    unfold nAdd
    by_cases z : i = c
    · rw [if_pos z, if_pos z]
    · rw [if_neg z, if_neg z]; exact D.2.1 i (by omega)
  · have e3 : rAdd R co ro w0 w1 l b 0 3 = R 0 3 + 1 := rfl
    rw [e3] at hk
    have e12 : Y 18 12 = bg := by rw [h18]; simp
    rw [e12, bits k h32, D.2.2 k (by omega) h32]
    have : decide (k = c) = false := by simp; omega
    rw [this]; rfl
theorem c_Rr_readThing {R : HP} {N : NT} (F : FX H X) (S : St B n s X h) (D : DX X R N) (W : WS R N) (c10 : R 0 3 < 10) (k : hd (sThing B n s R N) (fun fk fp => ∀ g, FaC H g fk fp → Q (some (vi 0)) g) (fun a => ∀ Y g, FX H Y → St B n a.1 Y g → DX Y a.2.1 a.2.2 → Y 8 = X 8 → Q (some (vi 1)) g)) : Wp true i_Rr_readThing 0 [vr 8, vr 5, vr 18, vr 9999] [] h Q := by
  obtain ⟨c, ec⟩ : ∃ c : Nat, R 0 3 = c := ⟨(R 0 3).toNat, by have := W.1.1; omega⟩
  have c10' : c < 10 := by omega
  have x3 : X 18 3 = c := by rw [(DX_0 D).2.2]; exact ec
  have zz : ∀ g, Q (some (vi 0)) g → Wp true i_Rr_readThing 123 [vr 8, vr 5, vr 18, vr 9999] [vi 0] g Q := fun g q =>
    g_Rr_readThing_123 isF_18 (fun _ => Or.inl rfl) (fun _ => q) (fun z => absurd rfl z) (fun z => absurd rfl z) (fun z => absurd rfl z)
  unfold sThing at k
  refine g_Rr_readThing_0 isF_18 (c2_next S (fun g1 S1 => g_Rr_readThing_4 isF_18 (c_To_isName S1.2 (fun nm e9 => ?_) (fun nn => ?_))))
  · rw [if_pos nm] at k
    have okL := isNm_ok nm
    have g3 : g1 18 3 = c := by rw [S1.1.1 18 (by decide)]; exact x3
    refine g_Rr_readThing_8 isF_18 (fun _ => c_Fl_thingNamed isF_18 (N := N) (L := tL B n (nx B n s)) e9 okL.2.2 (by omega) (fun i hi => ⟨?_, (W.2.1 i (by omega)).2.2⟩) ?_) (fun z => absurd z (by decide))
    · show g1 21 i = _
      rw [S1.1.1 21 (by decide)]; exact D.2.1 i (by omega)
    · rw [g3]
      rw [ec] at k
      by_cases fr : fnd (fun i => N i = tL B n (nx B n s)) (c : Int).toNat 0 = -1
      · rw [if_pos fr] at k
        rw [fr]
        refine g_Rr_readThing_25 isF_18 (fun _ => by omega) (fun _ => ?_) (fun z => absurd rfl z)
        rw [g3, e9, Int.toNat_natCast]
        rw [Int.toNat_natCast] at k
        have S2 := St_w (k := 21) (i := c) (v := nm32 (tL B n (nx B n s))) S1 (by decide)
        have F2 : FX H (hs X 21 c (nm32 (tL B n (nx B n s)))) := FX_w F (sc18 (j := 3) (by decide))
        have kk := hd_bd.mp k
        unfold sRest at kk
        refine c2_next S2 (fun g2 S3 => g_Rr_readThing_52 isF_18 (c2_word F2 S3 (hd_m (hd_bd.mp kk) (fun fk fp q g f => g_Rr_readThing_57 isF_18 (fun _ => zz g (q g f)) (fun z => absurd rfl z)) (fun s2 q g4 S4 => ?_))))
        have eR2 : rmC (hs X 21 c (nm32 (tL B n (nx B n s)))) 18 = R := by
          rw [← D.1]
          exact rmC_congr (fun i => by rw [hs_ne (by decide)]) (hs_ne (by decide)) (hs_ne (by decide)) (hs_ne (by decide)) (hs_ne (by decide)) (hs_ne (by decide)) (hs_ne (by decide))
        refine g_Rr_readThing_57 isF_18 (fun z => absurd z (by decide)) (fun _ => c_Rr_readBoard F2 S4 eR2 W.1 ec c10' (hd_m (hd_bd.mp q) (fun fk fp q g f => g_Rr_readThing_65 isF_18 (fun _ => zz g (q g f)) (fun z => absurd rfl z)) (fun co q => hd_m (hd_bd.mp q) (fun fk fp q g f => g_Rr_readThing_65 isF_18 (fun _ => zz g (q g f)) (fun z => absurd rfl z)) (fun ro q g5 S5 => ?_))))
        have F5 : FX H (hs (hs (hs X 21 c (nm32 (tL B n (nx B n s)))) 22 c co.1) 23 c ro.1) := FX_w (FX_w F2 (sc18 (j := 4) (by decide))) (sc18 (j := 5) (by decide))
        refine g_Rr_readThing_65 isF_18 (fun z => absurd z (by decide)) (fun _ => c2_word F5 S5 (hd_m (hd_bd.mp q) (fun fk fp q g f => g_Rr_readThing_74 isF_18 (fun _ => zz g (q g f)) (fun z => absurd rfl z)) (fun s6 q g6 S6 => ?_)))
        have y3 : (hs (hs (hs X 21 c (nm32 (tL B n (nx B n s)))) 22 c co.1) 23 c ro.1) 18 3 = c := by rw [hs_ne (by decide), hs_ne (by decide), hs_ne (by decide)]; exact x3
        refine g_Rr_readThing_74 isF_18 (fun z => absurd z (by decide)) (fun _ => c_Rr_readWorth (j := 0) F5 S6 y3 c10' (by decide) (hd_m (hd_bd.mp q) (fun fk fp q g f => g_Rr_readThing_83 isF_18 (fun _ => zz g (q g f)) (fun z => absurd rfl z)) (fun w0 q g7 S7 => ?_)))
        have F7 := FX_w (k := 24) (i := 2 * c + 0) (v := w0.1) F5 (sc18 (j := 6) (by decide))
        refine g_Rr_readThing_83 isF_18 (fun z => absurd z (by decide)) (fun _ => c_Rr_readWorth (j := 1) F7 S7 (by rw [hs_ne (by decide)]; exact y3) c10' (by decide) (hd_m (hd_bd.mp q) (fun fk fp q g f => g_Rr_readThing_92 isF_18 (fun _ => zz g (q g f)) (fun z => absurd rfl z)) (fun w1 q g8 S8 => ?_)))
        have F8 := FX_w (k := 24) (i := 2 * c + 1) (v := w1.1) F7 (sc18 (j := 6) (by decide))
        refine g_Rr_readThing_92 isF_18 (fun z => absurd z (by decide)) (fun _ => c_Rr_readLeg F8 S8 (by rw [hs_ne (by decide), hs_ne (by decide)]; exact y3) c10' (hd_m (hd_bd.mp q) (fun fk fp q g f => g_Rr_readThing_100 isF_18 (fun _ => zz g (q g f)) (fun z => absurd rfl z)) (fun l q g9 S9 => ?_)))
        have F9 := FX_w (k := 25) (i := c) (v := l.1) F8 (sc18 (j := 7) (by decide))
        refine g_Rr_readThing_100 isF_18 (fun z => absurd z (by decide)) (fun _ => c_Rr_readBig S9 (by rw [hs_ne (by decide), hs_ne (by decide), hs_ne (by decide)]; exact y3) (fun g10 S10 => ?_))
        have e12 : (hs (hs (hs (hs (hs (hs X 21 c (nm32 (tL B n (nx B n s)))) 22 c co.1) 23 c ro.1) 24 (2 * c + 0) w0.1) 24 (2 * c + 1) w1.1) 25 c l.1) 18 12 = X 18 12 := by
          rw [hs_ne (by decide), hs_ne (by decide), hs_ne (by decide), hs_ne (by decide), hs_ne (by decide), hs_ne (by decide)]
        rw [e12] at S10
        obtain ⟨bg, ebg⟩ : ∃ bg, bg = (if tW B n l.2 = 8 then o_or (X 18 12) (o_shl 1 c) else X 18 12) := ⟨_, rfl⟩
        rw [← ebg] at S10
        have F10 := FX_w (k := 18) (i := 12) (v := bg) F9 (sc18 (j := 0) (by decide))
        have hb : ((sBig B n l.2).1 = 1 ∧ bg = o_or (X 18 12) (o_shl 1 c)) ∨ ((sBig B n l.2).1 = 0 ∧ bg = X 18 12) := by
          unfold sBig
          by_cases z : tW B n l.2 = 8
          · rw [if_pos z] at ebg ⊢; exact Or.inl ⟨rfl, ebg⟩
          · rw [if_neg z] at ebg ⊢; exact Or.inr ⟨rfl, ebg⟩
        refine g_Rr_readThing_108 isF_18 (fun z => absurd z (by decide)) (fun _ => c2_end F10 S10 (hd_m (hd_bd.mp q) (fun fk fp q g f => g_Rr_readThing_115 isF_18 (fun _ => zz g (q g f)) (fun z => absurd rfl z)) (fun s9 q g11 S11 => ?_)))
        have q3 : g11 18 3 = c := by
          rw [S11.1.1 18 (by decide), hs_o (by decide), hs_ne (by decide), hs_ne (by decide), hs_ne (by decide)]; exact y3
        refine g_Rr_readThing_115 isF_18 (fun z => absurd z (by decide)) (fun _ => g_Rr_readThing_123 isF_18 (fun z => absurd z (by decide)) (fun z => absurd z (by decide)) (fun _ => by omega) (fun _ => Or.inr rfl) (fun _ => ?_))
        rw [q3]
        refine q _ _ (FX_w (k := 18) (i := 3) (v := (c : Int) + 1) F10 (sc18 (j := 0) (by decide))) (St_w S11 (by decide)) (DX_add D ec c10' hb) ?_
        rw [hs_ne (by decide), hs_ne (by decide), hs_ne (by decide), hs_ne (by decide), hs_ne (by decide), hs_ne (by decide), hs_ne (by decide), hs_ne (by decide)]
      · rw [if_neg fr] at k
        refine g_Rr_readThing_25 isF_18 (fun z => absurd z fr) (fun z => absurd z fr) (fun _ => ?_)
        exact c2_fail F S1 (hd_m k (fun fk fp q g f => g_Rr_readThing_34 isF_18 (Or.inl rfl) (q g f)) (fun a q => q))
  · rw [if_neg nn] at k
    exact g_Rr_readThing_8 isF_18 (fun z => absurd rfl z) (fun _ => c2_fail F S1 (hd_m k (fun fk fp q g f => g_Rr_readThing_16 isF_18 (Or.inl rfl) (q g f)) (fun a q => q)))
theorem DX_clr {N : NT} : DX (hs (hs (hs (hs (hs (hs (hs (hs X 18 0 0) 18 1 0) 18 2 9) 18 3 0) 18 4 0) 18 12 0) 19 0 0) 19 1 0) rClr N := by
  obtain ⟨Y, eY⟩ : ∃ Y, Y = hs (hs (hs (hs (hs (hs (hs (hs X 18 0 0) 18 1 0) 18 2 9) 18 3 0) 18 4 0) 18 12 0) 19 0 0) 19 1 0 := ⟨_, rfl⟩
  rw [← eY]
  have h18 : ∀ j, j < 5 → Y 18 j = if j = 2 then 9 else 0 := by
    intro j hj
    rcases (show j = 0 ∨ j = 1 ∨ j = 2 ∨ j = 3 ∨ j = 4 by omega) with rfl | rfl | rfl | rfl | rfl <;> rw [eY] <;> simp [hs]
  have h12 : Y 18 12 = 0 := by rw [eY]; simp [hs]
  have h190 : Y 19 0 = 0 := by rw [eY]; simp [hs]
  have h191 : Y 19 1 = 0 := by rw [eY]; simp [hs]
  refine ⟨?_, fun i hi => ?_, fun k _ _ => ?_⟩
  · funext k i
    simp only [rmC, rClr]
    by_cases k0 : k = 0
    · subst k0
      by_cases i4 : i < 4
      · rw [if_pos rfl, if_pos i4, h18 i (by omega)]; simp
      · rw [if_pos rfl, if_neg i4, if_neg (show ¬ ((0 : Nat) = 0 ∧ i = 2) by omega)]
        by_cases i5 : i = 4
        · rw [if_pos i5]; exact h190
        · rw [if_neg i5]
          by_cases i6 : i = 5
          · rw [if_pos i6]; exact h191
          · rw [if_neg i6]
            split
            · rw [h18 4 (by decide)]; rfl
            · rfl
    · rw [if_neg k0, if_neg (show ¬ (k = 0 ∧ i = 2) by omega), h18 1 (by decide), h18 3 (by decide)]
      by_cases k1 : k = 1
      · rw [if_pos k1, if_neg (show ¬ (i : Int) < (if (1 : Nat) = 2 then 9 else 0) by simp)]
      · rw [if_neg k1, if_neg (show ¬ (i : Int) < (if (3 : Nat) = 2 then 9 else 0) by simp)]
  · have hi : (i : Int) < 0 := hi
    omega
  · rw [h12]; exact bI_0 k
theorem c_Rr_readAll {N : NT} (S : CS B n s h) (k : hd (sRoom B n 901 (s, rClr, N, 0, 0)) (fun fk fp => ∀ g, FaC h g fk fp → Q (some (vi 0)) g) (fun o => ∀ Y g, FX h Y → EC Y g → DX Y o.1 o.2 → Q (some (vi 1)) g)) : Wp true i_Rr_readAll 0 [vr 8, vr 5, vr 18, vr 9999, vr 9999, vr 9999, vr 9999] [] h Q := by
  have n9 := S.1.1
  have zz : ∀ (g : HP) (x4 : Int) (j5 j6 : AV), Q (some (vi 0)) g → Wp true i_Rr_readAll 19 [vr 8, vr 5, vr 18, vi 0, vi x4, j5, j6] [] g Q := fun g x4 j5 j6 q =>
    g_Rr_readAll_19 isF_18 (fun _ => Or.inl rfl) (fun _ => q) (fun _ _ => Or.inl rfl) (fun _ _ => q) (fun _ z => absurd rfl z) (fun _ z => absurd rfl z) (fun _ z => absurd rfl z) (fun _ z => absurd rfl z)
  have lp : ∀ (d p : Nat) (a : RS) (Y g : HP) (j5 j6 : AV), p + d = 901 → p ≤ a.1 → FX h Y → St B n a.1 Y g → DX Y a.2.1 a.2.2.1 → WS a.2.1 a.2.2.1 → Y 8 0 = a.2.2.2.1 → Y 8 1 = a.2.2.2.2 → (a.2.2.2.1 = 0 ∨ a.2.2.2.1 = 1) → (a.2.2.2.2 = 0 ∨ a.2.2.2.2 = 1) →
      hd (sRoom B n d a) (fun fk fp => ∀ g, FaC h g fk fp → Q (some (vi 0)) g) (fun o => ∀ Y g, FX h Y → EC Y g → DX Y o.1 o.2 → Q (some (vi 1)) g) →
      Wp true i_Rr_readAll 19 [vr 8, vr 5, vr 18, vi 1, vi (p : Int), j5, j6] [] g Q := by
    intro d
    induction d with
    | zero =>
      intro p a Y g j5 j6 hp ha FY SY
      have := SY.2.2.1
      omega
    | succ d ih =>
      rintro p ⟨s, R, N, l, b⟩ Y g j5 j6 hp ha FY SY DY WY y0 y1 hl hb kk
      have ha : p ≤ s := ha
      have SY : St B n s Y g := SY
      have DY : DX Y R N := DY
      have WY : WS R N := WY
      have y0 : Y 8 0 = l := y0
      have y1 : Y 8 1 = b := y1
      have hl : l = 0 ∨ l = 1 := hl
      have hb : b = 0 ∨ b = 1 := hb
      have e5 : g 5 5 = tK B n s := SY.2.2.2.2.2.1
      have e6 : g 5 6 = tW B n s := SY.2.2.2.2.2.2.1
      have t0 := tK_0 (B := B) (n := n) (s := s)
      have x1 : g 18 1 = R 0 1 := by rw [SY.1.1 18 (by decide), (DX_0 DY).2.1]
      have x3 : g 18 3 = R 0 3 := by rw [SY.1.1 18 (by decide), (DX_0 DY).2.2]
      have z0 : g 8 0 = l := by rw [SY.1.1 8 (by decide)]; exact y0
      have z1 : g 8 1 = b := by rw [SY.1.1 8 (by decide)]; exact y1
      have w := WY.1.1
      rw [sRoom] at kk
      by_cases c : n ≤ s
      · rw [if_pos c] at kk
        have q : Q (some (vi 1)) g := kk Y g FY SY.1 DY
        exact g_Rr_readAll_19 isF_18 (fun _ => Or.inr rfl) (fun _ => q) (fun _ _ => Or.inr rfl) (fun _ _ => q) (fun _ _ _ => Or.inr rfl) (fun _ _ _ => q) (fun _ _ z => absurd (e5.trans (t0.mpr c)) z) (fun _ _ z => absurd (e5.trans (t0.mpr c)) z)
      · rw [if_neg c] at kk
        have kk := hd_and (hd_bd.mp kk) (sPart_b (B := B) (n := n) (s := s) (R := R) (N := N) (l := l) (b := b) (by omega) WY hl hb)
        have nx' : ∀ (a' : RS) (Y' g' : HP) (j5 j6 : AV), (hd (sRoom B n d a') (fun fk fp => ∀ g, FaC h g fk fp → Q (some (vi 0)) g) (fun o => ∀ Y g, FX h Y → EC Y g → DX Y o.1 o.2 → Q (some (vi 1)) g) ∧ (s < a'.1 ∧ a'.1 ≤ n) ∧ WS a'.2.1 a'.2.2.1 ∧ (a'.2.2.2.1 = 0 ∨ a'.2.2.2.1 = 1) ∧ (a'.2.2.2.2 = 0 ∨ a'.2.2.2.2 = 1) ∧ 0 < a'.2.1 0 1) → FX h Y' → St B n a'.1 Y' g' → DX Y' a'.2.1 a'.2.2.1 → Y' 8 0 = a'.2.2.2.1 → Y' 8 1 = a'.2.2.2.2 → Wp true i_Rr_readAll 19 [vr 8, vr 5, vr 18, vi 1, vi ((p : Int) + 1), j5, j6] [] g' Q := by
          intro a' Y' g' j5 j6 ⟨u1, u2, u3, u4, u5, _⟩ FY' SY' DY' v0 v1
          exact ih (p + 1) a' Y' g' j5 j6 (by omega) (by omega) FY' SY' DY' u3 v0 v1 u4 u5 u1
        unfold sPart at kk
        have n5 : ¬ g 5 5 = 0 := by rw [e5, t0]; exact c
        by_cases r0 : R 0 1 ≤ 0
        · rw [if_pos r0] at kk
          refine g_Rr_readAll_19 isF_18 (fun z => by omega) (fun z => by omega) (fun _ z => by omega) (fun _ z => by omega) (fun _ _ z => absurd z n5) (fun _ _ z => absurd z n5) (fun _ _ _ _ => ?_) (fun _ _ _ z => by omega)
          by_cases w0 : tW B n s = 0
          · rw [if_pos w0] at kk
            refine g_Rr_readAll_50 isF_18 (fun z => absurd rfl z) (fun _ z => absurd (e6.trans w0) z) (fun _ _ => ?_)
            rw [e6, w0]
            refine g_Rr_readAll_72 isF_18 (fun _ _ => ?_) (fun _ z => absurd rfl z) (fun z => absurd z (by decide)) (fun z => absurd z (by decide)) (fun z => absurd z (by decide)) (fun z => absurd z (by decide)) (fun z => absurd z (by decide)) (fun z => absurd z (by decide)) (fun z => absurd z (by decide)) (fun z => absurd rfl z)
            refine c_Rr_readSize FY SY DY (hd_m (hd_bd.mp kk) (fun fk fp q g' f => g_Rr_readAll_131 isF_18 (by omega) (zz _ _ _ _ (q.1 g' f))) (fun a q Y' g' F' S' D' e8 => g_Rr_readAll_131 isF_18 (by omega) (nx' _ Y' g' _ _ q F' S' D' (by rw [e8]; exact y0) (by rw [e8]; exact y1))))
          · rw [if_neg w0] at kk
            refine g_Rr_readAll_50 isF_18 (fun z => absurd rfl z) (fun _ z => ?_) (fun _ z => absurd (e6.symm.trans z) w0)
            refine g_Rr_readAll_72 isF_18 (fun z => absurd z (by decide)) (fun z => absurd z (by decide)) (fun z => absurd z (by decide)) (fun z => absurd z (by decide)) (fun z => absurd z (by decide)) (fun z => absurd z (by decide)) (fun z => absurd z (by decide)) (fun z => absurd z (by decide)) (fun z => absurd z (by decide)) (fun _ _ _ _ _ => ?_)
            exact c2_fail FY SY (hd_m kk (fun fk fp q g' f => g_Rr_readAll_218 isF_18 (by omega) (zz _ _ _ _ (q.1 g' f))) (fun a q => q))
        · rw [if_neg r0] at kk
          refine g_Rr_readAll_19 isF_18 (fun z => by omega) (fun z => by omega) (fun _ z => by omega) (fun _ z => by omega) (fun _ _ z => absurd z n5) (fun _ _ z => absurd z n5) (fun _ _ _ z => by omega) (fun _ _ _ _ => ?_)
          refine g_Rr_readAll_50 isF_18 (fun _ => ?_) (fun z => absurd z (by decide)) (fun z => absurd z (by decide))
          rw [e6]
          by_cases w0 : tW B n s = 0
          · rw [if_pos w0] at kk
            refine g_Rr_readAll_72 isF_18 (fun _ z => absurd z (by decide)) (fun _ _ => ?_) (fun z => by omega) (fun z => by omega) (fun z => by omega) (fun z => by omega) (fun z => by omega) (fun z => by omega) (fun z => by omega) (fun z => absurd w0 z)
            exact c2_fail FY SY (hd_m kk (fun fk fp q g' f => g_Rr_readAll_122 isF_18 (g_Rr_readAll_131 isF_18 (by omega) (zz _ _ _ _ (q.1 g' f)))) (fun a q => q))
          · rw [if_neg w0] at kk
            by_cases w2 : tW B n s = 2
            · rw [if_pos w2] at kk
              by_cases l0 : l = 0
              · rw [if_pos l0] at kk
                refine g_Rr_readAll_72 isF_18 (fun z => absurd z w0) (fun z => absurd z w0) (fun _ _ => ?_) (fun _ z => absurd (z0.trans l0) z) (fun z => by omega) (fun z => by omega) (fun z => by omega) (fun z => by omega) (fun z => by omega) (fun _ z => absurd w2 z)
                refine c_Rr_readLine FY SY DY (by omega) (hd_m (hd_bd.mp kk) (fun fk fp q g' f => g_Rr_readAll_156 isF_18 (by omega) (zz _ _ _ _ (q.1 g' f))) (fun a q Y' g' F' S' D' v0 v1 => g_Rr_readAll_156 isF_18 (by omega) (nx' _ Y' g' _ _ q F' S' D' v0 (v1.trans y1))))
              · rw [if_neg l0] at kk
                refine g_Rr_readAll_72 isF_18 (fun z => absurd z w0) (fun z => absurd z w0) (fun _ z => absurd (z0.symm.trans z) l0) (fun _ _ => ?_) (fun z => by omega) (fun z => by omega) (fun z => by omega) (fun z => by omega) (fun z => by omega) (fun _ z => absurd w2 z)
                exact c2_fail FY SY (hd_m kk (fun fk fp q g' f => g_Rr_readAll_147 isF_18 (g_Rr_readAll_156 isF_18 (by omega) (zz _ _ _ _ (q.1 g' f)))) (fun a q => q))
            · rw [if_neg w2] at kk
              by_cases w3 : tW B n s = 3
              · rw [if_pos w3] at kk
                by_cases b0 : b = 0
                · rw [if_pos b0] at kk
                  refine g_Rr_readAll_72 isF_18 (fun z => absurd z w0) (fun z => absurd z w0) (fun z => absurd z w2) (fun z => absurd z w2) (fun _ _ => ?_) (fun _ z => absurd (z1.trans b0) z) (fun z => by omega) (fun z => by omega) (fun z => by omega) (fun _ _ z => absurd w3 z)
                  refine c_Rr_readBends FY SY DY (hd_m (hd_bd.mp kk) (fun fk fp q g' f => g_Rr_readAll_181 isF_18 (by omega) (zz _ _ _ _ (q.1 g' f))) (fun a q Y' g' F' S' D' v0 v1 => g_Rr_readAll_181 isF_18 (by omega) (nx' _ Y' g' _ _ q F' S' D' (v0.trans y0) v1)))
                · rw [if_neg b0] at kk
                  refine g_Rr_readAll_72 isF_18 (fun z => absurd z w0) (fun z => absurd z w0) (fun z => absurd z w2) (fun z => absurd z w2) (fun _ z => absurd (z1.symm.trans z) b0) (fun _ _ => ?_) (fun z => by omega) (fun z => by omega) (fun z => by omega) (fun _ _ z => absurd w3 z)
                  exact c2_fail FY SY (hd_m kk (fun fk fp q g' f => g_Rr_readAll_172 isF_18 (g_Rr_readAll_181 isF_18 (by omega) (zz _ _ _ _ (q.1 g' f)))) (fun a q => q))
              · rw [if_neg w3] at kk
                by_cases w4 : tW B n s = 4
                · rw [if_pos w4] at kk
                  by_cases c10 : R 0 3 < 10
                  · rw [if_pos c10] at kk
                    refine g_Rr_readAll_72 isF_18 (fun z => absurd z w0) (fun z => absurd z w0) (fun z => absurd z w2) (fun z => absurd z w2) (fun z => absurd z w3) (fun z => absurd z w3) (fun _ _ => ?_) (fun _ z => by omega) (fun z => by omega) (fun _ _ _ z => absurd w4 z)
                    refine c_Rr_readThing FY SY DY WY c10 (hd_m (hd_bd.mp kk) (fun fk fp q g' f => g_Rr_readAll_209 isF_18 (by omega) (zz _ _ _ _ (q.1 g' f))) (fun a q Y' g' F' S' D' e8 => g_Rr_readAll_209 isF_18 (by omega) (nx' _ Y' g' _ _ q F' S' D' (by rw [e8]; exact y0) (by rw [e8]; exact y1))))
                  · rw [if_neg c10] at kk
                    refine g_Rr_readAll_72 isF_18 (fun z => absurd z w0) (fun z => absurd z w0) (fun z => absurd z w2) (fun z => absurd z w2) (fun z => absurd z w3) (fun z => absurd z w3) (fun _ z => by omega) (fun _ _ => ?_) (fun z => by omega) (fun _ _ _ z => absurd w4 z)
                    exact c2_fail FY SY (hd_m kk (fun fk fp q g' f => g_Rr_readAll_200 isF_18 (g_Rr_readAll_209 isF_18 (by omega) (zz _ _ _ _ (q.1 g' f)))) (fun a q => q))
                · rw [if_neg w4] at kk
                  have fin : Wp true i_To_fail 0 [vr 5, vi 2] [] g (fun r h' => Wp true i_Rr_readAll 218 [vr 8, vr 5, vr 18, vi 1, vi (p : Int), vi 1, vi (tW B n s)] (r.toList ++ []) h' Q) := c2_fail FY SY (hd_m kk (fun fk fp q g' f => g_Rr_readAll_218 isF_18 (by omega) (zz _ _ _ _ (q.1 g' f))) (fun a q => q))
                  exact g_Rr_readAll_72 isF_18 (fun z => absurd z w0) (fun z => absurd z w0) (fun z => absurd z w2) (fun z => absurd z w2) (fun z => absurd z w3) (fun z => absurd z w3) (fun z => absurd z w4) (fun z => absurd z w4) (fun _ => fin) (fun _ _ _ _ _ => fin)
  have F0 : FX h (hs (hs (hs (hs (hs (hs (hs (hs h 18 0 0) 18 1 0) 18 2 9) 18 3 0) 18 4 0) 18 12 0) (18 + 1) 0 0) (18 + 1) 1 0) := FX_w (FX_w (FX_w (FX_w (FX_w (FX_w (FX_w (FX_w FX_r (sc18 (j := 0) (by decide))) (sc18 (j := 0) (by decide))) (sc18 (j := 0) (by decide))) (sc18 (j := 0) (by decide))) (sc18 (j := 0) (by decide))) (sc18 (j := 0) (by decide))) (sc18 (j := 1) (by decide))) (sc18 (j := 1) (by decide))
  have S0 : St B n s h h := ⟨EC_r, S⟩
  have S1 : St B n s (hs (hs (hs (hs (hs (hs (hs (hs h 18 0 0) 18 1 0) 18 2 9) 18 3 0) 18 4 0) 18 12 0) (18 + 1) 0 0) (18 + 1) 1 0) (hs (hs (hs (hs (hs (hs (hs (hs h 18 0 0) 18 1 0) 18 2 9) 18 3 0) 18 4 0) 18 12 0) (18 + 1) 0 0) (18 + 1) 1 0) := St_w (St_w (St_w (St_w (St_w (St_w (St_w (St_w S0 (by decide)) (by decide)) (by decide)) (by decide)) (by decide)) (by decide)) (by decide)) (by decide)
  refine g_Rr_readAll_0 isF_18 (g_Fl_clear_0 isF_18 (g_Rr_readAll_4 isF_18 ?_))
  have S2 := St_w (k := 8) (i := 1) (v := 0) (St_w (k := 8) (i := 0) (v := 0) S1 (by decide)) (by decide)
  have D0 : DX (hs (hs (hs (hs (hs (hs (hs (hs (hs (hs h 18 0 0) 18 1 0) 18 2 9) 18 3 0) 18 4 0) 18 12 0) (18 + 1) 0 0) (18 + 1) 1 0) 8 0 0) 8 1 0) rClr N := by
    have D := DX_clr (X := h) (N := N)
    refine ⟨?_, ?_, ?_⟩
    · rw [← D.1]; exact rmC_congr (fun i => by rw [hs_ne (by decide), hs_ne (by decide)]) ((hs_ne (by decide)).trans (hs_ne (by decide))) ((hs_ne (by decide)).trans (hs_ne (by decide))) ((hs_ne (by decide)).trans (hs_ne (by decide))) ((hs_ne (by decide)).trans (hs_ne (by decide))) ((hs_ne (by decide)).trans (hs_ne (by decide))) ((hs_ne (by decide)).trans (hs_ne (by decide)))
    · rw [hs_ne (by decide), hs_ne (by decide)]; exact D.2.1
    · rw [hs_ne (by decide), hs_ne (by decide)]; exact D.2.2
  exact lp 901 0 (s, rClr, N, 0, 0) _ _ _ _ rfl (Nat.zero_le _) (FX_w (FX_w F0 sc8) sc8) S2 D0 WS_clr (by rw [hs_o (by decide), hs_s]) hs_s (Or.inl rfl) (Or.inl rfl) k
end
