theorem g_En_play_0 {Q : PQ} {h : HP}  {f1 : Nat} (h_f1 : isF f1)
    (k1 : Wp true i_En_weigh 0 [vr 97, vr f1, vr 9999] [] h (fun r h' => Wp true i_En_play 5 [vr 97, vr f1, vr 9999, vr 9999, vr 9999] (r.toList ++ []) h' Q)) :
    Wp true i_En_play 0 [vr 97, vr f1, vr 9999, vr 9999, vr 9999] [] h Q := by
  refine r_aload_n (v := 97) f_23_0 rfl (by decide) ?_
  refine r_aload_n (v := f1) f_23_1 rfl (F_n h_f1) ?_
  exact r_callv (as := [vr 97, vr f1]) (st' := []) (ls0 := [vr 97, vr f1, vr 9999]) f_23_2 (by decide) rfl rfl (Nat.le_of_ble_eq_true rfl) (Nat.le_of_ble_eq_true rfl) ⟨_, _, rfl, rfl⟩ rfl k1

theorem g_En_play_5 {Q : PQ} {h : HP}  {f1 : Nat} (h_f1 : isF f1)
    (o1 : WR (rmC h f1))
    (o2 : -2147483648 ≤ (rVal (rmC h f1) 0 0) - (rVal (rmC h f1) 1 1) ∧ (rVal (rmC h f1) 0 0) - (rVal (rmC h f1) 1 1) ≤ 2147483647)
    (k3 : Wp true i_En_bestAnswer 0 [vr 97, vr f1, vi (-1), vr 9999, vr 9999, vr 9999] [] (hs h 97 2 (h f1 1)) (fun r h' => Wp true i_En_play 33 [vr 97, vr f1, vi ((rVal (rmC h f1) 0 0) - (rVal (rmC h f1) 1 1)), vr 9999, vr 9999] (r.toList ++ [vi ((rVal (rmC h f1) 0 0) - (rVal (rmC h f1) 1 1)), vr 97]) h' Q)) :
    Wp true i_En_play 5 [vr 97, vr f1, vr 9999, vr 9999, vr 9999] [] h Q := by
  refine r_aload_n (v := f1) f_23_5 rfl (F_n h_f1) ?_
  refine r_iconst f_23_6 (by decide) ?_
  refine r_callv (as := [vr f1, vi 0]) (st' := []) (ls0 := [vr f1, vi 0]) f_23_7 (by decide) rfl rfl (Nat.le_of_ble_eq_true rfl) (Nat.le_of_ble_eq_true rfl) ⟨_, _, rfl, (F_k h_f1)⟩ rfl ?_
  refine c_Fl_valueOf h_f1 o1 (by decide) ?_
  show Wp true i_En_play 10 [vr 97, vr f1, vr 9999, vr 9999, vr 9999] [vi (rVal (rmC h f1) 0 0)] h Q
  refine r_aload_n (v := f1) f_23_10 rfl (F_n h_f1) ?_
  refine r_iconst f_23_11 (by decide) ?_
  refine r_callv (as := [vr f1, vi 1]) (st' := [vi (rVal (rmC h f1) 0 0)]) (ls0 := [vr f1, vi 1]) f_23_12 (by decide) rfl rfl (Nat.le_of_ble_eq_true rfl) (Nat.le_of_ble_eq_true rfl) ⟨_, _, rfl, (F_k h_f1)⟩ rfl ?_
  refine c_Fl_valueOf h_f1 o1 (by decide) ?_
  show Wp true i_En_play 15 [vr 97, vr f1, vr 9999, vr 9999, vr 9999] [vi (rVal (rmC h f1) 1 1), vi (rVal (rmC h f1) 0 0)] h Q
  refine r_isub (u := (rVal (rmC h f1) 0 0) - (rVal (rmC h f1) 1 1)) f_23_15 rfl o2 ?_
  refine r_istore_n (ls' := [vr 97, vr f1, vi ((rVal (rmC h f1) 0 0) - (rVal (rmC h f1) 1 1)), vr 9999, vr 9999]) f_23_16 (Nat.le_of_ble_eq_true rfl) rfl ?_
  refine r_aload_n (v := 97) f_23_17 rfl (by decide) ?_
  refine r_aload_n (v := f1) f_23_18 rfl (F_n h_f1) ?_
  refine r_geti (v := h f1 1) f_23_19 (F_k h_f1) (by decide) rfl ?_
  refine r_puti f_23_22 rfl (by decide) ?_
  refine r_aload_n (v := 97) f_23_25 rfl (by decide) ?_
  refine r_iload_n (v := (rVal (rmC h f1) 0 0) - (rVal (rmC h f1) 1 1)) f_23_26 rfl ?_
  refine r_aload_n (v := 97) f_23_27 rfl (by decide) ?_
  refine r_aload_n (v := f1) f_23_28 rfl (F_n h_f1) ?_
  refine r_iconst f_23_29 (by decide) ?_
  exact r_callv (as := [vr 97, vr f1, vi (-1)]) (st' := [vi ((rVal (rmC h f1) 0 0) - (rVal (rmC h f1) 1 1)), vr 97]) (ls0 := [vr 97, vr f1, vi (-1), vr 9999, vr 9999, vr 9999]) f_23_30 (by decide) rfl rfl (Nat.le_of_ble_eq_true rfl) (Nat.le_of_ble_eq_true rfl) ⟨_, _, rfl, rfl⟩ rfl k3

theorem g_En_play_33 {Q : PQ} {h : HP} {x2 : Int} {s1 : Int} {s2 : Int} {f1 : Nat} (h_f1 : isF f1)
    (o1 : -2147483648 ≤ s1 - s2 ∧ s1 - s2 ≤ 2147483647)
    (k2 : Wp true i_En_play 39 [vr 97, vr f1, vi x2, vi 0, vr 9999] [] (hs h 97 1 (s1 - s2)) Q) :
    Wp true i_En_play 33 [vr 97, vr f1, vi x2, vr 9999, vr 9999] [vi s2, vi s1, vr 97] h Q := by
  refine r_isub (u := s1 - s2) f_23_33 rfl o1 ?_
  refine r_puti f_23_34 rfl (by decide) ?_
  refine r_iconst f_23_37 (by decide) ?_
  refine r_istore_n (ls' := [vr 97, vr f1, vi x2, vi 0, vr 9999]) f_23_38 (Nat.le_of_ble_eq_true rfl) rfl ?_
  exact k2

theorem g_En_play_39 {Q : PQ} {h : HP} {x2 : Int} {x3 : Int} {j4 : AV} {f1 : Nat} (h_f1 : isF f1)
    (k1 : h f1 1 ≤ x3 → Q none h)
    (o2 : ¬ h f1 1 ≤ x3 → 0 ≤ x3 ∧ x3 < 7)
    (o3 : ¬ h f1 1 ≤ x3 → h f1 0 ≤ h (f1 + 2) x3.toNat → -2147483648 ≤ x3 + 1 ∧ x3 + 1 ≤ 2147483647)
    (k4 : ¬ h f1 1 ≤ x3 → h f1 0 ≤ h (f1 + 2) x3.toNat → Wp true i_En_play 39 [vr 97, vr f1, vi x2, vi (x3 + 1), j4] [] h Q)
    (o5 : ¬ h f1 1 ≤ x3 → ¬ h f1 0 ≤ h (f1 + 2) x3.toNat → 0 ≤ (h (f1 + 2) x3.toNat) ∧ (h (f1 + 2) x3.toNat) < 100)
    (o6 : ¬ h f1 1 ≤ x3 → ¬ h f1 0 ≤ h (f1 + 2) x3.toNat → 0 ≤ x3 ∧ x3 < 100)
    (o7 : ¬ h f1 1 ≤ x3 → ¬ h f1 0 ≤ h (f1 + 2) x3.toNat → 0 ≤ x3 * 9 + (h (f1 + 2) x3.toNat) ∧ x3 * 9 + (h (f1 + 2) x3.toNat) < 63)
    (o8 : ¬ h f1 1 ≤ x3 → ¬ h f1 0 ≤ h (f1 + 2) x3.toNat → -2147483648 ≤ x2 + (h 98 (x3 * 9 + (h (f1 + 2) x3.toNat)).toNat) ∧ x2 + (h 98 (x3 * 9 + (h (f1 + 2) x3.toNat)).toNat) ≤ 2147483647)
    (k9 : ¬ h f1 1 ≤ x3 → ¬ h f1 0 ≤ h (f1 + 2) x3.toNat → Wp true i_En_bestAnswer 0 [vr 97, vr f1, vi x3, vr 9999, vr 9999, vr 9999] [] h (fun r h' => Wp true i_En_play 83 [vr 97, vr f1, vi x2, vi x3, j4] (r.toList ++ [vi (x2 + (h 98 (x3 * 9 + (h (f1 + 2) x3.toNat)).toNat))]) h' Q)) :
    Wp true i_En_play 39 [vr 97, vr f1, vi x2, vi x3, j4] [] h Q := by
  refine r_iload_n (v := x3) f_23_39 rfl ?_
  refine r_aload_n (v := f1) f_23_40 rfl (F_n h_f1) ?_
  refine r_geti (v := h f1 1) f_23_41 (F_k h_f1) (by decide) rfl ?_
  refine r_br2 (t := 123) f_23_44 rfl cb_ge (fun c1 => ?_) (fun c1 => ?_)
  · exact r_retv f_23_123 rfl (k1 c1)
  · refine r_aload_n (v := f1) f_23_47 rfl (F_n h_f1) ?_
    refine r_getr (q := (f1 + 2)) f_23_48 (F_k h_f1) (by decide) (Or.inl rfl) rfl ?_
    refine r_iload_n (v := x3) f_23_51 rfl ?_
    refine r_iaload (n := 7) (v := h (f1 + 2) x3.toNat) f_23_52 (F_2 h_f1) (o2 c1) rfl ?_
    refine r_aload_n (v := f1) f_23_53 rfl (F_n h_f1) ?_
    refine r_geti (v := h f1 0) f_23_54 (F_k h_f1) (by decide) rfl ?_
    refine r_br2 (t := 117) f_23_57 rfl cb_ge (fun c2 => ?_) (fun c2 => ?_)
    · refine r_iinc (v := x3) (w := x3 + 1) (ls' := [vr 97, vr f1, vi x2, vi (x3 + 1), j4]) f_23_117 rfl rfl (o3 c1 c2) rfl ?_
      refine r_goto (t := 39) f_23_120 rfl ?_
      exact (k4 c1 c2)
    · refine r_iload_n (v := x2) f_23_60 rfl ?_
      refine r_aload_n (v := 97) f_23_61 rfl (by decide) ?_
      refine r_getr (q := 98) f_23_62 rfl (by decide) (Or.inl rfl) rfl ?_
      refine r_aload_n (v := f1) f_23_65 rfl (F_n h_f1) ?_
      refine r_getr (q := (f1 + 2)) f_23_66 (F_k h_f1) (by decide) (Or.inl rfl) rfl ?_
      refine r_iload_n (v := x3) f_23_69 rfl ?_
      refine r_iaload (n := 7) (v := h (f1 + 2) x3.toNat) f_23_70 (F_2 h_f1) (o2 c1) rfl ?_
      refine r_iload_n (v := x3) f_23_71 rfl ?_
      refine r_calls (as := [vi (h (f1 + 2) x3.toNat), vi x3]) (st' := [vr 98, vi x2]) (ls0 := [vi (h (f1 + 2) x3.toNat), vi x3]) f_23_72 (by decide) (by decide) rfl rfl (Nat.le_of_ble_eq_true rfl) (Nat.le_of_ble_eq_true rfl) rfl ?_
      refine c_C_boardNumber (o5 c1 c2) (o6 c1 c2) ?_
      show Wp true i_En_play 75 [vr 97, vr f1, vi x2, vi x3, j4] [vi (x3 * 9 + (h (f1 + 2) x3.toNat)), vr 98, vi x2] h Q
      refine r_iaload (n := 63) (v := h 98 (x3 * 9 + (h (f1 + 2) x3.toNat)).toNat) f_23_75 ⟨rfl, rfl⟩ (o7 c1 c2) rfl ?_
      refine r_iadd (u := x2 + (h 98 (x3 * 9 + (h (f1 + 2) x3.toNat)).toNat)) f_23_76 rfl (o8 c1 c2) ?_
      refine r_aload_n (v := 97) f_23_77 rfl (by decide) ?_
      refine r_aload_n (v := f1) f_23_78 rfl (F_n h_f1) ?_
      refine r_iload_n (v := x3) f_23_79 rfl ?_
      exact r_callv (as := [vr 97, vr f1, vi x3]) (st' := [vi (x2 + (h 98 (x3 * 9 + (h (f1 + 2) x3.toNat)).toNat))]) (ls0 := [vr 97, vr f1, vi x3, vr 9999, vr 9999, vr 9999]) f_23_80 (by decide) rfl rfl (Nat.le_of_ble_eq_true rfl) (Nat.le_of_ble_eq_true rfl) ⟨_, _, rfl, rfl⟩ rfl (k9 c1 c2)

theorem g_En_play_83 {Q : PQ} {h : HP} {x2 : Int} {x3 : Int} {j4 : AV} {s0 : Int} {s1 : Int} {f1 : Nat} (h_f1 : isF f1)
    (o1 : -2147483648 ≤ s0 - s1 ∧ s0 - s1 ≤ 2147483647)
    (o2 : h 97 2 = h f1 1 → -2147483648 ≤ x3 + 1 ∧ x3 + 1 ≤ 2147483647)
    (k3 : h 97 2 = h f1 1 → Wp true i_En_play 39 [vr 97, vr f1, vi x2, vi (x3 + 1), vi (s0 - s1)] [] (hs (hs h 97 1 (s0 - s1)) 97 2 x3) Q)
    (o4 : ¬ h 97 2 = h f1 1 → s0 - s1 ≤ h 97 1 → -2147483648 ≤ x3 + 1 ∧ x3 + 1 ≤ 2147483647)
    (k5 : ¬ h 97 2 = h f1 1 → s0 - s1 ≤ h 97 1 → Wp true i_En_play 39 [vr 97, vr f1, vi x2, vi (x3 + 1), vi (s0 - s1)] [] h Q)
    (o6 : ¬ h 97 2 = h f1 1 → ¬ s0 - s1 ≤ h 97 1 → -2147483648 ≤ x3 + 1 ∧ x3 + 1 ≤ 2147483647)
    (k7 : ¬ h 97 2 = h f1 1 → ¬ s0 - s1 ≤ h 97 1 → Wp true i_En_play 39 [vr 97, vr f1, vi x2, vi (x3 + 1), vi (s0 - s1)] [] (hs (hs h 97 1 (s0 - s1)) 97 2 x3) Q) :
    Wp true i_En_play 83 [vr 97, vr f1, vi x2, vi x3, j4] [vi s1, vi s0] h Q := by
  refine r_isub (u := s0 - s1) f_23_83 rfl o1 ?_
  refine r_istore (ls' := [vr 97, vr f1, vi x2, vi x3, vi (s0 - s1)]) f_23_84 (Nat.le_of_ble_eq_true rfl) rfl ?_
  refine r_aload_n (v := 97) f_23_86 rfl (by decide) ?_
  refine r_geti (v := h 97 2) f_23_87 rfl (by decide) rfl ?_
  refine r_aload_n (v := f1) f_23_90 rfl (F_n h_f1) ?_
  refine r_geti (v := h f1 1) f_23_91 (F_k h_f1) (by decide) rfl ?_
  refine r_br2 (t := 106) f_23_94 rfl cb_eq (fun c1 => ?_) (fun c1 => ?_)
  · refine r_aload_n (v := 97) f_23_106 rfl (by decide) ?_
    refine r_iload (v := s0 - s1) f_23_107 rfl ?_
    refine r_puti f_23_109 rfl (by decide) ?_
    refine r_aload_n (v := 97) f_23_112 rfl (by decide) ?_
    refine r_iload_n (v := x3) f_23_113 rfl ?_
    refine r_puti f_23_114 rfl (by decide) ?_
    refine r_iinc (v := x3) (w := x3 + 1) (ls' := [vr 97, vr f1, vi x2, vi (x3 + 1), vi (s0 - s1)]) f_23_117 rfl rfl (o2 c1) rfl ?_
    refine r_goto (t := 39) f_23_120 rfl ?_
    exact (k3 c1)
  · refine r_iload (v := s0 - s1) f_23_97 rfl ?_
    refine r_aload_n (v := 97) f_23_99 rfl (by decide) ?_
    refine r_geti (v := h 97 1) f_23_100 rfl (by decide) rfl ?_
    refine r_br2 (t := 117) f_23_103 rfl cb_le (fun c2 => ?_) (fun c2 => ?_)
    · refine r_iinc (v := x3) (w := x3 + 1) (ls' := [vr 97, vr f1, vi x2, vi (x3 + 1), vi (s0 - s1)]) f_23_117 rfl rfl (o4 c1 c2) rfl ?_
      refine r_goto (t := 39) f_23_120 rfl ?_
      exact (k5 c1 c2)
    · refine r_aload_n (v := 97) f_23_106 rfl (by decide) ?_
      refine r_iload (v := s0 - s1) f_23_107 rfl ?_
      refine r_puti f_23_109 rfl (by decide) ?_
      refine r_aload_n (v := 97) f_23_112 rfl (by decide) ?_
      refine r_iload_n (v := x3) f_23_113 rfl ?_
      refine r_puti f_23_114 rfl (by decide) ?_
      refine r_iinc (v := x3) (w := x3 + 1) (ls' := [vr 97, vr f1, vi x2, vi (x3 + 1), vi (s0 - s1)]) f_23_117 rfl rfl (o6 c1 c2) rfl ?_
      refine r_goto (t := 39) f_23_120 rfl ?_
      exact (k7 c1 c2)

theorem g_C_gameTrouble_0 {Q : PQ} {h : HP} {x1 : Int} 
    (k1 : (1 ≤ x1 ∧ x1 ≤ 3) → h 10 1 ≤ 0 → Q (some (vi 6)) h)
    (k2 : (1 ≤ x1 ∧ x1 ≤ 3) → ¬ h 10 1 ≤ 0 → Q (some (vi 0)) h)
    (k3 : ¬ (1 ≤ x1 ∧ x1 ≤ 3) → Q (some (vi 1)) h) :
    Wp true i_C_gameTrouble 0 [vr 0, vi x1] [] h Q := by
  refine r_iload_n (v := x1) f_213_0 rfl ?_
  refine r_iconst f_213_1 (by decide) ?_
  refine r_iconst f_213_2 (by decide) ?_
  refine r_calls (as := [vi x1, vi 1, vi 3]) (st' := []) (ls0 := [vi x1, vi 1, vi 3]) f_213_3 (by decide) (by decide) rfl rfl (Nat.le_of_ble_eq_true rfl) (Nat.le_of_ble_eq_true rfl) rfl ?_
  refine c_C_within  ?_
  show Wp true i_C_gameTrouble 6 [vr 0, vi x1] [vi (bi (1 ≤ x1 ∧ x1 ≤ 3))] h Q
  refine r_br (t := 11) f_213_6 rfl cb_bt (fun c1 => ?_) (fun c1 => ?_)
  · refine r_aload_n (v := 0) f_213_11 rfl (by decide) ?_
    refine r_getr (q := 10) f_213_12 rfl (by decide) (Or.inl rfl) rfl ?_
    refine r_geti (v := h 10 1) f_213_15 rfl (by decide) rfl ?_
    refine r_br (t := 25) f_213_18 rfl cb_le (fun c2 => ?_) (fun c2 => ?_)
    · refine r_bipush f_213_25 (by decide) ?_
      exact r_reti f_213_27 rfl (k1 c1 c2)
    · refine r_iconst f_213_21 (by decide) ?_
      refine r_goto (t := 27) f_213_22 rfl ?_
      exact r_reti f_213_27 rfl (k2 c1 c2)
  · refine r_iconst f_213_9 (by decide) ?_
    exact r_reti f_213_10 rfl (k3 c1)

theorem g_C_game_0 {Q : PQ} {h : HP} {x1 : Int} 
    (k1 : Wp true i_C_gameTrouble 0 [vr 0, vi x1] [] h (fun r h' => Wp true i_C_game 5 [vr 0, vi x1, vr 9999] (r.toList ++ []) h' Q)) :
    Wp true i_C_game 0 [vr 0, vi x1, vr 9999] [] h Q := by
  refine r_aload_n (v := 0) f_197_0 rfl (by decide) ?_
  refine r_iload_n (v := x1) f_197_1 rfl ?_
  exact r_callv (as := [vr 0, vi x1]) (st' := []) (ls0 := [vr 0, vi x1]) f_197_2 (by decide) rfl rfl (Nat.le_of_ble_eq_true rfl) (Nat.le_of_ble_eq_true rfl) ⟨_, _, rfl, rfl⟩ rfl k1

theorem g_C_game_5 {Q : PQ} {h : HP} {x1 : Int} {s0 : Int} 
    (k1 : s0 = 0 → Wp true i_En_play 0 [vr 97, vr 10, vr 9999, vr 9999, vr 9999] [] h (fun r h' => Wp true i_C_game 27 [vr 0, vi x1, vi s0] (r.toList ++ []) h' Q))
    (k2 : ¬ s0 = 0 → Q (some (vi (-1))) (hs h 0 0 s0)) :
    Wp true i_C_game 5 [vr 0, vi x1, vr 9999] [vi s0] h Q := by
  refine r_istore_n (ls' := [vr 0, vi x1, vi s0]) f_197_5 (Nat.le_of_ble_eq_true rfl) rfl ?_
  refine r_iload_n (v := s0) f_197_6 rfl ?_
  refine r_br (t := 16) f_197_7 rfl cb_eq (fun c1 => ?_) (fun c1 => ?_)
  · refine r_aload_n (v := 0) f_197_16 rfl (by decide) ?_
    refine r_getr (q := 97) f_197_17 rfl (by decide) (Or.inl rfl) rfl ?_
    refine r_aload_n (v := 0) f_197_20 rfl (by decide) ?_
    refine r_getr (q := 10) f_197_21 rfl (by decide) (Or.inl rfl) rfl ?_
    exact r_callv (as := [vr 97, vr 10]) (st' := []) (ls0 := [vr 97, vr 10, vr 9999, vr 9999, vr 9999]) f_197_24 (by decide) rfl rfl (Nat.le_of_ble_eq_true rfl) (Nat.le_of_ble_eq_true rfl) ⟨_, _, rfl, rfl⟩ rfl (k1 c1)
  · refine r_aload_n (v := 0) f_197_10 rfl (by decide) ?_
    refine r_iload_n (v := s0) f_197_11 rfl ?_
    refine r_callv (as := [vr 0, vi s0]) (st' := []) (ls0 := [vr 0, vi s0]) f_197_12 (by decide) rfl rfl (Nat.le_of_ble_eq_true rfl) (Nat.le_of_ble_eq_true rfl) ⟨_, _, rfl, rfl⟩ rfl ?_
    refine c_C_refuse  ?_
    show Wp true i_C_game 15 [vr 0, vi x1, vi s0] [vi (-1)] (hs h 0 0 s0) Q
    exact r_reti f_197_15 rfl (k2 c1)

theorem g_C_game_27 {Q : PQ} {h : HP} {x1 : Int} {x2 : Int} 
    (k1 : Q (some (vi (h 97 1))) (hs h 0 0 0)) :
    Wp true i_C_game 27 [vr 0, vi x1, vi x2] [] h Q := by
  refine r_aload_n (v := 0) f_197_27 rfl (by decide) ?_
  refine r_aload_n (v := 0) f_197_28 rfl (by decide) ?_
  refine r_getr (q := 97) f_197_29 rfl (by decide) (Or.inl rfl) rfl ?_
  refine r_geti (v := h 97 1) f_197_32 rfl (by decide) rfl ?_
  refine r_callv (as := [vr 0, vi (h 97 1)]) (st' := []) (ls0 := [vr 0, vi (h 97 1)]) f_197_35 (by decide) rfl rfl (Nat.le_of_ble_eq_true rfl) (Nat.le_of_ble_eq_true rfl) ⟨_, _, rfl, rfl⟩ rfl ?_
  refine c_C_answer  ?_
  show Wp true i_C_game 38 [vr 0, vi x1, vi x2] [vi (h 97 1)] (hs h 0 0 0) Q
  exact r_reti f_197_38 rfl k1

theorem g_C_first_0 {Q : PQ} {h : HP} {x1 : Int} 
    (k1 : Wp true i_C_gameTrouble 0 [vr 0, vi x1] [] h (fun r h' => Wp true i_C_first 5 [vr 0, vi x1, vr 9999] (r.toList ++ []) h' Q)) :
    Wp true i_C_first 0 [vr 0, vi x1, vr 9999] [] h Q := by
  refine r_aload_n (v := 0) f_198_0 rfl (by decide) ?_
  refine r_iload_n (v := x1) f_198_1 rfl ?_
  exact r_callv (as := [vr 0, vi x1]) (st' := []) (ls0 := [vr 0, vi x1]) f_198_2 (by decide) rfl rfl (Nat.le_of_ble_eq_true rfl) (Nat.le_of_ble_eq_true rfl) ⟨_, _, rfl, rfl⟩ rfl k1

theorem g_C_first_5 {Q : PQ} {h : HP} {x1 : Int} {s0 : Int} 
    (k1 : s0 = 0 → Wp true i_En_play 0 [vr 97, vr 10, vr 9999, vr 9999, vr 9999] [] h (fun r h' => Wp true i_C_first 27 [vr 0, vi x1, vi s0] (r.toList ++ []) h' Q))
    (k2 : ¬ s0 = 0 → Q (some (vi (-1))) (hs h 0 0 s0)) :
    Wp true i_C_first 5 [vr 0, vi x1, vr 9999] [vi s0] h Q := by
  refine r_istore_n (ls' := [vr 0, vi x1, vi s0]) f_198_5 (Nat.le_of_ble_eq_true rfl) rfl ?_
  refine r_iload_n (v := s0) f_198_6 rfl ?_
  refine r_br (t := 16) f_198_7 rfl cb_eq (fun c1 => ?_) (fun c1 => ?_)
  · refine r_aload_n (v := 0) f_198_16 rfl (by decide) ?_
    refine r_getr (q := 97) f_198_17 rfl (by decide) (Or.inl rfl) rfl ?_
    refine r_aload_n (v := 0) f_198_20 rfl (by decide) ?_
    refine r_getr (q := 10) f_198_21 rfl (by decide) (Or.inl rfl) rfl ?_
    exact r_callv (as := [vr 97, vr 10]) (st' := []) (ls0 := [vr 97, vr 10, vr 9999, vr 9999, vr 9999]) f_198_24 (by decide) rfl rfl (Nat.le_of_ble_eq_true rfl) (Nat.le_of_ble_eq_true rfl) ⟨_, _, rfl, rfl⟩ rfl (k1 c1)
  · refine r_aload_n (v := 0) f_198_10 rfl (by decide) ?_
    refine r_iload_n (v := s0) f_198_11 rfl ?_
    refine r_callv (as := [vr 0, vi s0]) (st' := []) (ls0 := [vr 0, vi s0]) f_198_12 (by decide) rfl rfl (Nat.le_of_ble_eq_true rfl) (Nat.le_of_ble_eq_true rfl) ⟨_, _, rfl, rfl⟩ rfl ?_
    refine c_C_refuse  ?_
    show Wp true i_C_first 15 [vr 0, vi x1, vi s0] [vi (-1)] (hs h 0 0 s0) Q
    exact r_reti f_198_15 rfl (k2 c1)

theorem g_C_first_27 {Q : PQ} {h : HP} {x1 : Int} {x2 : Int} 
    (k1 : Q (some (vi (h 97 2))) (hs h 0 0 0)) :
    Wp true i_C_first 27 [vr 0, vi x1, vi x2] [] h Q := by
  refine r_aload_n (v := 0) f_198_27 rfl (by decide) ?_
  refine r_aload_n (v := 0) f_198_28 rfl (by decide) ?_
  refine r_getr (q := 97) f_198_29 rfl (by decide) (Or.inl rfl) rfl ?_
  refine r_geti (v := h 97 2) f_198_32 rfl (by decide) rfl ?_
  refine r_callv (as := [vr 0, vi (h 97 2)]) (st' := []) (ls0 := [vr 0, vi (h 97 2)]) f_198_35 (by decide) rfl rfl (Nat.le_of_ble_eq_true rfl) (Nat.le_of_ble_eq_true rfl) ⟨_, _, rfl, rfl⟩ rfl ?_
  refine c_C_answer  ?_
  show Wp true i_C_first 38 [vr 0, vi x1, vi x2] [vi (h 97 2)] (hs h 0 0 0) Q
  exact r_reti f_198_38 rfl k1

theorem ans_G {R : HP} (W : WR R) {r : Nat} {m v : Int} (mo : Mo R 0 r) (hm : ((r : Int) < R 0 1 ∧ m = r) ∨ ((r : Int) = R 0 1 ∧ m = -1)) (b : bAn R m (R 0 1).toNat v) : Gv 1 1 (mvG R 0 r) (vLd (mvG R 0 r) - v) := by
  have w := W.1
  have Wy := WR_mv W (Or.inl rfl) mo
  have y0 : mvG R 0 r 0 = R 0 := mvG_0
  have y1 : ∀ s : Nat, (s : Int) < R 0 1 → mvG R 0 r 1 s = ctM R m s := by
    intro s hs'
    unfold ctM
    rcases hm with ⟨a, e⟩ | ⟨a, e⟩
    · rw [mvG_in a]
      by_cases z : s = r
      · subst z; rw [hs_s, if_pos (by omega)]; rfl
      · rw [hs_o (Or.inr z), if_neg (by omega)]
    · rw [mvG_out (by omega), if_neg (by omega)]
  have yg : ∀ c s, gnG (mvG R 0 r) c s = gnG R c s := by
    intro c s
    by_cases z : (r : Int) < R 0 1
    · rw [mvG_in z]
      unfold gnG gnT rWo
      rw [hs_ne (k' := 0) (by decide), hs_ne (k' := 2) (by decide), hs_ne (k' := 3) (by decide), hs_ne (k' := 4) (by decide), hs_ne (k' := 5) (by decide), hs_ne (k' := 6) (by decide)]
    · rw [mvG_out z]
  obtain ⟨y, ey⟩ : ∃ y, y = mvG R 0 r := ⟨_, rfl⟩
  rw [← ey] at Wy y0 y1 yg ⊢
  have tr : ∀ s : Nat, (s : Int) < R 0 1 → 0 < ctM R m s → Mo y 1 s ∧ vLd (mvG y 1 s) = vLd y - gnG R (ctM R m s - 1) s := by
    intro s hs' hp
    have hp' : 0 < y 1 s := by rw [y1 s hs']; exact hp
    refine ⟨Or.inl ⟨by rw [y0]; exact hs', ?_⟩, ?_⟩
    · unfold rIn; rw [if_pos (by decide)]; exact hp'
    · rw [vLd_dn Wy (by rw [y0]; exact hs') hp', yg, y1 s hs']
  have b1 := b.1
  refine ⟨?_, fun s u ms gu => ?_⟩
  · by_cases z : ∃ s : Nat, (s : Int) < R 0 1 ∧ 0 < ctM R m s ∧ v = gnG R (ctM R m s - 1) s
    · obtain ⟨s, a, p, e⟩ := z
      have t := tr s a p
      refine ⟨s, t.1, ?_⟩
      show vLd y - v = vLd (mvG y 1 s)
      rw [t.2, e]
    · have v0 : v = 0 := by
        rcases b.2.2 with q | ⟨s, a, p, e⟩
        · exact q
        · exact absurd ⟨s, by omega, p, e⟩ z
      have non : ∀ s : Nat, (s : Int) < R 0 1 → ctM R m s ≤ 0 := by
        intro s hs'
        by_cases p : ctM R m s ≤ 0
        · exact p
        · have := b.2.1 s (by omega) (by omega)
          have gr := gnG_rg W (ctM R m s - 1) s
          exact absurd ⟨s, hs', by omega, by omega⟩ z
      refine ⟨(R 0 1).toNat, Or.inr ⟨by rw [y0]; omega, fun s hs' => ?_⟩, ?_⟩
      · rw [y0] at hs'
        unfold rIn; rw [if_pos (by decide), y1 s hs']; exact non s hs'
      · show vLd y - v = vLd (mvG y 1 (R 0 1).toNat)
        rw [mvG_out (by rw [y0]; omega)]; omega
  · have eu : u = vLd (mvG y 1 s) := gu
    have sg : sgL 1 = -1 := rfl
    rw [sg]
    rcases ms with q | q
    · have q1 := q.1
      have q2 := q.2
      rw [y0] at q1
      unfold rIn at q2
      rw [if_pos (by decide), y1 s q1] at q2
      have := b.2.1 s (by omega) q2
      have t := (tr s q1 q2).2
      omega
    · rw [mvG_out (by omega)] at eu; omega
def PlI (R : HP) (i : Nat) (o f : Int) : Prop :=
  (f = R 0 1 ∧ (∀ r : Nat, r < i → ¬ R 1 r < R 0 0) ∧ ∃ v, bAn R (-1) (R 0 1).toNat v ∧ o = vLd R - v) ∨
  (∃ f' : Nat, f = f' ∧ f' < i ∧ Mo R 0 f' ∧ Gv 1 1 (mvG R 0 f') o ∧ (∀ r u, r < i → Mo R 0 r → Gv 1 1 (mvG R 0 r) u → u ≤ o) ∧ ∀ r u, r < f' → Mo R 0 r → Gv 1 1 (mvG R 0 r) u → u < o)
theorem Mo0_in {R : HP} {r : Nat} (hr : (r : Int) < R 0 1) : Mo R 0 r ↔ R 1 r < R 0 0 := by
  unfold Mo rIn
  rw [if_neg (by decide)]
  constructor
  · rintro (q | q) <;> omega
  · intro q; exact Or.inl ⟨hr, by omega⟩
theorem c_En_play {Q : PQ} {h R : HP} {f1 : Nat} (h_f1 : isF f1) (eR : rmC h f1 = R) (W : WR R)
    (kk : ∀ (h' : HP) (o : Int) (f : Nat), (∀ k, k ≠ 97 → k ≠ 98 → h' k = h k) → FinG R 1 o f → -2970 ≤ o ∧ o ≤ 2970 → h' 97 1 = o → h' 97 2 = (f : Int) → Q none h') : Wp true i_En_play 0 [vr 97, vr f1, vr 9999, vr 9999, vr 9999] [] h Q := by
  have w := W.1
  have fl : f1 + 8 ≤ 82 := by unfold isF at h_f1; omega
  have vr0 := vLd_rg W
  refine g_En_play_0 h_f1 (c_En_weigh h_f1 eR W (fun h1 f G => ?_))
  have e1 : rmC h1 f1 = R := (rC_frame h_f1 (fun k hk => f k (by omega))).trans eR
  have fr : ∀ h2 : HP, (∀ k, k ≠ 97 → h2 k = h1 k) → rmC h2 f1 = R ∧ GN R h2 := fun h2 q => ⟨(rC_frame h_f1 (fun k hk => q k (by omega))).trans e1, fun c r b => by rw [q 98 (by decide)]; exact G c r b⟩
  refine g_En_play_5 h_f1 (by rw [e1]; exact W) (by rw [e1]; unfold vLd at vr0; omega) ?_
  rw [e1]
  show Wp true i_En_bestAnswer 0 _ _ _ (fun r h' => Wp true i_En_play 33 [vr 97, vr f1, vi (vLd R), vr 9999, vr 9999] (r.toList ++ [vi (vLd R), vr 97]) h' Q)
  have d1 := cdim e1
  have q1 : ∀ k, k ≠ 97 → hs h1 97 2 (h1 f1 1) k = h1 k := fun k hk => hs_ne hk
  refine c_En_bestAnswer h_f1 (fr _ q1).1 W (fr _ q1).2 (fun s a b => by omega) (fun v0 bv0 vb0 => ?_)
  have b01 := bv0.1
  refine g_En_play_33 h_f1 (by omega) ?_
  have key : ∀ (d i : Nat) (h2 : HP) (o f : Int) (j4 : AV), (i : Int) + d = R 0 1 → (∀ k, k ≠ 97 → h2 k = h1 k) → h2 97 1 = o → h2 97 2 = f → -2970 ≤ o ∧ o ≤ 2970 → PlI R i o f → Wp true i_En_play 39 [vr 97, vr f1, vi (vLd R), vi (i : Int), j4] [] h2 Q := by
    intro d
    induction d with
    | zero =>
      intro i h2 o f0 j4 e q eo ef ob I
      have dd := cdim (fr h2 q).1
      have fin : Q none h2 := by
        rcases I with ⟨e1, e2, v, bv, ev⟩ | ⟨f', e1, e2, mo, g, u1, u2⟩
        · have mo : Mo R 0 (R 0 1).toNat := Or.inr ⟨by omega, fun s hs' => by
            have := e2 s (by omega)
            unfold rIn; rw [if_neg (by decide)]; omega⟩
          refine kk h2 o (R 0 1).toNat (fun k a b => (q k a).trans (f k b)) ⟨mo, ?_, fun r u mr gu => ?_, fun r u hr mr gu => ?_⟩ ob eo (by omega)
          · have a := ans_G W mo (Or.inr ⟨by omega, rfl⟩) bv
            rw [mvG_out (by omega)] at a ⊢
            rw [ev]; exact a
          · have a := ans_G W mo (Or.inr ⟨by omega, rfl⟩) bv
            have er : r = (R 0 1).toNat := by
              by_cases z : (r : Int) < R 0 1
              · exact absurd ((Mo0_in z).1 mr) (e2 r (by omega))
              · have := Mo_le mr; omega
            subst er
            rw [mvG_out (by omega)] at a gu
            have := Gv_un (Or.inr rfl) gu a
            omega
          · exact absurd ((Mo0_in (by omega)).1 mr) (e2 r (by omega))
        · refine kk h2 o f' (fun k a b => (q k a).trans (f k b)) ⟨mo, g, fun r u mr gu => ?_, u2⟩ ob eo (by omega)
          by_cases z : r < i
          · exact u1 r u z mr gu
          · rcases mr with m | m
            · omega
            · have m2 := m.2 f' (by omega)
              have := (Mo0_in (by omega)).1 mo
              unfold rIn at m2
              rw [if_neg (by decide)] at m2
              omega
      exact g_En_play_39 h_f1 (fun _ => fin) (fun z => by omega) (fun z => by omega) (fun z => by omega) (fun z => by omega) (fun z => by omega) (fun z => by omega) (fun z => by omega) (fun z => by omega)
    | succ d ih =>
      intro i h2 o f0 j4 e q eo ef ob I
      have dd := cdim (fr h2 q).1
      have en : ((i : Int)).toNat = i := Int.toNat_natCast _
      have wi := W.2.1 i (by omega)
      have c1 : h2 (f1 + 2) i = R 1 i := (cR_1 (h := h2) (f := f1) (r := i) (by omega)).symm.trans (by rw [(fr h2 q).1])
      have gr := gnG_rg W (R 1 i) i
      have gn : R 1 i < R 0 0 → h2 98 ((i : Int) * 9 + R 1 i).toNat = gnG R (R 1 i) i := by
        intro z
        obtain ⟨c, ec⟩ : ∃ c : Nat, R 1 i = c := ⟨(R 1 i).toNat, by omega⟩
        rw [ec, show ((i : Int) * 9 + (c : Int)).toNat = 9 * i + c by omega]
        exact (fr h2 q).2 c i ⟨by omega, by omega⟩
      refine g_En_play_39 h_f1 (fun z => by omega) (fun _ => by omega) (fun _ _ => by omega) (fun _ z => ?_) (fun _ z => by rw [en, c1] at z ⊢; omega) (fun _ z => by omega) (fun _ z => by rw [en, c1] at z ⊢; omega) (fun _ z => by rw [en, c1] at z ⊢; rw [gn (by omega)]; omega) (fun _ z => ?_)
      · rw [en, c1] at z
        have nm : ¬ Mo R 0 i := fun x => by have := (Mo0_in (by omega)).1 x; omega
        refine ih (i + 1) h2 o f0 j4 (by omega) q eo ef ob ?_
        rcases I with ⟨e1, e2, x⟩ | ⟨f', e1, e2, mo, g, u1, u2⟩
        · refine Or.inl ⟨e1, fun r hr => ?_, x⟩
          by_cases y : r = i
          · subst y; omega
          · exact e2 r (by omega)
        · refine Or.inr ⟨f', e1, by omega, mo, g, fun r u hr mr gu => ?_, u2⟩
          by_cases y : r = i
          · subst y; exact absurd mr nm
          · exact u1 r u (by omega) mr gu
      · rw [en, c1] at z
        have mo : Mo R 0 i := (Mo0_in (by omega)).2 (by omega)
        rw [en, c1, gn (by omega)]
        have hmm : ∀ s : Nat, (s : Int) = (i : Int) → (s : Int) < R 0 1 → R 1 s < R 0 0 := by
          intro s a b
          have es : s = i := by omega
          subst es
          omega
        refine c_En_bestAnswer h_f1 (fr h2 q).1 W (fr h2 q).2 hmm (fun v bv vb => ?_)
        have a := ans_G W mo (Or.inl ⟨by omega, rfl⟩) bv
        have up : vLd (mvG R 0 i) = vLd R + gnG R (R 1 i) i := by
          rw [mvG_in (by omega)]; exact vLd_up W
        rw [up] at a
        have b1 := bv.1
        have new : ∀ h3 : HP, (∀ k, k ≠ 97 → h3 k = h2 k) → h3 97 1 = vLd R + gnG R (R 1 i) i - v → h3 97 2 = i → (∀ r u, r < i → Mo R 0 r → Gv 1 1 (mvG R 0 r) u → u < vLd R + gnG R (R 1 i) i - v) → ∀ j4, Wp true i_En_play 39 [vr 97, vr f1, vi (vLd R), vi ((i : Int) + 1), j4] [] h3 Q := by
          intro h3 q3 o3 f3 lt j4
          refine ih (i + 1) h3 _ (i : Int) j4 (by omega) (fun k hk => (q3 k hk).trans (q k hk)) o3 f3 (by omega) (Or.inr ⟨i, rfl, by omega, mo, a, fun r u hr mr gu => ?_, lt⟩)
          by_cases y : r = i
          · subst y
            have := Gv_un (Or.inr rfl) gu a
            omega
          · have := lt r u (by omega) mr gu; omega
        refine g_En_play_83 h_f1 (by omega) (fun _ => by omega) (fun y => ?_) (fun _ _ => by omega) (fun y y2 => ?_) (fun _ _ => by omega) (fun y y2 => ?_)
        · refine new _ (fun k hk => by rw [hs_ne hk, hs_ne hk]) (by rw [hs_o (Or.inr (by decide)), hs_s]) hs_s (fun r u hr mr gu => ?_) _
          rcases I with ⟨e1, e2, x⟩ | ⟨f', e1, e2, x⟩
          · exact absurd ((Mo0_in (by omega)).1 mr) (e2 r hr)
          · omega
        · refine ih (i + 1) h2 o f0 _ (by omega) q eo ef ob ?_
          rcases I with ⟨e1, e2, x⟩ | ⟨f', e1, e2, mo', g, u1, u2⟩
          · omega
          · refine Or.inr ⟨f', e1, by omega, mo', g, fun r u hr mr gu => ?_, u2⟩
            by_cases y3 : r = i
            · subst y3
              have := Gv_un (Or.inr rfl) gu a
              omega
            · exact u1 r u (by omega) mr gu
        · refine new _ (fun k hk => by rw [hs_ne hk, hs_ne hk]) (by rw [hs_o (Or.inr (by decide)), hs_s]) hs_s (fun r u hr mr gu => ?_) _
          rcases I with ⟨e1, e2, x⟩ | ⟨f', e1, e2, mo', g, u1, u2⟩
          · omega
          · have := u1 r u hr mr gu; omega
  exact key (R 0 1).toNat 0 _ (vLd R - v0) (R 0 1) _ (by omega) (fun k hk => by rw [hs_ne hk, hs_ne hk]) hs_s (by rw [hs_o (Or.inr (by decide)), hs_s]; exact d1.2.1) (by omega) (Or.inl ⟨rfl, fun r hr => by omega, v0, bv0, rfl⟩)
