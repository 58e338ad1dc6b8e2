theorem g_M_byteAt_0 {Q : PQ} {h : HP} {x1 : Int} 
    (k1 : h 103 11 ≤ x1 → Q (some (vi (-1))) h)
    (o2 : ¬ h 103 11 ≤ x1 → 0 ≤ x1 ∧ x1 < 900)
    (k3 : ¬ h 103 11 ≤ x1 → Q (some (vi (o_and (h 110 x1.toNat) 255))) h) :
    Wp true i_M_byteAt 0 [vr 103, vi x1] [] h Q := by
  refine r_iload_n (v := x1) f_241_0 rfl ?_
  refine r_aload_n (v := 103) f_241_1 rfl (by decide) ?_
  refine r_geti (v := h 103 11) f_241_2 rfl (by decide) rfl ?_
  refine r_br2 (t := 21) f_241_5 rfl cb_ge (fun c1 => ?_) (fun c1 => ?_)
  · refine r_iconst f_241_21 (by decide) ?_
    exact r_reti f_241_22 rfl (k1 c1)
  · refine r_aload_n (v := 103) f_241_8 rfl (by decide) ?_
    refine r_getr (q := 110) f_241_9 rfl (by decide) (Or.inl rfl) rfl ?_
    refine r_iload_n (v := x1) f_241_12 rfl ?_
    refine r_baload (n := 900) (v := h 110 x1.toNat) f_241_13 ⟨rfl, rfl⟩ (o2 c1) rfl ?_
    refine r_sipush f_241_14 (by decide) ?_
    refine r_iand f_241_17 ?_
    refine r_goto (t := 22) f_241_18 rfl ?_
    exact r_reti f_241_22 rfl (k3 c1)

theorem g_M_isSmall_0 {Q : PQ} {h : HP} {x0 : Int} 
    (k1 : x0 < 97 → Q (some (vi 0)) h)
    (k2 : ¬ x0 < 97 → 122 < x0 → Q (some (vi 0)) h)
    (k3 : ¬ x0 < 97 → ¬ 122 < x0 → Q (some (vi 1)) h) :
    Wp true i_M_isSmall 0 [vi x0] [] h Q := by
  refine r_iload_n (v := x0) f_242_0 rfl ?_
  refine r_bipush f_242_1 (by decide) ?_
  refine r_br2 (t := 16) f_242_3 rfl cb_lt (fun c1 => ?_) (fun c1 => ?_)
  · refine r_iconst f_242_16 (by decide) ?_
    exact r_retz f_242_17 rfl (by decide) (k1 c1)
  · refine r_iload_n (v := x0) f_242_6 rfl ?_
    refine r_bipush f_242_7 (by decide) ?_
    refine r_br2 (t := 16) f_242_9 rfl cb_gt (fun c2 => ?_) (fun c2 => ?_)
    · refine r_iconst f_242_16 (by decide) ?_
      exact r_retz f_242_17 rfl (by decide) (k2 c1 c2)
    · refine r_iconst f_242_12 (by decide) ?_
      refine r_goto (t := 17) f_242_13 rfl ?_
      exact r_retz f_242_17 rfl (by decide) (k3 c1 c2)

theorem g_M_isDigit_0 {Q : PQ} {h : HP} {x0 : Int} 
    (k1 : x0 < 48 → Q (some (vi 0)) h)
    (k2 : ¬ x0 < 48 → 57 < x0 → Q (some (vi 0)) h)
    (k3 : ¬ x0 < 48 → ¬ 57 < x0 → Q (some (vi 1)) h) :
    Wp true i_M_isDigit 0 [vi x0] [] h Q := by
  refine r_iload_n (v := x0) f_243_0 rfl ?_
  refine r_bipush f_243_1 (by decide) ?_
  refine r_br2 (t := 16) f_243_3 rfl cb_lt (fun c1 => ?_) (fun c1 => ?_)
  · refine r_iconst f_243_16 (by decide) ?_
    exact r_retz f_243_17 rfl (by decide) (k1 c1)
  · refine r_iload_n (v := x0) f_243_6 rfl ?_
    refine r_bipush f_243_7 (by decide) ?_
    refine r_br2 (t := 16) f_243_9 rfl cb_gt (fun c2 => ?_) (fun c2 => ?_)
    · refine r_iconst f_243_16 (by decide) ?_
      exact r_retz f_243_17 rfl (by decide) (k2 c1 c2)
    · refine r_iconst f_243_12 (by decide) ?_
      refine r_goto (t := 17) f_243_13 rfl ?_
      exact r_retz f_243_17 rfl (by decide) (k3 c1 c2)

theorem g_M_ahead_0 {Q : PQ} {h : HP}  
    (k1 : Wp true i_M_byteAt 0 [vr 103, vi (h 103 14)] [] h (fun r h' => Wp true i_M_ahead 8 [vr 103, vr 9999] (r.toList ++ []) h' Q)) :
    Wp true i_M_ahead 0 [vr 103, vr 9999] [] h Q := by
  refine r_aload_n (v := 103) f_244_0 rfl (by decide) ?_
  refine r_aload_n (v := 103) f_244_1 rfl (by decide) ?_
  refine r_geti (v := h 103 14) f_244_2 rfl (by decide) rfl ?_
  exact r_callv (as := [vr 103, vi (h 103 14)]) (st' := []) (ls0 := [vr 103, vi (h 103 14)]) f_244_5 (by decide) rfl rfl (Nat.le_of_ble_eq_true rfl) (Nat.le_of_ble_eq_true rfl) ⟨_, _, rfl, rfl⟩ rfl k1

theorem g_M_ahead_8 {Q : PQ} {h : HP} {s0 : Int} 
    (o1 : s0 = 32 → -2147483648 ≤ (h 103 14) + 1 ∧ (h 103 14) + 1 ≤ 2147483647)
    (k2 : s0 = 32 → Wp true i_M_ahead 0 [vr 103, vr 9999] [] (hs h 103 14 ((h 103 14) + 1)) Q)
    (k3 : ¬ s0 = 32 → Wp true i_M_byteAt 0 [vr 103, vi (h 103 14)] [] h (fun r h' => Wp true i_M_ahead 21 [vr 103, vr 9999] (r.toList ++ []) h' Q)) :
    Wp true i_M_ahead 8 [vr 103, vr 9999] [vi s0] h Q := by
  refine r_bipush f_244_8 (by decide) ?_
  refine r_br2 (t := 26) f_244_10 rfl cb_eq (fun c1 => ?_) (fun c1 => ?_)
  · refine r_aload_n (v := 103) f_244_26 rfl (by decide) ?_
    refine r_dupr f_244_27 ?_
    refine r_geti (v := h 103 14) f_244_28 rfl (by decide) rfl ?_
    refine r_iconst f_244_31 (by decide) ?_
    refine r_iadd (u := (h 103 14) + 1) f_244_32 rfl (o1 c1) ?_
    refine r_puti f_244_33 rfl (by decide) ?_
    refine r_goto (t := 0) f_244_36 rfl ?_
    exact (k2 c1)
  · refine r_aload_n (v := 103) f_244_13 rfl (by decide) ?_
    refine r_aload_n (v := 103) f_244_14 rfl (by decide) ?_
    refine r_geti (v := h 103 14) f_244_15 rfl (by decide) rfl ?_
    exact r_callv (as := [vr 103, vi (h 103 14)]) (st' := []) (ls0 := [vr 103, vi (h 103 14)]) f_244_18 (by decide) rfl rfl (Nat.le_of_ble_eq_true rfl) (Nat.le_of_ble_eq_true rfl) ⟨_, _, rfl, rfl⟩ rfl (k3 c1)

theorem g_M_ahead_21 {Q : PQ} {h : HP} {s0 : Int} 
    (k1 : ¬ s0 = 10 → Wp true i_M_byteAt 0 [vr 103, vi (h 103 14)] [] (hs h 103 13 (h 103 14)) (fun r h' => Wp true i_M_ahead 55 [vr 103, vr 9999] (r.toList ++ []) h' Q))
    (o2 : s0 = 10 → -2147483648 ≤ (h 103 14) + 1 ∧ (h 103 14) + 1 ≤ 2147483647)
    (k3 : s0 = 10 → Wp true i_M_ahead 0 [vr 103, vr 9999] [] (hs h 103 14 ((h 103 14) + 1)) Q) :
    Wp true i_M_ahead 21 [vr 103, vr 9999] [vi s0] h Q := by
  refine r_bipush f_244_21 (by decide) ?_
  refine r_br2 (t := 39) f_244_23 rfl cb_ne (fun c1 => ?_) (fun c1 => ?_)
  · refine r_aload_n (v := 103) f_244_39 rfl (by decide) ?_
    refine r_aload_n (v := 103) f_244_40 rfl (by decide) ?_
    refine r_geti (v := h 103 14) f_244_41 rfl (by decide) rfl ?_
    refine r_puti f_244_44 rfl (by decide) ?_
    refine r_aload_n (v := 103) f_244_47 rfl (by decide) ?_
    refine r_aload_n (v := 103) f_244_48 rfl (by decide) ?_
    refine r_geti (v := h 103 14) f_244_49 rfl (by decide) (by simp [hs]) ?_
    exact r_callv (as := [vr 103, vi (h 103 14)]) (st' := []) (ls0 := [vr 103, vi (h 103 14)]) f_244_52 (by decide) rfl rfl (Nat.le_of_ble_eq_true rfl) (Nat.le_of_ble_eq_true rfl) ⟨_, _, rfl, rfl⟩ rfl (k1 c1)
  · have c1 := Decidable.not_not.mp c1
    refine r_aload_n (v := 103) f_244_26 rfl (by decide) ?_
    refine r_dupr f_244_27 ?_
    refine r_geti (v := h 103 14) f_244_28 rfl (by decide) rfl ?_
    refine r_iconst f_244_31 (by decide) ?_
    refine r_iadd (u := (h 103 14) + 1) f_244_32 rfl (o2 c1) ?_
    refine r_puti f_244_33 rfl (by decide) ?_
    refine r_goto (t := 0) f_244_36 rfl ?_
    exact (k3 c1)

theorem g_M_ahead_55 {Q : PQ} {h : HP} {s0 : Int} 
    (k1 : ¬ s0 = -1 → Wp true i_M_isSmall 0 [vi s0] [] (hs h 103 15 s0) (fun r h' => Wp true i_M_ahead 78 [vr 103, vi s0] (r.toList ++ []) h' Q))
    (k2 : s0 = -1 → Q none (hs (hs h 103 15 s0) 103 12 0)) :
    Wp true i_M_ahead 55 [vr 103, vr 9999] [vi s0] h Q := by
  refine r_istore_n (ls' := [vr 103, vi s0]) f_244_55 (Nat.le_of_ble_eq_true rfl) rfl ?_
  refine r_aload_n (v := 103) f_244_56 rfl (by decide) ?_
  refine r_iload_n (v := s0) f_244_57 rfl ?_
  refine r_puti f_244_58 rfl (by decide) ?_
  refine r_iload_n (v := s0) f_244_61 rfl ?_
  refine r_iconst f_244_62 (by decide) ?_
  refine r_br2 (t := 74) f_244_63 rfl cb_ne (fun c1 => ?_) (fun c1 => ?_)
  · refine r_iload_n (v := s0) f_244_74 rfl ?_
    exact r_calls (as := [vi s0]) (st' := []) (ls0 := [vi s0]) f_244_75 (by decide) (by decide) rfl rfl (Nat.le_of_ble_eq_true rfl) (Nat.le_of_ble_eq_true rfl) rfl (k1 c1)
  · have c1 := Decidable.not_not.mp c1
    refine r_aload_n (v := 103) f_244_66 rfl (by decide) ?_
    refine r_iconst f_244_67 (by decide) ?_
    refine r_puti f_244_68 rfl (by decide) ?_
    refine r_goto (t := 251) f_244_71 rfl ?_
    exact r_retv f_244_251 rfl (k2 c1)

theorem g_M_ahead_78 {Q : PQ} {h : HP} {x1 : Int} {s0 : Int} 
    (k1 : s0 = 0 → Wp true i_M_isDigit 0 [vi x1] [] h (fun r h' => Wp true i_M_ahead 120 [vr 103, vi x1] (r.toList ++ []) h' Q))
    (k2 : ¬ s0 = 0 → Wp true i_M_ahead 81 [vr 103, vi x1] [] h Q) :
    Wp true i_M_ahead 78 [vr 103, vi x1] [vi s0] h Q := by
  refine r_br (t := 116) f_244_78 rfl cb_eq (fun c1 => ?_) (fun c1 => ?_)
  · refine r_iload_n (v := x1) f_244_116 rfl ?_
    exact r_calls (as := [vi x1]) (st' := []) (ls0 := [vi x1]) f_244_117 (by decide) (by decide) rfl rfl (Nat.le_of_ble_eq_true rfl) (Nat.le_of_ble_eq_true rfl) rfl (k1 c1)
  · exact (k2 c1)

theorem g_M_ahead_81 {Q : PQ} {h : HP} {x1 : Int} 
    (k1 : Wp true i_M_byteAt 0 [vr 103, vi (h 103 14)] [] h (fun r h' => Wp true i_M_ahead 89 [vr 103, vi x1] (r.toList ++ []) h' Q)) :
    Wp true i_M_ahead 81 [vr 103, vi x1] [] h Q := by
  refine r_aload_n (v := 103) f_244_81 rfl (by decide) ?_
  refine r_aload_n (v := 103) f_244_82 rfl (by decide) ?_
  refine r_geti (v := h 103 14) f_244_83 rfl (by decide) rfl ?_
  exact r_callv (as := [vr 103, vi (h 103 14)]) (st' := []) (ls0 := [vr 103, vi (h 103 14)]) f_244_86 (by decide) rfl rfl (Nat.le_of_ble_eq_true rfl) (Nat.le_of_ble_eq_true rfl) ⟨_, _, rfl, rfl⟩ rfl k1

theorem g_M_ahead_89 {Q : PQ} {h : HP} {x1 : Int} {s0 : Int} 
    (k1 : Wp true i_M_isSmall 0 [vi s0] [] h (fun r h' => Wp true i_M_ahead 92 [vr 103, vi x1] (r.toList ++ []) h' Q)) :
    Wp true i_M_ahead 89 [vr 103, vi x1] [vi s0] h Q := by
  exact r_calls (as := [vi s0]) (st' := []) (ls0 := [vi s0]) f_244_89 (by decide) (by decide) rfl rfl (Nat.le_of_ble_eq_true rfl) (Nat.le_of_ble_eq_true rfl) rfl k1

theorem g_M_ahead_92 {Q : PQ} {h : HP} {x1 : Int} {s0 : Int} 
    (k1 : s0 = 0 → Q none (hs h 103 12 2))
    (o2 : ¬ s0 = 0 → -2147483648 ≤ (h 103 14) + 1 ∧ (h 103 14) + 1 ≤ 2147483647)
    (k3 : ¬ s0 = 0 → Wp true i_M_ahead 81 [vr 103, vi x1] [] (hs h 103 14 ((h 103 14) + 1)) Q) :
    Wp true i_M_ahead 92 [vr 103, vi x1] [vi s0] h Q := by
  refine r_br (t := 108) f_244_92 rfl cb_eq (fun c1 => ?_) (fun c1 => ?_)
  · refine r_aload_n (v := 103) f_244_108 rfl (by decide) ?_
    refine r_iconst f_244_109 (by decide) ?_
    refine r_puti f_244_110 rfl (by decide) ?_
    refine r_goto (t := 251) f_244_113 rfl ?_
    exact r_retv f_244_251 rfl (k1 c1)
  · refine r_aload_n (v := 103) f_244_95 rfl (by decide) ?_
    refine r_dupr f_244_96 ?_
    refine r_geti (v := h 103 14) f_244_97 rfl (by decide) rfl ?_
    refine r_iconst f_244_100 (by decide) ?_
    refine r_iadd (u := (h 103 14) + 1) f_244_101 rfl (o2 c1) ?_
    refine r_puti f_244_102 rfl (by decide) ?_
    refine r_goto (t := 81) f_244_105 rfl ?_
    exact (k3 c1)

theorem g_M_ahead_120 {Q : PQ} {h : HP} {x1 : Int} {s0 : Int} 
    (o1 : s0 = 0 → -2147483648 ≤ (h 103 14) + 1 ∧ (h 103 14) + 1 ≤ 2147483647)
    (k2 : s0 = 0 → x1 = 59 → Q none (hs (hs h 103 14 ((h 103 14) + 1)) 103 12 4))
    (k3 : s0 = 0 → ¬ x1 = 59 → x1 = 60 → Q none (hs (hs h 103 14 ((h 103 14) + 1)) 103 12 4))
    (k4 : s0 = 0 → ¬ x1 = 59 → ¬ x1 = 60 → x1 = 62 → Q none (hs (hs h 103 14 ((h 103 14) + 1)) 103 12 4))
    (k5 : s0 = 0 → ¬ x1 = 59 → ¬ x1 = 60 → ¬ x1 = 62 → ¬ x1 = 61 → Q none (hs (hs h 103 14 ((h 103 14) + 1)) 103 12 1))
    (k6 : s0 = 0 → ¬ x1 = 59 → ¬ x1 = 60 → ¬ x1 = 62 → x1 = 61 → Q none (hs (hs h 103 14 ((h 103 14) + 1)) 103 12 4))
    (k7 : ¬ s0 = 0 → Wp true i_M_ahead 128 [vr 103, vi x1] [] (hs h 103 15 0) Q) :
    Wp true i_M_ahead 120 [vr 103, vi x1] [vi s0] h Q := by
  refine r_br (t := 208) f_244_120 rfl cb_eq (fun c1 => ?_) (fun c1 => ?_)
  · refine r_aload_n (v := 103) f_244_208 rfl (by decide) ?_
    refine r_dupr f_244_209 ?_
    refine r_geti (v := h 103 14) f_244_210 rfl (by decide) rfl ?_
    refine r_iconst f_244_213 (by decide) ?_
    refine r_iadd (u := (h 103 14) + 1) f_244_214 rfl (o1 c1) ?_
    refine r_puti f_244_215 rfl (by decide) ?_
    refine r_aload_n (v := 103) f_244_218 rfl (by decide) ?_
    refine r_iload_n (v := x1) f_244_219 rfl ?_
    refine r_bipush f_244_220 (by decide) ?_
    refine r_br2 (t := 243) f_244_222 rfl cb_eq (fun c2 => ?_) (fun c2 => ?_)
    · refine r_iconst f_244_243 (by decide) ?_
      refine r_goto (t := 248) f_244_244 rfl ?_
      refine r_puti f_244_248 rfl (by decide) ?_
      exact r_retv f_244_251 rfl (k2 c1 c2)
    · refine r_iload_n (v := x1) f_244_225 rfl ?_
      refine r_bipush f_244_226 (by decide) ?_
      refine r_br2 (t := 243) f_244_228 rfl cb_eq (fun c3 => ?_) (fun c3 => ?_)
      · refine r_iconst f_244_243 (by decide) ?_
        refine r_goto (t := 248) f_244_244 rfl ?_
        refine r_puti f_244_248 rfl (by decide) ?_
        exact r_retv f_244_251 rfl (k3 c1 c2 c3)
      · refine r_iload_n (v := x1) f_244_231 rfl ?_
        refine r_bipush f_244_232 (by decide) ?_
        refine r_br2 (t := 243) f_244_234 rfl cb_eq (fun c4 => ?_) (fun c4 => ?_)
        · refine r_iconst f_244_243 (by decide) ?_
          refine r_goto (t := 248) f_244_244 rfl ?_
          refine r_puti f_244_248 rfl (by decide) ?_
          exact r_retv f_244_251 rfl (k4 c1 c2 c3 c4)
        · refine r_iload_n (v := x1) f_244_237 rfl ?_
          refine r_bipush f_244_238 (by decide) ?_
          refine r_br2 (t := 247) f_244_240 rfl cb_ne (fun c5 => ?_) (fun c5 => ?_)
          · refine r_iconst f_244_247 (by decide) ?_
            refine r_puti f_244_248 rfl (by decide) ?_
            exact r_retv f_244_251 rfl (k5 c1 c2 c3 c4 c5)
          · have c5 := Decidable.not_not.mp c5
            refine r_iconst f_244_243 (by decide) ?_
            refine r_goto (t := 248) f_244_244 rfl ?_
            refine r_puti f_244_248 rfl (by decide) ?_
            exact r_retv f_244_251 rfl (k6 c1 c2 c3 c4 c5)
  · refine r_aload_n (v := 103) f_244_123 rfl (by decide) ?_
    refine r_iconst f_244_124 (by decide) ?_
    refine r_puti f_244_125 rfl (by decide) ?_
    exact (k7 c1)

theorem g_M_ahead_128 {Q : PQ} {h : HP} {x1 : Int} 
    (k1 : Wp true i_M_byteAt 0 [vr 103, vi (h 103 14)] [] h (fun r h' => Wp true i_M_ahead 136 [vr 103, vi x1] (r.toList ++ []) h' Q)) :
    Wp true i_M_ahead 128 [vr 103, vi x1] [] h Q := by
  refine r_aload_n (v := 103) f_244_128 rfl (by decide) ?_
  refine r_aload_n (v := 103) f_244_129 rfl (by decide) ?_
  refine r_geti (v := h 103 14) f_244_130 rfl (by decide) rfl ?_
  exact r_callv (as := [vr 103, vi (h 103 14)]) (st' := []) (ls0 := [vr 103, vi (h 103 14)]) f_244_133 (by decide) rfl rfl (Nat.le_of_ble_eq_true rfl) (Nat.le_of_ble_eq_true rfl) ⟨_, _, rfl, rfl⟩ rfl k1

theorem g_M_ahead_136 {Q : PQ} {h : HP} {x1 : Int} {s0 : Int} 
    (k1 : Wp true i_M_isDigit 0 [vi s0] [] h (fun r h' => Wp true i_M_ahead 139 [vr 103, vi x1] (r.toList ++ []) h' Q)) :
    Wp true i_M_ahead 136 [vr 103, vi x1] [vi s0] h Q := by
  exact r_calls (as := [vi s0]) (st' := []) (ls0 := [vi s0]) f_244_136 (by decide) (by decide) rfl rfl (Nat.le_of_ble_eq_true rfl) (Nat.le_of_ble_eq_true rfl) rfl k1

theorem g_M_ahead_139 {Q : PQ} {h : HP} {x1 : Int} {s0 : Int} 
    (o1 : s0 = 0 → -2147483648 ≤ (h 103 14) - (h 103 13) ∧ (h 103 14) - (h 103 13) ≤ 2147483647)
    (k2 : s0 = 0 → (h 103 14) - (h 103 13) ≤ 4 → Q none (hs h 103 12 3))
    (k3 : s0 = 0 → ¬ (h 103 14) - (h 103 13) ≤ 4 → Q none (hs h 103 12 1))
    (o4 : ¬ s0 = 0 → -2147483648 ≤ 10 * (h 103 15) ∧ 10 * (h 103 15) ≤ 2147483647)
    (k5 : ¬ s0 = 0 → Wp true i_M_byteAt 0 [vr 103, vi (h 103 14)] [] h (fun r h' => Wp true i_M_ahead 160 [vr 103, vi x1] (r.toList ++ [vi (10 * (h 103 15)), vi 100000, vr 103]) h' Q)) :
    Wp true i_M_ahead 139 [vr 103, vi x1] [vi s0] h Q := by
  refine r_br (t := 183) f_244_139 rfl cb_eq (fun c1 => ?_) (fun c1 => ?_)
  · refine r_aload_n (v := 103) f_244_183 rfl (by decide) ?_
    refine r_aload_n (v := 103) f_244_184 rfl (by decide) ?_
    refine r_geti (v := h 103 14) f_244_185 rfl (by decide) rfl ?_
    refine r_aload_n (v := 103) f_244_188 rfl (by decide) ?_
    refine r_geti (v := h 103 13) f_244_189 rfl (by decide) rfl ?_
    refine r_isub (u := (h 103 14) - (h 103 13)) f_244_192 rfl (o1 c1) ?_
    refine r_iconst f_244_193 (by decide) ?_
    refine r_br2 (t := 201) f_244_194 rfl cb_le (fun c2 => ?_) (fun c2 => ?_)
    · refine r_iconst f_244_201 (by decide) ?_
      refine r_puti f_244_202 rfl (by decide) ?_
      refine r_goto (t := 251) f_244_205 rfl ?_
      exact r_retv f_244_251 rfl (k2 c1 c2)
    · refine r_iconst f_244_197 (by decide) ?_
      refine r_goto (t := 202) f_244_198 rfl ?_
      refine r_puti f_244_202 rfl (by decide) ?_
      refine r_goto (t := 251) f_244_205 rfl ?_
      exact r_retv f_244_251 rfl (k3 c1 c2)
  · refine r_aload_n (v := 103) f_244_142 rfl (by decide) ?_
    refine r_ldc f_244_143 (by decide) ?_
    refine r_bipush f_244_145 (by decide) ?_
    refine r_aload_n (v := 103) f_244_147 rfl (by decide) ?_
    refine r_geti (v := h 103 15) f_244_148 rfl (by decide) rfl ?_
    refine r_imul (u := 10 * (h 103 15)) f_244_151 rfl (o4 c1) ?_
    refine r_aload_n (v := 103) f_244_152 rfl (by decide) ?_
    refine r_aload_n (v := 103) f_244_153 rfl (by decide) ?_
    refine r_geti (v := h 103 14) f_244_154 rfl (by decide) rfl ?_
    exact r_callv (as := [vr 103, vi (h 103 14)]) (st' := [vi (10 * (h 103 15)), vi 100000, vr 103]) (ls0 := [vr 103, vi (h 103 14)]) f_244_157 (by decide) rfl rfl (Nat.le_of_ble_eq_true rfl) (Nat.le_of_ble_eq_true rfl) ⟨_, _, rfl, rfl⟩ rfl (k5 c1)

theorem g_M_ahead_160 {Q : PQ} {h : HP} {x1 : Int} {s1 : Int} {s2 : Int} {s3 : Int} 
    (o1 : -2147483648 ≤ s2 + s3 ∧ s2 + s3 ≤ 2147483647)
    (o2 : -2147483648 ≤ (s2 + s3) - 48 ∧ (s2 + s3) - 48 ≤ 2147483647)
    (o3 : -2147483648 ≤ (h 103 14) + 1 ∧ (h 103 14) + 1 ≤ 2147483647)
    (k4 : Wp true i_M_ahead 128 [vr 103, vi x1] [] (hs (hs h 103 15 (min s1 ((s2 + s3) - 48))) 103 14 ((h 103 14) + 1)) Q) :
    Wp true i_M_ahead 160 [vr 103, vi x1] [vi s3, vi s2, vi s1, vr 103] h Q := by
  refine r_iadd (u := s2 + s3) f_244_160 rfl o1 ?_
  refine r_bipush f_244_161 (by decide) ?_
  refine r_isub (u := (s2 + s3) - 48) f_244_163 rfl o2 ?_
  refine r_calls (as := [vi s1, vi ((s2 + s3) - 48)]) (st' := [vr 103]) (ls0 := [vi s1, vi ((s2 + s3) - 48)]) f_244_164 (by decide) (by decide) rfl rfl (Nat.le_of_ble_eq_true rfl) (Nat.le_of_ble_eq_true rfl) rfl ?_
  refine c_Ma_min  ?_
  show Wp true i_M_ahead 167 [vr 103, vi x1] [vi (min s1 ((s2 + s3) - 48)), vr 103] h Q
  refine r_puti f_244_167 rfl (by decide) ?_
  refine r_aload_n (v := 103) f_244_170 rfl (by decide) ?_
  refine r_dupr f_244_171 ?_
  refine r_geti (v := h 103 14) f_244_172 rfl (by decide) (by simp [hs]) ?_
  refine r_iconst f_244_175 (by decide) ?_
  refine r_iadd (u := (h 103 14) + 1) f_244_176 rfl o3 ?_
  refine r_puti f_244_177 rfl (by decide) ?_
  refine r_goto (t := 128) f_244_180 rfl ?_
  exact k4

theorem g_M_isSign_0 {Q : PQ} {h : HP} {x1 : Int} 
    (k1 : ¬ h 103 12 = 4 → Q (some (vi 0)) h)
    (k2 : h 103 12 = 4 → ¬ h 103 15 = x1 → Q (some (vi 0)) h)
    (k3 : h 103 12 = 4 → h 103 15 = x1 → Q (some (vi 1)) h) :
    Wp true i_M_isSign 0 [vr 103, vi x1] [] h Q := by
  refine r_aload_n (v := 103) f_245_0 rfl (by decide) ?_
  refine r_geti (v := h 103 12) f_245_1 rfl (by decide) rfl ?_
  refine r_iconst f_245_4 (by decide) ?_
  refine r_br2 (t := 20) f_245_5 rfl cb_ne (fun c1 => ?_) (fun c1 => ?_)
  · refine r_iconst f_245_20 (by decide) ?_
    exact r_retz f_245_21 rfl (by decide) (k1 c1)
  · have c1 := Decidable.not_not.mp c1
    refine r_aload_n (v := 103) f_245_8 rfl (by decide) ?_
    refine r_geti (v := h 103 15) f_245_9 rfl (by decide) rfl ?_
    refine r_iload_n (v := x1) f_245_12 rfl ?_
    refine r_br2 (t := 20) f_245_13 rfl cb_ne (fun c2 => ?_) (fun c2 => ?_)
    · refine r_iconst f_245_20 (by decide) ?_
      exact r_retz f_245_21 rfl (by decide) (k2 c1 c2)
    · have c2 := Decidable.not_not.mp c2
      refine r_iconst f_245_16 (by decide) ?_
      refine r_goto (t := 21) f_245_17 rfl ?_
      exact r_retz f_245_21 rfl (by decide) (k3 c1 c2)

theorem g_M_inWords_0 {Q : PQ} {h : HP}  
    (k1 : h 103 12 = 2 → Wp true i_M_inWords 14 [vr 103, vr 2001, vi 0, vi 1, vr 9999, vr 9999, vr 9999] [] h Q)
    (k2 : ¬ h 103 12 = 2 → Q (some (vi (-1))) h) :
    Wp true i_M_inWords 0 [vr 103, vr 2001, vr 9999, vr 9999, vr 9999, vr 9999, vr 9999] [] h Q := by
  refine r_aload_n (v := 103) f_246_0 rfl (by decide) ?_
  refine r_geti (v := h 103 12) f_246_1 rfl (by decide) rfl ?_
  refine r_iconst f_246_4 (by decide) ?_
  refine r_br2 (t := 10) f_246_5 rfl cb_eq (fun c1 => ?_) (fun c1 => ?_)
  · refine r_iconst f_246_10 (by decide) ?_
    refine r_istore_n (ls' := [vr 103, vr 2001, vi 0, vr 9999, vr 9999, vr 9999, vr 9999]) f_246_11 (Nat.le_of_ble_eq_true rfl) rfl ?_
    refine r_iconst f_246_12 (by decide) ?_
    refine r_istore_n (ls' := [vr 103, vr 2001, vi 0, vi 1, vr 9999, vr 9999, vr 9999]) f_246_13 (Nat.le_of_ble_eq_true rfl) rfl ?_
    exact (k1 c1)
  · refine r_iconst f_246_8 (by decide) ?_
    exact r_reti f_246_9 rfl (k2 c1)

theorem g_M_inWords_14 {Q : PQ} {h : HP} {x2 : Int} {x3 : Int} {j4 : AV} {j5 : AV} {j6 : AV} 
    (k1 : 111 ≤ x3 → Q (some (vi (-1))) h)
    (k2 : ¬ 111 ≤ x3 → Wp true i_M_inWords 25 [vr 103, vr 2001, vi x2, vi x3, vi x3, j5, j6] [] h Q) :
    Wp true i_M_inWords 14 [vr 103, vr 2001, vi x2, vi x3, j4, j5, j6] [] h Q := by
  refine r_iload_n (v := x3) f_246_14 rfl ?_
  refine r_aload_n (v := 2001) f_246_15 rfl (by decide) ?_
  refine r_length (v := 111) f_246_16 (by decide) rfl (Nat.le_of_ble_eq_true rfl) ?_
  refine r_br2 (t := 133) f_246_19 rfl cb_ge (fun c1 => ?_) (fun c1 => ?_)
  · refine r_iconst f_246_133 (by decide) ?_
    exact r_reti f_246_134 rfl (k1 c1)
  · refine r_iload_n (v := x3) f_246_22 rfl ?_
    refine r_istore (ls' := [vr 103, vr 2001, vi x2, vi x3, vi x3, j5, j6]) f_246_23 (Nat.le_of_ble_eq_true rfl) rfl ?_
    exact (k2 c1)

theorem g_M_inWords_25 {Q : PQ} {h : HP} {x2 : Int} {x3 : Int} {x4 : Int} {j5 : AV} {j6 : AV} 
    (o1 : 0 ≤ x4 ∧ x4 < 111)
    (o2 : (zstr 2001).getD x4.toNat 0 = 32 → -2147483648 ≤ x4 - x3 ∧ x4 - x3 ≤ 2147483647)
    (o3 : (zstr 2001).getD x4.toNat 0 = 32 → -2147483648 ≤ (h 103 14) - (h 103 13) ∧ (h 103 14) - (h 103 13) ≤ 2147483647)
    (k4 : (zstr 2001).getD x4.toNat 0 = 32 → ¬ x4 - x3 = (h 103 14) - (h 103 13) → Wp true i_M_inWords 68 [vr 103, vr 2001, vi x2, vi x3, vi x4, vi 0, vi x3] [] h Q)
    (k5 : (zstr 2001).getD x4.toNat 0 = 32 → x4 - x3 = (h 103 14) - (h 103 13) → Wp true i_M_inWords 68 [vr 103, vr 2001, vi x2, vi x3, vi x4, vi 1, vi x3] [] h Q)
    (o6 : ¬ (zstr 2001).getD x4.toNat 0 = 32 → -2147483648 ≤ x4 + 1 ∧ x4 + 1 ≤ 2147483647)
    (k7 : ¬ (zstr 2001).getD x4.toNat 0 = 32 → Wp true i_M_inWords 25 [vr 103, vr 2001, vi x2, vi x3, vi (x4 + 1), j5, j6] [] h Q) :
    Wp true i_M_inWords 25 [vr 103, vr 2001, vi x2, vi x3, vi x4, j5, j6] [] h Q := by
  refine r_aload_n (v := 2001) f_246_25 rfl (by decide) ?_
  refine r_iload (v := x4) f_246_26 rfl ?_
  refine r_charAt f_246_28 o1 (by decide) ?_
  refine r_bipush f_246_31 (by decide) ?_
  refine r_br2 (t := 42) f_246_33 rfl cb_eq (fun c1 => ?_) (fun c1 => ?_)
  · refine r_iload (v := x4) f_246_42 rfl ?_
    refine r_iload_n (v := x3) f_246_44 rfl ?_
    refine r_isub (u := x4 - x3) f_246_45 rfl (o2 c1) ?_
    refine r_aload_n (v := 103) f_246_46 rfl (by decide) ?_
    refine r_geti (v := h 103 14) f_246_47 rfl (by decide) rfl ?_
    refine r_aload_n (v := 103) f_246_50 rfl (by decide) ?_
    refine r_geti (v := h 103 13) f_246_51 rfl (by decide) rfl ?_
    refine r_isub (u := (h 103 14) - (h 103 13)) f_246_54 rfl (o3 c1) ?_
    refine r_br2 (t := 62) f_246_55 rfl cb_ne (fun c2 => ?_) (fun c2 => ?_)
    · refine r_iconst f_246_62 (by decide) ?_
      refine r_istore (ls' := [vr 103, vr 2001, vi x2, vi x3, vi x4, vi 0, j6]) f_246_63 (Nat.le_of_ble_eq_true rfl) rfl ?_
      refine r_iload_n (v := x3) f_246_65 rfl ?_
      refine r_istore (ls' := [vr 103, vr 2001, vi x2, vi x3, vi x4, vi 0, vi x3]) f_246_66 (Nat.le_of_ble_eq_true rfl) rfl ?_
      exact (k4 c1 c2)
    · have c2 := Decidable.not_not.mp c2
      refine r_iconst f_246_58 (by decide) ?_
      refine r_goto (t := 63) f_246_59 rfl ?_
      refine r_istore (ls' := [vr 103, vr 2001, vi x2, vi x3, vi x4, vi 1, j6]) f_246_63 (Nat.le_of_ble_eq_true rfl) rfl ?_
      refine r_iload_n (v := x3) f_246_65 rfl ?_
      refine r_istore (ls' := [vr 103, vr 2001, vi x2, vi x3, vi x4, vi 1, vi x3]) f_246_66 (Nat.le_of_ble_eq_true rfl) rfl ?_
      exact (k5 c1 c2)
  · refine r_iinc (v := x4) (w := x4 + 1) (ls' := [vr 103, vr 2001, vi x2, vi x3, vi (x4 + 1), j5, j6]) f_246_36 rfl rfl (o6 c1) rfl ?_
    refine r_goto (t := 25) f_246_39 rfl ?_
    exact (k7 c1)

theorem g_M_inWords_68 {Q : PQ} {h : HP} {x2 : Int} {x3 : Int} {x4 : Int} {x5 : Int} {x6 : Int} 
    (k1 : x4 ≤ x6 → Wp true i_M_inWords 115 [vr 103, vr 2001, vi x2, vi x3, vi x4, vi x5, vi x6] [] h Q)
    (k2 : ¬ x4 ≤ x6 → x5 = 0 → Wp true i_M_inWords 115 [vr 103, vr 2001, vi x2, vi x3, vi x4, vi x5, vi x6] [] h Q)
    (o3 : ¬ x4 ≤ x6 → ¬ x5 = 0 → 0 ≤ x6 ∧ x6 < 111)
    (o4 : ¬ x4 ≤ x6 → ¬ x5 = 0 → -2147483648 ≤ (h 103 13) + x6 ∧ (h 103 13) + x6 ≤ 2147483647)
    (o5 : ¬ x4 ≤ x6 → ¬ x5 = 0 → -2147483648 ≤ ((h 103 13) + x6) - x3 ∧ ((h 103 13) + x6) - x3 ≤ 2147483647)
    (k6 : ¬ x4 ≤ x6 → ¬ x5 = 0 → Wp true i_M_byteAt 0 [vr 103, vi (((h 103 13) + x6) - x3)] [] h (fun r h' => Wp true i_M_inWords 99 [vr 103, vr 2001, vi x2, vi x3, vi x4, vi x5, vi x6] (r.toList ++ [vi ((zstr 2001).getD x6.toNat 0)]) h' Q)) :
    Wp true i_M_inWords 68 [vr 103, vr 2001, vi x2, vi x3, vi x4, vi x5, vi x6] [] h Q := by
  refine r_iload (v := x6) f_246_68 rfl ?_
  refine r_iload (v := x4) f_246_70 rfl ?_
  refine r_br2 (t := 115) f_246_72 rfl cb_ge (fun c1 => ?_) (fun c1 => ?_)
  · exact (k1 c1)
  · refine r_iload (v := x5) f_246_75 rfl ?_
    refine r_br (t := 115) f_246_77 rfl cb_eq (fun c2 => ?_) (fun c2 => ?_)
    · exact (k2 c1 c2)
    · refine r_aload_n (v := 2001) f_246_80 rfl (by decide) ?_
      refine r_iload (v := x6) f_246_81 rfl ?_
      refine r_charAt f_246_83 (o3 c1 c2) (by decide) ?_
      refine r_aload_n (v := 103) f_246_86 rfl (by decide) ?_
      refine r_aload_n (v := 103) f_246_87 rfl (by decide) ?_
      refine r_geti (v := h 103 13) f_246_88 rfl (by decide) rfl ?_
      refine r_iload (v := x6) f_246_91 rfl ?_
      refine r_iadd (u := (h 103 13) + x6) f_246_93 rfl (o4 c1 c2) ?_
      refine r_iload_n (v := x3) f_246_94 rfl ?_
      refine r_isub (u := ((h 103 13) + x6) - x3) f_246_95 rfl (o5 c1 c2) ?_
      exact r_callv (as := [vr 103, vi (((h 103 13) + x6) - x3)]) (st' := [vi ((zstr 2001).getD x6.toNat 0)]) (ls0 := [vr 103, vi (((h 103 13) + x6) - x3)]) f_246_96 (by decide) rfl rfl (Nat.le_of_ble_eq_true rfl) (Nat.le_of_ble_eq_true rfl) ⟨_, _, rfl, rfl⟩ rfl (k6 c1 c2)

theorem g_M_inWords_99 {Q : PQ} {h : HP} {x2 : Int} {x3 : Int} {x4 : Int} {x5 : Int} {x6 : Int} {s0 : Int} {s1 : Int} 
    (o1 : ¬ s0 = s1 → -2147483648 ≤ x6 + 1 ∧ x6 + 1 ≤ 2147483647)
    (k2 : ¬ s0 = s1 → Wp true i_M_inWords 68 [vr 103, vr 2001, vi x2, vi x3, vi x4, vi 0, vi (x6 + 1)] [] h Q)
    (o3 : s0 = s1 → -2147483648 ≤ x6 + 1 ∧ x6 + 1 ≤ 2147483647)
    (k4 : s0 = s1 → Wp true i_M_inWords 68 [vr 103, vr 2001, vi x2, vi x3, vi x4, vi 1, vi (x6 + 1)] [] h Q) :
    Wp true i_M_inWords 99 [vr 103, vr 2001, vi x2, vi x3, vi x4, vi x5, vi x6] [vi s1, vi s0] h Q := by
  refine r_br2 (t := 106) f_246_99 rfl cb_ne (fun c1 => ?_) (fun c1 => ?_)
  · refine r_iconst f_246_106 (by decide) ?_
    refine r_istore (ls' := [vr 103, vr 2001, vi x2, vi x3, vi x4, vi 0, vi x6]) f_246_107 (Nat.le_of_ble_eq_true rfl) rfl ?_
    refine r_iinc (v := x6) (w := x6 + 1) (ls' := [vr 103, vr 2001, vi x2, vi x3, vi x4, vi 0, vi (x6 + 1)]) f_246_109 rfl rfl (o1 c1) rfl ?_
    refine r_goto (t := 68) f_246_112 rfl ?_
    exact (k2 c1)
  · have c1 := Decidable.not_not.mp c1
    refine r_iconst f_246_102 (by decide) ?_
    refine r_goto (t := 107) f_246_103 rfl ?_
    refine r_istore (ls' := [vr 103, vr 2001, vi x2, vi x3, vi x4, vi 1, vi x6]) f_246_107 (Nat.le_of_ble_eq_true rfl) rfl ?_
    refine r_iinc (v := x6) (w := x6 + 1) (ls' := [vr 103, vr 2001, vi x2, vi x3, vi x4, vi 1, vi (x6 + 1)]) f_246_109 rfl rfl (o3 c1) rfl ?_
    refine r_goto (t := 68) f_246_112 rfl ?_
    exact (k4 c1)

theorem g_M_inWords_115 {Q : PQ} {h : HP} {x2 : Int} {x3 : Int} {x4 : Int} {x5 : Int} {x6 : Int} 
    (o1 : x5 = 0 → -2147483648 ≤ x2 + 1 ∧ x2 + 1 ≤ 2147483647)
    (o2 : x5 = 0 → -2147483648 ≤ x4 + 1 ∧ x4 + 1 ≤ 2147483647)
    (k3 : x5 = 0 → Wp true i_M_inWords 14 [vr 103, vr 2001, vi (x2 + 1), vi (x4 + 1), vi x4, vi x5, vi x6] [] h Q)
    (k4 : ¬ x5 = 0 → Q (some (vi x2)) h) :
    Wp true i_M_inWords 115 [vr 103, vr 2001, vi x2, vi x3, vi x4, vi x5, vi x6] [] h Q := by
  refine r_iload (v := x5) f_246_115 rfl ?_
  refine r_br (t := 122) f_246_117 rfl cb_eq (fun c1 => ?_) (fun c1 => ?_)
  · refine r_iinc (v := x2) (w := x2 + 1) (ls' := [vr 103, vr 2001, vi (x2 + 1), vi x3, vi x4, vi x5, vi x6]) f_246_122 rfl rfl (o1 c1) rfl ?_
    refine r_iload (v := x4) f_246_125 rfl ?_
    refine r_iconst f_246_127 (by decide) ?_
    refine r_iadd (u := x4 + 1) f_246_128 rfl (o2 c1) ?_
    refine r_istore_n (ls' := [vr 103, vr 2001, vi (x2 + 1), vi (x4 + 1), vi x4, vi x5, vi x6]) f_246_129 (Nat.le_of_ble_eq_true rfl) rfl ?_
    refine r_goto (t := 14) f_246_130 rfl ?_
    exact (k3 c1)
  · refine r_iload_n (v := x2) f_246_120 rfl ?_
    exact r_reti f_246_121 rfl (k4 c1)

theorem g_M_fails_0 {Q : PQ} {h : HP} {x1 : Int} 
    (k1 : ¬ h 103 18 = 0 → Q (some (vi 0)) h)
    (k2 : h 103 18 = 0 → ¬ h 103 12 = 1 → Q (some (vi 0)) (hs (hs h 103 18 x1) 103 17 (h 103 13)))
    (k3 : h 103 18 = 0 → h 103 12 = 1 → Q (some (vi 0)) (hs (hs h 103 18 1) 103 17 (h 103 13))) :
    Wp true i_M_fails 0 [vr 103, vi x1] [] h Q := by
  refine r_aload_n (v := 103) f_247_0 rfl (by decide) ?_
  refine r_geti (v := h 103 18) f_247_1 rfl (by decide) rfl ?_
  refine r_br (t := 32) f_247_4 rfl cb_ne (fun c1 => ?_) (fun c1 => ?_)
  · refine r_iconst f_247_32 (by decide) ?_
    exact r_retz f_247_33 rfl (by decide) (k1 c1)
  · have c1 := Decidable.not_not.mp c1
    refine r_aload_n (v := 103) f_247_7 rfl (by decide) ?_
    refine r_aload_n (v := 103) f_247_8 rfl (by decide) ?_
    refine r_geti (v := h 103 12) f_247_9 rfl (by decide) rfl ?_
    refine r_iconst f_247_12 (by decide) ?_
    refine r_br2 (t := 20) f_247_13 rfl cb_ne (fun c2 => ?_) (fun c2 => ?_)
    · refine r_iload_n (v := x1) f_247_20 rfl ?_
      refine r_puti f_247_21 rfl (by decide) ?_
      refine r_aload_n (v := 103) f_247_24 rfl (by decide) ?_
      refine r_aload_n (v := 103) f_247_25 rfl (by decide) ?_
      refine r_geti (v := h 103 13) f_247_26 rfl (by decide) (by simp [hs]) ?_
      refine r_puti f_247_29 rfl (by decide) ?_
      refine r_iconst f_247_32 (by decide) ?_
      exact r_retz f_247_33 rfl (by decide) (k2 c1 c2)
    · have c2 := Decidable.not_not.mp c2
      refine r_iconst f_247_16 (by decide) ?_
      refine r_goto (t := 21) f_247_17 rfl ?_
      refine r_puti f_247_21 rfl (by decide) ?_
      refine r_aload_n (v := 103) f_247_24 rfl (by decide) ?_
      refine r_aload_n (v := 103) f_247_25 rfl (by decide) ?_
      refine r_geti (v := h 103 13) f_247_26 rfl (by decide) (by simp [hs]) ?_
      refine r_puti f_247_29 rfl (by decide) ?_
      refine r_iconst f_247_32 (by decide) ?_
      exact r_retz f_247_33 rfl (by decide) (k3 c1 c2)

theorem g_M_begins_0 {Q : PQ} {h : HP} {x1 : Int} {x2 : Int} 
    (k1 : x1 < 0 → Q (some (vi 0)) h)
    (k2 : ¬ x1 < 0 → h 103 10 < x1 → Q (some (vi 0)) h)
    (k3 : ¬ x1 < 0 → ¬ h 103 10 < x1 → x1 ≤ x2 → Wp true i_M_begins 26 [vr 103, vi x1, vi x2, vi 0] [] (hs h 103 11 x1) Q)
    (k4 : ¬ x1 < 0 → ¬ h 103 10 < x1 → ¬ x1 ≤ x2 → Q (some (vi 0)) h) :
    Wp true i_M_begins 0 [vr 103, vi x1, vi x2, vr 9999] [] h Q := by
  refine r_iload_n (v := x1) f_248_0 rfl ?_
  refine r_br (t := 17) f_248_1 rfl cb_lt (fun c1 => ?_) (fun c1 => ?_)
  · refine r_iconst f_248_17 (by decide) ?_
    exact r_retz f_248_18 rfl (by decide) (k1 c1)
  · refine r_iload_n (v := x1) f_248_4 rfl ?_
    refine r_aload_n (v := 103) f_248_5 rfl (by decide) ?_
    refine r_geti (v := h 103 10) f_248_6 rfl (by decide) rfl ?_
    refine r_br2 (t := 17) f_248_9 rfl cb_gt (fun c2 => ?_) (fun c2 => ?_)
    · refine r_iconst f_248_17 (by decide) ?_
      exact r_retz f_248_18 rfl (by decide) (k2 c1 c2)
    · refine r_iload_n (v := x1) f_248_12 rfl ?_
      refine r_iload_n (v := x2) f_248_13 rfl ?_
      refine r_br2 (t := 19) f_248_14 rfl cb_le (fun c3 => ?_) (fun c3 => ?_)
      · refine r_aload_n (v := 103) f_248_19 rfl (by decide) ?_
        refine r_iload_n (v := x1) f_248_20 rfl ?_
        refine r_puti f_248_21 rfl (by decide) ?_
        refine r_iconst f_248_24 (by decide) ?_
        refine r_istore_n (ls' := [vr 103, vi x1, vi x2, vi 0]) f_248_25 (Nat.le_of_ble_eq_true rfl) rfl ?_
        exact (k3 c1 c2 c3)
      · refine r_iconst f_248_17 (by decide) ?_
        exact r_retz f_248_18 rfl (by decide) (k4 c1 c2 c3)

theorem g_M_begins_26 {Q : PQ} {h : HP} {x1 : Int} {x2 : Int} {x3 : Int} 
    (k1 : x1 ≤ x3 → Wp true i_M_ahead 0 [vr 103, vr 9999] [] (hs (hs (hs (hs (hs h 103 10 0) 103 18 0) 103 17 (-1)) 103 14 0) 103 19 0) (fun r h' => Wp true i_M_begins 78 [vr 103, vi x1, vi x2, vi x3] (r.toList ++ []) h' Q))
    (o2 : ¬ x1 ≤ x3 → 0 ≤ x3 ∧ x3 < 900)
    (o3 : ¬ x1 ≤ x3 → -128 ≤ h 109 x3.toNat ∧ h 109 x3.toNat ≤ 127)
    (o4 : ¬ x1 ≤ x3 → -2147483648 ≤ x3 + 1 ∧ x3 + 1 ≤ 2147483647)
    (k5 : ¬ x1 ≤ x3 → Wp true i_M_begins 26 [vr 103, vi x1, vi x2, vi (x3 + 1)] [] (hs h 110 x3.toNat (h 109 x3.toNat)) Q) :
    Wp true i_M_begins 26 [vr 103, vi x1, vi x2, vi x3] [] h Q := by
  refine r_iload_n (v := x3) f_248_26 rfl ?_
  refine r_iload_n (v := x1) f_248_27 rfl ?_
  refine r_br2 (t := 49) f_248_28 rfl cb_ge (fun c1 => ?_) (fun c1 => ?_)
  · refine r_aload_n (v := 103) f_248_49 rfl (by decide) ?_
    refine r_iconst f_248_50 (by decide) ?_
    refine r_puti f_248_51 rfl (by decide) ?_
    refine r_aload_n (v := 103) f_248_54 rfl (by decide) ?_
    refine r_iconst f_248_55 (by decide) ?_
    refine r_puti f_248_56 rfl (by decide) ?_
    refine r_aload_n (v := 103) f_248_59 rfl (by decide) ?_
    refine r_iconst f_248_60 (by decide) ?_
    refine r_puti f_248_61 rfl (by decide) ?_
    refine r_aload_n (v := 103) f_248_64 rfl (by decide) ?_
    refine r_iconst f_248_65 (by decide) ?_
    refine r_puti f_248_66 rfl (by decide) ?_
    refine r_aload_n (v := 103) f_248_69 rfl (by decide) ?_
    refine r_iconst f_248_70 (by decide) ?_
    refine r_puti f_248_71 rfl (by decide) ?_
    refine r_aload_n (v := 103) f_248_74 rfl (by decide) ?_
    exact r_callv (as := [vr 103]) (st' := []) (ls0 := [vr 103, vr 9999]) f_248_75 (by decide) rfl rfl (Nat.le_of_ble_eq_true rfl) (Nat.le_of_ble_eq_true rfl) ⟨_, _, rfl, rfl⟩ rfl (k1 c1)
  · refine r_aload_n (v := 103) f_248_31 rfl (by decide) ?_
    refine r_getr (q := 110) f_248_32 rfl (by decide) (Or.inl rfl) rfl ?_
    refine r_iload_n (v := x3) f_248_35 rfl ?_
    refine r_aload_n (v := 103) f_248_36 rfl (by decide) ?_
    refine r_getr (q := 109) f_248_37 rfl (by decide) (Or.inl rfl) rfl ?_
    refine r_iload_n (v := x3) f_248_40 rfl ?_
    refine r_baload (n := 900) (v := h 109 x3.toNat) f_248_41 ⟨rfl, rfl⟩ (o2 c1) rfl ?_
    refine r_bastore (n := 900) f_248_42 ⟨rfl, rfl⟩ (o2 c1) (o3 c1) ?_
    refine r_iinc (v := x3) (w := x3 + 1) (ls' := [vr 103, vi x1, vi x2, vi (x3 + 1)]) f_248_43 rfl rfl (o4 c1) rfl ?_
    refine r_goto (t := 26) f_248_46 rfl ?_
    exact (k5 c1)

theorem g_M_begins_78 {Q : PQ} {h : HP} {x1 : Int} {x2 : Int} {x3 : Int} 
    (k1 : Q (some (vi 1)) h) :
    Wp true i_M_begins 78 [vr 103, vi x1, vi x2, vi x3] [] h Q := by
  refine r_iconst f_248_78 (by decide) ?_
  exact r_retz f_248_79 rfl (by decide) k1

theorem g_M_wantSign_0 {Q : PQ} {h : HP} {x1 : Int} 
    (k1 : Wp true i_M_isSign 0 [vr 103, vi x1] [] h (fun r h' => Wp true i_M_wantSign 5 [vr 103, vi x1] (r.toList ++ []) h' Q)) :
    Wp true i_M_wantSign 0 [vr 103, vi x1] [] h Q := by
  refine r_aload_n (v := 103) f_249_0 rfl (by decide) ?_
  refine r_iload_n (v := x1) f_249_1 rfl ?_
  exact r_callv (as := [vr 103, vi x1]) (st' := []) (ls0 := [vr 103, vi x1]) f_249_2 (by decide) rfl rfl (Nat.le_of_ble_eq_true rfl) (Nat.le_of_ble_eq_true rfl) ⟨_, _, rfl, rfl⟩ rfl k1

theorem g_M_wantSign_5 {Q : PQ} {h : HP} {x1 : Int} {s0 : Int} 
    (k1 : ¬ s0 = 0 → Wp true i_M_ahead 0 [vr 103, vr 9999] [] h (fun r h' => Wp true i_M_wantSign 18 [vr 103, vi x1] (r.toList ++ []) h' Q))
    (k2 : s0 = 0 → Wp true i_M_fails 0 [vr 103, vi 2] [] h (fun r h' => Wp true i_M_wantSign 13 [vr 103, vi x1] (r.toList ++ []) h' Q)) :
    Wp true i_M_wantSign 5 [vr 103, vi x1] [vi s0] h Q := by
  refine r_br (t := 14) f_249_5 rfl cb_ne (fun c1 => ?_) (fun c1 => ?_)
  · refine r_aload_n (v := 103) f_249_14 rfl (by decide) ?_
    exact r_callv (as := [vr 103]) (st' := []) (ls0 := [vr 103, vr 9999]) f_249_15 (by decide) rfl rfl (Nat.le_of_ble_eq_true rfl) (Nat.le_of_ble_eq_true rfl) ⟨_, _, rfl, rfl⟩ rfl (k1 c1)
  · have c1 := Decidable.not_not.mp c1
    refine r_aload_n (v := 103) f_249_8 rfl (by decide) ?_
    refine r_iconst f_249_9 (by decide) ?_
    exact r_callv (as := [vr 103, vi 2]) (st' := []) (ls0 := [vr 103, vi 2]) f_249_10 (by decide) rfl rfl (Nat.le_of_ble_eq_true rfl) (Nat.le_of_ble_eq_true rfl) ⟨_, _, rfl, rfl⟩ rfl (k2 c1)

theorem g_M_wantSign_13 {Q : PQ} {h : HP} {x1 : Int} {s0 : Int} 
    (o1 : s0 = 0 ∨ s0 = 1)
    (k2 : Q (some (vi s0)) h) :
    Wp true i_M_wantSign 13 [vr 103, vi x1] [vi s0] h Q := by
  exact r_retz f_249_13 rfl o1 k2

theorem g_M_wantSign_18 {Q : PQ} {h : HP} {x1 : Int} 
    (k1 : Q (some (vi 1)) h) :
    Wp true i_M_wantSign 18 [vr 103, vi x1] [] h Q := by
  refine r_iconst f_249_18 (by decide) ?_
  exact r_retz f_249_19 rfl (by decide) k1

theorem g_M_wantWord_0 {Q : PQ} {h : HP} {x2 : Int} 
    (k1 : Wp true i_M_inWords 0 [vr 103, vr 2001, vr 9999, vr 9999, vr 9999, vr 9999, vr 9999] [] h (fun r h' => Wp true i_M_wantWord 5 [vr 103, vr 2001, vi x2] (r.toList ++ []) h' Q)) :
    Wp true i_M_wantWord 0 [vr 103, vr 2001, vi x2] [] h Q := by
  refine r_aload_n (v := 103) f_250_0 rfl (by decide) ?_
  refine r_aload_n (v := 2001) f_250_1 rfl (by decide) ?_
  exact r_callv (as := [vr 103, vr 2001]) (st' := []) (ls0 := [vr 103, vr 2001, vr 9999, vr 9999, vr 9999, vr 9999, vr 9999]) f_250_2 (by decide) rfl rfl (Nat.le_of_ble_eq_true rfl) (Nat.le_of_ble_eq_true rfl) ⟨_, _, rfl, rfl⟩ rfl k1

theorem g_M_wantWord_5 {Q : PQ} {h : HP} {x2 : Int} {s0 : Int} 
    (k1 : s0 = x2 → Wp true i_M_ahead 0 [vr 103, vr 9999] [] h (fun r h' => Wp true i_M_wantWord 19 [vr 103, vr 2001, vi x2] (r.toList ++ []) h' Q))
    (k2 : ¬ s0 = x2 → Wp true i_M_fails 0 [vr 103, vi 2] [] h (fun r h' => Wp true i_M_wantWord 14 [vr 103, vr 2001, vi x2] (r.toList ++ []) h' Q)) :
    Wp true i_M_wantWord 5 [vr 103, vr 2001, vi x2] [vi s0] h Q := by
  refine r_iload_n (v := x2) f_250_5 rfl ?_
  refine r_br2 (t := 15) f_250_6 rfl cb_eq (fun c1 => ?_) (fun c1 => ?_)
  · refine r_aload_n (v := 103) f_250_15 rfl (by decide) ?_
    exact r_callv (as := [vr 103]) (st' := []) (ls0 := [vr 103, vr 9999]) f_250_16 (by decide) rfl rfl (Nat.le_of_ble_eq_true rfl) (Nat.le_of_ble_eq_true rfl) ⟨_, _, rfl, rfl⟩ rfl (k1 c1)
  · refine r_aload_n (v := 103) f_250_9 rfl (by decide) ?_
    refine r_iconst f_250_10 (by decide) ?_
    exact r_callv (as := [vr 103, vi 2]) (st' := []) (ls0 := [vr 103, vi 2]) f_250_11 (by decide) rfl rfl (Nat.le_of_ble_eq_true rfl) (Nat.le_of_ble_eq_true rfl) ⟨_, _, rfl, rfl⟩ rfl (k2 c1)

theorem g_M_wantWord_14 {Q : PQ} {h : HP} {x2 : Int} {s0 : Int} 
    (o1 : s0 = 0 ∨ s0 = 1)
    (k2 : Q (some (vi s0)) h) :
    Wp true i_M_wantWord 14 [vr 103, vr 2001, vi x2] [vi s0] h Q := by
  exact r_retz f_250_14 rfl o1 k2

theorem g_M_wantWord_19 {Q : PQ} {h : HP} {x2 : Int} 
    (k1 : Q (some (vi 1)) h) :
    Wp true i_M_wantWord 19 [vr 103, vr 2001, vi x2] [] h Q := by
  refine r_iconst f_250_19 (by decide) ?_
  exact r_retz f_250_20 rfl (by decide) k1

theorem g_M_number_0 {Q : PQ} {h : HP} {x1 : Int} {x2 : Int} {x3 : Int} 
    (k1 : h 103 12 = 3 → h 103 15 < x2 → Wp true i_M_fails 0 [vr 103, vi 4] [] h (fun r h' => Wp true i_M_number 35 [vr 103, vi x1, vi x2, vi x3] (r.toList ++ []) h' Q))
    (o2 : h 103 12 = 3 → ¬ h 103 15 < x2 → h 103 15 ≤ x3 → 0 ≤ x1 ∧ x1 < 3000)
    (k3 : h 103 12 = 3 → ¬ h 103 15 < x2 → h 103 15 ≤ x3 → Wp true i_M_ahead 0 [vr 103, vr 9999] [] (hs h 104 x1.toNat (h 103 15)) (fun r h' => Wp true i_M_number 50 [vr 103, vi x1, vi x2, vi x3] (r.toList ++ []) h' Q))
    (k4 : h 103 12 = 3 → ¬ h 103 15 < x2 → ¬ h 103 15 ≤ x3 → Wp true i_M_fails 0 [vr 103, vi 4] [] h (fun r h' => Wp true i_M_number 35 [vr 103, vi x1, vi x2, vi x3] (r.toList ++ []) h' Q))
    (k5 : ¬ h 103 12 = 3 → Wp true i_M_fails 0 [vr 103, vi 2] [] h (fun r h' => Wp true i_M_number 13 [vr 103, vi x1, vi x2, vi x3] (r.toList ++ []) h' Q)) :
    Wp true i_M_number 0 [vr 103, vi x1, vi x2, vi x3] [] h Q := by
  refine r_aload_n (v := 103) f_251_0 rfl (by decide) ?_
  refine r_geti (v := h 103 12) f_251_1 rfl (by decide) rfl ?_
  refine r_iconst f_251_4 (by decide) ?_
  refine r_br2 (t := 14) f_251_5 rfl cb_eq (fun c1 => ?_) (fun c1 => ?_)
  · refine r_aload_n (v := 103) f_251_14 rfl (by decide) ?_
    refine r_geti (v := h 103 15) f_251_15 rfl (by decide) rfl ?_
    refine r_iload_n (v := x2) f_251_18 rfl ?_
    refine r_br2 (t := 30) f_251_19 rfl cb_lt (fun c2 => ?_) (fun c2 => ?_)
    · refine r_aload_n (v := 103) f_251_30 rfl (by decide) ?_
      refine r_iconst f_251_31 (by decide) ?_
      exact r_callv (as := [vr 103, vi 4]) (st' := []) (ls0 := [vr 103, vi 4]) f_251_32 (by decide) rfl rfl (Nat.le_of_ble_eq_true rfl) (Nat.le_of_ble_eq_true rfl) ⟨_, _, rfl, rfl⟩ rfl (k1 c1 c2)
    · refine r_aload_n (v := 103) f_251_22 rfl (by decide) ?_
      refine r_geti (v := h 103 15) f_251_23 rfl (by decide) rfl ?_
      refine r_iload_n (v := x3) f_251_26 rfl ?_
      refine r_br2 (t := 36) f_251_27 rfl cb_le (fun c3 => ?_) (fun c3 => ?_)
      · refine r_aload_n (v := 103) f_251_36 rfl (by decide) ?_
        refine r_getr (q := 104) f_251_37 rfl (by decide) (Or.inl rfl) rfl ?_
        refine r_iload_n (v := x1) f_251_40 rfl ?_
        refine r_aload_n (v := 103) f_251_41 rfl (by decide) ?_
        refine r_geti (v := h 103 15) f_251_42 rfl (by decide) rfl ?_
        refine r_iastore (n := 3000) f_251_45 ⟨rfl, rfl⟩ (o2 c1 c2 c3) ?_
        refine r_aload_n (v := 103) f_251_46 rfl (by decide) ?_
        exact r_callv (as := [vr 103]) (st' := []) (ls0 := [vr 103, vr 9999]) f_251_47 (by decide) rfl rfl (Nat.le_of_ble_eq_true rfl) (Nat.le_of_ble_eq_true rfl) ⟨_, _, rfl, rfl⟩ rfl (k3 c1 c2 c3)
      · refine r_aload_n (v := 103) f_251_30 rfl (by decide) ?_
        refine r_iconst f_251_31 (by decide) ?_
        exact r_callv (as := [vr 103, vi 4]) (st' := []) (ls0 := [vr 103, vi 4]) f_251_32 (by decide) rfl rfl (Nat.le_of_ble_eq_true rfl) (Nat.le_of_ble_eq_true rfl) ⟨_, _, rfl, rfl⟩ rfl (k4 c1 c2 c3)
  · refine r_aload_n (v := 103) f_251_8 rfl (by decide) ?_
    refine r_iconst f_251_9 (by decide) ?_
    exact r_callv (as := [vr 103, vi 2]) (st' := []) (ls0 := [vr 103, vi 2]) f_251_10 (by decide) rfl rfl (Nat.le_of_ble_eq_true rfl) (Nat.le_of_ble_eq_true rfl) ⟨_, _, rfl, rfl⟩ rfl (k5 c1)

theorem g_M_number_13 {Q : PQ} {h : HP} {x1 : Int} {x2 : Int} {x3 : Int} {s0 : Int} 
    (o1 : s0 = 0 ∨ s0 = 1)
    (k2 : Q (some (vi s0)) h) :
    Wp true i_M_number 13 [vr 103, vi x1, vi x2, vi x3] [vi s0] h Q := by
  exact r_retz f_251_13 rfl o1 k2

theorem g_M_number_35 {Q : PQ} {h : HP} {x1 : Int} {x2 : Int} {x3 : Int} {s0 : Int} 
    (o1 : s0 = 0 ∨ s0 = 1)
    (k2 : Q (some (vi s0)) h) :
    Wp true i_M_number 35 [vr 103, vi x1, vi x2, vi x3] [vi s0] h Q := by
  exact r_retz f_251_35 rfl o1 k2

theorem g_M_number_50 {Q : PQ} {h : HP} {x1 : Int} {x2 : Int} {x3 : Int} 
    (k1 : Q (some (vi 1)) h) :
    Wp true i_M_number 50 [vr 103, vi x1, vi x2, vi x3] [] h Q := by
  refine r_iconst f_251_50 (by decide) ?_
  exact r_retz f_251_51 rfl (by decide) k1

theorem g_M_isName_0 {Q : PQ} {h : HP}  
    (k1 : ¬ h 103 12 = 2 → Q (some (vi 0)) h)
    (o2 : h 103 12 = 2 → -2147483648 ≤ (h 103 14) - (h 103 13) ∧ (h 103 14) - (h 103 13) ≤ 2147483647)
    (k3 : h 103 12 = 2 → 8 < (h 103 14) - (h 103 13) → Q (some (vi 0)) h)
    (k4 : h 103 12 = 2 → ¬ 8 < (h 103 14) - (h 103 13) → Wp true i_M_inWords 0 [vr 103, vr 2001, vr 9999, vr 9999, vr 9999, vr 9999, vr 9999] [] h (fun r h' => Wp true i_M_isName 27 [vr 103, vr 2001] (r.toList ++ []) h' Q)) :
    Wp true i_M_isName 0 [vr 103, vr 2001] [] h Q := by
  refine r_aload_n (v := 103) f_252_0 rfl (by decide) ?_
  refine r_geti (v := h 103 12) f_252_1 rfl (by decide) rfl ?_
  refine r_iconst f_252_4 (by decide) ?_
  refine r_br2 (t := 35) f_252_5 rfl cb_ne (fun c1 => ?_) (fun c1 => ?_)
  · refine r_iconst f_252_35 (by decide) ?_
    exact r_retz f_252_36 rfl (by decide) (k1 c1)
  · have c1 := Decidable.not_not.mp c1
    refine r_aload_n (v := 103) f_252_8 rfl (by decide) ?_
    refine r_geti (v := h 103 14) f_252_9 rfl (by decide) rfl ?_
    refine r_aload_n (v := 103) f_252_12 rfl (by decide) ?_
    refine r_geti (v := h 103 13) f_252_13 rfl (by decide) rfl ?_
    refine r_isub (u := (h 103 14) - (h 103 13)) f_252_16 rfl (o2 c1) ?_
    refine r_bipush f_252_17 (by decide) ?_
    refine r_br2 (t := 35) f_252_19 rfl cb_gt (fun c2 => ?_) (fun c2 => ?_)
    · refine r_iconst f_252_35 (by decide) ?_
      exact r_retz f_252_36 rfl (by decide) (k3 c1 c2)
    · refine r_aload_n (v := 103) f_252_22 rfl (by decide) ?_
      refine r_aload_n (v := 2001) f_252_23 rfl (by decide) ?_
      exact r_callv (as := [vr 103, vr 2001]) (st' := []) (ls0 := [vr 103, vr 2001, vr 9999, vr 9999, vr 9999, vr 9999, vr 9999]) f_252_24 (by decide) rfl rfl (Nat.le_of_ble_eq_true rfl) (Nat.le_of_ble_eq_true rfl) ⟨_, _, rfl, rfl⟩ rfl (k4 c1 c2)

theorem g_M_isName_27 {Q : PQ} {h : HP} {s0 : Int} 
    (k1 : ¬ s0 = -1 → Q (some (vi 0)) h)
    (k2 : s0 = -1 → Q (some (vi 1)) h) :
    Wp true i_M_isName 27 [vr 103, vr 2001] [vi s0] h Q := by
  refine r_iconst f_252_27 (by decide) ?_
  refine r_br2 (t := 35) f_252_28 rfl cb_ne (fun c1 => ?_) (fun c1 => ?_)
  · refine r_iconst f_252_35 (by decide) ?_
    exact r_retz f_252_36 rfl (by decide) (k1 c1)
  · have c1 := Decidable.not_not.mp c1
    refine r_iconst f_252_31 (by decide) ?_
    refine r_goto (t := 36) f_252_32 rfl ?_
    exact r_retz f_252_36 rfl (by decide) (k2 c1)

theorem g_M_nameHere_0 {Q : PQ} {h : HP}  
    (k1 : Wp true i_M_nameHere 7 [vr 103, vj 0, vr 9999, vi (h 103 13)] [] h Q) :
    Wp true i_M_nameHere 0 [vr 103, vr 9999, vr 9999, vr 9999] [] h Q := by
  refine r_lconst (v := 0) f_253_0 rfl ?_
  refine r_lstore_n (ls' := [vr 103, vj 0, vr 9999, vr 9999]) f_253_1 (Nat.le_of_ble_eq_true rfl) rfl ?_
  refine r_aload_n (v := 103) f_253_2 rfl (by decide) ?_
  refine r_geti (v := h 103 13) f_253_3 rfl (by decide) rfl ?_
  refine r_istore_n (ls' := [vr 103, vj 0, vr 9999, vi (h 103 13)]) f_253_6 (Nat.le_of_ble_eq_true rfl) rfl ?_
  exact k1

theorem g_M_nameHere_7 {Q : PQ} {h : HP} {y1 : Int} {x3 : Int} 
    (k1 : h 103 14 ≤ x3 → Q (some (vj y1)) h)
    (k2 : ¬ h 103 14 ≤ x3 → Wp true i_M_byteAt 0 [vr 103, vi x3] [] h (fun r h' => Wp true i_M_nameHere 24 [vr 103, vj y1, vr 9999, vi x3] (r.toList ++ [vj (o_lshl y1 8)]) h' Q)) :
    Wp true i_M_nameHere 7 [vr 103, vj y1, vr 9999, vi x3] [] h Q := by
  refine r_iload_n (v := x3) f_253_7 rfl ?_
  refine r_aload_n (v := 103) f_253_8 rfl (by decide) ?_
  refine r_geti (v := h 103 14) f_253_9 rfl (by decide) rfl ?_
  refine r_br2 (t := 33) f_253_12 rfl cb_ge (fun c1 => ?_) (fun c1 => ?_)
  · refine r_lload_n (v := y1) f_253_33 rfl ?_
    exact r_retj f_253_34 rfl (k1 c1)
  · refine r_lload_n (v := y1) f_253_15 rfl ?_
    refine r_bipush f_253_16 (by decide) ?_
    refine r_lshl f_253_18 ?_
    refine r_aload_n (v := 103) f_253_19 rfl (by decide) ?_
    refine r_iload_n (v := x3) f_253_20 rfl ?_
    exact r_callv (as := [vr 103, vi x3]) (st' := [vj (o_lshl y1 8)]) (ls0 := [vr 103, vi x3]) f_253_21 (by decide) rfl rfl (Nat.le_of_ble_eq_true rfl) (Nat.le_of_ble_eq_true rfl) ⟨_, _, rfl, rfl⟩ rfl (k2 c1)

theorem g_M_nameHere_24 {Q : PQ} {h : HP} {y1 : Int} {x3 : Int} {s0 : Int} {s1 : Int} 
    (o1 : -2147483648 ≤ x3 + 1 ∧ x3 + 1 ≤ 2147483647)
    (k2 : Wp true i_M_nameHere 7 [vr 103, vj (o_lor s0 s1), vr 9999, vi (x3 + 1)] [] h Q) :
    Wp true i_M_nameHere 24 [vr 103, vj y1, vr 9999, vi x3] [vi s1, vj s0] h Q := by
  refine r_i2l f_253_24 ?_
  refine r_lor f_253_25 ?_
  refine r_lstore_n (ls' := [vr 103, vj (o_lor s0 s1), vr 9999, vi x3]) f_253_26 (Nat.le_of_ble_eq_true rfl) rfl ?_
  refine r_iinc (v := x3) (w := x3 + 1) (ls' := [vr 103, vj (o_lor s0 s1), vr 9999, vi (x3 + 1)]) f_253_27 rfl rfl o1 rfl ?_
  refine r_goto (t := 7) f_253_30 rfl ?_
  exact k2

theorem g_M_findHere_0 {Q : PQ} {h : HP} {x1 : Int} {x2 : Int} 
    (k1 : Wp true i_M_findHere 2 [vr 103, vi x1, vi x2, vi 0] [] h Q) :
    Wp true i_M_findHere 0 [vr 103, vi x1, vi x2, vr 9999] [] h Q := by
  refine r_iconst f_254_0 (by decide) ?_
  refine r_istore_n (ls' := [vr 103, vi x1, vi x2, vi 0]) f_254_1 (Nat.le_of_ble_eq_true rfl) rfl ?_
  exact k1

theorem g_M_findHere_2 {Q : PQ} {h : HP} {x1 : Int} {x2 : Int} {x3 : Int} 
    (k1 : x2 ≤ x3 → Q (some (vi (-1))) h)
    (o2 : ¬ x2 ≤ x3 → -2147483648 ≤ x1 + x3 ∧ x1 + x3 ≤ 2147483647)
    (o3 : ¬ x2 ≤ x3 → 0 ≤ x1 + x3 ∧ x1 + x3 < 60)
    (k4 : ¬ x2 ≤ x3 → Wp true i_M_nameHere 0 [vr 103, vr 9999, vr 9999, vr 9999] [] h (fun r h' => Wp true i_M_findHere 19 [vr 103, vi x1, vi x2, vi x3] (r.toList ++ [vj (h 105 (x1 + x3).toNat)]) h' Q)) :
    Wp true i_M_findHere 2 [vr 103, vi x1, vi x2, vi x3] [] h Q := by
  refine r_iload_n (v := x3) f_254_2 rfl ?_
  refine r_iload_n (v := x2) f_254_3 rfl ?_
  refine r_br2 (t := 31) f_254_4 rfl cb_ge (fun c1 => ?_) (fun c1 => ?_)
  · refine r_iconst f_254_31 (by decide) ?_
    exact r_reti f_254_32 rfl (k1 c1)
  · refine r_aload_n (v := 103) f_254_7 rfl (by decide) ?_
    refine r_getr (q := 105) f_254_8 rfl (by decide) (Or.inl rfl) rfl ?_
    refine r_iload_n (v := x1) f_254_11 rfl ?_
    refine r_iload_n (v := x3) f_254_12 rfl ?_
    refine r_iadd (u := x1 + x3) f_254_13 rfl (o2 c1) ?_
    refine r_laload (n := 60) (v := h 105 (x1 + x3).toNat) f_254_14 ⟨rfl, rfl⟩ (o3 c1) rfl ?_
    refine r_aload_n (v := 103) f_254_15 rfl (by decide) ?_
    exact r_callv (as := [vr 103]) (st' := [vj (h 105 (x1 + x3).toNat)]) (ls0 := [vr 103, vr 9999, vr 9999, vr 9999]) f_254_16 (by decide) rfl rfl (Nat.le_of_ble_eq_true rfl) (Nat.le_of_ble_eq_true rfl) ⟨_, _, rfl, rfl⟩ rfl (k4 c1)

theorem g_M_findHere_19 {Q : PQ} {h : HP} {x1 : Int} {x2 : Int} {x3 : Int} {s0 : Int} {s1 : Int} 
    (o1 : ¬ s0 = s1 → -2147483648 ≤ x3 + 1 ∧ x3 + 1 ≤ 2147483647)
    (k2 : ¬ s0 = s1 → Wp true i_M_findHere 2 [vr 103, vi x1, vi x2, vi (x3 + 1)] [] h Q)
    (k3 : s0 = s1 → Q (some (vi x3)) h) :
    Wp true i_M_findHere 19 [vr 103, vi x1, vi x2, vi x3] [vj s1, vj s0] h Q := by
  refine r_lcmp f_254_19 ?_
  refine r_br (t := 25) f_254_20 rfl lc_ne (fun c1 => ?_) (fun c1 => ?_)
  · refine r_iinc (v := x3) (w := x3 + 1) (ls' := [vr 103, vi x1, vi x2, vi (x3 + 1)]) f_254_25 rfl rfl (o1 c1) rfl ?_
    refine r_goto (t := 2) f_254_28 rfl ?_
    exact (k2 c1)
  · have c1 := Decidable.not_not.mp c1
    refine r_iload_n (v := x3) f_254_23 rfl ?_
    exact r_reti f_254_24 rfl (k3 c1)

theorem g_M_taken_0 {Q : PQ} {h : HP} {x1 : Int} 
    (k1 : h 103 18 ≤ 0 → Q (some (vi x1)) (hs (hs h 103 16 (h 103 18)) 103 2 0))
    (k2 : ¬ h 103 18 ≤ 0 → Q (some (vi (-1))) (hs (hs h 103 16 (h 103 18)) 103 2 9)) :
    Wp true i_M_taken 0 [vr 103, vi x1] [] h Q := by
  refine r_aload_n (v := 103) f_256_0 rfl (by decide) ?_
  refine r_aload_n (v := 103) f_256_1 rfl (by decide) ?_
  refine r_geti (v := h 103 18) f_256_2 rfl (by decide) rfl ?_
  refine r_puti f_256_5 rfl (by decide) ?_
  refine r_aload_n (v := 103) f_256_8 rfl (by decide) ?_
  refine r_geti (v := h 103 18) f_256_9 rfl (by decide) (by simp [hs]) ?_
  refine r_br (t := 24) f_256_12 rfl cb_le (fun c1 => ?_) (fun c1 => ?_)
  · refine r_aload_n (v := 103) f_256_24 rfl (by decide) ?_
    refine r_iload_n (v := x1) f_256_25 rfl ?_
    refine r_callv (as := [vr 103, vi x1]) (st' := []) (ls0 := [vr 103, vi x1]) f_256_26 (by decide) rfl rfl (Nat.le_of_ble_eq_true rfl) (Nat.le_of_ble_eq_true rfl) ⟨_, _, rfl, rfl⟩ rfl ?_
    refine c_M_gives  ?_
    show Wp true i_M_taken 29 [vr 103, vi x1] [vi x1] (hs (hs h 103 16 (h 103 18)) 103 2 0) Q
    exact r_reti f_256_29 rfl (k1 c1)
  · refine r_aload_n (v := 103) f_256_15 rfl (by decide) ?_
    refine r_bipush f_256_16 (by decide) ?_
    refine r_callv (as := [vr 103, vi 9]) (st' := []) (ls0 := [vr 103, vi 9]) f_256_18 (by decide) rfl rfl (Nat.le_of_ble_eq_true rfl) (Nat.le_of_ble_eq_true rfl) ⟨_, _, rfl, rfl⟩ rfl ?_
    refine c_M_refuse  ?_
    show Wp true i_M_taken 21 [vr 103, vi x1] [vi (-1)] (hs (hs h 103 16 (h 103 18)) 103 2 9) Q
    refine r_goto (t := 29) f_256_21 rfl ?_
    exact r_reti f_256_29 rfl (k2 c1)

theorem g_M_isThere_0 {Q : PQ} {h : HP} {x1 : Int} 
    (k1 : Wp true i_M_inWords 0 [vr 103, vr 2001, vr 9999, vr 9999, vr 9999, vr 9999, vr 9999] [] h (fun r h' => Wp true i_M_isThere 6 [vr 103, vi x1] (r.toList ++ []) h' Q)) :
    Wp true i_M_isThere 0 [vr 103, vi x1] [] h Q := by
  refine r_aload_n (v := 103) f_257_0 rfl (by decide) ?_
  refine r_ldcS f_257_1 (by decide) ?_
  exact r_callv (as := [vr 103, vr 2001]) (st' := []) (ls0 := [vr 103, vr 2001, vr 9999, vr 9999, vr 9999, vr 9999, vr 9999]) f_257_3 (by decide) rfl rfl (Nat.le_of_ble_eq_true rfl) (Nat.le_of_ble_eq_true rfl) ⟨_, _, rfl, rfl⟩ rfl k1

theorem g_M_isThere_6 {Q : PQ} {h : HP} {x1 : Int} {s0 : Int} 
    (k1 : s0 = x1 → Wp true i_M_ahead 0 [vr 103, vr 9999] [] h (fun r h' => Wp true i_M_isThere 16 [vr 103, vi x1] (r.toList ++ []) h' Q))
    (k2 : ¬ s0 = x1 → Q (some (vi 0)) h) :
    Wp true i_M_isThere 6 [vr 103, vi x1] [vi s0] h Q := by
  refine r_iload_n (v := x1) f_257_6 rfl ?_
  refine r_br2 (t := 12) f_257_7 rfl cb_eq (fun c1 => ?_) (fun c1 => ?_)
  · refine r_aload_n (v := 103) f_257_12 rfl (by decide) ?_
    exact r_callv (as := [vr 103]) (st' := []) (ls0 := [vr 103, vr 9999]) f_257_13 (by decide) rfl rfl (Nat.le_of_ble_eq_true rfl) (Nat.le_of_ble_eq_true rfl) ⟨_, _, rfl, rfl⟩ rfl (k1 c1)
  · refine r_iconst f_257_10 (by decide) ?_
    exact r_retz f_257_11 rfl (by decide) (k2 c1)

theorem g_M_isThere_16 {Q : PQ} {h : HP} {x1 : Int} 
    (k1 : Q (some (vi 1)) h) :
    Wp true i_M_isThere 16 [vr 103, vi x1] [] h Q := by
  refine r_iconst f_257_16 (by decide) ?_
  exact r_retz f_257_17 rfl (by decide) k1

/-! ===== TOKENS of the reference ===== -/
def bv (B : Bt) (n p : Nat) : Int := if n ≤ p then -1 else if 0 ≤ B p then B p else B p + 256
theorem and255' : ∀ i : Nat, i < 256 → o_and ((i : Int) - 128) 255 = if 0 ≤ (i : Int) - 128 then (i : Int) - 128 else (i : Int) - 128 + 256 := by decide +kernel
theorem and255 {c : Int} (h1 : -128 ≤ c) (h2 : c ≤ 127) : o_and c 255 = if 0 ≤ c then c else c + 256 := by
  have := and255' (c + 128).toNat (by omega)
  rw [show (((c + 128).toNat : Nat) : Int) - 128 = c by omega] at this
  exact this
def TpM (B : Bt) (n : Nat) (h : HP) : Prop := n ≤ 900 ∧ (∀ p, p < n → h 110 p = B p) ∧ (∀ p, p < n → -128 ≤ B p ∧ B p ≤ 127) ∧ h 103 11 = n
def kM (k : Int) : Int := if k = 0 then 0 else if k = 4 then 1 else k + 1
def TkM (B : Bt) (n s : Nat) (h : HP) : Prop := s ≤ n ∧ h 103 13 = s ∧ h 103 14 = tE B n s ∧ h 103 12 = kM (tK B n s) ∧ (tK B n s = 2 → h 103 15 = tN B n s) ∧ (tK B n s = 3 → h 103 15 = B s)
def MS (B : Bt) (n s : Nat) (h : HP) : Prop := TpM B n h ∧ TkM B n s h
abbrev TLM : List Nat := [12, 13, 14, 15]
theorem TpM_o {B : Bt} {n : Nat} {h g : HP} {L : List Nat} (T : TpM B n h) (o : Oth 103 L h g) (hL : 11 ∉ L) : TpM B n g := by
  refine ⟨T.1, ?_, T.2.2.1, ?_⟩
  · rw [o.1 110 (by decide)]; exact T.2.1
  · rw [o.2 11 hL]; exact T.2.2.2
theorem tK_rg {B : Bt} {n s : Nat} : 0 ≤ tK B n s ∧ tK B n s ≤ 4 := by
  unfold tK
  split
  · omega
  · split
    · omega
    · split
      · split <;> omega
      · split <;> omega
theorem kM_c (k : Int) : (kM k = 0 ∧ k = 0) ∨ (kM k = 1 ∧ k = 4) ∨ (kM k = k + 1 ∧ k ≠ 0 ∧ k ≠ 4) := by
  unfold kM
  split
  · exact Or.inl ⟨rfl, by assumption⟩
  · split
    · exact Or.inr (Or.inl ⟨rfl, by assumption⟩)
    · exact Or.inr (Or.inr ⟨rfl, by assumption, by assumption⟩)
theorem c_M_byteAt {Q : PQ} {h : HP} {B : Bt} {n p : Nat} {x1 : Int} (T : TpM B n h) (e : x1 = p) (k : Q (some (vi (bv B n p))) h) : Wp true i_M_byteAt 0 [vr 103, vi x1] [] h Q := by
  subst e
  have n9 := T.1
  have e11 := T.2.2.2
  unfold bv at k
  refine g_M_byteAt_0 (fun c => ?_) (fun c => by omega) (fun c => ?_)
  · rw [if_pos (by omega)] at k; exact k
  · rw [if_neg (by omega)] at k
    have r := T.2.2.1 p (by omega)
    rw [Int.toNat_natCast, T.2.1 p (by omega), and255 r.1 r.2]; exact k
theorem bv_L {B : Bt} {n p : Nat} (r : p < n → -128 ≤ B p ∧ B p ≤ 127) : (97 ≤ bv B n p ∧ bv B n p ≤ 122) ↔ (p < n ∧ isL (B p)) := by
  unfold bv
  split
  · omega
  · have := r (by omega)
    split <;> omega
theorem bv_D {B : Bt} {n p : Nat} (r : p < n → -128 ≤ B p ∧ B p ≤ 127) : (48 ≤ bv B n p ∧ bv B n p ≤ 57) ↔ (p < n ∧ isD (B p)) := by
  unfold bv
  split
  · omega
  · have := r (by omega)
    split <;> omega
theorem bv_e {B : Bt} {n p : Nat} (h : p < n) (c : 0 ≤ B p) : bv B n p = B p := by
  unfold bv
  rw [if_neg (by omega), if_pos c]
theorem c_M_ahead {Q : PQ} {h : HP} {B : Bt} {n p : Nat} (T : TpM B n h) (hp : p ≤ n) (e14 : h 103 14 = p)
    (k : ∀ g, MS B n (rn isBk B (n - p) p) g → Oth 103 TLM h g → Q none g) : Wp true i_M_ahead 0 [vr 103, vr 9999] [] h Q := by
  have n900 := T.1
  obtain ⟨s, es⟩ : ∃ s, s = rn isBk B (n - p) p := ⟨_, rfl⟩
  rw [← es] at k
  have hsn : s ≤ n := by rw [es]; exact (rn_b hp).2
  have rg := T.2.2.1
  -- a WORD
  have wl : s < n → isL (B s) → ∀ (d q : Nat) (g : HP) (x1 : Int), n - q = d → s ≤ q → q ≤ n → Oth 103 TLM h g → g 103 13 = s → g 103 14 = q → rn isL B (n - q) q = tE B n s → Wp true i_M_ahead 81 [vr 103, vi x1] [] g Q := by
    intro c l d
    have K1 : tK B n s = 1 := tK_w.mpr ⟨c, l⟩
    induction d with
    | zero =>
      intro q g x1 hd h1 h2 o g13 g14 e
      have eq : q = tE B n s := by rw [← e, rn_n (Or.inl (by omega))]
      have Tg := TpM_o T o (by decide)
      refine g_M_ahead_81 (c_M_byteAt (p := q) Tg g14 (g_M_ahead_89 ?_))
      have fin : Q none (hs g 103 12 2) := k _ ⟨TpM_o T (Oth_hs o (by decide)) (by decide), hsn, by rw [hs_o (by decide)]; exact g13, by rw [hs_o (by decide), g14, eq], by rw [hs_s, K1]; rfl, fun z => by omega, fun z => by omega⟩ (Oth_hs o (by decide))
      have nb : ¬ (97 ≤ bv B n q ∧ bv B n q ≤ 122) := by rw [bv_L (rg q)]; omega
      exact g_M_isSmall_0 (fun _ => g_M_ahead_92 (fun _ => fin) (fun z => absurd rfl z) (fun z => absurd rfl z)) (fun _ _ => g_M_ahead_92 (fun _ => fin) (fun z => absurd rfl z) (fun z => absurd rfl z)) (fun z1 z2 => absurd ⟨by omega, by omega⟩ nb)
    | succ d ih =>
      intro q g x1 hd h1 h2 o g13 g14 e
      have Tg := TpM_o T o (by decide)
      refine g_M_ahead_81 (c_M_byteAt (p := q) Tg g14 (g_M_ahead_89 ?_))
      have fin : ¬ isL (B q) → Q none (hs g 103 12 2) := fun z => by
        have eq : q = tE B n s := by rw [← e, rn_n (Or.inr z)]
        exact k _ ⟨TpM_o T (Oth_hs o (by decide)) (by decide), hsn, by rw [hs_o (by decide)]; exact g13, by rw [hs_o (by decide), g14, eq], by rw [hs_s, K1]; rfl, fun z => by omega, fun z => by omega⟩ (Oth_hs o (by decide))
      have bl := bv_L (rg q)
      refine g_M_isSmall_0 (fun z => g_M_ahead_92 (fun _ => fin (fun y => ?_)) (fun z => absurd rfl z) (fun z => absurd rfl z)) (fun _ z => g_M_ahead_92 (fun _ => fin (fun y => ?_)) (fun z => absurd rfl z) (fun z => absurd rfl z)) (fun z1 z2 => g_M_ahead_92 (fun z => absurd z (by decide)) (fun _ => by omega) (fun _ => ?_))
      · have := bl.mpr ⟨by omega, y⟩; omega
      · have := bl.mpr ⟨by omega, y⟩; omega
      · have y := (bl.mp ⟨by omega, by omega⟩).2
        exact ih (q + 1) _ x1 (by omega) (by omega) (by omega) (Oth_hs o (by decide)) (by rw [hs_o (by decide)]; exact g13) (by rw [hs_s, g14]; omega) ((rn_y (by omega) y).symm.trans e)
  -- a NUMBER
  have dl : s < n → ¬ isL (B s) → isD (B s) → ∀ (d q : Nat) (g : HP) (x1 : Int), n - q = d → s ≤ q → q ≤ n → Oth 103 TLM h g → g 103 13 = s → g 103 14 = q → (0 ≤ g 103 15 ∧ g 103 15 ≤ 100000) → (q - s ≤ 4 → g 103 15 = dg B (q - s) s) → (∀ z, s ≤ z → z < q → isD (B z)) → rn isD B (n - q) q = tE B n s → Wp true i_M_ahead 128 [vr 103, vi x1] [] g Q := by
    intro c nl dd d
    have eK : tK B n s = if tE B n s - s ≤ 4 then 2 else 4 := by unfold tK; rw [if_neg (by omega), if_neg nl, if_pos dd]
    have fin : ∀ (q : Nat) (g : HP) (x1 : Int), s ≤ q → q ≤ n → Oth 103 TLM h g → g 103 13 = s → g 103 14 = q → (q - s ≤ 4 → g 103 15 = dg B (q - s) s) → q = tE B n s → Wp true i_M_ahead 139 [vr 103, vi x1] [vi 0] g Q := by
      intro q g x1 h1 h2 o g13 g14 v e
      refine g_M_ahead_139 (fun _ => by omega) (fun _ z => ?_) (fun _ z => ?_) (fun z => absurd rfl z) (fun z => absurd rfl z)
      · rw [if_pos (by omega)] at eK
        refine k _ ⟨TpM_o T (Oth_hs o (by decide)) (by decide), hsn, by rw [hs_o (by decide)]; exact g13, by rw [hs_o (by decide), g14, e], by rw [hs_s, eK]; rfl, fun _ => ?_, fun z => by omega⟩ (Oth_hs o (by decide))
        rw [hs_o (by decide), v (by omega), e]; rfl
      · rw [if_neg (by omega)] at eK
        exact k _ ⟨TpM_o T (Oth_hs o (by decide)) (by decide), hsn, by rw [hs_o (by decide)]; exact g13, by rw [hs_o (by decide), g14, e], by rw [hs_s, eK]; rfl, fun z => by omega, fun z => by omega⟩ (Oth_hs o (by decide))
    induction d with
    | zero =>
      intro q g x1 hd h1 h2 o g13 g14 vg v al e
      have eq : q = tE B n s := by rw [← e, rn_n (Or.inl (by omega))]
      have Tg := TpM_o T o (by decide)
      refine g_M_ahead_128 (c_M_byteAt (p := q) Tg g14 (g_M_ahead_136 ?_))
      have nb : ¬ (48 ≤ bv B n q ∧ bv B n q ≤ 57) := by rw [bv_D (rg q)]; omega
      have f := fin q g x1 h1 h2 o g13 g14 v eq
      exact g_M_isDigit_0 (fun _ => f) (fun _ _ => f) (fun z1 z2 => absurd ⟨by omega, by omega⟩ nb)
    | succ d ih =>
      intro q g x1 hd h1 h2 o g13 g14 vg v al e
      have Tg := TpM_o T o (by decide)
      refine g_M_ahead_128 (c_M_byteAt (p := q) Tg g14 (g_M_ahead_136 ?_))
      have bl := bv_D (rg q)
      have f : ¬ isD (B q) → Wp true i_M_ahead 139 [vr 103, vi x1] [vi 0] g Q := fun z => fin q g x1 h1 h2 o g13 g14 v (by rw [← e, rn_n (Or.inr z)])
      refine g_M_isDigit_0 (fun z => f (fun y => ?_)) (fun _ z => f (fun y => ?_)) (fun z1 z2 => g_M_ahead_139 (fun z => absurd z (by decide)) (fun z => absurd z (by decide)) (fun z => absurd z (by decide)) (fun _ => by omega) (fun _ => c_M_byteAt (p := q) Tg g14 ?_))
      · have := bl.mpr ⟨by omega, y⟩; omega
      · have := bl.mpr ⟨by omega, y⟩; omega
      · have y := (bl.mp ⟨by omega, by omega⟩).2
        have y1 := y.1
        have y2 := y.2
        have be : bv B n q = B q := bv_e (by omega) (by omega)
        refine g_M_ahead_160 (by omega) (by omega) (by omega) (ih (q + 1) _ x1 (by omega) (by omega) (by omega) (Oth_hs (Oth_hs o (by decide)) (by decide)) ?_ ?_ ?_ ?_ ?_ ?_)
        · rw [hs_o (by decide), hs_o (by decide)]; exact g13
        · rw [hs_s, g14]; omega
        · rw [hs_o (by decide), hs_s]; omega
        · intro z
          have w := v (by omega)
          have q5 := dg_rg (B := B) (s := s) (q - s) (by omega) (fun z h1 h2 => al z h1 (by omega))
          have := p10 (d := q - s) (by omega)
          rw [hs_o (by decide), hs_s, show q + 1 - s = (q - s) + 1 by omega, dg, show s + (q - s) = q by omega, be]
          omega
        · intro z z1 z2
          by_cases zz : z = q
          · rw [zz]; exact y
          · exact al z z1 (by omega)
        · exact (rn_y (by omega) y).symm.trans e
  have fi : ∀ g : HP, Oth 103 TLM h g → g 103 14 = s → g 103 13 = s → Wp true i_M_ahead 55 [vr 103, vr 9999] [vi (bv B n s)] g Q := by
    intro g o g14 g13
    have o1 : Oth 103 TLM h (hs g 103 15 (bv B n s)) := Oth_hs o (by decide)
    by_cases c : s < n
    · have r := rg s c
      have b0 : ¬ bv B n s = -1 := by unfold bv; rw [if_neg (by omega)]; split <;> omega
      refine g_M_ahead_55 (fun _ => ?_) (fun z => absurd z b0)
      have a13 : (hs g 103 15 (bv B n s)) 103 13 = s := by rw [hs_o (by decide)]; exact g13
      have a14 : (hs g 103 15 (bv B n s)) 103 14 = s := by rw [hs_o (by decide)]; exact g14
      have bl := bv_L (rg s)
      have bd' := bv_D (rg s)
      have ot : ¬ isL (B s) → Wp true i_M_ahead 78 [vr 103, vi (bv B n s)] [vi 0] (hs g 103 15 (bv B n s)) Q := by
        intro nl
        refine g_M_ahead_78 (fun _ => ?_) (fun z => absurd rfl z)
        have sg : ¬ isD (B s) → Wp true i_M_ahead 120 [vr 103, vi (bv B n s)] [vi 0] (hs g 103 15 (bv B n s)) Q := by
          intro nd
          have eE : tE B n s = s + 1 := by unfold tE; rw [if_neg (by omega), if_neg nl, if_neg nd]
          have eK : tK B n s = if 59 ≤ B s ∧ B s ≤ 62 then 3 else 4 := by unfold tK; rw [if_neg (by omega), if_neg nl, if_neg nd]
          have K2 : ¬ tK B n s = 2 := by rw [eK]; split <;> omega
          have en : ∀ v, v = kM (tK B n s) → Q none (hs (hs (hs g 103 15 (bv B n s)) 103 14 (((hs g 103 15 (bv B n s)) 103 14) + 1)) 103 12 v) := by
            intro v ev
            have oo : Oth 103 TLM h (hs (hs (hs g 103 15 (bv B n s)) 103 14 (((hs g 103 15 (bv B n s)) 103 14) + 1)) 103 12 v) := Oth_hs (Oth_hs o1 (by decide)) (by decide)
            refine k _ ⟨TpM_o T oo (by decide), hsn, ?_, ?_, ?_, fun q => absurd q K2, fun q => ?_⟩ oo
            · rw [hs_o (by decide), hs_o (by decide)]; exact a13
            · rw [hs_o (by decide), hs_s, a14, eE]; omega
            · rw [hs_s, ev]
            · rw [hs_o (by decide), hs_o (by decide), hs_s]
              rw [eK] at q
              split at q
              · exact bv_e c (by omega)
              · omega
          have k3 : 59 ≤ bv B n s ∧ bv B n s ≤ 62 → tK B n s = 3 := by
            intro z
            rw [eK]
            refine if_pos ?_
            unfold bv at z
            rw [if_neg (by omega)] at z
            split at z <;> omega
          have k4 : ¬ (59 ≤ bv B n s ∧ bv B n s ≤ 62) → tK B n s = 4 := by
            intro z
            rw [eK]
            refine if_neg (fun y => z ?_)
            rw [bv_e c (by omega)]; exact y
          refine g_M_ahead_120 (fun _ => by omega) (fun _ z => en 4 ?_) (fun _ _ z => en 4 ?_) (fun _ _ _ z => en 4 ?_) (fun _ z1 z2 z3 z4 => en 1 ?_) (fun _ _ _ _ z => en 4 ?_) (fun z => absurd rfl z)
          · rw [k3 (by omega)]; rfl
          · rw [k3 (by omega)]; rfl
          · rw [k3 (by omega)]; rfl
          · rw [k4 (by omega)]; rfl
          · rw [k3 (by omega)]; rfl
        have nu : isD (B s) → Wp true i_M_ahead 120 [vr 103, vi (bv B n s)] [vi 1] (hs g 103 15 (bv B n s)) Q := by
          intro dd
          refine g_M_ahead_120 (fun z => absurd z (by decide)) (fun z => absurd z (by decide)) (fun z => absurd z (by decide)) (fun z => absurd z (by decide)) (fun z => absurd z (by decide)) (fun z => absurd z (by decide)) (fun _ => ?_)
          refine dl c nl dd (n - s) s _ _ rfl (Nat.le_refl _) hsn (Oth_hs o1 (by decide)) (by rw [hs_o (by decide)]; exact a13) (by rw [hs_o (by decide)]; exact a14) (by rw [hs_s]; omega) (fun _ => by rw [hs_s, Nat.sub_self]; rfl) (fun z h1 h2 => by omega) ?_
          unfold tE
          rw [if_neg (by omega), if_neg nl, if_pos dd]
        refine g_M_isDigit_0 (fun z => sg (fun y => ?_)) (fun _ z => sg (fun y => ?_)) (fun z1 z2 => nu (bd'.mp ⟨by omega, by omega⟩).2)
        · have := bd'.mpr ⟨c, y⟩; omega
        · have := bd'.mpr ⟨c, y⟩; omega
      refine g_M_isSmall_0 (fun z => ot (fun y => ?_)) (fun _ z => ot (fun y => ?_)) (fun z1 z2 => g_M_ahead_78 (fun z => absurd z (by decide)) (fun _ => ?_))
      · have := bl.mpr ⟨c, y⟩; omega
      · have := bl.mpr ⟨c, y⟩; omega
      · have l := (bl.mp ⟨by omega, by omega⟩).2
        exact wl c l (n - s) s _ _ rfl (Nat.le_refl _) hsn o1 a13 a14 (tE_w (tK_w.mpr ⟨c, l⟩)).symm
    · have eb : bv B n s = -1 := by unfold bv; rw [if_pos (by omega)]
      have eE : tE B n s = s := by unfold tE; rw [if_pos (by omega)]
      have eK : tK B n s = 0 := by unfold tK; rw [if_pos (by omega)]
      refine g_M_ahead_55 (fun z => absurd eb z) (fun z => ?_)
      have oo := Oth_hs (i := 12) (v := 0) o1 (by decide)
      refine k _ ⟨TpM_o T oo (by decide), hsn, ?_, ?_, ?_, fun q => by omega, fun q => by omega⟩ oo
      · rw [hs_o (by decide), hs_o (by decide)]; exact g13
      · rw [hs_o (by decide), hs_o (by decide), g14, eE]
      · rw [hs_s, eK]; rfl
  have lp : ∀ (d q : Nat) (g : HP), n - q = d → q ≤ n → Oth 103 TLM h g → g 103 14 = q → rn isBk B (n - q) q = s → Wp true i_M_ahead 0 [vr 103, vr 9999] [] g Q := by
    intro d
    induction d with
    | zero =>
      intro q g hd h1 o g14 e
      have eq : q = s := by rw [← e, rn_n (Or.inl (by omega))]
      have Tg := TpM_o T o (by decide)
      have b1 : bv B n q = -1 := by unfold bv; rw [if_pos (by omega)]
      refine g_M_ahead_0 (c_M_byteAt (p := q) Tg g14 (g_M_ahead_8 (fun z => by omega) (fun z => by omega) (fun _ => c_M_byteAt (p := q) Tg g14 (g_M_ahead_21 (fun _ => ?_) (fun z => by omega) (fun z => by omega)))))
      refine c_M_byteAt (p := s) (TpM_o T (Oth_hs o (by decide)) (by decide)) (by rw [g14, eq]) (fi _ (Oth_hs o (by decide)) (by rw [hs_o (by decide), g14, eq]) (by rw [hs_s, g14, eq]))
    | succ d ih =>
      intro q g hd h1 o g14 e
      have Tg := TpM_o T o (by decide)
      have r := rg q (by omega)
      have bb : bv B n q = 32 ∨ bv B n q = 10 ↔ isBk (B q) := by
        unfold bv
        rw [if_neg (by omega)]
        split <;> omega
      have st : isBk (B q) → Wp true i_M_ahead 0 [vr 103, vr 9999] [] (hs g 103 14 ((g 103 14) + 1)) Q := fun c => ih (q + 1) _ (by omega) (by omega) (Oth_hs o (by decide)) (by rw [hs_s, g14]; omega) ((rn_y (by omega) c).symm.trans e)
      refine g_M_ahead_0 (c_M_byteAt (p := q) Tg g14 (g_M_ahead_8 (fun z => by omega) (fun z => st (bb.mp (Or.inl z))) (fun z1 => c_M_byteAt (p := q) Tg g14 (g_M_ahead_21 (fun z2 => ?_) (fun z => by omega) (fun z => st (bb.mp (Or.inr z)))))))
      have nb : ¬ isBk (B q) := fun y => by have := bb.mpr y; omega
      have eq : q = s := by rw [← e, rn_n (Or.inr nb)]
      refine c_M_byteAt (p := s) (TpM_o T (Oth_hs o (by decide)) (by decide)) (by rw [g14, eq]) (fi _ (Oth_hs o (by decide)) (by rw [hs_o (by decide), g14, eq]) (by rw [hs_s, g14, eq]))
  exact lp (n - p) p h rfl hp Oth_r e14 es.symm
theorem c_M_nx {Q : PQ} {h : HP} {B : Bt} {n s : Nat} (S : MS B n s h) (k : ∀ g, MS B n (nx B n s) g → Oth 103 TLM h g → Q none g) : Wp true i_M_ahead 0 [vr 103, vr 9999] [] h Q :=
  c_M_ahead S.1 (tE_b S.2.1).2 S.2.2.2.1 k
