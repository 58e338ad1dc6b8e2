theorem g_En_weigh_0 {Q : PQ} {h : HP}  {f1 : Nat} (h_f1 : isF f1)
    (k1 : Wp true i_Ar_fillI 0 [vr 98, vi 0, vr 9999, vr 9999] [] h (fun r h' => Wp true i_En_weigh 8 [vr 97, vr f1, vr 9999] (r.toList ++ []) h' Q)) :
    Wp true i_En_weigh 0 [vr 97, vr f1, vr 9999] [] h Q := by
  refine r_aload_n (v := 97) f_24_0 rfl (by decide) ?_
  refine r_getr (q := 98) f_24_1 rfl (by decide) (Or.inl rfl) rfl ?_
  refine r_iconst f_24_4 (by decide) ?_
  exact r_calls (as := [vr 98, vi 0]) (st' := []) (ls0 := [vr 98, vi 0, vr 9999, vr 9999]) f_24_5 (by decide) (by decide) rfl rfl (Nat.le_of_ble_eq_true rfl) (Nat.le_of_ble_eq_true rfl) rfl k1

theorem g_En_weigh_8 {Q : PQ} {h : HP}  {f1 : Nat} (h_f1 : isF f1)
    (k1 : Wp true i_En_weigh 10 [vr 97, vr f1, vi 0] [] h Q) :
    Wp true i_En_weigh 8 [vr 97, vr f1, vr 9999] [] h Q := by
  refine r_iconst f_24_8 (by decide) ?_
  refine r_istore_n (ls' := [vr 97, vr f1, vi 0]) f_24_9 (Nat.le_of_ble_eq_true rfl) rfl ?_
  exact k1

theorem g_En_weigh_10 {Q : PQ} {h : HP} {x2 : Int} {f1 : Nat} (h_f1 : isF f1)
    (k1 : h f1 3 ≤ x2 → Q none h)
    (o2 : ¬ h f1 3 ≤ x2 → 0 ≤ x2 ∧ x2 < 10)
    (o3 : ¬ h f1 3 ≤ x2 → 0 ≤ h (f1 + 7) x2.toNat → -2147483648 ≤ x2 + 1 ∧ x2 + 1 ≤ 2147483647)
    (k4 : ¬ h f1 3 ≤ x2 → 0 ≤ h (f1 + 7) x2.toNat → Wp true i_En_weigh 10 [vr 97, vr f1, vi (x2 + 1)] [] h Q)
    (o5 : ¬ h f1 3 ≤ x2 → ¬ 0 ≤ h (f1 + 7) x2.toNat → 0 ≤ (h (f1 + 4) x2.toNat) ∧ (h (f1 + 4) x2.toNat) < 100)
    (o6 : ¬ h f1 3 ≤ x2 → ¬ 0 ≤ h (f1 + 7) x2.toNat → 0 ≤ (h (f1 + 5) x2.toNat) ∧ (h (f1 + 5) x2.toNat) < 100)
    (o7 : ¬ h f1 3 ≤ x2 → ¬ 0 ≤ h (f1 + 7) x2.toNat → WR (rmC h f1))
    (o8 : ¬ h f1 3 ≤ x2 → ¬ 0 ≤ h (f1 + 7) x2.toNat → 0 ≤ x2 ∧ x2 < h f1 3)
    (o9 : ¬ h f1 3 ≤ x2 → ¬ 0 ≤ h (f1 + 7) x2.toNat → -2147483648 ≤ (rWo (rmC h f1) 0 x2.toNat) + (rWo (rmC h f1) 1 x2.toNat) ∧ (rWo (rmC h f1) 0 x2.toNat) + (rWo (rmC h f1) 1 x2.toNat) ≤ 2147483647)
    (o10 : ¬ h f1 3 ≤ x2 → ¬ 0 ≤ h (f1 + 7) x2.toNat → 0 ≤ (h (f1 + 5) x2.toNat) * 9 + (h (f1 + 4) x2.toNat) ∧ (h (f1 + 5) x2.toNat) * 9 + (h (f1 + 4) x2.toNat) < 63)
    (o11 : ¬ h f1 3 ≤ x2 → ¬ 0 ≤ h (f1 + 7) x2.toNat → -2147483648 ≤ x2 + 1 ∧ x2 + 1 ≤ 2147483647)
    (k12 : ¬ h f1 3 ≤ x2 → ¬ 0 ≤ h (f1 + 7) x2.toNat → Wp true i_En_weigh 10 [vr 97, vr f1, vi (x2 + 1)] [] (hs h 98 ((h (f1 + 5) x2.toNat) * 9 + (h (f1 + 4) x2.toNat)).toNat ((rWo (rmC h f1) 0 x2.toNat) + (rWo (rmC h f1) 1 x2.toNat))) Q) :
    Wp true i_En_weigh 10 [vr 97, vr f1, vi x2] [] h Q := by
  refine r_iload_n (v := x2) f_24_10 rfl ?_
  refine r_aload_n (v := f1) f_24_11 rfl (F_n h_f1) ?_
  refine r_geti (v := h f1 3) f_24_12 (F_k h_f1) (by decide) rfl ?_
  refine r_br2 (t := 66) f_24_15 rfl cb_ge (fun c1 => ?_) (fun c1 => ?_)
  · exact r_retv f_24_66 rfl (k1 c1)
  · refine r_aload_n (v := f1) f_24_18 rfl (F_n h_f1) ?_
    refine r_getr (q := (f1 + 7)) f_24_19 (F_k h_f1) (by decide) (Or.inl rfl) rfl ?_
    refine r_iload_n (v := x2) f_24_22 rfl ?_
    refine r_iaload (n := 10) (v := h (f1 + 7) x2.toNat) f_24_23 (F_7 h_f1) (o2 c1) rfl ?_
    refine r_br (t := 60) f_24_24 rfl cb_ge (fun c2 => ?_) (fun c2 => ?_)
    · refine r_iinc (v := x2) (w := x2 + 1) (ls' := [vr 97, vr f1, vi (x2 + 1)]) f_24_60 rfl rfl (o3 c1 c2) rfl ?_
      refine r_goto (t := 10) f_24_63 rfl ?_
      exact (k4 c1 c2)
    · refine r_aload_n (v := 97) f_24_27 rfl (by decide) ?_
      refine r_getr (q := 98) f_24_28 rfl (by decide) (Or.inl rfl) rfl ?_
      refine r_aload_n (v := f1) f_24_31 rfl (F_n h_f1) ?_
      refine r_getr (q := (f1 + 4)) f_24_32 (F_k h_f1) (by decide) (Or.inl rfl) rfl ?_
      refine r_iload_n (v := x2) f_24_35 rfl ?_
      refine r_iaload (n := 10) (v := h (f1 + 4) x2.toNat) f_24_36 (F_4 h_f1) (o2 c1) rfl ?_
      refine r_aload_n (v := f1) f_24_37 rfl (F_n h_f1) ?_
      refine r_getr (q := (f1 + 5)) f_24_38 (F_k h_f1) (by decide) (Or.inl rfl) rfl ?_
      refine r_iload_n (v := x2) f_24_41 rfl ?_
      refine r_iaload (n := 10) (v := h (f1 + 5) x2.toNat) f_24_42 (F_5 h_f1) (o2 c1) rfl ?_
      refine r_calls (as := [vi (h (f1 + 4) x2.toNat), vi (h (f1 + 5) x2.toNat)]) (st' := [vr 98]) (ls0 := [vi (h (f1 + 4) x2.toNat), vi (h (f1 + 5) x2.toNat)]) f_24_43 (by decide) (by decide) rfl rfl (Nat.le_of_ble_eq_true rfl) (Nat.le_of_ble_eq_true rfl) rfl ?_
      refine c_C_boardNumber (o5 c1 c2) (o6 c1 c2) ?_
      show Wp true i_En_weigh 46 [vr 97, vr f1, vi x2] [vi ((h (f1 + 5) x2.toNat) * 9 + (h (f1 + 4) x2.toNat)), vr 98] h Q
      refine r_aload_n (v := f1) f_24_46 rfl (F_n h_f1) ?_
      refine r_iconst f_24_47 (by decide) ?_
      refine r_iload_n (v := x2) f_24_48 rfl ?_
      refine r_callv (as := [vr f1, vi 0, vi x2]) (st' := [vi ((h (f1 + 5) x2.toNat) * 9 + (h (f1 + 4) x2.toNat)), vr 98]) (ls0 := [vr f1, vi 0, vi x2]) f_24_49 (by decide) rfl rfl (Nat.le_of_ble_eq_true rfl) (Nat.le_of_ble_eq_true rfl) ⟨_, _, rfl, (F_k h_f1)⟩ rfl ?_
      refine c_Fl_worthTo h_f1 (o7 c1 c2) (by decide) (o8 c1 c2) ?_
      show Wp true i_En_weigh 52 [vr 97, vr f1, vi x2] [vi (rWo (rmC h f1) 0 x2.toNat), vi ((h (f1 + 5) x2.toNat) * 9 + (h (f1 + 4) x2.toNat)), vr 98] h Q
      refine r_aload_n (v := f1) f_24_52 rfl (F_n h_f1) ?_
      refine r_iconst f_24_53 (by decide) ?_
      refine r_iload_n (v := x2) f_24_54 rfl ?_
      refine r_callv (as := [vr f1, vi 1, vi x2]) (st' := [vi (rWo (rmC h f1) 0 x2.toNat), vi ((h (f1 + 5) x2.toNat) * 9 + (h (f1 + 4) x2.toNat)), vr 98]) (ls0 := [vr f1, vi 1, vi x2]) f_24_55 (by decide) rfl rfl (Nat.le_of_ble_eq_true rfl) (Nat.le_of_ble_eq_true rfl) ⟨_, _, rfl, (F_k h_f1)⟩ rfl ?_
      refine c_Fl_worthTo h_f1 (o7 c1 c2) (by decide) (o8 c1 c2) ?_
      show Wp true i_En_weigh 58 [vr 97, vr f1, vi x2] [vi (rWo (rmC h f1) 1 x2.toNat), vi (rWo (rmC h f1) 0 x2.toNat), vi ((h (f1 + 5) x2.toNat) * 9 + (h (f1 + 4) x2.toNat)), vr 98] h Q
      refine r_iadd (u := (rWo (rmC h f1) 0 x2.toNat) + (rWo (rmC h f1) 1 x2.toNat)) f_24_58 rfl (o9 c1 c2) ?_
      refine r_iastore (n := 63) f_24_59 ⟨rfl, rfl⟩ (o10 c1 c2) ?_
      refine r_iinc (v := x2) (w := x2 + 1) (ls' := [vr 97, vr f1, vi (x2 + 1)]) f_24_60 rfl rfl (o11 c1 c2) rfl ?_
      refine r_goto (t := 10) f_24_63 rfl ?_
      exact (k12 c1 c2)

theorem g_En_bestAnswer_0 {Q : PQ} {h : HP} {x2 : Int} {f1 : Nat} (h_f1 : isF f1)
    (k1 : Wp true i_En_bestAnswer 5 [vr 97, vr f1, vi x2, vi 0, vi 0, vr 9999] [] h Q) :
    Wp true i_En_bestAnswer 0 [vr 97, vr f1, vi x2, vr 9999, vr 9999, vr 9999] [] h Q := by
  refine r_iconst f_25_0 (by decide) ?_
  refine r_istore_n (ls' := [vr 97, vr f1, vi x2, vi 0, vr 9999, vr 9999]) f_25_1 (Nat.le_of_ble_eq_true rfl) rfl ?_
  refine r_iconst f_25_2 (by decide) ?_
  refine r_istore (ls' := [vr 97, vr f1, vi x2, vi 0, vi 0, vr 9999]) f_25_3 (Nat.le_of_ble_eq_true rfl) rfl ?_
  exact k1

theorem g_En_bestAnswer_5 {Q : PQ} {h : HP} {x2 : Int} {x3 : Int} {x4 : Int} {j5 : AV} {f1 : Nat} (h_f1 : isF f1)
    (k1 : h f1 1 ≤ x4 → Q (some (vi x3)) h)
    (o2 : ¬ h f1 1 ≤ x4 → ¬ x4 = x2 → 0 ≤ x4 ∧ x4 < 7)
    (k3 : ¬ h f1 1 ≤ x4 → ¬ x4 = x2 → Wp true i_En_bestAnswer 39 [vr 97, vr f1, vi x2, vi x3, vi x4, j5] [vi (h (f1 + 2) x4.toNat)] h Q)
    (o4 : ¬ h f1 1 ≤ x4 → x4 = x2 → 0 ≤ x4 ∧ x4 < 7)
    (o5 : ¬ h f1 1 ≤ x4 → x4 = x2 → -2147483648 ≤ (h (f1 + 2) x4.toNat) + 1 ∧ (h (f1 + 2) x4.toNat) + 1 ≤ 2147483647)
    (k6 : ¬ h f1 1 ≤ x4 → x4 = x2 → Wp true i_En_bestAnswer 39 [vr 97, vr f1, vi x2, vi x3, vi x4, j5] [vi ((h (f1 + 2) x4.toNat) + 1)] h Q) :
    Wp true i_En_bestAnswer 5 [vr 97, vr f1, vi x2, vi x3, vi x4, j5] [] h Q := by
  refine r_iload (v := x4) f_25_5 rfl ?_
  refine r_aload_n (v := f1) f_25_7 rfl (F_n h_f1) ?_
  refine r_geti (v := h f1 1) f_25_8 (F_k h_f1) (by decide) rfl ?_
  refine r_br2 (t := 71) f_25_11 rfl cb_ge (fun c1 => ?_) (fun c1 => ?_)
  · refine r_iload_n (v := x3) f_25_71 rfl ?_
    exact r_reti f_25_72 rfl (k1 c1)
  · refine r_iload (v := x4) f_25_14 rfl ?_
    refine r_iload_n (v := x2) f_25_16 rfl ?_
    refine r_br2 (t := 32) f_25_17 rfl cb_ne (fun c2 => ?_) (fun c2 => ?_)
    · refine r_aload_n (v := f1) f_25_32 rfl (F_n h_f1) ?_
      refine r_getr (q := (f1 + 2)) f_25_33 (F_k h_f1) (by decide) (Or.inl rfl) rfl ?_
      refine r_iload (v := x4) f_25_36 rfl ?_
      refine r_iaload (n := 7) (v := h (f1 + 2) x4.toNat) f_25_38 (F_2 h_f1) (o2 c1 c2) rfl ?_
      exact (k3 c1 c2)
    · have c2 := Decidable.not_not.mp c2
      refine r_aload_n (v := f1) f_25_20 rfl (F_n h_f1) ?_
      refine r_getr (q := (f1 + 2)) f_25_21 (F_k h_f1) (by decide) (Or.inl rfl) rfl ?_
      refine r_iload (v := x4) f_25_24 rfl ?_
      refine r_iaload (n := 7) (v := h (f1 + 2) x4.toNat) f_25_26 (F_2 h_f1) (o4 c1 c2) rfl ?_
      refine r_iconst f_25_27 (by decide) ?_
      refine r_iadd (u := (h (f1 + 2) x4.toNat) + 1) f_25_28 rfl (o5 c1 c2) ?_
      refine r_goto (t := 39) f_25_29 rfl ?_
      exact (k6 c1 c2)

theorem g_En_bestAnswer_39 {Q : PQ} {h : HP} {x2 : Int} {x3 : Int} {x4 : Int} {j5 : AV} {s0 : Int} {f1 : Nat} (h_f1 : isF f1)
    (o1 : s0 ≤ 0 → -2147483648 ≤ x4 + 1 ∧ x4 + 1 ≤ 2147483647)
    (k2 : s0 ≤ 0 → Wp true i_En_bestAnswer 5 [vr 97, vr f1, vi x2, vi x3, vi (x4 + 1), vi s0] [] h Q)
    (o3 : ¬ s0 ≤ 0 → -2147483648 ≤ s0 - 1 ∧ s0 - 1 ≤ 2147483647)
    (o4 : ¬ s0 ≤ 0 → 0 ≤ (s0 - 1) ∧ (s0 - 1) < 100)
    (o5 : ¬ s0 ≤ 0 → 0 ≤ x4 ∧ x4 < 100)
    (o6 : ¬ s0 ≤ 0 → 0 ≤ x4 * 9 + (s0 - 1) ∧ x4 * 9 + (s0 - 1) < 63)
    (o7 : ¬ s0 ≤ 0 → -2147483648 ≤ x4 + 1 ∧ x4 + 1 ≤ 2147483647)
    (k8 : ¬ s0 ≤ 0 → Wp true i_En_bestAnswer 5 [vr 97, vr f1, vi x2, vi (max x3 (h 98 (x4 * 9 + (s0 - 1)).toNat)), vi (x4 + 1), vi s0] [] h Q) :
    Wp true i_En_bestAnswer 39 [vr 97, vr f1, vi x2, vi x3, vi x4, j5] [vi s0] h Q := by
  refine r_istore (ls' := [vr 97, vr f1, vi x2, vi x3, vi x4, vi s0]) f_25_39 (Nat.le_of_ble_eq_true rfl) rfl ?_
  refine r_iload (v := s0) f_25_41 rfl ?_
  refine r_br (t := 65) f_25_43 rfl cb_le (fun c1 => ?_) (fun c1 => ?_)
  · refine r_iinc (v := x4) (w := x4 + 1) (ls' := [vr 97, vr f1, vi x2, vi x3, vi (x4 + 1), vi s0]) f_25_65 rfl rfl (o1 c1) rfl ?_
    refine r_goto (t := 5) f_25_68 rfl ?_
    exact (k2 c1)
  · refine r_iload_n (v := x3) f_25_46 rfl ?_
    refine r_aload_n (v := 97) f_25_47 rfl (by decide) ?_
    refine r_getr (q := 98) f_25_48 rfl (by decide) (Or.inl rfl) rfl ?_
    refine r_iload (v := s0) f_25_51 rfl ?_
    refine r_iconst f_25_53 (by decide) ?_
    refine r_isub (u := s0 - 1) f_25_54 rfl (o3 c1) ?_
    refine r_iload (v := x4) f_25_55 rfl ?_
    refine r_calls (as := [vi (s0 - 1), vi x4]) (st' := [vr 98, vi x3]) (ls0 := [vi (s0 - 1), vi x4]) f_25_57 (by decide) (by decide) rfl rfl (Nat.le_of_ble_eq_true rfl) (Nat.le_of_ble_eq_true rfl) rfl ?_
    refine c_C_boardNumber (o4 c1) (o5 c1) ?_
    show Wp true i_En_bestAnswer 60 [vr 97, vr f1, vi x2, vi x3, vi x4, vi s0] [vi (x4 * 9 + (s0 - 1)), vr 98, vi x3] h Q
    refine r_iaload (n := 63) (v := h 98 (x4 * 9 + (s0 - 1)).toNat) f_25_60 ⟨rfl, rfl⟩ (o6 c1) rfl ?_
    refine r_calls (as := [vi x3, vi (h 98 (x4 * 9 + (s0 - 1)).toNat)]) (st' := []) (ls0 := [vi x3, vi (h 98 (x4 * 9 + (s0 - 1)).toNat)]) f_25_61 (by decide) (by decide) rfl rfl (Nat.le_of_ble_eq_true rfl) (Nat.le_of_ble_eq_true rfl) rfl ?_
    refine c_Ma_max  ?_
    show Wp true i_En_bestAnswer 64 [vr 97, vr f1, vi x2, vi x3, vi x4, vi s0] [vi (max x3 (h 98 (x4 * 9 + (s0 - 1)).toNat))] h Q
    refine r_istore_n (ls' := [vr 97, vr f1, vi x2, vi (max x3 (h 98 (x4 * 9 + (s0 - 1)).toNat)), vi x4, vi s0]) f_25_64 (Nat.le_of_ble_eq_true rfl) rfl ?_
    refine r_iinc (v := x4) (w := x4 + 1) (ls' := [vr 97, vr f1, vi x2, vi (max x3 (h 98 (x4 * 9 + (s0 - 1)).toNat)), vi (x4 + 1), vi s0]) f_25_65 rfl rfl (o7 c1) rfl ?_
    refine r_goto (t := 5) f_25_68 rfl ?_
    exact (k8 c1)

def GN (R : HP) (h : HP) : Prop := ∀ c r : Nat, isB R c r → h 98 (9 * r + c) = gnG R c r
theorem c_En_weigh {Q : PQ} {h R : HP} {f1 : Nat} (h_f1 : isF f1) (eR : rmC h f1 = R) (W : WR R)
    (kk : ∀ h', (∀ k, k ≠ 98 → h' k = h k) → GN R h' → Q none h') : Wp true i_En_weigh 0 [vr 97, vr f1, vr 9999] [] h Q := by
  have w := W.1
  have fl : f1 + 8 ≤ 82 := by unfold isF at h_f1; omega
  have fr : ∀ h1 : HP, (∀ k, k ≠ 98 → h1 k = h k) → rmC h1 f1 = R := fun h1 f => (rC_frame h_f1 (fun k hk => f k (by omega))).trans eR
  have chg : ∀ (d t : Nat) (h1 : HP), (t : Int) + d = R 0 3 → (∀ k, k ≠ 98 → h1 k = h k) → (∀ c r : Nat, isB R c r → h1 98 (9 * r + c) = sumF (fun t => gnT R c r t) t 0) → Wp true i_En_weigh 10 [vr 97, vr f1, vi (t : Int)] [] h1 Q := by
    intro d
    induction d with
    | zero =>
      intro t h1 e f I
      have dd := cdim (fr h1 f)
      have fin := kk h1 f (fun c r q => by rw [I c r q]; unfold gnG; rw [show (R 0 3).toNat = t by omega])
      exact g_En_weigh_10 h_f1 (fun _ => fin) (fun q => by omega) (fun q => by omega) (fun q => by omega) (fun q => by omega) (fun q => by omega) (fun q => by omega) (fun q => by omega) (fun q => by omega) (fun q => by omega) (fun q => by omega) (fun q => by omega)
    | succ d ih =>
      intro t h1 e f I
      have dd := cdim (fr h1 f)
      have en : ((t : Int)).toNat = t := Int.toNat_natCast _
      have ct := cR_t (h := h1) (f := f1) (i := t) (by omega)
      rw [fr h1 f] at ct
      have wt := W.2.2.1 t (by omega)
      obtain ⟨c0, ec0⟩ : ∃ c0 : Nat, R 2 t = c0 := ⟨(R 2 t).toNat, by omega⟩
      obtain ⟨r0, er0⟩ : ∃ r0 : Nat, R 3 t = r0 := ⟨(R 3 t).toNat, by omega⟩
      have wa := rWo_b W (ld := 0) (t := t) (by omega)
      have wb := rWo_b W (ld := 1) (t := t) (by omega)
      refine g_En_weigh_10 h_f1 (fun q => by omega) (fun _ => by omega) (fun _ _ => by omega) (fun _ z => ?_) (fun _ _ => by rw [en]; omega) (fun _ _ => by rw [en]; omega) (fun _ _ => by rw [fr h1 f]; exact W) (fun _ _ => by omega) (fun _ _ => by rw [en, fr h1 f]; omega) (fun _ _ => by rw [en]; omega) (fun _ _ => by omega) (fun _ z => ?_)
      · rw [en] at z
        refine ih (t + 1) h1 (by omega) f (fun c r q => ?_)
        rw [sumF_last, I c r q]
        unfold gnT
        rw [if_neg (fun y => by omega), Int.add_zero]
      · rw [en] at z ⊢
        rw [fr h1 f, ← ct.1, ← ct.2.1, show ((R 3 t) * 9 + R 2 t).toNat = 9 * r0 + c0 by omega]
        refine ih (t + 1) _ (by omega) (fun k hk => (hs_ne hk).trans (f k hk)) (fun c r q => ?_)
        have q1 := q.1
        rw [sumF_last]
        by_cases y : c = c0 ∧ r = r0
        · obtain ⟨rfl, rfl⟩ := y
          rw [hs_s, sumF_zero t 0 (fun j _ hj => by
            unfold gnT
            rw [if_neg (fun y => W.2.2.2.1 j t (by omega) (by omega) ⟨by omega, by omega⟩)])]
          unfold gnT
          rw [if_pos ⟨er0, by omega, ec0⟩, Int.zero_add]
        · rw [hs_o (Or.inr (by omega)), I c r q]
          unfold gnT
          rw [if_neg (fun x => y ⟨by omega, by omega⟩), Int.add_zero]
  refine g_En_weigh_0 h_f1 (c_Ar_fillI (n0 := 63) ⟨rfl, rfl⟩ (by decide) (by decide) (g_En_weigh_8 h_f1 ?_))
  refine chg (R 0 3).toNat 0 _ (by omega) (fun k hk => wr_ne hk) (fun c r q => ?_)
  have q1 := q.1
  have q2 := q.2
  rw [wr_in ⟨by omega, by omega⟩]
  rfl
