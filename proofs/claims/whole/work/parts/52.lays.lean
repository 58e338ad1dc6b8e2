theorem g_M_beside_0 {Q : PQ} {h : HP} {x1 : Int} {x2 : Int} 
    (o1 : 0 ≤ x1)
    (k2 : ¬ x2 = 0 → ¬ x2 = 1 → Wp true i_M_beside 22 [vr 103, vi x1, vi x2, vr 9999, vr 9999] [vi 0, vi (x1 % 10)] h Q)
    (k3 : ¬ x2 = 0 → x2 = 1 → Wp true i_M_beside 22 [vr 103, vi x1, vi x2, vr 9999, vr 9999] [vi 1, vi (x1 % 10)] h Q)
    (k4 : x2 = 0 → Wp true i_M_beside 22 [vr 103, vi x1, vi x2, vr 9999, vr 9999] [vi (-1), vi (x1 % 10)] h Q) :
    Wp true i_M_beside 0 [vr 103, vi x1, vi x2, vr 9999, vr 9999] [] h Q := by
  refine r_iload_n (v := x1) f_298_0 rfl ?_
  refine r_bipush f_298_1 (by decide) ?_
  refine r_irem f_298_3 o1 (by decide) ?_
  refine r_iload_n (v := x2) f_298_4 rfl ?_
  refine r_br (t := 12) f_298_5 rfl cb_ne (fun c1 => ?_) (fun c1 => ?_)
  · refine r_iload_n (v := x2) f_298_12 rfl ?_
    refine r_iconst f_298_13 (by decide) ?_
    refine r_br2 (t := 21) f_298_14 rfl cb_ne (fun c2 => ?_) (fun c2 => ?_)
    · refine r_iconst f_298_21 (by decide) ?_
      exact (k2 c1 c2)
    · have c2 := Decidable.not_not.mp c2
      refine r_iconst f_298_17 (by decide) ?_
      refine r_goto (t := 22) f_298_18 rfl ?_
      exact (k3 c1 c2)
  · have c1 := Decidable.not_not.mp c1
    refine r_iconst f_298_8 (by decide) ?_
    refine r_goto (t := 22) f_298_9 rfl ?_
    exact (k4 c1)

theorem g_M_beside_22 {Q : PQ} {h : HP} {x1 : Int} {x2 : Int} {s0 : Int} {s1 : Int} 
    (o1 : -2147483648 ≤ s0 + s1 ∧ s0 + s1 ≤ 2147483647)
    (o2 : 0 ≤ x1 ∧ x1 ≤ 2147483647)
    (k3 : ¬ x2 = 2 → ¬ x2 = 3 → Wp true i_M_beside 47 [vr 103, vi x1, vi x2, vi (s0 + s1), vr 9999] [vi 0, vi (x1 / 10)] h Q)
    (k4 : ¬ x2 = 2 → x2 = 3 → Wp true i_M_beside 47 [vr 103, vi x1, vi x2, vi (s0 + s1), vr 9999] [vi 1, vi (x1 / 10)] h Q)
    (k5 : x2 = 2 → Wp true i_M_beside 47 [vr 103, vi x1, vi x2, vi (s0 + s1), vr 9999] [vi (-1), vi (x1 / 10)] h Q) :
    Wp true i_M_beside 22 [vr 103, vi x1, vi x2, vr 9999, vr 9999] [vi s1, vi s0] h Q := by
  refine r_iadd (u := s0 + s1) f_298_22 rfl o1 ?_
  refine r_istore_n (ls' := [vr 103, vi x1, vi x2, vi (s0 + s1), vr 9999]) f_298_23 (Nat.le_of_ble_eq_true rfl) rfl ?_
  refine r_iload_n (v := x1) f_298_24 rfl ?_
  refine r_bipush f_298_25 (by decide) ?_
  refine r_idiv f_298_27 o2 (by decide) ?_
  refine r_iload_n (v := x2) f_298_28 rfl ?_
  refine r_iconst f_298_29 (by decide) ?_
  refine r_br2 (t := 37) f_298_30 rfl cb_ne (fun c1 => ?_) (fun c1 => ?_)
  · refine r_iload_n (v := x2) f_298_37 rfl ?_
    refine r_iconst f_298_38 (by decide) ?_
    refine r_br2 (t := 46) f_298_39 rfl cb_ne (fun c2 => ?_) (fun c2 => ?_)
    · refine r_iconst f_298_46 (by decide) ?_
      exact (k3 c1 c2)
    · have c2 := Decidable.not_not.mp c2
      refine r_iconst f_298_42 (by decide) ?_
      refine r_goto (t := 47) f_298_43 rfl ?_
      exact (k4 c1 c2)
  · have c1 := Decidable.not_not.mp c1
    refine r_iconst f_298_33 (by decide) ?_
    refine r_goto (t := 47) f_298_34 rfl ?_
    exact (k5 c1)

theorem g_M_beside_47 {Q : PQ} {h : HP} {x1 : Int} {x2 : Int} {x3 : Int} {s0 : Int} {s1 : Int} 
    (o1 : -2147483648 ≤ s0 + s1 ∧ s0 + s1 ≤ 2147483647)
    (o2 : 0 ≤ x1)
    (k3 : ¬ x1 % 10 = 0 → Wp true i_M_beside 61 [vr 103, vi x1, vi x2, vi x3, vi (s0 + s1)] [] h Q)
    (k4 : x1 % 10 = 0 → x2 = 0 → Q (some (vi (-1))) h)
    (k5 : x1 % 10 = 0 → ¬ x2 = 0 → Wp true i_M_beside 61 [vr 103, vi x1, vi x2, vi x3, vi (s0 + s1)] [] h Q) :
    Wp true i_M_beside 47 [vr 103, vi x1, vi x2, vi x3, vr 9999] [vi s1, vi s0] h Q := by
  refine r_iadd (u := s0 + s1) f_298_47 rfl o1 ?_
  refine r_istore (ls' := [vr 103, vi x1, vi x2, vi x3, vi (s0 + s1)]) f_298_48 (Nat.le_of_ble_eq_true rfl) rfl ?_
  refine r_iload_n (v := x1) f_298_50 rfl ?_
  refine r_bipush f_298_51 (by decide) ?_
  refine r_irem f_298_53 o2 (by decide) ?_
  refine r_br (t := 61) f_298_54 rfl cb_ne (fun c1 => ?_) (fun c1 => ?_)
  · exact (k3 c1)
  · have c1 := Decidable.not_not.mp c1
    refine r_iload_n (v := x2) f_298_57 rfl ?_
    refine r_br (t := 71) f_298_58 rfl cb_eq (fun c2 => ?_) (fun c2 => ?_)
    · refine r_iconst f_298_71 (by decide) ?_
      refine r_goto (t := 82) f_298_72 rfl ?_
      exact r_reti f_298_82 rfl (k4 c1 c2)
    · exact (k5 c1 c2)

theorem g_M_beside_61 {Q : PQ} {h : HP} {x1 : Int} {x2 : Int} {x3 : Int} {x4 : Int} 
    (o1 : (0 ≤ x3 ∧ x3 < h 104 0 ∧ 0 ≤ x4 ∧ x4 < h 104 1) → -2147483648 ≤ 10 * x4 ∧ 10 * x4 ≤ 2147483647)
    (o2 : (0 ≤ x3 ∧ x3 < h 104 0 ∧ 0 ≤ x4 ∧ x4 < h 104 1) → -2147483648 ≤ (10 * x4) + x3 ∧ (10 * x4) + x3 ≤ 2147483647)
    (k3 : (0 ≤ x3 ∧ x3 < h 104 0 ∧ 0 ≤ x4 ∧ x4 < h 104 1) → Q (some (vi ((10 * x4) + x3))) h)
    (k4 : ¬ (0 ≤ x3 ∧ x3 < h 104 0 ∧ 0 ≤ x4 ∧ x4 < h 104 1) → Q (some (vi (-1))) h) :
    Wp true i_M_beside 61 [vr 103, vi x1, vi x2, vi x3, vi x4] [] h Q := by
  refine r_aload_n (v := 103) f_298_61 rfl (by decide) ?_
  refine r_iload_n (v := x3) f_298_62 rfl ?_
  refine r_iload (v := x4) f_298_63 rfl ?_
  refine r_callv (as := [vr 103, vi x3, vi x4]) (st' := []) (ls0 := [vr 103, vi x3, vi x4]) f_298_65 (by decide) rfl rfl (Nat.le_of_ble_eq_true rfl) (Nat.le_of_ble_eq_true rfl) ⟨_, _, rfl, rfl⟩ rfl ?_
  refine c_M_isBoard  ?_
  show Wp true i_M_beside 68 [vr 103, vi x1, vi x2, vi x3, vi x4] [vi (bi (0 ≤ x3 ∧ x3 < h 104 0 ∧ 0 ≤ x4 ∧ x4 < h 104 1))] h Q
  refine r_br (t := 75) f_298_68 rfl cb_bt (fun c1 => ?_) (fun c1 => ?_)
  · refine r_bipush f_298_75 (by decide) ?_
    refine r_iload (v := x4) f_298_77 rfl ?_
    refine r_imul (u := 10 * x4) f_298_79 rfl (o1 c1) ?_
    refine r_iload_n (v := x3) f_298_80 rfl ?_
    refine r_iadd (u := (10 * x4) + x3) f_298_81 rfl (o2 c1) ?_
    exact r_reti f_298_82 rfl (k3 c1)
  · refine r_iconst f_298_71 (by decide) ?_
    refine r_goto (t := 82) f_298_72 rfl ?_
    exact r_reti f_298_82 rfl (k4 c1)

theorem c_M_beside {Q : PQ} {h : HP} {x1 : Int} {x2 : Int} (o1 : 0 ≤ x1 ∧ x1 < 70) (o2 : 0 ≤ x2 ∧ x2 < 4) (k : Q (some (vi (mbs (rmM h 0) x1 x2))) h) :
    Wp true i_M_beside 0 [vr 103, vi x1, vi x2, vr 9999, vr 9999] [] h Q := by
  have d := mdim (rfl : rmM h 0 = rmM h 0)
  have p61 : ∀ x3 x4 : Int, x3 = x1 % 10 + (if x2 = 0 then -1 else if x2 = 1 then 1 else 0) → x4 = x1 / 10 + (if x2 = 2 then -1 else if x2 = 3 then 1 else 0) → ¬ (x1 % 10 = 0 ∧ x2 = 0) → Wp true i_M_beside 61 [vr 103, vi x1, vi x2, vi x3, vi x4] [] h Q := by
    intro x3 x4 e3 e4 nz
    unfold mbs at k
    rw [if_neg nz, ← e3, ← e4, ← d.1, ← d.2.1] at k
    have r3 : -2 ≤ x3 ∧ x3 < 20 := by rw [e3]; split <;> (try split) <;> omega
    have r4 : -2 ≤ x4 ∧ x4 < 20 := by rw [e4]; split <;> (try split) <;> omega
    refine g_M_beside_61 (fun _ => by omega) (fun _ => by omega) (fun c => ?_) (fun c => ?_)
    · rw [if_pos c] at k; exact k
    · rw [if_neg c] at k; exact k
  have p47 : ∀ x3 s1 : Int, x3 = x1 % 10 + (if x2 = 0 then -1 else if x2 = 1 then 1 else 0) → s1 = (if x2 = 2 then -1 else if x2 = 3 then 1 else 0) → Wp true i_M_beside 47 [vr 103, vi x1, vi x2, vi x3, vr 9999] [vi s1, vi (x1 / 10)] h Q := by
    intro x3 s1 e3 e1
    have r1 : -1 ≤ s1 ∧ s1 ≤ 1 := by rw [e1]; split <;> (try split) <;> omega
    refine g_M_beside_47 (by omega) (by omega) (fun c => ?_) (fun c c2 => ?_) (fun c c2 => ?_)
    · exact p61 _ _ e3 (by rw [e1]) (by omega)
    · unfold mbs at k
      rw [if_pos ⟨c, c2⟩] at k
      exact k
    · exact p61 _ _ e3 (by rw [e1]) (by omega)
  have p22 : ∀ s1 : Int, s1 = (if x2 = 0 then -1 else if x2 = 1 then 1 else 0) → Wp true i_M_beside 22 [vr 103, vi x1, vi x2, vr 9999, vr 9999] [vi s1, vi (x1 % 10)] h Q := by
    intro s1 e1
    have r1 : -1 ≤ s1 ∧ s1 ≤ 1 := by rw [e1]; split <;> (try split) <;> omega
    refine g_M_beside_22 (by omega) (by omega) (fun c c2 => ?_) (fun c c2 => ?_) (fun c => ?_)
    · exact p47 _ _ (by rw [e1]) (by rw [if_neg c, if_neg c2])
    · exact p47 _ _ (by rw [e1]) (by rw [if_neg c, if_pos c2])
    · exact p47 _ _ (by rw [e1]) (by rw [if_pos c])
  refine g_M_beside_0 (by omega) (fun c c2 => ?_) (fun c c2 => ?_) (fun c => ?_)
  · exact p22 0 (by rw [if_neg c, if_neg c2])
  · exact p22 1 (by rw [if_neg c, if_pos c2])
  · exact p22 (-1) (by rw [if_pos c])

theorem g_M_isBoardOf_0 {Q : PQ} {h : HP} {x1 : Int} {x2 : Int} 
    (o1 : 0 ≤ x1)
    (o2 : 0 ≤ x1 ∧ x1 ≤ 2147483647)
    (k3 : ¬ (0 ≤ (x1 % 10) ∧ (x1 % 10) < h 104 0 ∧ 0 ≤ (x1 / 10) ∧ (x1 / 10) < h 104 1) → Q (some (vi 0)) h)
    (o4 : (0 ≤ (x1 % 10) ∧ (x1 % 10) < h 104 0 ∧ 0 ≤ (x1 / 10) ∧ (x1 / 10) < h 104 1) → WR (rmM h 0))
    (o5 : (0 ≤ (x1 % 10) ∧ (x1 % 10) < h 104 0 ∧ 0 ≤ (x1 / 10) ∧ (x1 / 10) < h 104 1) → 0 ≤ (x1 / 10) ∧ (x1 / 10) < h 104 1)
    (k6 : (0 ≤ (x1 % 10) ∧ (x1 % 10) < h 104 0 ∧ 0 ≤ (x1 / 10) ∧ (x1 / 10) < h 104 1) → ¬ rLand (rmM h 0) (x1 % 10) (x1 / 10) = x2 → Q (some (vi 0)) h)
    (k7 : (0 ≤ (x1 % 10) ∧ (x1 % 10) < h 104 0 ∧ 0 ≤ (x1 / 10) ∧ (x1 / 10) < h 104 1) → rLand (rmM h 0) (x1 % 10) (x1 / 10) = x2 → Q (some (vi 1)) h) :
    Wp true i_M_isBoardOf 0 [vr 103, vi x1, vi x2] [] h Q := by
  refine r_aload_n (v := 103) f_299_0 rfl (by decide) ?_
  refine r_iload_n (v := x1) f_299_1 rfl ?_
  refine r_bipush f_299_2 (by decide) ?_
  refine r_irem f_299_4 o1 (by decide) ?_
  refine r_iload_n (v := x1) f_299_5 rfl ?_
  refine r_bipush f_299_6 (by decide) ?_
  refine r_idiv f_299_8 o2 (by decide) ?_
  refine r_callv (as := [vr 103, vi (x1 % 10), vi (x1 / 10)]) (st' := []) (ls0 := [vr 103, vi (x1 % 10), vi (x1 / 10)]) f_299_9 (by decide) rfl rfl (Nat.le_of_ble_eq_true rfl) (Nat.le_of_ble_eq_true rfl) ⟨_, _, rfl, rfl⟩ rfl ?_
  refine c_M_isBoard  ?_
  show Wp true i_M_isBoardOf 12 [vr 103, vi x1, vi x2] [vi (bi (0 ≤ (x1 % 10) ∧ (x1 % 10) < h 104 0 ∧ 0 ≤ (x1 / 10) ∧ (x1 / 10) < h 104 1))] h Q
  refine r_br (t := 35) f_299_12 rfl cb_bf (fun c1 => ?_) (fun c1 => ?_)
  · refine r_iconst f_299_35 (by decide) ?_
    exact r_retz f_299_36 rfl (by decide) (k3 c1)
  · have c1 := Decidable.not_not.mp c1
    refine r_aload_n (v := 103) f_299_15 rfl (by decide) ?_
    refine r_iload_n (v := x1) f_299_16 rfl ?_
    refine r_bipush f_299_17 (by decide) ?_
    refine r_irem f_299_19 o1 (by decide) ?_
    refine r_iload_n (v := x1) f_299_20 rfl ?_
    refine r_bipush f_299_21 (by decide) ?_
    refine r_idiv f_299_23 o2 (by decide) ?_
    refine r_callv (as := [vr 103, vi (x1 % 10), vi (x1 / 10)]) (st' := []) (ls0 := [vr 103, vi (x1 % 10), vi (x1 / 10), vr 9999]) f_299_24 (by decide) rfl rfl (Nat.le_of_ble_eq_true rfl) (Nat.le_of_ble_eq_true rfl) ⟨_, _, rfl, rfl⟩ rfl ?_
    refine c_M_landOf (o4 c1) (o5 c1) ?_
    show Wp true i_M_isBoardOf 27 [vr 103, vi x1, vi x2] [vi (rLand (rmM h 0) (x1 % 10) (x1 / 10))] h Q
    refine r_iload_n (v := x2) f_299_27 rfl ?_
    refine r_br2 (t := 35) f_299_28 rfl cb_ne (fun c2 => ?_) (fun c2 => ?_)
    · refine r_iconst f_299_35 (by decide) ?_
      exact r_retz f_299_36 rfl (by decide) (k6 c1 c2)
    · have c2 := Decidable.not_not.mp c2
      refine r_iconst f_299_31 (by decide) ?_
      refine r_goto (t := 36) f_299_32 rfl ?_
      exact r_retz f_299_36 rfl (by decide) (k7 c1 c2)

theorem c_M_isBoardOf {Q : PQ} {h : HP} {x1 : Int} {x2 : Int} (o1 : WR (rmM h 0)) (o2 : 0 ≤ x1 ∧ x1 < 70) (k : Q (some (vi (bi ((0 ≤ x1 % 10 ∧ x1 % 10 < h 104 0 ∧ 0 ≤ x1 / 10 ∧ x1 / 10 < h 104 1) ∧ rLand (rmM h 0) (x1 % 10) (x1 / 10) = x2)))) h) :
    Wp true i_M_isBoardOf 0 [vr 103, vi x1, vi x2] [] h Q := by
  refine g_M_isBoardOf_0 ?_ ?_ ?_ ?_ ?_ ?_ ?_
  · first | omega | (exfalso; omega) | exact ⟨by omega, by omega⟩ | (exact o1) | exact absurd trivial ‹¬ True›
  · first | omega | (exfalso; omega) | exact ⟨by omega, by omega⟩ | (exact o1) | exact absurd trivial ‹¬ True›
  · intro c1; (try simp only [Int.toNat_natCast] at c1); first | (exfalso; omega) | exact absurd trivial ‹¬ True› | (exact kf k (fun q => c1 q.1))
  · intro c1; (try simp only [Int.toNat_natCast] at c1); first | omega | (exfalso; omega) | exact ⟨by omega, by omega⟩ | (exact o1) | exact absurd trivial ‹¬ True›
  · intro c1; (try simp only [Int.toNat_natCast] at c1); first | omega | (exfalso; omega) | exact ⟨by omega, by omega⟩ | (exact o1) | exact absurd trivial ‹¬ True›
  · intro c1 c2; (try simp only [Int.toNat_natCast] at c1 c2); first | (exfalso; omega) | exact absurd trivial ‹¬ True› | (exact kf k (fun q => c2 q.2))
  · intro c1 c2; (try simp only [Int.toNat_natCast] at c1 c2); first | (exfalso; omega) | exact absurd trivial ‹¬ True› | (exact kt k ⟨c1, c2⟩)

theorem g_M_boardOf_0 {Q : PQ} {h : HP} {x1 : Int} 
    (o1 : 0 ≤ x1 ∧ x1 < 100)
    (o2 : -2147483648 ≤ (15 + 6 * x1) + 1 ∧ (15 + 6 * x1) + 1 ≤ 2147483647)
    (o3 : 0 ≤ (15 + 6 * x1) + 1 ∧ (15 + 6 * x1) + 1 < 3000)
    (o4 : -2147483648 ≤ 10 * (h 104 ((15 + 6 * x1) + 1).toNat) ∧ 10 * (h 104 ((15 + 6 * x1) + 1).toNat) ≤ 2147483647)
    (o5 : 0 ≤ 15 + 6 * x1 ∧ 15 + 6 * x1 < 3000)
    (o6 : -2147483648 ≤ (10 * (h 104 ((15 + 6 * x1) + 1).toNat)) + (h 104 (15 + 6 * x1).toNat) ∧ (10 * (h 104 ((15 + 6 * x1) + 1).toNat)) + (h 104 (15 + 6 * x1).toNat) ≤ 2147483647)
    (k7 : Q (some (vi ((10 * (h 104 ((15 + 6 * x1) + 1).toNat)) + (h 104 (15 + 6 * x1).toNat)))) h) :
    Wp true i_M_boardOf 0 [vr 103, vi x1] [] h Q := by
  refine r_bipush f_322_0 (by decide) ?_
  refine r_aload_n (v := 103) f_322_2 rfl (by decide) ?_
  refine r_getr (q := 104) f_322_3 rfl (by decide) (Or.inl rfl) rfl ?_
  refine r_iload_n (v := x1) f_322_6 rfl ?_
  refine r_calls (as := [vi x1]) (st' := [vr 104, vi 10]) (ls0 := [vi x1]) f_322_7 (by decide) (by decide) rfl rfl (Nat.le_of_ble_eq_true rfl) (Nat.le_of_ble_eq_true rfl) rfl ?_
  refine c_M_thingRow o1 ?_
  show Wp true i_M_boardOf 10 [vr 103, vi x1] [vi (15 + 6 * x1), vr 104, vi 10] h Q
  refine r_iconst f_322_10 (by decide) ?_
  refine r_iadd (u := (15 + 6 * x1) + 1) f_322_11 rfl o2 ?_
  refine r_iaload (n := 3000) (v := h 104 ((15 + 6 * x1) + 1).toNat) f_322_12 ⟨rfl, rfl⟩ o3 rfl ?_
  refine r_imul (u := 10 * (h 104 ((15 + 6 * x1) + 1).toNat)) f_322_13 rfl o4 ?_
  refine r_aload_n (v := 103) f_322_14 rfl (by decide) ?_
  refine r_getr (q := 104) f_322_15 rfl (by decide) (Or.inl rfl) rfl ?_
  refine r_iload_n (v := x1) f_322_18 rfl ?_
  refine r_calls (as := [vi x1]) (st' := [vr 104, vi (10 * (h 104 ((15 + 6 * x1) + 1).toNat))]) (ls0 := [vi x1]) f_322_19 (by decide) (by decide) rfl rfl (Nat.le_of_ble_eq_true rfl) (Nat.le_of_ble_eq_true rfl) rfl ?_
  refine c_M_thingRow o1 ?_
  show Wp true i_M_boardOf 22 [vr 103, vi x1] [vi (15 + 6 * x1), vr 104, vi (10 * (h 104 ((15 + 6 * x1) + 1).toNat))] h Q
  refine r_iaload (n := 3000) (v := h 104 (15 + 6 * x1).toNat) f_322_22 ⟨rfl, rfl⟩ o5 rfl ?_
  refine r_iadd (u := (10 * (h 104 ((15 + 6 * x1) + 1).toNat)) + (h 104 (15 + 6 * x1).toNat)) f_322_23 rfl o6 ?_
  exact r_reti f_322_24 rfl k7

theorem c_M_boardOf {Q : PQ} {h : HP} {x1 : Int} (o1 : WR (rmM h 0)) (o2 : 0 ≤ x1 ∧ x1 < h 104 2) (k : Q (some (vi (10 * rmM h 0 3 x1.toNat + rmM h 0 2 x1.toNat))) h) :
    Wp true i_M_boardOf 0 [vr 103, vi x1] [] h Q := by
  have w := WM_0 o1
  obtain ⟨a1, a2, a3, a4⟩ := WM_t o1 o2.1 o2.2
  rw [← a1, ← a2] at k
  rw [← a1] at a3
  rw [← a2] at a4
  refine g_M_boardOf_0 ?_ ?_ ?_ ?_ ?_ ?_ ?_
  · first | omega | (exfalso; omega) | exact ⟨by omega, by omega⟩ | (omega) | exact absurd trivial ‹¬ True›
  · first | omega | (exfalso; omega) | exact ⟨by omega, by omega⟩ | (omega) | exact absurd trivial ‹¬ True›
  · first | omega | (exfalso; omega) | exact ⟨by omega, by omega⟩ | (omega) | exact absurd trivial ‹¬ True›
  · first | omega | (exfalso; omega) | exact ⟨by omega, by omega⟩ | (omega) | exact absurd trivial ‹¬ True›
  · first | omega | (exfalso; omega) | exact ⟨by omega, by omega⟩ | (omega) | exact absurd trivial ‹¬ True›
  · first | omega | (exfalso; omega) | exact ⟨by omega, by omega⟩ | (omega) | exact absurd trivial ‹¬ True›
  · exact k

theorem g_M_laysIslands_0 {Q : PQ} {h : HP} {x1 : Int} {x2 : Int} 
    (k1 : Wp true i_M_laysIslands 5 [vr 103, vi x1, vi x2, vi 0, vi 0, vr 9999, vr 9999, vr 9999, vr 9999] [] h Q) :
    Wp true i_M_laysIslands 0 [vr 103, vi x1, vi x2, vr 9999, vr 9999, vr 9999, vr 9999, vr 9999, vr 9999] [] h Q := by
  refine r_iconst f_316_0 (by decide) ?_
  refine r_istore_n (ls' := [vr 103, vi x1, vi x2, vi 0, vr 9999, vr 9999, vr 9999, vr 9999, vr 9999]) f_316_1 (Nat.le_of_ble_eq_true rfl) rfl ?_
  refine r_iconst f_316_2 (by decide) ?_
  refine r_istore (ls' := [vr 103, vi x1, vi x2, vi 0, vi 0, vr 9999, vr 9999, vr 9999, vr 9999]) f_316_3 (Nat.le_of_ble_eq_true rfl) rfl ?_
  exact k1

theorem g_M_laysIslands_5 {Q : PQ} {h : HP} {x1 : Int} {x2 : Int} {x3 : Int} {x4 : Int} 
    (k1 : 70 ≤ x4 → Wp true i_M_laysIslands 29 [vr 103, vi x1, vi x2, vi x3, vi 0, vr 9999, vr 9999, vr 9999, vr 9999] [] h Q)
    (o2 : ¬ 70 ≤ x4 → 0 ≤ x4 ∧ x4 < 70)
    (o3 : ¬ 70 ≤ x4 → -2147483648 ≤ x4 + 1 ∧ x4 + 1 ≤ 2147483647)
    (k4 : ¬ 70 ≤ x4 → Wp true i_M_laysIslands 5 [vr 103, vi x1, vi x2, vi x3, vi (x4 + 1), vr 9999, vr 9999, vr 9999, vr 9999] [] (hs h 112 x4.toNat (-1)) Q) :
    Wp true i_M_laysIslands 5 [vr 103, vi x1, vi x2, vi x3, vi x4, vr 9999, vr 9999, vr 9999, vr 9999] [] h Q := by
  refine r_iload (v := x4) f_316_5 rfl ?_
  refine r_bipush f_316_7 (by decide) ?_
  refine r_br2 (t := 26) f_316_9 rfl cb_ge (fun c1 => ?_) (fun c1 => ?_)
  · refine r_iconst f_316_26 (by decide) ?_
    refine r_istore (ls' := [vr 103, vi x1, vi x2, vi x3, vi 0, vr 9999, vr 9999, vr 9999, vr 9999]) f_316_27 (Nat.le_of_ble_eq_true rfl) rfl ?_
    exact (k1 c1)
  · refine r_aload_n (v := 103) f_316_12 rfl (by decide) ?_
    refine r_getr (q := 112) f_316_13 rfl (by decide) (Or.inl rfl) rfl ?_
    refine r_iload (v := x4) f_316_16 rfl ?_
    refine r_iconst f_316_18 (by decide) ?_
    refine r_iastore (n := 70) f_316_19 ⟨rfl, rfl⟩ (o2 c1) ?_
    refine r_iinc (v := x4) (w := x4 + 1) (ls' := [vr 103, vi x1, vi x2, vi x3, vi (x4 + 1), vr 9999, vr 9999, vr 9999, vr 9999]) f_316_20 rfl rfl (o3 c1) rfl ?_
    refine r_goto (t := 5) f_316_23 rfl ?_
    exact (k4 c1)

theorem g_M_laysIslands_29 {Q : PQ} {h : HP} {x1 : Int} {x2 : Int} {x3 : Int} {x4 : Int} {j5 : AV} {j6 : AV} {j7 : AV} {j8 : AV} 
    (k1 : 70 ≤ x4 → Q (some (vi x3)) h)
    (o2 : ¬ 70 ≤ x4 → WR (rmM h 0))
    (o3 : ¬ 70 ≤ x4 → 0 ≤ x4 ∧ x4 < 70)
    (k4 : ¬ 70 ≤ x4 → ((0 ≤ x4 % 10 ∧ x4 % 10 < h 104 0 ∧ 0 ≤ x4 / 10 ∧ x4 / 10 < h 104 1) ∧ rLand (rmM h 0) (x4 % 10) (x4 / 10) = x1) → Wp true i_M_laysIslands 52 [vr 103, vi x1, vi x2, vi x3, vi x4, j5, j6, j7, j8] [] h Q)
    (o5 : ¬ 70 ≤ x4 → ¬ ((0 ≤ x4 % 10 ∧ x4 % 10 < h 104 0 ∧ 0 ≤ x4 / 10 ∧ x4 / 10 < h 104 1) ∧ rLand (rmM h 0) (x4 % 10) (x4 / 10) = x1) → ¬ x4 = x2 → -2147483648 ≤ x4 + 1 ∧ x4 + 1 ≤ 2147483647)
    (k6 : ¬ 70 ≤ x4 → ¬ ((0 ≤ x4 % 10 ∧ x4 % 10 < h 104 0 ∧ 0 ≤ x4 / 10 ∧ x4 / 10 < h 104 1) ∧ rLand (rmM h 0) (x4 % 10) (x4 / 10) = x1) → ¬ x4 = x2 → Wp true i_M_laysIslands 29 [vr 103, vi x1, vi x2, vi x3, vi (x4 + 1), j5, j6, j7, j8] [] h Q)
    (k7 : ¬ 70 ≤ x4 → ¬ ((0 ≤ x4 % 10 ∧ x4 % 10 < h 104 0 ∧ 0 ≤ x4 / 10 ∧ x4 / 10 < h 104 1) ∧ rLand (rmM h 0) (x4 % 10) (x4 / 10) = x1) → x4 = x2 → Wp true i_M_laysIslands 52 [vr 103, vi x1, vi x2, vi x3, vi x4, j5, j6, j7, j8] [] h Q) :
    Wp true i_M_laysIslands 29 [vr 103, vi x1, vi x2, vi x3, vi x4, j5, j6, j7, j8] [] h Q := by
  refine r_iload (v := x4) f_316_29 rfl ?_
  refine r_bipush f_316_31 (by decide) ?_
  refine r_br2 (t := 217) f_316_33 rfl cb_ge (fun c1 => ?_) (fun c1 => ?_)
  · refine r_iload_n (v := x3) f_316_217 rfl ?_
    exact r_reti f_316_218 rfl (k1 c1)
  · refine r_aload_n (v := 103) f_316_36 rfl (by decide) ?_
    refine r_iload (v := x4) f_316_37 rfl ?_
    refine r_iload_n (v := x1) f_316_39 rfl ?_
    refine r_callv (as := [vr 103, vi x4, vi x1]) (st' := []) (ls0 := [vr 103, vi x4, vi x1]) f_316_40 (by decide) rfl rfl (Nat.le_of_ble_eq_true rfl) (Nat.le_of_ble_eq_true rfl) ⟨_, _, rfl, rfl⟩ rfl ?_
    refine c_M_isBoardOf (o2 c1) (o3 c1) ?_
    show Wp true i_M_laysIslands 43 [vr 103, vi x1, vi x2, vi x3, vi x4, j5, j6, j7, j8] [vi (bi ((0 ≤ x4 % 10 ∧ x4 % 10 < h 104 0 ∧ 0 ≤ x4 / 10 ∧ x4 / 10 < h 104 1) ∧ rLand (rmM h 0) (x4 % 10) (x4 / 10) = x1))] h Q
    refine r_br (t := 52) f_316_43 rfl cb_bt (fun c2 => ?_) (fun c2 => ?_)
    · exact (k4 c1 c2)
    · refine r_iload (v := x4) f_316_46 rfl ?_
      refine r_iload_n (v := x2) f_316_48 rfl ?_
      refine r_br2 (t := 211) f_316_49 rfl cb_ne (fun c3 => ?_) (fun c3 => ?_)
      · refine r_iinc (v := x4) (w := x4 + 1) (ls' := [vr 103, vi x1, vi x2, vi x3, vi (x4 + 1), j5, j6, j7, j8]) f_316_211 rfl rfl (o5 c1 c2 c3) rfl ?_
        refine r_goto (t := 29) f_316_214 rfl ?_
        exact (k6 c1 c2 c3)
      · have c3 := Decidable.not_not.mp c3
        exact (k7 c1 c2 c3)

theorem g_M_laysIslands_52 {Q : PQ} {h : HP} {x1 : Int} {x2 : Int} {x3 : Int} {x4 : Int} {j5 : AV} {j6 : AV} {j7 : AV} {j8 : AV} 
    (o1 : 0 ≤ x4 ∧ x4 < 70)
    (k2 : h 112 x4.toNat = -1 → Wp true i_M_laysIslands 77 [vr 103, vi x1, vi x2, vi x3, vi x4, vi 1, j6, j7, j8] [] (hs h 112 x4.toNat x3) Q)
    (o3 : ¬ h 112 x4.toNat = -1 → -2147483648 ≤ x4 + 1 ∧ x4 + 1 ≤ 2147483647)
    (k4 : ¬ h 112 x4.toNat = -1 → Wp true i_M_laysIslands 29 [vr 103, vi x1, vi x2, vi x3, vi (x4 + 1), j5, j6, j7, j8] [] h Q) :
    Wp true i_M_laysIslands 52 [vr 103, vi x1, vi x2, vi x3, vi x4, j5, j6, j7, j8] [] h Q := by
  refine r_aload_n (v := 103) f_316_52 rfl (by decide) ?_
  refine r_getr (q := 112) f_316_53 rfl (by decide) (Or.inl rfl) rfl ?_
  refine r_iload (v := x4) f_316_56 rfl ?_
  refine r_iaload (n := 70) (v := h 112 x4.toNat) f_316_58 ⟨rfl, rfl⟩ o1 rfl ?_
  refine r_iconst f_316_59 (by decide) ?_
  refine r_br2 (t := 66) f_316_60 rfl cb_eq (fun c1 => ?_) (fun c1 => ?_)
  · refine r_aload_n (v := 103) f_316_66 rfl (by decide) ?_
    refine r_getr (q := 112) f_316_67 rfl (by decide) (Or.inl rfl) rfl ?_
    refine r_iload (v := x4) f_316_70 rfl ?_
    refine r_iload_n (v := x3) f_316_72 rfl ?_
    refine r_iastore (n := 70) f_316_73 ⟨rfl, rfl⟩ o1 ?_
    refine r_iconst f_316_74 (by decide) ?_
    refine r_istore (ls' := [vr 103, vi x1, vi x2, vi x3, vi x4, vi 1, j6, j7, j8]) f_316_75 (Nat.le_of_ble_eq_true rfl) rfl ?_
    exact (k2 c1)
  · refine r_goto (t := 211) f_316_63 rfl ?_
    refine r_iinc (v := x4) (w := x4 + 1) (ls' := [vr 103, vi x1, vi x2, vi x3, vi (x4 + 1), j5, j6, j7, j8]) f_316_211 rfl rfl (o3 c1) rfl ?_
    refine r_goto (t := 29) f_316_214 rfl ?_
    exact (k4 c1)

theorem g_M_laysIslands_77 {Q : PQ} {h : HP} {x1 : Int} {x2 : Int} {x3 : Int} {x4 : Int} {x5 : Int} {j6 : AV} {j7 : AV} {j8 : AV} 
    (o1 : x5 = 0 → -2147483648 ≤ x3 + 1 ∧ x3 + 1 ≤ 2147483647)
    (o2 : x5 = 0 → -2147483648 ≤ x4 + 1 ∧ x4 + 1 ≤ 2147483647)
    (k3 : x5 = 0 → Wp true i_M_laysIslands 29 [vr 103, vi x1, vi x2, vi (x3 + 1), vi (x4 + 1), vi x5, j6, j7, j8] [] h Q)
    (k4 : ¬ x5 = 0 → Wp true i_M_laysIslands 88 [vr 103, vi x1, vi x2, vi x3, vi x4, vi 0, vi 0, j7, j8] [] h Q) :
    Wp true i_M_laysIslands 77 [vr 103, vi x1, vi x2, vi x3, vi x4, vi x5, j6, j7, j8] [] h Q := by
  refine r_iload (v := x5) f_316_77 rfl ?_
  refine r_br (t := 208) f_316_79 rfl cb_eq (fun c1 => ?_) (fun c1 => ?_)
  · refine r_iinc (v := x3) (w := x3 + 1) (ls' := [vr 103, vi x1, vi x2, vi (x3 + 1), vi x4, vi x5, j6, j7, j8]) f_316_208 rfl rfl (o1 c1) rfl ?_
    refine r_iinc (v := x4) (w := x4 + 1) (ls' := [vr 103, vi x1, vi x2, vi (x3 + 1), vi (x4 + 1), vi x5, j6, j7, j8]) f_316_211 rfl rfl (o2 c1) rfl ?_
    refine r_goto (t := 29) f_316_214 rfl ?_
    exact (k3 c1)
  · refine r_iconst f_316_82 (by decide) ?_
    refine r_istore (ls' := [vr 103, vi x1, vi x2, vi x3, vi x4, vi 0, j6, j7, j8]) f_316_83 (Nat.le_of_ble_eq_true rfl) rfl ?_
    refine r_iconst f_316_85 (by decide) ?_
    refine r_istore (ls' := [vr 103, vi x1, vi x2, vi x3, vi x4, vi 0, vi 0, j7, j8]) f_316_86 (Nat.le_of_ble_eq_true rfl) rfl ?_
    exact (k4 c1)

theorem g_M_laysIslands_88 {Q : PQ} {h : HP} {x1 : Int} {x2 : Int} {x3 : Int} {x4 : Int} {x5 : Int} {x6 : Int} {j7 : AV} {j8 : AV} 
    (k1 : 70 ≤ x6 → Wp true i_M_laysIslands 77 [vr 103, vi x1, vi x2, vi x3, vi x4, vi x5, vi x6, j7, j8] [] h Q)
    (k2 : ¬ 70 ≤ x6 → Wp true i_M_laysIslands 98 [vr 103, vi x1, vi x2, vi x3, vi x4, vi x5, vi x6, vi 0, j8] [] h Q) :
    Wp true i_M_laysIslands 88 [vr 103, vi x1, vi x2, vi x3, vi x4, vi x5, vi x6, j7, j8] [] h Q := by
  refine r_iload (v := x6) f_316_88 rfl ?_
  refine r_bipush f_316_90 (by decide) ?_
  refine r_br2 (t := 205) f_316_92 rfl cb_ge (fun c1 => ?_) (fun c1 => ?_)
  · refine r_goto (t := 77) f_316_205 rfl ?_
    exact (k1 c1)
  · refine r_iconst f_316_95 (by decide) ?_
    refine r_istore (ls' := [vr 103, vi x1, vi x2, vi x3, vi x4, vi x5, vi x6, vi 0, j8]) f_316_96 (Nat.le_of_ble_eq_true rfl) rfl ?_
    exact (k2 c1)

theorem g_M_laysIslands_98 {Q : PQ} {h : HP} {x1 : Int} {x2 : Int} {x3 : Int} {x4 : Int} {x5 : Int} {x6 : Int} {x7 : Int} {j8 : AV} 
    (o1 : 4 ≤ x7 → -2147483648 ≤ x6 + 1 ∧ x6 + 1 ≤ 2147483647)
    (k2 : 4 ≤ x7 → Wp true i_M_laysIslands 88 [vr 103, vi x1, vi x2, vi x3, vi x4, vi x5, vi (x6 + 1), vi x7, j8] [] h Q)
    (o3 : ¬ 4 ≤ x7 → 0 ≤ x6 ∧ x6 < 70)
    (o4 : ¬ 4 ≤ x7 → ¬ h 112 x6.toNat = x3 → -2147483648 ≤ x6 + 1 ∧ x6 + 1 ≤ 2147483647)
    (k5 : ¬ 4 ≤ x7 → ¬ h 112 x6.toNat = x3 → Wp true i_M_laysIslands 88 [vr 103, vi x1, vi x2, vi x3, vi x4, vi x5, vi (x6 + 1), vi x7, j8] [] h Q)
    (o6 : ¬ 4 ≤ x7 → h 112 x6.toNat = x3 → 0 ≤ x6)
    (o7 : ¬ 4 ≤ x7 → h 112 x6.toNat = x3 → 0 ≤ x6 ∧ x6 ≤ 2147483647)
    (k8 : ¬ 4 ≤ x7 → h 112 x6.toNat = x3 → ¬ (0 ≤ (x6 % 10) ∧ (x6 % 10) < h 104 0 ∧ 0 ≤ (x6 / 10) ∧ (x6 / 10) < h 104 1) → Wp true i_M_laysIslands 144 [vr 103, vi x1, vi x2, vi x3, vi x4, vi x5, vi x6, vi x7, j8] [vi (-1)] h Q)
    (o9 : ¬ 4 ≤ x7 → h 112 x6.toNat = x3 → (0 ≤ (x6 % 10) ∧ (x6 % 10) < h 104 0 ∧ 0 ≤ (x6 / 10) ∧ (x6 / 10) < h 104 1) → 0 ≤ x7 ∧ x7 < 4)
    (k10 : ¬ 4 ≤ x7 → h 112 x6.toNat = x3 → (0 ≤ (x6 % 10) ∧ (x6 % 10) < h 104 0 ∧ 0 ≤ (x6 / 10) ∧ (x6 / 10) < h 104 1) → Wp true i_M_laysIslands 144 [vr 103, vi x1, vi x2, vi x3, vi x4, vi x5, vi x6, vi x7, j8] [vi (mbs (rmM h 0) x6 x7)] h Q) :
    Wp true i_M_laysIslands 98 [vr 103, vi x1, vi x2, vi x3, vi x4, vi x5, vi x6, vi x7, j8] [] h Q := by
  refine r_iload (v := x7) f_316_98 rfl ?_
  refine r_iconst f_316_100 (by decide) ?_
  refine r_br2 (t := 199) f_316_101 rfl cb_ge (fun c1 => ?_) (fun c1 => ?_)
  · refine r_iinc (v := x6) (w := x6 + 1) (ls' := [vr 103, vi x1, vi x2, vi x3, vi x4, vi x5, vi (x6 + 1), vi x7, j8]) f_316_199 rfl rfl (o1 c1) rfl ?_
    refine r_goto (t := 88) f_316_202 rfl ?_
    exact (k2 c1)
  · refine r_aload_n (v := 103) f_316_104 rfl (by decide) ?_
    refine r_getr (q := 112) f_316_105 rfl (by decide) (Or.inl rfl) rfl ?_
    refine r_iload (v := x6) f_316_108 rfl ?_
    refine r_iaload (n := 70) (v := h 112 x6.toNat) f_316_110 ⟨rfl, rfl⟩ (o3 c1) rfl ?_
    refine r_iload_n (v := x3) f_316_111 rfl ?_
    refine r_br2 (t := 199) f_316_112 rfl cb_ne (fun c2 => ?_) (fun c2 => ?_)
    · refine r_iinc (v := x6) (w := x6 + 1) (ls' := [vr 103, vi x1, vi x2, vi x3, vi x4, vi x5, vi (x6 + 1), vi x7, j8]) f_316_199 rfl rfl (o4 c1 c2) rfl ?_
      refine r_goto (t := 88) f_316_202 rfl ?_
      exact (k5 c1 c2)
    · have c2 := Decidable.not_not.mp c2
      refine r_aload_n (v := 103) f_316_115 rfl (by decide) ?_
      refine r_iload (v := x6) f_316_116 rfl ?_
      refine r_bipush f_316_118 (by decide) ?_
      refine r_irem f_316_120 (o6 c1 c2) (by decide) ?_
      refine r_iload (v := x6) f_316_121 rfl ?_
      refine r_bipush f_316_123 (by decide) ?_
      refine r_idiv f_316_125 (o7 c1 c2) (by decide) ?_
      refine r_callv (as := [vr 103, vi (x6 % 10), vi (x6 / 10)]) (st' := []) (ls0 := [vr 103, vi (x6 % 10), vi (x6 / 10)]) f_316_126 (by decide) rfl rfl (Nat.le_of_ble_eq_true rfl) (Nat.le_of_ble_eq_true rfl) ⟨_, _, rfl, rfl⟩ rfl ?_
      refine c_M_isBoard  ?_
      show Wp true i_M_laysIslands 129 [vr 103, vi x1, vi x2, vi x3, vi x4, vi x5, vi x6, vi x7, j8] [vi (bi (0 ≤ (x6 % 10) ∧ (x6 % 10) < h 104 0 ∧ 0 ≤ (x6 / 10) ∧ (x6 / 10) < h 104 1))] h Q
      refine r_br (t := 143) f_316_129 rfl cb_bf (fun c3 => ?_) (fun c3 => ?_)
      · refine r_iconst f_316_143 (by decide) ?_
        exact (k8 c1 c2 c3)
      · have c3 := Decidable.not_not.mp c3
        refine r_aload_n (v := 103) f_316_132 rfl (by decide) ?_
        refine r_iload (v := x6) f_316_133 rfl ?_
        refine r_iload (v := x7) f_316_135 rfl ?_
        refine r_callv (as := [vr 103, vi x6, vi x7]) (st' := []) (ls0 := [vr 103, vi x6, vi x7, vr 9999, vr 9999]) f_316_137 (by decide) rfl rfl (Nat.le_of_ble_eq_true rfl) (Nat.le_of_ble_eq_true rfl) ⟨_, _, rfl, rfl⟩ rfl ?_
        refine c_M_beside (o3 c1) (o9 c1 c2 c3) ?_
        show Wp true i_M_laysIslands 140 [vr 103, vi x1, vi x2, vi x3, vi x4, vi x5, vi x6, vi x7, j8] [vi (mbs (rmM h 0) x6 x7)] h Q
        refine r_goto (t := 144) f_316_140 rfl ?_
        exact (k10 c1 c2 c3)

theorem g_M_laysIslands_144 {Q : PQ} {h : HP} {x1 : Int} {x2 : Int} {x3 : Int} {x4 : Int} {x5 : Int} {x6 : Int} {x7 : Int} {j8 : AV} {s0 : Int} 
    (o1 : s0 = -1 → -2147483648 ≤ x7 + 1 ∧ x7 + 1 ≤ 2147483647)
    (k2 : s0 = -1 → Wp true i_M_laysIslands 98 [vr 103, vi x1, vi x2, vi x3, vi x4, vi x5, vi x6, vi (x7 + 1), vi s0] [] h Q)
    (o3 : ¬ s0 = -1 → 0 ≤ s0 ∧ s0 < 70)
    (o4 : ¬ s0 = -1 → ¬ h 112 s0.toNat = -1 → -2147483648 ≤ x7 + 1 ∧ x7 + 1 ≤ 2147483647)
    (k5 : ¬ s0 = -1 → ¬ h 112 s0.toNat = -1 → Wp true i_M_laysIslands 98 [vr 103, vi x1, vi x2, vi x3, vi x4, vi x5, vi x6, vi (x7 + 1), vi s0] [] h Q)
    (o6 : ¬ s0 = -1 → h 112 s0.toNat = -1 → WR (rmM h 0))
    (k7 : ¬ s0 = -1 → h 112 s0.toNat = -1 → ((0 ≤ s0 % 10 ∧ s0 % 10 < h 104 0 ∧ 0 ≤ s0 / 10 ∧ s0 / 10 < h 104 1) ∧ rLand (rmM h 0) (s0 % 10) (s0 / 10) = x1) → Wp true i_M_laysIslands 182 [vr 103, vi x1, vi x2, vi x3, vi x4, vi x5, vi x6, vi x7, vi s0] [] h Q)
    (k8 : ¬ s0 = -1 → h 112 s0.toNat = -1 → ¬ ((0 ≤ s0 % 10 ∧ s0 % 10 < h 104 0 ∧ 0 ≤ s0 / 10 ∧ s0 / 10 < h 104 1) ∧ rLand (rmM h 0) (s0 % 10) (s0 / 10) = x1) → s0 = x2 → Wp true i_M_laysIslands 182 [vr 103, vi x1, vi x2, vi x3, vi x4, vi x5, vi x6, vi x7, vi s0] [] h Q)
    (o9 : ¬ s0 = -1 → h 112 s0.toNat = -1 → ¬ ((0 ≤ s0 % 10 ∧ s0 % 10 < h 104 0 ∧ 0 ≤ s0 / 10 ∧ s0 / 10 < h 104 1) ∧ rLand (rmM h 0) (s0 % 10) (s0 / 10) = x1) → ¬ s0 = x2 → -2147483648 ≤ x7 + 1 ∧ x7 + 1 ≤ 2147483647)
    (k10 : ¬ s0 = -1 → h 112 s0.toNat = -1 → ¬ ((0 ≤ s0 % 10 ∧ s0 % 10 < h 104 0 ∧ 0 ≤ s0 / 10 ∧ s0 / 10 < h 104 1) ∧ rLand (rmM h 0) (s0 % 10) (s0 / 10) = x1) → ¬ s0 = x2 → Wp true i_M_laysIslands 98 [vr 103, vi x1, vi x2, vi x3, vi x4, vi x5, vi x6, vi (x7 + 1), vi s0] [] h Q) :
    Wp true i_M_laysIslands 144 [vr 103, vi x1, vi x2, vi x3, vi x4, vi x5, vi x6, vi x7, j8] [vi s0] h Q := by
  refine r_istore (ls' := [vr 103, vi x1, vi x2, vi x3, vi x4, vi x5, vi x6, vi x7, vi s0]) f_316_144 (Nat.le_of_ble_eq_true rfl) rfl ?_
  refine r_iload (v := s0) f_316_146 rfl ?_
  refine r_iconst f_316_148 (by decide) ?_
  refine r_br2 (t := 193) f_316_149 rfl cb_eq (fun c1 => ?_) (fun c1 => ?_)
  · refine r_iinc (v := x7) (w := x7 + 1) (ls' := [vr 103, vi x1, vi x2, vi x3, vi x4, vi x5, vi x6, vi (x7 + 1), vi s0]) f_316_193 rfl rfl (o1 c1) rfl ?_
    refine r_goto (t := 98) f_316_196 rfl ?_
    exact (k2 c1)
  · refine r_aload_n (v := 103) f_316_152 rfl (by decide) ?_
    refine r_getr (q := 112) f_316_153 rfl (by decide) (Or.inl rfl) rfl ?_
    refine r_iload (v := s0) f_316_156 rfl ?_
    refine r_iaload (n := 70) (v := h 112 s0.toNat) f_316_158 ⟨rfl, rfl⟩ (o3 c1) rfl ?_
    refine r_iconst f_316_159 (by decide) ?_
    refine r_br2 (t := 193) f_316_160 rfl cb_ne (fun c2 => ?_) (fun c2 => ?_)
    · refine r_iinc (v := x7) (w := x7 + 1) (ls' := [vr 103, vi x1, vi x2, vi x3, vi x4, vi x5, vi x6, vi (x7 + 1), vi s0]) f_316_193 rfl rfl (o4 c1 c2) rfl ?_
      refine r_goto (t := 98) f_316_196 rfl ?_
      exact (k5 c1 c2)
    · have c2 := Decidable.not_not.mp c2
      refine r_aload_n (v := 103) f_316_163 rfl (by decide) ?_
      refine r_iload (v := s0) f_316_164 rfl ?_
      refine r_iload_n (v := x1) f_316_166 rfl ?_
      refine r_callv (as := [vr 103, vi s0, vi x1]) (st' := []) (ls0 := [vr 103, vi s0, vi x1]) f_316_167 (by decide) rfl rfl (Nat.le_of_ble_eq_true rfl) (Nat.le_of_ble_eq_true rfl) ⟨_, _, rfl, rfl⟩ rfl ?_
      refine c_M_isBoardOf (o6 c1 c2) (o3 c1) ?_
      show Wp true i_M_laysIslands 170 [vr 103, vi x1, vi x2, vi x3, vi x4, vi x5, vi x6, vi x7, vi s0] [vi (bi ((0 ≤ s0 % 10 ∧ s0 % 10 < h 104 0 ∧ 0 ≤ s0 / 10 ∧ s0 / 10 < h 104 1) ∧ rLand (rmM h 0) (s0 % 10) (s0 / 10) = x1))] h Q
      refine r_br (t := 182) f_316_170 rfl cb_bt (fun c3 => ?_) (fun c3 => ?_)
      · exact (k7 c1 c2 c3)
      · refine r_iload (v := s0) f_316_173 rfl ?_
        refine r_iload_n (v := x2) f_316_175 rfl ?_
        refine r_br2 (t := 182) f_316_176 rfl cb_eq (fun c4 => ?_) (fun c4 => ?_)
        · exact (k8 c1 c2 c3 c4)
        · refine r_goto (t := 193) f_316_179 rfl ?_
          refine r_iinc (v := x7) (w := x7 + 1) (ls' := [vr 103, vi x1, vi x2, vi x3, vi x4, vi x5, vi x6, vi (x7 + 1), vi s0]) f_316_193 rfl rfl (o9 c1 c2 c3 c4) rfl ?_
          refine r_goto (t := 98) f_316_196 rfl ?_
          exact (k10 c1 c2 c3 c4)

theorem g_M_laysIslands_182 {Q : PQ} {h : HP} {x1 : Int} {x2 : Int} {x3 : Int} {x4 : Int} {x5 : Int} {x6 : Int} {x7 : Int} {x8 : Int} 
    (o1 : 0 ≤ x8 ∧ x8 < 70)
    (o2 : -2147483648 ≤ x7 + 1 ∧ x7 + 1 ≤ 2147483647)
    (k3 : Wp true i_M_laysIslands 98 [vr 103, vi x1, vi x2, vi x3, vi x4, vi 1, vi x6, vi (x7 + 1), vi x8] [] (hs h 112 x8.toNat x3) Q) :
    Wp true i_M_laysIslands 182 [vr 103, vi x1, vi x2, vi x3, vi x4, vi x5, vi x6, vi x7, vi x8] [] h Q := by
  refine r_aload_n (v := 103) f_316_182 rfl (by decide) ?_
  refine r_getr (q := 112) f_316_183 rfl (by decide) (Or.inl rfl) rfl ?_
  refine r_iload (v := x8) f_316_186 rfl ?_
  refine r_iload_n (v := x3) f_316_188 rfl ?_
  refine r_iastore (n := 70) f_316_189 ⟨rfl, rfl⟩ o1 ?_
  refine r_iconst f_316_190 (by decide) ?_
  refine r_istore (ls' := [vr 103, vi x1, vi x2, vi x3, vi x4, vi 1, vi x6, vi x7, vi x8]) f_316_191 (Nat.le_of_ble_eq_true rfl) rfl ?_
  refine r_iinc (v := x7) (w := x7 + 1) (ls' := [vr 103, vi x1, vi x2, vi x3, vi x4, vi 1, vi x6, vi (x7 + 1), vi x8]) f_316_193 rfl rfl o2 rfl ?_
  refine r_goto (t := 98) f_316_196 rfl ?_
  exact k3

theorem bo_iff {h1 R : HP} {m : Nat} {l : Int} (eM : rmM h1 0 = R) : ((0 ≤ (m : Int) % 10 ∧ (m : Int) % 10 < h1 104 0 ∧ 0 ≤ (m : Int) / 10 ∧ (m : Int) / 10 < h1 104 1) ∧ rLand (rmM h1 0) ((m : Int) % 10) ((m : Int) / 10) = l) ↔ SL R l (m % 10) (m / 10) := by
  have d := mdim eM
  have e1 : ((m : Int) % 10) = ((m % 10 : Nat) : Int) := by omega
  have e2 : ((m : Int) / 10) = ((m / 10 : Nat) : Int) := by omega
  rw [e1, e2, eM]
  unfold SL isB
  constructor
  · intro q; exact ⟨⟨by omega, by omega⟩, q.2⟩
  · intro q; exact ⟨by omega, q.2⟩
/-- the boards of a LAND, and one more -/
def SM (R : HP) (l x : Int) (c r : Nat) : Prop := SL R l c r ∨ (isB R c r ∧ ((10 * r + c : Nat) : Int) = x)
theorem SM_B {R : HP} {l x : Int} {c r : Nat} (h : SM R l x c r) : isB R c r := h.elim (fun q => q.1) (fun q => q.1)
def Lay (S : Nat → Nat → Prop) (h' : HP) (n : Int) : Prop :=
  (0 ≤ n ∧ n ≤ 70) ∧ (∀ c r, c < 10 → r < 7 → ¬ S c r → h' 112 (10 * r + c) = -1) ∧ (∀ c r, S c r → 0 ≤ h' 112 (10 * r + c) ∧ h' 112 (10 * r + c) < n) ∧
  (∀ c r c' r', S c r → S c' r' → (h' 112 (10 * r + c) = h' 112 (10 * r' + c') ↔ Cn S c r c' r')) ∧ (∀ k : Nat, (k : Int) < n → ∃ c r, S c r ∧ h' 112 (10 * r + c) = k)
/-- an ISLAND grows -/
def Grw (S : Nat → Nat → Prop) (hb h1 : HP) (n : Int) (c0 r0 : Nat) : Prop :=
  (∀ k, k ≠ 112 → h1 k = hb k) ∧ (∀ c r, S c r → h1 112 (10 * r + c) = n → Cn S c0 r0 c r) ∧ (∀ m, m < 70 → h1 112 m ≠ n → h1 112 m = hb 112 m) ∧
  (∀ m, m < 70 → h1 112 m = n → hb 112 m = -1 ∧ S (m % 10) (m / 10)) ∧ h1 112 (10 * r0 + c0) = n
def LbM (S : Nat → Nat → Prop) (L : Nat → Int) (n : Int) : Prop :=
  (∀ m, m < 70 → -1 ≤ L m ∧ L m < n) ∧ (∀ c r c' r', S c r → S c' r' → 0 ≤ L (10 * r + c) → nb c r c' r' → L (10 * r' + c') = L (10 * r + c)) ∧ (∀ m, m < 70 → ¬ S (m % 10) (m / 10) → L m = -1)
/-- of the boards below a, those of the ISLAND have all their neighbours in it -/
def Psd (S : Nat → Nat → Prop) (h1 : HP) (n : Int) (a : Nat) : Prop := ∀ m, m < a → m < 70 → h1 112 m = n → ∀ c' r', S c' r' → nb (m % 10) (m / 10) c' r' → h1 112 (10 * r' + c') = n
theorem Grw_add {S : Nat → Nat → Prop} {hb h1 : HP} {n : Int} {c0 r0 c r a b : Nat} (hS : ∀ c r, S c r → c < 9 ∧ r < 7) (L0 : LbM S (hb 112) n) (h0 : 0 ≤ n) (G : Grw S hb h1 n c0 r0) (ha : S a b) (la : h1 112 (10 * b + a) = n) (hn : nb a b c r) (hs' : S c r) (hl : h1 112 (10 * r + c) = -1) : Grw S hb (hs h1 112 (10 * r + c) n) n c0 r0 := by
  obtain ⟨G1, G2, G3, G4, G5⟩ := G
  have b1 := hS c r hs'
  have a84 : ∀ m, hs h1 112 (10 * r + c) n 112 m = if m = 10 * r + c then n else h1 112 m := fun m => by
    by_cases z : m = 10 * r + c
    · rw [if_pos z, z, hs_s]
    · rw [if_neg z, hs_o (Or.inr z)]
  refine ⟨fun k hk => (hs_ne hk).trans (G1 k hk), fun c' r' q1 q2 => ?_, fun m hm q => ?_, fun m hm q => ?_, ?_⟩
  · rw [a84] at q2
    have b2 := hS c' r' q1
    by_cases z : 10 * r' + c' = 10 * r + c
    · obtain ⟨rfl, rfl⟩ : c' = c ∧ r' = r := by omega
      exact Cn_step (G2 a b ha la) hn hs'
    · rw [if_neg z] at q2; exact G2 c' r' q1 q2
  · rw [a84] at q ⊢
    by_cases z : m = 10 * r + c
    · rw [if_pos z] at q; exact absurd rfl q
    · rw [if_neg z] at q ⊢; exact G3 m hm q
  · rw [a84] at q
    by_cases z : m = 10 * r + c
    · have z1 : m % 10 = c := by omega
      have z2 : m / 10 = r := by omega
      refine ⟨?_, by rw [z1, z2]; exact hs'⟩
      rw [z, ← G3 _ (by omega) (by omega)]; exact hl
    · rw [if_neg z] at q; exact G4 m hm q
  · rw [a84]; split
    · rfl
    · exact G5
/-- the ISLANDS so far -/
def Ly0 (S : Nat → Nat → Prop) (h h1 : HP) (n : Int) (m : Nat) : Prop :=
  (∀ k, k ≠ 112 → h1 k = h k) ∧ (0 ≤ n ∧ n ≤ m) ∧ LbM S (h1 112) n ∧ (∀ c r, S c r → 10 * r + c < m → 0 ≤ h1 112 (10 * r + c)) ∧
  (∀ c r c' r', S c r → S c' r' → 0 ≤ h1 112 (10 * r + c) → h1 112 (10 * r + c) = h1 112 (10 * r' + c') → Cn S c r c' r') ∧ (∀ k : Nat, (k : Int) < n → ∃ c r, S c r ∧ h1 112 (10 * r + c) = k)
theorem Ly0_grw {S : Nat → Nat → Prop} {h hb h2 : HP} {n : Int} {m c0 r0 : Nat} (hS : ∀ c r, S c r → c < 9 ∧ r < 7) (I : Ly0 S h hb n m) (hm : m = 10 * r0 + c0) (s0 : S c0 r0) (G : Grw S hb h2 n c0 r0) (P : Psd S h2 n 70) : Ly0 S h h2 (n + 1) (m + 1) := by
  obtain ⟨I1, I2, I3, I4, I5, I6⟩ := I
  obtain ⟨G1, G2, G3, G4, G5⟩ := G
  have lt : ∀ a b, S a b → 10 * b + a < 70 := fun a b q => by have := hS a b q; omega
  have cl : ∀ a b a' b', S a b → S a' b' → nb a b a' b' → h2 112 (10 * b + a) = n → h2 112 (10 * b' + a') = n := by
    intro a b a' b' q1 q2 q3 q4
    have := hS a b q1
    refine P (10 * b + a) (lt a b q1) (lt a b q1) q4 a' b' q2 ?_
    rw [show (10 * b + a) % 10 = a by omega, show (10 * b + a) / 10 = b by omega]
    exact q3
  have old : ∀ a b, S a b → 0 ≤ hb 112 (10 * b + a) → h2 112 (10 * b + a) = hb 112 (10 * b + a) := by
    intro a b q1 q2
    refine G3 _ (lt a b q1) (fun z => ?_)
    have := (G4 _ (lt a b q1) z).1
    omega
  refine ⟨fun k hk => (G1 k hk).trans (I1 k hk), by omega, ⟨fun j hj => ?_, fun a b a' b' q1 q2 q3 q4 => ?_, fun j hj q => ?_⟩, fun a b q1 q2 => ?_, fun a b a' b' q1 q2 q3 q4 => ?_, fun k hk => ?_⟩
  · have := I3.1 j hj
    by_cases z : h2 112 j = n
    · omega
    · rw [G3 j hj z]; omega
  · by_cases z : h2 112 (10 * b + a) = n
    · rw [z]; exact cl a b a' b' q1 q2 q4 z
    · have y := G3 _ (lt a b q1) z
      rw [y] at q3 ⊢
      have x := I3.2.1 a b a' b' q1 q2 q3 q4
      rw [old a' b' q2 (by omega), x]
  · by_cases z : h2 112 j = n
    · exact absurd (G4 j hj z).2 q
    · rw [G3 j hj z]; exact I3.2.2 j hj q
  · by_cases z : 10 * b + a = m
    · rw [z, hm, G5]; omega
    · have := I4 a b q1 (by omega)
      rw [old a b q1 this]; exact this
  · by_cases z : h2 112 (10 * b + a) = n
    · exact Cn_tr (Cn_sym (G2 a b q1 z) s0) (G2 a' b' q2 (q4.symm.trans z))
    · have z' : h2 112 (10 * b' + a') ≠ n := fun y => z (q4.trans y)
      rw [G3 _ (lt a b q1) z, G3 _ (lt a' b' q2) z'] at q4
      rw [G3 _ (lt a b q1) z] at q3
      exact I5 a b a' b' q1 q2 q3 q4
  · by_cases z : (k : Int) = n
    · exact ⟨c0, r0, s0, by rw [G5, z]⟩
    · obtain ⟨a, b, q1, q2⟩ := I6 k (by omega)
      exact ⟨a, b, q1, by rw [old a b q1 (by omega)]; exact q2⟩
theorem c_M_laysIslands {Q : PQ} {h R : HP} {x1 x2 : Int} (eM : rmM h 0 = R) (W : WR R) (hx : x2 = -1 ∨ ∃ c r, isB R c r ∧ x2 = ((10 * r + c : Nat) : Int))
    (k : ∀ h' n, (∀ k, k ≠ 112 → h' k = h k) → Lay (SM R x1 x2) h' n → Q (some (vi n)) h') : Wp true i_M_laysIslands 0 [vr 103, vi x1, vi x2, vr 9999, vr 9999, vr 9999, vr 9999, vr 9999, vr 9999] [] h Q := by
  have w := W.1
  obtain ⟨S, eS⟩ : ∃ S, S = SM R x1 x2 := ⟨_, rfl⟩
  rw [← eS] at k
  have hB : ∀ c r, S c r → isB R c r := fun c r q => by rw [eS] at q; exact SM_B q
  have hS : ∀ c r, S c r → c < 9 ∧ r < 7 := fun c r q => by have := hB c r q; have := this.1; have := (hB c r q).2; omega
  have fr : ∀ h1 : HP, (∀ k, k ≠ 112 → h1 k = h k) → rmM h1 0 = R := fun h1 e => (rmM_congr (e 104 (by decide))).trans eM
  have inS : ∀ m : Nat, (SL R x1 (m % 10) (m / 10) ∨ (m : Int) = x2) → S (m % 10) (m / 10) := by
    intro m q
    rw [eS]
    rcases q with q | q
    · exact Or.inl q
    · rcases hx with z | ⟨c, r, z1, z2⟩
      · omega
      · have y1 := z1.1
        have e1 : m % 10 = c := by omega
        have e2 : m / 10 = r := by omega
        rw [e1, e2]
        exact Or.inr ⟨z1, z2.symm⟩
  have noS : ∀ m : Nat, ¬ SL R x1 (m % 10) (m / 10) → ¬ (m : Int) = x2 → ¬ S (m % 10) (m / 10) := by
    intro m q1 q2 q
    rw [eS] at q
    rcases q with q | q
    · exact q1 q
    · have := q.2
      omega
  -- the ways of one board
  have ways : ∀ (d : Nat) (wy : Int) (a m : Nat) (hb h1 : HP) (n g v0 : Int) (c0 r0 : Nat) (j8 : AV), 0 ≤ wy → wy + d = 4 → a < 70 → 0 ≤ n → (∀ k, k ≠ 112 → hb k = h k) → LbM S (hb 112) n → Grw S hb h1 n c0 r0 → (g = 0 ∨ g = 1) → (g = 0 → Psd S h1 n a) →
      (g = 0 → h1 112 a = n → ∀ w', 0 ≤ w' → w' < wy → ∀ c' r', S c' r' → mbs R (a : Int) w' = ((10 * r' + c' : Nat) : Int) → h1 112 (10 * r' + c') = n) → (v0 ≤ cnt R (fun c r => h1 112 (10 * r + c) = n) ∧ (g = 1 → v0 + 1 ≤ cnt R (fun c r => h1 112 (10 * r + c) = n))) →
      (∀ (h2 : HP) (g' : Int) (j7 j8 : AV), Grw S hb h2 n c0 r0 → (g' = 0 ∨ g' = 1) → (g' = 0 → Psd S h2 n (a + 1)) → (v0 ≤ cnt R (fun c r => h2 112 (10 * r + c) = n) ∧ (g' = 1 → v0 + 1 ≤ cnt R (fun c r => h2 112 (10 * r + c) = n))) → Wp true i_M_laysIslands 88 [vr 103, vi x1, vi x2, vi n, vi (m : Int), vi g', vi ((a : Int) + 1), j7, j8] [] h2 Q) →
      Wp true i_M_laysIslands 98 [vr 103, vi x1, vi x2, vi n, vi (m : Int), vi g, vi (a : Int), vi wy, j8] [] h1 Q := by
    intro d
    induction d with
    | zero =>
      intro wy a m hb h1 n g v0 c0 r0 j8 w0 e ha hn0 hf L0 G hg pz pw hv kk
      have fin : Wp true i_M_laysIslands 88 [vr 103, vi x1, vi x2, vi n, vi (m : Int), vi g, vi ((a : Int) + 1), vi wy, j8] [] h1 Q := by
        refine kk h1 g _ _ G hg (fun g0 m' q1 q2 q3 c' r' q4 q5 => ?_) hv
        by_cases z : m' < a
        · exact pz g0 m' z q2 q3 c' r' q4 q5
        · have z : m' = a := by omega
          subst z
          have sa := (G.2.2.2.1 m' ha q3).2
          obtain ⟨w', w1, w2⟩ := nb_mbs W (hB _ _ sa) (hB _ _ q4) q5
          rw [show 10 * (m' / 10) + m' % 10 = m' by omega] at w2
          exact pw g0 q3 w' w1.1 (by omega) c' r' q4 w2
      refine g_M_laysIslands_98 ?_ ?_ ?_ ?_ ?_ ?_ ?_ ?_ ?_ ?_
      · intro c1; (try simp only [Int.toNat_natCast] at c1); first | omega | (exfalso; omega) | exact ⟨by omega, by omega⟩ | (omega) | exact absurd trivial ‹¬ True›
      · intro c1; (try simp only [Int.toNat_natCast] at c1); first | (exfalso; omega) | exact absurd trivial ‹¬ True› | (exact fin)
      · intro c1; (try simp only [Int.toNat_natCast] at c1); first | omega | (exfalso; omega) | exact ⟨by omega, by omega⟩ | (omega) | exact absurd trivial ‹¬ True›
      · intro c1 c2; (try simp only [Int.toNat_natCast] at c1 c2); first | omega | (exfalso; omega) | exact ⟨by omega, by omega⟩ | (omega) | exact absurd trivial ‹¬ True›
      · intro c1 c2; (try simp only [Int.toNat_natCast] at c1 c2); first | (exfalso; omega) | exact absurd trivial ‹¬ True› | (skip)
      · intro c1 c2; (try simp only [Int.toNat_natCast] at c1 c2); first | omega | (exfalso; omega) | exact ⟨by omega, by omega⟩ | (omega) | exact absurd trivial ‹¬ True›
      · intro c1 c2; (try simp only [Int.toNat_natCast] at c1 c2); first | omega | (exfalso; omega) | exact ⟨by omega, by omega⟩ | (omega) | exact absurd trivial ‹¬ True›
      · intro c1 c2 c3; (try simp only [Int.toNat_natCast] at c1 c2 c3); first | (exfalso; omega) | exact absurd trivial ‹¬ True› | (skip)
      · intro c1 c2 c3; (try simp only [Int.toNat_natCast] at c1 c2 c3); first | omega | (exfalso; omega) | exact ⟨by omega, by omega⟩ | (omega) | exact absurd trivial ‹¬ True›
      · intro c1 c2 c3; (try simp only [Int.toNat_natCast] at c1 c2 c3); first | (exfalso; omega) | exact absurd trivial ‹¬ True› | (skip)
    | succ d ih =>
      intro wy a m hb h1 n g v0 c0 r0 j8 w0 e ha hn0 hf L0 G hg pz pw hv kk
      have eM1 := fr h1 (fun k hk => (G.1 k hk).trans (hf k hk))
      have dm := mdim eM1
      have ena : ((a : Int)).toNat = a := Int.toNat_natCast a
      have skip : ¬ h1 112 a = n → Wp true i_M_laysIslands 88 [vr 103, vi x1, vi x2, vi n, vi (m : Int), vi g, vi ((a : Int) + 1), vi wy, j8] [] h1 Q := by
        intro ne
        refine kk h1 g _ _ G hg (fun g0 m' q1 q2 q3 c' r' q4 q5 => ?_) hv
        by_cases z : m' < a
        · exact pz g0 m' z q2 q3 c' r' q4 q5
        · have z : m' = a := by omega
          subst z
          exact absurd q3 ne
      have next : h1 112 a = n → ∀ (j8 : AV), (g = 0 → ∀ c' r', S c' r' → mbs R (a : Int) wy = ((10 * r' + c' : Nat) : Int) → h1 112 (10 * r' + c') = n) → Wp true i_M_laysIslands 98 [vr 103, vi x1, vi x2, vi n, vi (m : Int), vi g, vi (a : Int), vi (wy + 1), j8] [] h1 Q := by
        intro la j8 hq
        refine ih (wy + 1) a m hb h1 n g v0 c0 r0 j8 (by omega) (by omega) ha hn0 hf L0 G hg pz (fun g0 la w' w1 w2 c' r' q1 q2 => ?_) hv kk
        by_cases z : w' < wy
        · exact pw g0 la w' w1 z c' r' q1 q2
        · have z : w' = wy := by omega
          subst z
          exact hq g0 c' r' q1 q2
      have main : h1 112 a = n → S (a % 10) (a / 10) → ∀ s0 : Int, s0 = mbs R (a : Int) wy → Wp true i_M_laysIslands 144 [vr 103, vi x1, vi x2, vi n, vi (m : Int), vi g, vi (a : Int), vi wy, j8] [vi s0] h1 Q := by
        intro la sa s0 es0
        have bsv := mbs_nb W (hB _ _ sa) (s := wy) (by omega)
        rw [show 10 * (a / 10) + a % 10 = a by omega, ← es0] at bsv
        rcases bsv with z | ⟨cc, rr, n1, b1, e1⟩
        · have nx := next la (vi s0) (fun g0 c' r' q1 q2 => by rw [← es0] at q2; omega)
          refine g_M_laysIslands_144 ?_ ?_ ?_ ?_ ?_ ?_ ?_ ?_ ?_ ?_
          · intro c1; (try simp only [Int.toNat_natCast] at c1); first | omega | (exfalso; omega) | exact ⟨by omega, by omega⟩ | (omega) | exact absurd trivial ‹¬ True›
          · intro c1; (try simp only [Int.toNat_natCast] at c1); first | (exfalso; omega) | exact absurd trivial ‹¬ True› | (exact nx)
          · intro c1; (try simp only [Int.toNat_natCast] at c1); first | omega | (exfalso; omega) | exact ⟨by omega, by omega⟩ | (omega) | exact absurd trivial ‹¬ True›
          · intro c1 c2; (try simp only [Int.toNat_natCast] at c1 c2); first | omega | (exfalso; omega) | exact ⟨by omega, by omega⟩ | (omega) | exact absurd trivial ‹¬ True›
          · intro c1 c2; (try simp only [Int.toNat_natCast] at c1 c2); first | (exfalso; omega) | exact absurd trivial ‹¬ True› | (skip)
          · intro c1 c2; (try simp only [Int.toNat_natCast] at c1 c2); first | omega | (exfalso; omega) | exact ⟨by omega, by omega⟩ | (omega) | exact absurd trivial ‹¬ True›
          · intro c1 c2 c3; (try simp only [Int.toNat_natCast] at c1 c2 c3); first | (exfalso; omega) | exact absurd trivial ‹¬ True› | (skip)
          · intro c1 c2 c3 c4; (try simp only [Int.toNat_natCast] at c1 c2 c3 c4); first | (exfalso; omega) | exact absurd trivial ‹¬ True› | (skip)
          · intro c1 c2 c3 c4; (try simp only [Int.toNat_natCast] at c1 c2 c3 c4); first | omega | (exfalso; omega) | exact ⟨by omega, by omega⟩ | (omega) | exact absurd trivial ‹¬ True›
          · intro c1 c2 c3 c4; (try simp only [Int.toNat_natCast] at c1 c2 c3 c4); first | (exfalso; omega) | exact absurd trivial ‹¬ True› | (skip)
        · have b11 := b1.1
          have b12 := b1.2
          have uq : ∀ c' r', S c' r' → mbs R (a : Int) wy = ((10 * r' + c' : Nat) : Int) → c' = cc ∧ r' = rr := by
            intro c' r' q1 q2
            have := hS c' r' q1
            rw [← es0, e1] at q2
            omega
          subst e1
          have en : (((10 * rr + cc : Nat) : Int)).toNat = 10 * rr + cc := Int.toNat_natCast _
          have bo := bo_iff (m := 10 * rr + cc) (l := x1) eM1
          have em1 : (10 * rr + cc) % 10 = cc := by omega
          have em2 : (10 * rr + cc) / 10 = rr := by omega
          have claimed : S cc rr → h1 112 (10 * rr + cc) = -1 → Wp true i_M_laysIslands 182 [vr 103, vi x1, vi x2, vi n, vi (m : Int), vi g, vi (a : Int), vi wy, vi ((10 * rr + cc : Nat) : Int)] [] h1 Q := by
            intro s1 l1
            have la' : h1 112 (10 * (a / 10) + a % 10) = n := by rw [show 10 * (a / 10) + a % 10 = a by omega]; exact la
            have G' := Grw_add hS L0 hn0 G sa la' n1 s1 l1
            have cu := cnt_upd (R := R) (p := fun c r => h1 112 (10 * r + c) = n) (q := fun c r => hs h1 112 (10 * rr + cc) n 112 (10 * r + c) = n) b1 (fun q => by omega) (fun c r q => by
              have := q.1
              by_cases z : 10 * r + c = 10 * rr + cc
              · rw [z, hs_s]; exact ⟨fun _ => Or.inr (by omega), fun _ => rfl⟩
              · rw [hs_o (Or.inr z)]
                exact ⟨fun y => Or.inl y, fun y => y.elim (fun u => u) (fun u => absurd (by rw [u.1, u.2]) z)⟩)
            refine g_M_laysIslands_182 (by omega) (by omega) ?_
            rw [en]
            exact ih (wy + 1) a m hb _ n 1 v0 c0 r0 _ (by omega) (by omega) ha hn0 hf L0 G' (Or.inr rfl) (fun q => absurd q (by decide)) (fun q => absurd q (by decide)) ⟨by rw [cu]; omega, fun _ => by rw [cu]; omega⟩ kk
          refine g_M_laysIslands_144 ?_ ?_ ?_ ?_ ?_ ?_ ?_ ?_ ?_ ?_
          · intro c1; (try simp only [Int.toNat_natCast] at c1); first | omega | (exfalso; omega) | exact ⟨by omega, by omega⟩ | ((rw [eM1]; exact W)) | exact absurd trivial ‹¬ True›
          · intro c1; (try simp only [Int.toNat_natCast] at c1); first | (exfalso; omega) | exact absurd trivial ‹¬ True› | (skip)
          · intro c1; (try simp only [Int.toNat_natCast] at c1); first | omega | (exfalso; omega) | exact ⟨by omega, by omega⟩ | ((rw [eM1]; exact W)) | exact absurd trivial ‹¬ True›
          · intro c1 c2; (try simp only [Int.toNat_natCast] at c1 c2); first | omega | (exfalso; omega) | exact ⟨by omega, by omega⟩ | ((rw [eM1]; exact W)) | exact absurd trivial ‹¬ True›
          · intro c1 c2; (try simp only [Int.toNat_natCast] at c1 c2)
            refine next la _ (fun g0 c' r' q1 q2 => ?_)
            obtain ⟨rfl, rfl⟩ := uq c' r' q1 q2
            by_cases y : h1 112 (10 * r' + c') = n
            · exact y
            · have y2 := G.2.2.1 _ (by omega) y
              have y3 := L0.1 (10 * r' + c') (by omega)
              have y4 := L0.2.1 c' r' _ _ q1 sa (by omega) (nb_sym n1)
              rw [show 10 * (a / 10) + a % 10 = a by omega] at y4
              have y5 := (G.2.2.2.1 a ha la).1
              omega
          · intro c1 c2; (try simp only [Int.toNat_natCast] at c1 c2); first | omega | (exfalso; omega) | exact ⟨by omega, by omega⟩ | ((rw [eM1]; exact W)) | exact absurd trivial ‹¬ True›
          · intro c1 c2 c3; (try simp only [Int.toNat_natCast] at c1 c2 c3)
            refine claimed ?_ c2
            have := inS (10 * rr + cc) (Or.inl (bo.mp c3))
            rw [em1, em2] at this
            exact this
          · intro c1 c2 c3 c4; (try simp only [Int.toNat_natCast] at c1 c2 c3 c4)
            refine claimed ?_ c2
            have := inS (10 * rr + cc) (Or.inr c4)
            rw [em1, em2] at this
            exact this
          · intro c1 c2 c3 c4; (try simp only [Int.toNat_natCast] at c1 c2 c3 c4); first | omega | (exfalso; omega) | exact ⟨by omega, by omega⟩ | ((rw [eM1]; exact W)) | exact absurd trivial ‹¬ True›
          · intro c1 c2 c3 c4; (try simp only [Int.toNat_natCast] at c1 c2 c3 c4)
            refine next la _ (fun g0 c' r' q1 q2 => ?_)
            obtain ⟨rfl, rfl⟩ := uq c' r' q1 q2
            have := noS (10 * r' + c') (fun z => c3 (bo.mpr z)) c4
            rw [em1, em2] at this
            exact absurd q1 this

      refine g_M_laysIslands_98 (fun _ => by omega) (fun q => by omega) (fun _ => by omega) (fun _ _ => by omega) (fun _ q => ?_) (fun _ _ => by omega) (fun _ _ => by omega) (fun _ q1 q2 => ?_) (fun _ _ _ => by omega) (fun _ q1 q2 => ?_)
      · rw [ena] at q; exact skip q
      · rw [ena] at q1
        have sa := (G.2.2.2.1 a ha q1).2
        have ba := hB _ _ sa
        have b1 := ba.1
        have b2 := ba.2
        exfalso
        omega
      · rw [ena] at q1
        exact main q1 (G.2.2.2.1 a ha q1).2 _ (by rw [eM1])
  -- a pass over all boards
  have pass : ∀ (d a m : Nat) (hb h1 : HP) (n g v0 : Int) (c0 r0 : Nat) (j7 j8 : AV), a + d = 70 → 0 ≤ n → (∀ k, k ≠ 112 → hb k = h k) → LbM S (hb 112) n → Grw S hb h1 n c0 r0 → (g = 0 ∨ g = 1) → (g = 0 → Psd S h1 n a) → (v0 ≤ cnt R (fun c r => h1 112 (10 * r + c) = n) ∧ (g = 1 → v0 + 1 ≤ cnt R (fun c r => h1 112 (10 * r + c) = n))) →
      (∀ (h2 : HP) (g' : Int) (j6 j7 j8 : AV), Grw S hb h2 n c0 r0 → (g' = 0 ∨ g' = 1) → (g' = 0 → Psd S h2 n 70) → (g' = 1 → v0 + 1 ≤ cnt R (fun c r => h2 112 (10 * r + c) = n)) → Wp true i_M_laysIslands 77 [vr 103, vi x1, vi x2, vi n, vi (m : Int), vi g', j6, j7, j8] [] h2 Q) →
      Wp true i_M_laysIslands 88 [vr 103, vi x1, vi x2, vi n, vi (m : Int), vi g, vi (a : Int), j7, j8] [] h1 Q := by
    intro d
    induction d with
    | zero =>
      intro a m hb h1 n g v0 c0 r0 j7 j8 e hn0 hf L0 G hg pz hv kk
      have : a = 70 := by omega
      subst this
      exact g_M_laysIslands_88 (fun _ => kk h1 g _ _ _ G hg pz hv.2) (fun q => by omega)
    | succ d ih =>
      intro a m hb h1 n g v0 c0 r0 j7 j8 e hn0 hf L0 G hg pz hv kk
      refine g_M_laysIslands_88 (fun q => by omega) (fun _ => ?_)
      refine ways 4 0 a m hb h1 n g v0 c0 r0 j8 (by omega) (by omega) (by omega) hn0 hf L0 G hg pz (fun _ _ w' w1 w2 => by omega) hv (fun h2 g' j7 j8 G' hg' pz' hv' => ?_)
      have := ih (a + 1) m hb h2 n g' v0 c0 r0 j7 j8 (by omega) hn0 hf L0 G' hg' pz' hv' kk
      rw [show ((a + 1 : Nat) : Int) = (a : Int) + 1 by omega] at this
      exact this
  have grow : ∀ (d m : Nat) (hb h1 : HP) (n g : Int) (c0 r0 : Nat) (j6 j7 j8 : AV), 63 ≤ cnt R (fun c r => h1 112 (10 * r + c) = n) + d → 0 ≤ n → n ≤ 70 → m < 70 → (∀ k, k ≠ 112 → hb k = h k) → LbM S (hb 112) n → Grw S hb h1 n c0 r0 → (g = 0 ∨ g = 1) → (g = 0 → Psd S h1 n 70) →
      (∀ (h2 : HP) (j5 j6 j7 j8 : AV), Grw S hb h2 n c0 r0 → Psd S h2 n 70 → Wp true i_M_laysIslands 29 [vr 103, vi x1, vi x2, vi (n + 1), vi ((m : Int) + 1), j5, j6, j7, j8] [] h2 Q) →
      Wp true i_M_laysIslands 77 [vr 103, vi x1, vi x2, vi n, vi (m : Int), vi g, j6, j7, j8] [] h1 Q := by
    intro d
    induction d with
    | zero =>
      intro m hb h1 n g c0 r0 j6 j7 j8 hd hn0 hn7 hm hf L0 G hg pz kk
      refine g_M_laysIslands_77 (fun _ => by omega) (fun _ => by omega) (fun q => by subst q; exact kk h1 _ _ _ _ G (pz rfl)) (fun q => ?_)
      refine pass 70 0 m hb h1 n 0 _ c0 r0 _ _ rfl hn0 hf L0 G (Or.inl rfl) (fun _ m' q => by omega) ⟨Int.le_refl _, fun q => absurd q (by decide)⟩ (fun h2 g' j6 j7 j8 G' hg' pz' hv' => ?_)
      rcases hg' with rfl | rfl
      · exact g_M_laysIslands_77 (fun _ => by omega) (fun _ => by omega) (fun q => kk h2 _ _ _ _ G' (pz' rfl)) (fun q => absurd rfl q)
      · have c1 := cnt_rg W (fun c r => h2 112 (10 * r + c) = n)
        have c2 := hv' rfl
        omega
    | succ d ih =>
      intro m hb h1 n g c0 r0 j6 j7 j8 hd hn0 hn7 hm hf L0 G hg pz kk
      refine g_M_laysIslands_77 (fun _ => by omega) (fun _ => by omega) (fun q => by subst q; exact kk h1 _ _ _ _ G (pz rfl)) (fun q => ?_)
      refine pass 70 0 m hb h1 n 0 _ c0 r0 _ _ rfl hn0 hf L0 G (Or.inl rfl) (fun _ m' q => by omega) ⟨Int.le_refl _, fun q => absurd q (by decide)⟩ (fun h2 g' j6 j7 j8 G' hg' pz' hv' => ?_)
      rcases hg' with rfl | rfl
      · exact g_M_laysIslands_77 (fun _ => by omega) (fun _ => by omega) (fun q => kk h2 _ _ _ _ G' (pz' rfl)) (fun q => absurd rfl q)
      · have c2 := hv' rfl
        exact ih m hb h2 n 1 c0 r0 j6 j7 j8 (by omega) hn0 hn7 hm hf L0 G' (Or.inr rfl) pz' kk
  have all : ∀ (d m : Nat) (h1 : HP) (n : Int) (j5 j6 j7 j8 : AV), m + d = 70 → Ly0 S h h1 n m → Wp true i_M_laysIslands 29 [vr 103, vi x1, vi x2, vi n, vi (m : Int), j5, j6, j7, j8] [] h1 Q := by
    intro d
    induction d with
    | zero =>
      intro m h1 n j5 j6 j7 j8 e I
      have dm := mdim (fr h1 I.1)
      have em : m = 70 := by omega
      subst em
      have fin : Q (some (vi n)) h1 := by
        obtain ⟨I1, I2, I3, I4, I5, I6⟩ := I
        have lab : ∀ c r, S c r → 0 ≤ h1 112 (10 * r + c) := fun c r q => I4 c r q (by have := hS c r q; omega)
        refine k h1 n I1 ⟨by omega, fun c r q1 q2 q => I3.2.2 _ (by omega) (by rw [show (10 * r + c) % 10 = c by omega, show (10 * r + c) / 10 = r by omega]; exact q), fun c r q => ⟨lab c r q, (I3.1 _ (by have := hS c r q; omega)).2⟩, fun c r c' r' q1 q2 => ⟨fun z => I5 c r c' r' q1 q2 (lab c r q1) z, fun z => ?_⟩, I6⟩
        have := z (fun a b => S a b ∧ h1 112 (10 * b + a) = h1 112 (10 * r + c)) ⟨q1, rfl⟩ (fun x y x' y' p nn s => ⟨s, ?_⟩)
        · exact this.2.symm
        · rw [← p.2]
          exact I3.2.1 x y x' y' p.1 s (lab x y p.1) nn
      refine g_M_laysIslands_29 ?_ ?_ ?_ ?_ ?_ ?_ ?_
      · intro c1; (try simp only [Int.toNat_natCast] at c1); first | (exfalso; omega) | exact absurd trivial ‹¬ True› | (exact fin)
      · intro c1; (try simp only [Int.toNat_natCast] at c1); first | omega | (exfalso; omega) | exact ⟨by omega, by omega⟩ | (omega) | exact absurd trivial ‹¬ True›
      · intro c1; (try simp only [Int.toNat_natCast] at c1); first | omega | (exfalso; omega) | exact ⟨by omega, by omega⟩ | (omega) | exact absurd trivial ‹¬ True›
      · intro c1 c2; (try simp only [Int.toNat_natCast] at c1 c2); first | (exfalso; omega) | exact absurd trivial ‹¬ True› | (skip)
      · intro c1 c2 c3; (try simp only [Int.toNat_natCast] at c1 c2 c3); first | omega | (exfalso; omega) | exact ⟨by omega, by omega⟩ | (omega) | exact absurd trivial ‹¬ True›
      · intro c1 c2 c3; (try simp only [Int.toNat_natCast] at c1 c2 c3); first | (exfalso; omega) | exact absurd trivial ‹¬ True› | (skip)
      · intro c1 c2 c3; (try simp only [Int.toNat_natCast] at c1 c2 c3); first | (exfalso; omega) | exact absurd trivial ‹¬ True› | (skip)
    | succ d ih =>
      intro m h1 n j5 j6 j7 j8 e I
      have eM1 := fr h1 I.1
      have enm : ((m : Int)).toNat = m := Int.toNat_natCast m
      have bo := bo_iff (m := m) (l := x1) eM1
      have next : (S (m % 10) (m / 10) → 0 ≤ h1 112 m) → ∀ (j5 j6 j7 j8 : AV), Wp true i_M_laysIslands 29 [vr 103, vi x1, vi x2, vi n, vi ((m : Int) + 1), j5, j6, j7, j8] [] h1 Q := by
        intro q j5 j6 j7 j8
        have I' : Ly0 S h h1 n (m + 1) := by
          obtain ⟨I1, I2, I3, I4, I5, I6⟩ := I
          refine ⟨I1, by omega, I3, fun c r q1 q2 => ?_, I5, I6⟩
          by_cases z : 10 * r + c < m
          · exact I4 c r q1 z
          · have y := hS c r q1
            have z : m = 10 * r + c := by omega
            rw [show m % 10 = c by omega, show m / 10 = r by omega] at q
            rw [← z]; exact q q1
        have := ih (m + 1) h1 n j5 j6 j7 j8 (by omega) I'
        rw [show ((m + 1 : Nat) : Int) = (m : Int) + 1 by omega] at this
        exact this
      have p52 : S (m % 10) (m / 10) → Wp true i_M_laysIslands 52 [vr 103, vi x1, vi x2, vi n, vi (m : Int), j5, j6, j7, j8] [] h1 Q := by
        intro sm
        refine g_M_laysIslands_52 (by omega) (fun q => ?_) (fun _ => by omega) (fun q => ?_)
        · rw [enm] at q ⊢
          have I2 := I.2.1
          have em : 10 * (m / 10) + m % 10 = m := by omega
          have lb := I.2.2.1.1
          have G : Grw S h1 (hs h1 112 m n) n (m % 10) (m / 10) := by
            have a84 : ∀ j, hs h1 112 m n 112 j = if j = m then n else h1 112 j := fun j => by
              by_cases z : j = m
              · rw [if_pos z, z, hs_s]
              · rw [if_neg z, hs_o (Or.inr z)]
            refine ⟨fun k hk => hs_ne hk, fun c r q1 q2 => ?_, fun j hj q2 => ?_, fun j hj q2 => ?_, by rw [em, hs_s]⟩
            · rw [a84] at q2
              have y := hS c r q1
              by_cases z : 10 * r + c = m
              · rw [show m % 10 = c by omega, show m / 10 = r by omega]; exact Cn_refl
              · rw [if_neg z] at q2
                have := lb (10 * r + c) (by omega)
                omega
            · rw [a84] at q2 ⊢
              by_cases z : j = m
              · rw [if_pos z] at q2; exact absurd rfl q2
              · rw [if_neg z]
            · rw [a84] at q2
              by_cases z : j = m
              · rw [z]; exact ⟨q, sm⟩
              · rw [if_neg z] at q2
                have := lb j hj
                omega
          have cr := cnt_rg W (fun c r => hs h1 112 m n 112 (10 * r + c) = n)
          refine grow 63 m h1 (hs h1 112 m n) n 1 (m % 10) (m / 10) _ _ _ (by omega) I2.1 (by omega) (by omega) I.1 I.2.2.1 G (Or.inr rfl) (fun z => absurd z (by decide)) (fun h2 j5 j6 j7 j8 G' P' => ?_)
          have I' := Ly0_grw hS I em.symm sm G' P'
          have := ih (m + 1) h2 (n + 1) j5 j6 j7 j8 (by omega) I'
          rw [show ((m + 1 : Nat) : Int) = (m : Int) + 1 by omega] at this
          exact this
        · rw [enm] at q
          have := I.2.2.1.1 m (by omega)
          exact next (fun _ => by omega) _ _ _ _
      refine g_M_laysIslands_29 ?_ ?_ ?_ ?_ ?_ ?_ ?_
      · intro c1; (try simp only [Int.toNat_natCast] at c1); first | (exfalso; omega) | exact absurd trivial ‹¬ True› | (skip)
      · intro c1; (try simp only [Int.toNat_natCast] at c1); first | omega | (exfalso; omega) | exact ⟨by omega, by omega⟩ | ((rw [eM1]; exact W)) | exact absurd trivial ‹¬ True›
      · intro c1; (try simp only [Int.toNat_natCast] at c1); first | omega | (exfalso; omega) | exact ⟨by omega, by omega⟩ | ((rw [eM1]; exact W)) | exact absurd trivial ‹¬ True›
      · intro c1 c2; (try simp only [Int.toNat_natCast] at c1 c2); first | (exfalso; omega) | exact absurd trivial ‹¬ True› | (exact p52 (inS m (Or.inl (bo.mp c2))))
      · intro c1 c2 c3; (try simp only [Int.toNat_natCast] at c1 c2 c3); first | omega | (exfalso; omega) | exact ⟨by omega, by omega⟩ | ((rw [eM1]; exact W)) | exact absurd trivial ‹¬ True›
      · intro c1 c2 c3; (try simp only [Int.toNat_natCast] at c1 c2 c3); first | (exfalso; omega) | exact absurd trivial ‹¬ True› | (exact next (fun z => absurd z (noS m (fun y => c2 (bo.mpr y)) c3)) _ _ _ _)
      · intro c1 c2 c3; (try simp only [Int.toNat_natCast] at c1 c2 c3); first | (exfalso; omega) | exact absurd trivial ‹¬ True› | (exact p52 (inS m (Or.inr c3)))
  have start : ∀ (d m : Nat), m + d = 70 → Wp true i_M_laysIslands 5 [vr 103, vi x1, vi x2, vi 0, vi (m : Int), vr 9999, vr 9999, vr 9999, vr 9999] [] (wr h 112 0 m (fun _ => -1)) Q := by
    intro d
    induction d with
    | zero =>
      intro m e
      have em : m = 70 := by omega
      subst em
      refine g_M_laysIslands_5 (fun _ => ?_) (fun q => by omega) (fun q => by omega) (fun q => by omega)
      have L1 : ∀ j, j < 70 → wr h 112 0 70 (fun _ => -1) 112 j = -1 := fun j hj => wr_in (by omega)
      exact all 70 0 _ 0 _ _ _ _ rfl ⟨fun k hk => wr_ne hk, by omega, ⟨fun j hj => by rw [L1 j hj]; omega, fun c r c' r' q1 q2 q3 => by
        have := hS c r q1
        rw [L1 _ (by omega)] at q3; omega, fun j hj _ => L1 j hj⟩, fun c r q1 q2 => by omega, fun c r c' r' q1 q2 q3 => by
        have := hS c r q1
        rw [L1 _ (by omega)] at q3; omega, fun k hk => by omega⟩
    | succ d ih =>
      intro m e
      refine g_M_laysIslands_5 (fun q => by omega) (fun _ => by omega) (fun _ => by omega) (fun _ => ?_)
      have st := wr_s (h := h) (k := 112) (a := 0) (n := m) (T := fun _ => -1)
      rw [Nat.zero_add] at st
      rw [Int.toNat_natCast, st]
      exact ih (m + 1) (by omega)
  have := start 70 0 rfl
  rw [wr_0] at this
  exact g_M_laysIslands_0 this
