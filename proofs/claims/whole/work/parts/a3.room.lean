theorem g_M_room_0 {Q : PQ} {h : HP} {x1 : Int} 
    (k1 : Wp true i_M_begins 0 [vr 103, vi x1, vi 900, vr 9999] [] h (fun r h' => Wp true i_M_room 8 [vr 103, vi x1, vr 9999, vr 9999] (r.toList ++ []) h' Q)) :
    Wp true i_M_room 0 [vr 103, vi x1, vr 9999, vr 9999] [] h Q := by
  refine r_aload_n (v := 103) f_262_0 rfl (by decide) ?_
  refine r_iload_n (v := x1) f_262_1 rfl ?_
  refine r_sipush f_262_2 (by decide) ?_
  exact r_callv (as := [vr 103, vi x1, vi 900]) (st' := []) (ls0 := [vr 103, vi x1, vi 900, vr 9999]) f_262_5 (by decide) rfl rfl (Nat.le_of_ble_eq_true rfl) (Nat.le_of_ble_eq_true rfl) ⟨_, _, rfl, rfl⟩ rfl k1

theorem g_M_room_8 {Q : PQ} {h : HP} {x1 : Int} {s0 : Int} 
    (k1 : ¬ s0 = 0 → Wp true i_M_plain 0 [vr 103, vi 2000, vr 9999] [] h (fun r h' => Wp true i_M_room 24 [vr 103, vi x1, vr 9999, vr 9999] (r.toList ++ []) h' Q))
    (k2 : s0 = 0 → Q (some (vi (-1))) (hs h 103 2 1)) :
    Wp true i_M_room 8 [vr 103, vi x1, vr 9999, vr 9999] [vi s0] h Q := by
  refine r_br (t := 17) f_262_8 rfl cb_ne (fun c1 => ?_) (fun c1 => ?_)
  · refine r_aload_n (v := 103) f_262_17 rfl (by decide) ?_
    refine r_sipush f_262_18 (by decide) ?_
    exact r_callv (as := [vr 103, vi 2000]) (st' := []) (ls0 := [vr 103, vi 2000, vr 9999]) f_262_21 (by decide) rfl rfl (Nat.le_of_ble_eq_true rfl) (Nat.le_of_ble_eq_true rfl) ⟨_, _, rfl, rfl⟩ rfl (k1 c1)
  · have c1 := Decidable.not_not.mp c1
    refine r_aload_n (v := 103) f_262_11 rfl (by decide) ?_
    refine r_iconst f_262_12 (by decide) ?_
    refine r_callv (as := [vr 103, vi 1]) (st' := []) (ls0 := [vr 103, vi 1]) f_262_13 (by decide) rfl rfl (Nat.le_of_ble_eq_true rfl) (Nat.le_of_ble_eq_true rfl) ⟨_, _, rfl, rfl⟩ rfl ?_
    refine c_M_refuse  ?_
    show Wp true i_M_room 16 [vr 103, vi x1, vr 9999, vr 9999] [vi (-1)] (hs h 103 2 1) Q
    exact r_reti f_262_16 rfl (k2 c1)

theorem g_M_room_24 {Q : PQ} {h : HP} {x1 : Int} 
    (k1 : Wp true i_M_room 31 [vr 103, vi x1, vi 1, vr 9999] [] (hs h 103 20 0) Q) :
    Wp true i_M_room 24 [vr 103, vi x1, vr 9999, vr 9999] [] h Q := by
  refine r_aload_n (v := 103) f_262_24 rfl (by decide) ?_
  refine r_iconst f_262_25 (by decide) ?_
  refine r_puti f_262_26 rfl (by decide) ?_
  refine r_iconst f_262_29 (by decide) ?_
  refine r_istore_n (ls' := [vr 103, vi x1, vi 1, vr 9999]) f_262_30 (Nat.le_of_ble_eq_true rfl) rfl ?_
  exact k1

theorem g_M_room_31 {Q : PQ} {h : HP} {x1 : Int} {x2 : Int} 
    (k1 : x2 = 0 → Wp true i_M_room 50 [vr 103, vi x1, vi x2, vr 9999] [] h Q)
    (k2 : ¬ x2 = 0 → h 103 12 = 0 → Wp true i_M_room 50 [vr 103, vi x1, vi x2, vr 9999] [] h Q)
    (k3 : ¬ x2 = 0 → ¬ h 103 12 = 0 → Wp true i_M_roomPart 0 [vr 103, vr 9999, vr 9999] [] h (fun r h' => Wp true i_M_room 46 [vr 103, vi x1, vi x2, vr 9999] (r.toList ++ []) h' Q)) :
    Wp true i_M_room 31 [vr 103, vi x1, vi x2, vr 9999] [] h Q := by
  refine r_iload_n (v := x2) f_262_31 rfl ?_
  refine r_br (t := 50) f_262_32 rfl cb_eq (fun c1 => ?_) (fun c1 => ?_)
  · exact (k1 c1)
  · refine r_aload_n (v := 103) f_262_35 rfl (by decide) ?_
    refine r_geti (v := h 103 12) f_262_36 rfl (by decide) rfl ?_
    refine r_br (t := 50) f_262_39 rfl cb_eq (fun c2 => ?_) (fun c2 => ?_)
    · exact (k2 c1 c2)
    · refine r_aload_n (v := 103) f_262_42 rfl (by decide) ?_
      exact r_callv (as := [vr 103]) (st' := []) (ls0 := [vr 103, vr 9999, vr 9999]) f_262_43 (by decide) rfl rfl (Nat.le_of_ble_eq_true rfl) (Nat.le_of_ble_eq_true rfl) ⟨_, _, rfl, rfl⟩ rfl (k3 c1 c2)

theorem g_M_room_46 {Q : PQ} {h : HP} {x1 : Int} {x2 : Int} {s0 : Int} 
    (k1 : Wp true i_M_room 31 [vr 103, vi x1, vi s0, vr 9999] [] h Q) :
    Wp true i_M_room 46 [vr 103, vi x1, vi x2, vr 9999] [vi s0] h Q := by
  refine r_istore_n (ls' := [vr 103, vi x1, vi s0, vr 9999]) f_262_46 (Nat.le_of_ble_eq_true rfl) rfl ?_
  refine r_goto (t := 31) f_262_47 rfl ?_
  exact k1

theorem g_M_room_50 {Q : PQ} {h : HP} {x1 : Int} {x2 : Int} 
    (k1 : ¬ h 103 18 = 0 → Wp true i_M_taken 0 [vr 103, vi (h 104 2)] [] h (fun r h' => Wp true i_M_room 127 [vr 103, vi x1, vi x2, vr 9999] (r.toList ++ []) h' Q))
    (k2 : h 103 18 = 0 → Wp true i_M_room 59 [vr 103, vi x1, vi x2, vi 0] [] h Q) :
    Wp true i_M_room 50 [vr 103, vi x1, vi x2, vr 9999] [] h Q := by
  refine r_aload_n (v := 103) f_262_50 rfl (by decide) ?_
  refine r_geti (v := h 103 18) f_262_51 rfl (by decide) rfl ?_
  refine r_br (t := 117) f_262_54 rfl cb_ne (fun c1 => ?_) (fun c1 => ?_)
  · refine r_aload_n (v := 103) f_262_117 rfl (by decide) ?_
    refine r_aload_n (v := 103) f_262_118 rfl (by decide) ?_
    refine r_getr (q := 104) f_262_119 rfl (by decide) (Or.inl rfl) rfl ?_
    refine r_iconst f_262_122 (by decide) ?_
    refine r_iaload (n := 3000) (v := h 104 2) f_262_123 ⟨rfl, rfl⟩ (by decide) rfl ?_
    exact r_callv (as := [vr 103, vi (h 104 2)]) (st' := []) (ls0 := [vr 103, vi (h 104 2)]) f_262_124 (by decide) rfl rfl (Nat.le_of_ble_eq_true rfl) (Nat.le_of_ble_eq_true rfl) ⟨_, _, rfl, rfl⟩ rfl (k1 c1)
  · have c1 := Decidable.not_not.mp c1
    refine r_iconst f_262_57 (by decide) ?_
    refine r_istore_n (ls' := [vr 103, vi x1, vi x2, vi 0]) f_262_58 (Nat.le_of_ble_eq_true rfl) rfl ?_
    exact (k2 c1)

theorem g_M_room_59 {Q : PQ} {h : HP} {x1 : Int} {x2 : Int} {x3 : Int} 
    (k1 : 500 ≤ x3 → Wp true i_M_room 90 [vr 103, vi x1, vi x2, vi 0] [] h Q)
    (o2 : ¬ 500 ≤ x3 → -2147483648 ≤ 2000 + x3 ∧ 2000 + x3 ≤ 2147483647)
    (o3 : ¬ 500 ≤ x3 → 0 ≤ 2000 + x3 ∧ 2000 + x3 < 3000)
    (o4 : ¬ 500 ≤ x3 → 0 ≤ x3 ∧ x3 < 3000)
    (o5 : ¬ 500 ≤ x3 → -2147483648 ≤ x3 + 1 ∧ x3 + 1 ≤ 2147483647)
    (k6 : ¬ 500 ≤ x3 → Wp true i_M_room 59 [vr 103, vi x1, vi x2, vi (x3 + 1)] [] (hs h 104 x3.toNat (h 104 (2000 + x3).toNat)) Q) :
    Wp true i_M_room 59 [vr 103, vi x1, vi x2, vi x3] [] h Q := by
  refine r_iload_n (v := x3) f_262_59 rfl ?_
  refine r_sipush f_262_60 (by decide) ?_
  refine r_br2 (t := 88) f_262_63 rfl cb_ge (fun c1 => ?_) (fun c1 => ?_)
  · refine r_iconst f_262_88 (by decide) ?_
    refine r_istore_n (ls' := [vr 103, vi x1, vi x2, vi 0]) f_262_89 (Nat.le_of_ble_eq_true rfl) rfl ?_
    exact (k1 c1)
  · refine r_aload_n (v := 103) f_262_66 rfl (by decide) ?_
    refine r_getr (q := 104) f_262_67 rfl (by decide) (Or.inl rfl) rfl ?_
    refine r_iload_n (v := x3) f_262_70 rfl ?_
    refine r_aload_n (v := 103) f_262_71 rfl (by decide) ?_
    refine r_getr (q := 104) f_262_72 rfl (by decide) (Or.inl rfl) rfl ?_
    refine r_sipush f_262_75 (by decide) ?_
    refine r_iload_n (v := x3) f_262_78 rfl ?_
    refine r_iadd (u := 2000 + x3) f_262_79 rfl (o2 c1) ?_
    refine r_iaload (n := 3000) (v := h 104 (2000 + x3).toNat) f_262_80 ⟨rfl, rfl⟩ (o3 c1) rfl ?_
    refine r_iastore (n := 3000) f_262_81 ⟨rfl, rfl⟩ (o4 c1) ?_
    refine r_iinc (v := x3) (w := x3 + 1) (ls' := [vr 103, vi x1, vi x2, vi (x3 + 1)]) f_262_82 rfl rfl (o5 c1) rfl ?_
    refine r_goto (t := 59) f_262_85 rfl ?_
    exact (k6 c1)

theorem g_M_room_90 {Q : PQ} {h : HP} {x1 : Int} {x2 : Int} {x3 : Int} 
    (k1 : 10 ≤ x3 → Wp true i_M_taken 0 [vr 103, vi (h 104 2)] [] h (fun r h' => Wp true i_M_room 127 [vr 103, vi x1, vi x2, vi x3] (r.toList ++ []) h' Q))
    (o2 : ¬ 10 ≤ x3 → -2147483648 ≤ 40 + x3 ∧ 40 + x3 ≤ 2147483647)
    (o3 : ¬ 10 ≤ x3 → 0 ≤ 40 + x3 ∧ 40 + x3 < 60)
    (o4 : ¬ 10 ≤ x3 → 0 ≤ x3 ∧ x3 < 60)
    (o5 : ¬ 10 ≤ x3 → -2147483648 ≤ x3 + 1 ∧ x3 + 1 ≤ 2147483647)
    (k6 : ¬ 10 ≤ x3 → Wp true i_M_room 90 [vr 103, vi x1, vi x2, vi (x3 + 1)] [] (hs h 105 x3.toNat (h 105 (40 + x3).toNat)) Q) :
    Wp true i_M_room 90 [vr 103, vi x1, vi x2, vi x3] [] h Q := by
  refine r_iload_n (v := x3) f_262_90 rfl ?_
  refine r_bipush f_262_91 (by decide) ?_
  refine r_br2 (t := 117) f_262_93 rfl cb_ge (fun c1 => ?_) (fun c1 => ?_)
  · refine r_aload_n (v := 103) f_262_117 rfl (by decide) ?_
    refine r_aload_n (v := 103) f_262_118 rfl (by decide) ?_
    refine r_getr (q := 104) f_262_119 rfl (by decide) (Or.inl rfl) rfl ?_
    refine r_iconst f_262_122 (by decide) ?_
    refine r_iaload (n := 3000) (v := h 104 2) f_262_123 ⟨rfl, rfl⟩ (by decide) rfl ?_
    exact r_callv (as := [vr 103, vi (h 104 2)]) (st' := []) (ls0 := [vr 103, vi (h 104 2)]) f_262_124 (by decide) rfl rfl (Nat.le_of_ble_eq_true rfl) (Nat.le_of_ble_eq_true rfl) ⟨_, _, rfl, rfl⟩ rfl (k1 c1)
  · refine r_aload_n (v := 103) f_262_96 rfl (by decide) ?_
    refine r_getr (q := 105) f_262_97 rfl (by decide) (Or.inl rfl) rfl ?_
    refine r_iload_n (v := x3) f_262_100 rfl ?_
    refine r_aload_n (v := 103) f_262_101 rfl (by decide) ?_
    refine r_getr (q := 105) f_262_102 rfl (by decide) (Or.inl rfl) rfl ?_
    refine r_bipush f_262_105 (by decide) ?_
    refine r_iload_n (v := x3) f_262_107 rfl ?_
    refine r_iadd (u := 40 + x3) f_262_108 rfl (o2 c1) ?_
    refine r_laload (n := 60) (v := h 105 (40 + x3).toNat) f_262_109 ⟨rfl, rfl⟩ (o3 c1) rfl ?_
    refine r_lastore (n := 60) f_262_110 ⟨rfl, rfl⟩ (o4 c1) ?_
    refine r_iinc (v := x3) (w := x3 + 1) (ls' := [vr 103, vi x1, vi x2, vi (x3 + 1)]) f_262_111 rfl rfl (o5 c1) rfl ?_
    refine r_goto (t := 90) f_262_114 rfl ?_
    exact (k6 c1)

theorem g_M_room_127 {Q : PQ} {h : HP} {x1 : Int} {x2 : Int} {j3 : AV} {s0 : Int} 
    (k1 : Q (some (vi s0)) h) :
    Wp true i_M_room 127 [vr 103, vi x1, vi x2, j3] [vi s0] h Q := by
  exact r_reti f_262_127 rfl k1

section
variable {Q : PQ} {h H X : HP} {B : Bt} {n s : Nat}
/-- the row of a new THING: first whether a THING stands there, then the NUMBER -/
theorem c_M_row {R : HP} {N : NT} {c : Nat} {co : Int} (F : FXM H X) (S : SMo B n s X h) (eR : rmM X 2000 = R) (W : WR R) (ec : R 0 3 = c) (c10 : c < 10) (xc : X 104 (2015 + 6 * c) = co)
    (k : hd (sRow B n s R co) (fun fk fp => ∀ g, FaM H g fk fp → Q (some (vi 0)) g) (fun r => ∀ (x3 : Int) g, SMo B n r.2 (hs X 104 (2015 + 6 * c + 1) r.1) g → 0 ≤ r.1 → r.1 ≤ R 0 1 - 1 → Wp true i_M_aThing 204 [vr 103, vi (c : Int), vi (2015 + 6 * (c : Int)), vi x3] [vi 1] g Q)) :
    Wp true i_M_aThing 117 [vr 103, vi (c : Int), vi (2015 + 6 * (c : Int)), vi 0] [] h Q := by
  have w := W.1
  have e12 := S.2.2.2.2.2.1
  have e15 := S.2.2.2.2.2.2.1
  have kc := kM_c (tK B n s)
  have tr := tK_rg (B := B) (n := n) (s := s)
  have d1 : h 104 2001 = R 0 1 := by rw [S.1.1 104 (by decide), ← eR]; rfl
  have hc : h 104 (2015 + 6 * (c : Int)).toNat = co := by rw [S.1.1 104 (by decide), show (2015 + 6 * (c : Int)).toNat = 2015 + 6 * c by omega]; exact xc
  have x2 : X 104 (2000 + 2) = (c : Int) := by rw [← ec, ← eR]; rfl
  have r2 : ∀ j : Nat, j < c → h 104 (2015 + 6 * (j : Int)).toNat = R 2 j ∧ h 104 (2015 + 6 * (j : Int) + 1).toNat = R 3 j := by
    intro j hj
    rw [S.1.1 104 (by decide), show (2015 + 6 * (j : Int)).toNat = 2000 + 15 + 6 * j + (2 - 2) by omega, show (2015 + 6 * (j : Int) + 1).toNat = 2000 + 15 + 6 * j + (3 - 2) by omega, ← eR]
    simp only [rmM]
    rw [x2]
    simp [hj]
  unfold sRow at k
  -- past all THINGS: the NUMBER
  have fin : (∀ v, tK B n s = 2 → v = tN B n s → rOn R co v = -1) → ∀ x3 : Int, (c : Int) ≤ x3 → Wp true i_M_aThing 117 [vr 103, vi (c : Int), vi (2015 + 6 * (c : Int)), vi x3] [] h Q := by
    intro no x3 h3
    refine g_M_aThing_117 (fun _ => by omega) (fun _ => by omega) (fun _ => ?_) (fun z => by omega) (fun z => by omega) (fun z => by omega) (fun z => by omega) (fun z => by omega) (fun z => by omega) (fun z => by omega) (fun z => by omega) (fun z => by omega) (fun z => by omega) (fun z => by omega) (fun z => by omega) (fun z => by omega)
    rw [d1]
    refine c3_num (i := 2015 + 6 * c + 1) F S (by omega) (by omega) ?_
    have k := hd_bd.mp k
    rcases sNum_c (B := B) (n := n) (s := s) (lo := 0) (hi := R 0 1 - 1) with ⟨fk, fp, e⟩ | ⟨e, l1, l2, t2⟩
    · rw [e] at k ⊢
      exact fun g f => g_M_aThing_204 (fun z => absurd rfl z) (fun z => absurd rfl z) (fun z => absurd rfl z) (fun _ => k g f)
    · rw [e] at k ⊢
      have k : hd (if rOn R co (tN B n s) = -1 then (.inr (tN B n s, nx B n s) : PR (Int × Nat)) else fl B n s 5) (fun fk fp => ∀ g, FaM H g fk fp → Q (some (vi 0)) g) (fun r => ∀ (x3 : Int) g, SMo B n r.2 (hs X 104 (2015 + 6 * c + 1) r.1) g → 0 ≤ r.1 → r.1 ≤ R 0 1 - 1 → Wp true i_M_aThing 204 [vr 103, vi (c : Int), vi (2015 + 6 * (c : Int)), vi x3] [vi 1] g Q) := k
      rw [if_pos (no _ t2 rfl)] at k
      exact fun _ _ g S' => k x3 g S' l1 l2
  by_cases t2 : tK B n s = 2
  · have v : h 103 15 = tN B n s := e15 t2
    have t3 : h 103 12 = 3 := by omega
    rcases fnd_at (p := fun i => R 2 i = co ∧ R 3 i = tN B n s) c 0 with ⟨f1, f2⟩ | ⟨j0, f1, -, f2, f3, f4⟩
    · have no : rOn R co (tN B n s) = -1 := by unfold rOn; rw [ec, Int.toNat_natCast]; exact f1
      have lp : ∀ (d j : Nat), j + d = c → Wp true i_M_aThing 117 [vr 103, vi (c : Int), vi (2015 + 6 * (c : Int)), vi (j : Int)] [] h Q := by
        intro d
        induction d with
        | zero =>
          intro j hj
          exact fin (fun v' _ e => by rw [e]; exact no) _ (by omega)
        | succ d ih =>
          intro j hj
          have q := r2 j (by omega)
          have nj := f2 j (by omega) (by omega)
          refine g_M_aThing_117 (fun z => by omega) (fun z => by omega) (fun z => by omega) (fun _ z => absurd t3 z) (fun _ z => absurd t3 z) (fun _ _ => by omega) (fun _ _ => by omega) (fun _ _ => by omega) (fun _ _ => by omega) (fun _ _ _ => by omega) (fun _ _ _ => ih (j + 1) (by omega)) (fun _ _ _ => by omega) (fun _ _ _ => by omega) (fun _ _ _ _ => by omega) (fun _ _ _ _ => ih (j + 1) (by omega)) (fun _ _ z1 z2 => ?_)
          rw [q.1, hc] at z1
          rw [q.2, v] at z2
          exact absurd ⟨z1, z2⟩ nj
      exact lp c 0 (by omega)
    · have f3 : R 2 j0 = co ∧ R 3 j0 = tN B n s := f3
      have yes : ¬ rOn R co (tN B n s) = -1 := by
        unfold rOn; rw [ec, Int.toNat_natCast, f1]; omega
      have wj := (W.2.2.1 j0 (by omega)).2.1
      have kf : hd (fl B n s 5 : PR (Int × Nat)) (fun fk fp => ∀ g, FaM H g fk fp → Q (some (vi 0)) g) (fun r => True) := by
        have k := hd_bd.mp k
        have e : sNum B n s 0 (R 0 1 - 1) = .inr (tN B n s, nx B n s) := by
          unfold sNum
          rw [if_pos t2, if_pos (by omega)]
        rw [e] at k
        have k : hd (if rOn R co (tN B n s) = -1 then (.inr (tN B n s, nx B n s) : PR (Int × Nat)) else fl B n s 5) (fun fk fp => ∀ g, FaM H g fk fp → Q (some (vi 0)) g) (fun r => ∀ (x3 : Int) g, SMo B n r.2 (hs X 104 (2015 + 6 * c + 1) r.1) g → 0 ≤ r.1 → r.1 ≤ R 0 1 - 1 → Wp true i_M_aThing 204 [vr 103, vi (c : Int), vi (2015 + 6 * (c : Int)), vi x3] [vi 1] g Q) := k
        rw [if_neg yes] at k
        exact hd_m k (fun _ _ q => q) (fun _ _ => trivial)
      have lp : ∀ (d j : Nat), j + d = j0 → Wp true i_M_aThing 117 [vr 103, vi (c : Int), vi (2015 + 6 * (c : Int)), vi (j : Int)] [] h Q := by
        intro d
        induction d with
        | zero =>
          intro j hj
          have ej : j = j0 := by omega
          subst ej
          have q := r2 j (by omega)
          refine g_M_aThing_117 (fun z => by omega) (fun z => by omega) (fun z => by omega) (fun _ z => absurd t3 z) (fun _ z => absurd t3 z) (fun _ _ => by omega) (fun _ _ => by omega) (fun _ _ => by omega) (fun _ _ => by omega) (fun _ _ _ => by omega) (fun _ _ z => ?_) (fun _ _ _ => by omega) (fun _ _ _ => by omega) (fun _ _ _ _ => by omega) (fun _ _ _ z => ?_) (fun _ _ _ _ => ?_)
          · rw [q.1, hc] at z; exact absurd f3.1 z
          · rw [q.2, v] at z; exact absurd f3.2 z
          · exact c3_fail F S (hd_m kf (fun fk fp q g f => g_M_aThing_179 (Or.inl rfl) (q g f)) (fun a q => q))
        | succ d ih =>
          intro j hj
          have q := r2 j (by omega)
          have nj := f4 j (by omega) (by omega)
          refine g_M_aThing_117 (fun z => by omega) (fun z => by omega) (fun z => by omega) (fun _ z => absurd t3 z) (fun _ z => absurd t3 z) (fun _ _ => by omega) (fun _ _ => by omega) (fun _ _ => by omega) (fun _ _ => by omega) (fun _ _ _ => by omega) (fun _ _ _ => ih (j + 1) (by omega)) (fun _ _ _ => by omega) (fun _ _ _ => by omega) (fun _ _ _ _ => by omega) (fun _ _ _ _ => ih (j + 1) (by omega)) (fun _ _ z1 z2 => ?_)
          rw [q.1, hc] at z1
          rw [q.2, v] at z2
          exact absurd ⟨z1, z2⟩ nj
      exact lp j0 0 (by omega)
  · have t3 : ¬ h 103 12 = 3 := by omega
    have lp : ∀ (d j : Nat), j + d = c → Wp true i_M_aThing 117 [vr 103, vi (c : Int), vi (2015 + 6 * (c : Int)), vi (j : Int)] [] h Q := by
      intro d
      induction d with
      | zero =>
        intro j hj
        exact fin (fun v' z _ => absurd z t2) _ (by omega)
      | succ d ih =>
        intro j hj
        exact g_M_aThing_117 (fun z => by omega) (fun z => by omega) (fun z => by omega) (fun _ _ => by omega) (fun _ _ => ih (j + 1) (by omega)) (fun _ z => absurd z t3) (fun _ z => absurd z t3) (fun _ z => absurd z t3) (fun _ z => absurd z t3) (fun _ z => absurd z t3) (fun _ z => absurd z t3) (fun _ z => absurd z t3) (fun _ z => absurd z t3) (fun _ z => absurd z t3) (fun _ z => absurd z t3) (fun _ z => absurd z t3)
    exact lp c 0 (by omega)
def sThing0 (B : Bt) (n s : Nat) (R : HP) (N : NT) : PR (Nat × HP × NT) :=
  if isNm B n (nx B n s) then (if fnd (fun i => N i = tL B n (nx B n s)) (R 0 3).toNat 0 = -1 then
    (bd (sRest0 B n (nx B n (nx B n s)) R) fun a => .inr (a.1, a.2, nAdd N (R 0 3).toNat (tL B n (nx B n s)))) else fl B n (nx B n s) 3) else fl B n (nx B n s) 2
theorem sThing_e {R : HP} {N : NT} : sThing B n s R N = bd (sThing0 B n s R N) (fun a => bd (sEnd B n a.1) fun s' => .inr (s', a.2.1, a.2.2)) := by
  unfold sThing sThing0
  split
  · split
    · rw [sRest_e, bd_a, bd_a]
      congr 1; funext a
      unfold sEndR
      rw [bd_a]; rfl
    · rfl
  · rfl
theorem c_M_aThing {R : HP} {N : NT} (F : FXM H X) (S : SMo B n s X h) (D : DM X R N) (W : WS R N) (c10 : R 0 3 < 10) (k : hd (sThing0 B n s R N) (fun fk fp => ∀ g, FaM H g fk fp → Q (some (vi 0)) g) (fun a => ∀ Y g, FXM H Y → SMo B n a.1 Y g → DM Y a.2.1 a.2.2 → Y 103 20 = X 103 20 → Q (some (vi 1)) g)) : Wp true i_M_aThing 0 [vr 103, vr 9999, vr 9999, vr 9999] [] h Q := by
  obtain ⟨c, ec⟩ : ∃ c : Nat, R 0 3 = c := ⟨(R 0 3).toNat, by have := W.1.1; omega⟩
  have c10' : c < 10 := by omega
  have w := W.1.1
  have x2 : X 104 2002 = c := by rw [(DM_0 D).2.2]; exact ec
  have h2 : h 104 2002 = c := by rw [S.1.1 104 (by decide)]; exact x2
  unfold sThing0 at k
  rw [ec, Int.toNat_natCast] at k
  refine g_M_aThing_0 (by omega) (by omega) (fun _ => ?_) (fun z => by omega)
  rw [h2]
  refine c3_next S (fun g1 S1 => g_M_aThing_35 (c_M_isName S1.2 (fun nm => ?_) (fun nn => ?_)))
  · rw [if_pos nm] at k
    refine g_M_aThing_41 (fun _ => c_M_findHere (b := 40) (m := c) (N := N) S1.2 nm (by omega) (fun i hi => ⟨?_, (W.2.1 i (by omega)).2.2⟩) ?_) (fun z => absurd z (by decide))
    · rw [S1.1.1 105 (by decide)]; exact D.2.1 i (by omega)
    · by_cases fr : fnd (fun i => N i = tL B n (nx B n s)) c 0 = -1
      · rw [if_pos fr] at k
        rw [fr]
        refine g_M_aThing_57 (fun _ => by omega) (fun _ => c_M_nameHere S1.2 nm (g_M_aThing_79 (by omega) ?_)) (fun z => absurd rfl z)
        rw [show (40 + (c : Int)).toNat = 40 + c by omega]
        have S2 := SMo_w (k := 105) (i := 40 + c) (v := nm256 (tL B n (nx B n s))) S1 (by decide) (by decide)
        have F2 := FXM_5 (i := 40 + c) (v := nm256 (tL B n (nx B n s))) F (by omega)
        have kk := hd_bd.mp k
        unfold sRest0 at kk
        refine c3_next S2 (fun g2 S3 => g_M_aThing_84 (c3_word (j := 5) F2 S3 (by decide) rfl (hd_m (hd_bd.mp kk) (fun fk fp q g f => g_M_aThing_91 (fun _ => q g f) (fun z => absurd rfl z) (fun z => absurd rfl z)) (fun s2 q g4 S4 => ?_))))
        have e0 : g4 104 2000 = R 0 0 := by rw [S4.1.1 104 (by decide), hs_ne (by decide), (DM_0 D).1]
        refine g_M_aThing_91 (fun z => absurd z (by decide)) (fun _ => by omega) (fun _ => ?_)
        rw [e0]
        refine c3_num (i := 2015 + 6 * c) F2 S4 (by omega) (by omega) (hd_m (hd_bd.mp q) (fun fk fp q g f => g_M_aThing_110 (fun z => absurd rfl z) (fun _ => q g f)) (fun co q l1 l2 g5 S5 => ?_))
        have F5 := FXM_4 (i := 2015 + 6 * c) (v := co.1) F2 (by omega)
        refine g_M_aThing_110 (fun _ => ?_) (fun z => absurd z (by decide))
        have eR5 : rmM (hs (hs X 105 (40 + c) (nm256 (tL B n (nx B n s)))) 104 (2015 + 6 * c) co.1) 2000 = R := by
          rw [← D.1]
          have x1 : X 104 2001 ≤ 7 := by rw [(DM_0 D).2.1]; omega
          funext k i
          have o : ∀ j, j ≠ 2015 + 6 * c → (hs (hs X 105 (40 + c) (nm256 (tL B n (nx B n s)))) 104 (2015 + 6 * c) co.1) 104 j = X 104 j := fun j hj => by rw [hs_o (Or.inr hj), hs_ne (by decide)]
          have e1 := o (2000 + 1) (by omega)
          have e2 := o (2000 + 2) (by omega)
          have e3 := o (2000 + 3) (by omega)
          simp only [rmM, e1, e2, e3]
          by_cases k0 : k = 0
          · simp only [k0, if_true]
            by_cases l2 : i < 2
            · rw [if_pos l2, if_pos l2, o _ (by omega)]
            · rw [if_neg l2, if_neg l2]
              by_cases i7 : i < 7
              · simp only [i7, if_true, o (2000 + i) (by omega)]
              · simp only [i7, if_false]
          · simp only [if_neg k0]
            by_cases k1 : k = 1
            · simp only [k1, if_true]
              by_cases c1 : (i : Int) < X 104 (2000 + 1)
              · have : X 104 (2000 + 1) = X 104 2001 := rfl
                rw [if_pos c1, if_pos c1, o _ (by omega)]
              · rw [if_neg c1, if_neg c1]
            · simp only [if_neg k1]
              by_cases c1 : (i : Int) < X 104 (2000 + 2)
              · have : X 104 (2000 + 2) = X 104 2002 := rfl
                rw [if_pos c1, if_pos c1]
                by_cases k8 : k < 8
                · rw [if_pos k8, if_pos k8, o _ (by omega)]
                · rw [if_neg k8, if_neg k8]
              · rw [if_neg c1, if_neg c1]
        refine c_M_row (N := N) (c := c) (co := co.1) F5 S5 eR5 W.1 ec c10' hs_s (hd_m (hd_bd.mp q) (fun fk fp q => q) (fun ro q x3 g6 S6 r1 r2 => ?_))
        have F6 := FXM_4 (i := 2015 + 6 * c + 1) (v := ro.1) F5 (by omega)
        refine g_M_aThing_204 (fun _ => by omega) (fun _ => by omega) (fun _ => ?_) (fun z => absurd z (by decide))
        rw [show (2015 + 6 * (c : Int) + 4).toNat = 2015 + 6 * c + 4 by omega]
        have S7 := SMo_w (k := 104) (i := 2015 + 6 * c + 4) (v := -1) S6 (by decide) (by decide)
        have F7 := FXM_4 (i := 2015 + 6 * c + 4) (v := -1) F6 (by omega)
        refine c3_word (j := 6) F7 S7 (by decide) rfl (hd_m (hd_bd.mp q) (fun fk fp q g f => g_M_aThing_226 (fun _ => q g f) (fun z => absurd rfl z) (fun z => absurd rfl z)) (fun s6 q g8 S8 => ?_))
        refine g_M_aThing_226 (fun z => absurd z (by decide)) (fun _ => by omega) (fun _ => c3_num (i := 2015 + 6 * c + 2) F7 S8 (by omega) (by omega) (hd_m (hd_bd.mp q) (fun fk fp q g f => g_M_aThing_239 (fun _ => q g f) (fun z => absurd rfl z) (fun z => absurd rfl z) (fun z => absurd rfl z)) (fun w0 q _ _ g9 S9 => ?_)))
        have F9 := FXM_4 (i := 2015 + 6 * c + 2) (v := w0.1) F7 (by omega)
        refine g_M_aThing_239 (fun z => absurd z (by decide)) (fun _ => by omega) (fun _ => by omega) (fun _ => c3_num (i := 2015 + 6 * c + 3) F9 S9 (by omega) (by omega) (hd_m (hd_bd.mp q) (fun fk fp q g f => g_M_aThing_254 (fun _ => q g f) (fun z => absurd rfl z)) (fun w1 q _ _ g10 S10 => ?_)))
        have F10 := FXM_4 (i := 2015 + 6 * c + 3) (v := w1.1) F9 (by omega)
        obtain ⟨Z, eZ⟩ : ∃ Z, Z = hs (hs (hs (hs (hs (hs X 105 (40 + c) (nm256 (tL B n (nx B n s)))) 104 (2015 + 6 * c) co.1) 104 (2015 + 6 * c + 1) ro.1) 104 (2015 + 6 * c + 4) (-1)) 104 (2015 + 6 * c + 2) w0.1) 104 (2015 + 6 * c + 3) w1.1 := ⟨_, rfl⟩
        rw [← eZ] at S10 F10
        have zt : Z 103 20 = X 103 20 := by rw [eZ, hs_ne (by decide), hs_ne (by decide), hs_ne (by decide), hs_ne (by decide), hs_ne (by decide), hs_ne (by decide)]
        have z4 : Z 104 (2015 + 6 * c + 4) = -1 := by rw [eZ, hs_o (Or.inr (by omega)), hs_o (Or.inr (by omega)), hs_s]
        have z2 : Z 104 2002 = c := by rw [eZ, hs_o (Or.inr (by omega)), hs_o (Or.inr (by omega)), hs_o (Or.inr (by omega)), hs_o (Or.inr (by omega)), hs_o (Or.inr (by omega)), hs_ne (by decide)]; exact x2
        have last : ∀ (l : Int × Nat) (g : HP), hd (.inr ((sBig B n l.2).2, rAdd R co.1 ro.1 w0.1 w1.1 l.1 (sBig B n l.2).1) : PR (Nat × HP)) (fun fk fp => ∀ g, FaM H g fk fp → Q (some (vi 0)) g) (fun a => hd (.inr (a.1, a.2, nAdd N c (tL B n (nx B n s))) : PR (Nat × HP × NT)) (fun fk fp => ∀ g, FaM H g fk fp → Q (some (vi 0)) g) (fun a => ∀ Y g, FXM H Y → SMo B n a.1 Y g → DM Y a.2.1 a.2.2 → Y 103 20 = X 103 20 → Q (some (vi 1)) g)) → SMo B n l.2 (hs Z 104 (2015 + 6 * c + 4) l.1) g →
            Wp true i_M_isThere 0 [vr 103, vi 8] [] g (fun r h' => Wp true i_M_aThing 293 [vr 103, vi (c : Int), vi (2015 + 6 * (c : Int)), vi x3] (r.toList ++ [vi (2015 + 6 * (c : Int) + 5), vr 104]) h' Q) := by
          intro l g q Sg
          have q : ∀ Y g, FXM H Y → SMo B n (sBig B n l.2).2 Y g → DM Y (rAdd R co.1 ro.1 w0.1 w1.1 l.1 (sBig B n l.2).1) (nAdd N c (tL B n (nx B n s))) → Y 103 20 = X 103 20 → Q (some (vi 1)) g := q
          have Fl := FXM_4 (i := 2015 + 6 * c + 4) (v := l.1) F10 (by omega)
          have en : ∀ (b : Int) (s' : Nat) (g' : HP), b = (sBig B n l.2).1 → s' = (sBig B n l.2).2 → SMo B n s' (hs Z 104 (2015 + 6 * c + 4) l.1) g' → Wp true i_M_aThing 301 [vr 103, vi (c : Int), vi (2015 + 6 * (c : Int)), vi x3] [vi b, vi (2015 + 6 * (c : Int) + 5), vr 104] g' Q := by
            intro b s' g' eb es Sg'
            have t5 : (2015 + 6 * (c : Int) + 5).toNat = 2015 + 6 * c + 5 := by omega
            have y2 : (hs g' 104 (2015 + 6 * c + 5) b) 104 2002 = c := by rw [hs_o (Or.inr (by omega)), Sg'.1.1 104 (by decide), hs_o (Or.inr (by omega))]; exact z2
            refine g_M_aThing_301 (by omega) (by rw [t5, y2]; omega) ?_
            rw [t5, y2]
            have Sf := SMo_w (k := 104) (i := 2002) (v := (c : Int) + 1) (SMo_w (k := 104) (i := 2015 + 6 * c + 5) (v := b) Sg' (by decide) (by decide)) (by decide) (by decide)
            have Ff := FXM_4 (i := 2002) (v := (c : Int) + 1) (FXM_4 (i := 2015 + 6 * c + 5) (v := b) Fl (by omega)) (by decide)
            rw [es] at Sf
            refine q _ _ Ff Sf ?_ (by rw [hs_ne (by decide), hs_ne (by decide), hs_ne (by decide)]; exact zt)
            have A := DM_add (L := tL B n (nx B n s)) (co := co.1) (ro := ro.1) (w0 := w0.1) (w1 := w1.1) (l := l.1) (b := b) D ec c10' (by omega)
            rw [← eb]
            have eq : hs (hs (hs Z 104 (2015 + 6 * c + 4) l.1) 104 (2015 + 6 * c + 5) b) 104 2002 ((c : Int) + 1) = hs (hs (hs (hs (hs (hs (hs (hs X 105 (40 + c) (nm256 (tL B n (nx B n s)))) 104 (2015 + 6 * c) co.1) 104 (2015 + 6 * c + 1) ro.1) 104 (2015 + 6 * c + 2) w0.1) 104 (2015 + 6 * c + 3) w1.1) 104 (2015 + 6 * c + 4) l.1) 104 (2015 + 6 * c + 5) b) 104 2002 ((c : Int) + 1) := by
              rw [eZ]
              funext k i
              simp only [hs]
              by_cases k4 : k = 104
              · subst k4
                by_cases y : i = 2015 + 6 * c + 4
                · subst y; simp
                · simp [y]
              · simp [k4]
            rw [eq]
            exact A
          refine c_M_isThere (j := 8) Sg.2 (by decide) rfl (fun tw g' S' o => ?_) (fun tw => ?_)
          · have tw : tW B n l.2 = 8 := tw
            refine g_M_aThing_293 (fun z => absurd z (by decide)) (fun _ => en 1 _ g' ?_ ?_ ⟨EM_o Sg.1 o, S'⟩)
            · unfold sBig; rw [if_pos tw]
            · unfold sBig; rw [if_pos tw]
          · have tw : ¬ tW B n l.2 = 8 := tw
            refine g_M_aThing_293 (fun _ => en 0 _ g ?_ ?_ Sg) (fun z => absurd rfl z)
            · unfold sBig; rw [if_neg tw]
            · unfold sBig; rw [if_neg tw]
        have q := hd_bd.mp q
        unfold sLeg at q
        refine g_M_aThing_254 (fun z => absurd z (by decide)) (fun _ => c_M_isThere (j := 7) S10.2 (by decide) rfl (fun tw g' S' o => ?_) (fun tw => ?_))
        · have tw : tW B n w1.2 = 7 := tw
          rw [if_pos tw] at q
          refine g_M_aThing_263 (fun z => absurd z (by decide)) (fun z => absurd z (by decide)) (fun _ => by omega) (fun _ => c3_num (i := 2015 + 6 * c + 4) F10 ⟨EM_o S10.1 o, S'⟩ (by omega) (by omega) (hd_m q (fun fk fp q g f => g_M_aThing_275 (fun z => absurd rfl z) (fun z => absurd rfl z) (fun _ => q g f)) (fun l q l1 l2 g'' S'' => ?_)))
          exact g_M_aThing_275 (fun _ => by omega) (fun _ => last l g'' q S'') (fun z => absurd z (by decide))
        · have tw : ¬ tW B n w1.2 = 7 := tw
          rw [if_neg tw] at q
          refine g_M_aThing_263 (fun _ => by omega) (fun _ => last (-1, w1.2) g10 q ?_) (fun z => absurd rfl z) (fun z => absurd rfl z)
          rw [hs_eq z4]
          exact S10
      · rw [if_neg fr] at k
        refine g_M_aThing_57 (fun z => absurd z fr) (fun z => absurd z fr) (fun _ => ?_)
        exact c3_fail F S1 (hd_m k (fun fk fp q g f => g_M_aThing_66 (Or.inl rfl) (q g f)) (fun a q => q))
  · rw [if_neg nn] at k
    exact g_M_aThing_41 (fun z => absurd rfl z) (fun _ => c3_fail F S1 (hd_m k (fun fk fp q g f => g_M_aThing_49 (Or.inl rfl) (q g f)) (fun a q => q)))
/-- what the reference has been told already -/
def TBr (X R : HP) (l b : Int) : Prop := btI (X 103 20) 0 = decide (0 < R 0 1) ∧ btI (X 103 20) 1 = decide (l = 1) ∧ btI (X 103 20) 2 = decide (b = 1)
theorem wm_rg {B : Bt} {n s : Nat} : -1 ≤ wm (tW B n s) ∧ wm (tW B n s) ≤ 21 := by
  have r := tW_rg (B := B) (n := n) (s := s)
  have a : ∀ i : Nat, i < 23 → -1 ≤ wm ((i : Int) - 1) ∧ wm ((i : Int) - 1) ≤ 21 := by decide +kernel
  have := a (tW B n s + 1).toNat (by omega)
  rw [show (((tW B n s + 1).toNat : Nat) : Int) - 1 = tW B n s by omega] at this
  exact this
theorem DM_3 {R : HP} {N : NT} {i : Nat} {v : Int} (D : DM X R N) : DM (hs X 103 i v) R N := by
  refine ⟨?_, ?_, ?_⟩
  · rw [← D.1]; exact rmM_congr (hs_ne (by decide))
  · rw [hs_ne (by decide)]; exact D.2.1
  · rw [hs_ne (by decide)]; exact D.2.2
theorem c_M_roomPart {R : HP} {N : NT} {l b : Int} (F : FXM H X) (S : SMo B n s X h) (D : DM X R N) (W : WS R N) (T : TBr X R l b) (hl : l = 0 ∨ l = 1) (hb : b = 0 ∨ b = 1) (k : hd (sPart B n s R N l b) (fun fk fp => ∀ g, FaM H g fk fp → Q (some (vi 0)) g) (fun a => ∀ Y g, FXM H Y → SMo B n a.1 Y g → DM Y a.2.1 a.2.2.1 → (0 < a.2.1 0 1 → TBr Y a.2.1 a.2.2.2.1 a.2.2.2.2) → Q (some (vi 1)) g)) : Wp true i_M_roomPart 0 [vr 103, vr 9999, vr 9999] [] h Q := by
  have w := W.1.1
  have m0 := wm_eq (B := B) (n := n) (s := s) (j := 0) (by decide)
  have m2 := wm_eq (B := B) (n := n) (s := s) (j := 2) (by decide)
  have m3 := wm_eq (B := B) (n := n) (s := s) (j := 3) (by decide)
  have m4 := wm_eq (B := B) (n := n) (s := s) (j := 4) (by decide)
  have m0 : wm (tW B n s) = 0 ↔ tW B n s = 0 := m0
  have m2 : wm (tW B n s) = 1 ↔ tW B n s = 2 := m2
  have m3 : wm (tW B n s) = 2 ↔ tW B n s = 3 := m3
  have m4 : wm (tW B n s) = 3 ↔ tW B n s = 4 := m4
  have rg := wm_rg (B := B) (n := n) (s := s)
  have t20 : h 103 20 = X 103 20 := S.1.2 20 (by decide)
  have a1 : o_and (h 103 20) 1 = if btI (X 103 20) 0 = true then 1 else 0 := by rw [t20]; exact bI_a1
  have sh : ∀ j : Nat, j < 32 → o_and (o_shr (h 103 20) (j : Int)) 1 = if btI (X 103 20) j = true then 1 else 0 := fun j hj => by rw [t20]; exact bI_shr hj
  have ff : ∀ {α : Type} (x1 : Int) (x : Int) (K : α → Prop), hd (fl B n s x1 : PR α) (fun fk fp => ∀ g, FaM H g fk fp → Q (some (vi 0)) g) K → Wp true i_M_fails 0 [vr 103, vi x1] [] h (fun r h' => Wp true i_M_roomPart 34 [vr 103, vi x, vr 9999] (r.toList ++ []) h' Q) := fun x1 x K q =>
    c3_fail F S (hd_m q (fun fk fp q g f => g_M_roomPart_34 (Or.inl rfl) (q g f)) (fun a q => q))
  have f5 : ∀ {α : Type} (x1 : Int) (x : Int) (K : α → Prop), hd (fl B n s x1 : PR α) (fun fk fp => ∀ g, FaM H g fk fp → Q (some (vi 0)) g) K → Wp true i_M_fails 0 [vr 103, vi x1] [] h (fun r h' => Wp true i_M_roomPart 57 [vr 103, vi x, vr 9999] (r.toList ++ []) h' Q) := fun x1 x K q =>
    c3_fail F S (hd_m q (fun fk fp q g f => g_M_roomPart_57 (Or.inl rfl) (q g f)) (fun a q => q))
  have Sj : ∀ j : Nat, SMo B n s (hs X 103 20 (o_or (X 103 20) (o_shl 1 (j : Int)))) (hs h 103 20 (o_or (h 103 20) (o_shl 1 (j : Int)))) := fun j => by rw [t20]; exact SMo_3 S (by decide)
  have Fj : ∀ j : Nat, FXM H (hs X 103 20 (o_or (X 103 20) (o_shl 1 (j : Int)))) := fun j => FXM_3 F (by decide)
  have bt : ∀ (j i : Nat), j < 32 → i < 32 → btI ((hs X 103 20 (o_or (X 103 20) (o_shl 1 (j : Int)))) 103 20) i = (btI (X 103 20) i || decide (i = j)) := fun j i hj hi => by rw [hs_s, bI_set hj hi]
  have pair : ∀ (s' : Nat) (R' Y g : HP), hd (sEndR B n (s', R')) (fun fk fp => ∀ g, FaM H g fk fp → Q (some (vi 0)) g) (fun a => ∀ g, SMo B n a.1 Y g → a.2 = R' → Q (some (vi 1)) g) → FXM H Y → SMo B n s' Y g → ∀ x x2 : Int, Wp true i_M_wantSign 0 [vr 103, vi 59] [] g (fun r h' => Wp true i_M_roomPart 145 [vr 103, vi x, vi x2] (r.toList ++ []) h' Q) := by
    intro s' R' Y g q FY SY x x2
    unfold sEndR at q
    exact c3_end FY SY (hd_m (hd_bd.mp q) (fun fk fp q g f => g_M_roomPart_145 (fun _ => q g f) (fun z => absurd rfl z)) (fun s'' q g' S' => g_M_roomPart_145 (fun z => absurd z (by decide)) (fun _ => q g' S' rfl)))
  unfold sPart at k
  refine g_M_roomPart_0 (c_M_inWords S.2 ?_)
  by_cases r0 : R 0 1 ≤ 0
  · rw [if_pos r0] at k
    have b0 : btI (X 103 20) 0 = false := by rw [T.1]; simp; omega
    by_cases w0 : tW B n s = 0
    · rw [if_pos w0, sSize_e, bd_a] at k
      have e0 := m0.mpr w0
      rw [e0]
      refine g_M_roomPart_6 (fun z => absurd z (by decide)) (fun _ z => absurd z (by decide)) (fun _ _ _ => ?_) (fun _ _ z => absurd rfl z) (fun _ _ z => absurd rfl z)
      have s0 := sh 0 (by decide)
      rw [b0] at s0
      have s0 : o_and (o_shr (h 103 20) 0) 1 = 0 := s0
      refine g_M_roomPart_35 (fun z => absurd z (by decide)) (fun _ _ => ?_) (fun _ z => by omega)
      refine g_M_roomPart_58 (fun _ => ?_) (fun z => absurd z (by decide)) (fun z => absurd z (by decide)) (fun z => absurd rfl z)
      refine c_M_aRoom (Fj 0) (Sj 0) (DM_3 D) W.1 r0 (hd_m (hd_bd.mp k) (fun fk fp q g f => g_M_roomPart_100 (fun _ => q g f) (fun z => absurd rfl z)) (fun a q Y g FY SY DY yt => ?_))
      refine g_M_roomPart_100 (fun z => absurd z (by decide)) (fun _ => pair a.1 a.2 Y g ?_ FY SY _ _)
      refine hd_m (hd_bd.mp q) (fun _ _ q => q) (fun a' q g' S' e' => ?_)
      have q : ∀ Y g, FXM H Y → SMo B n a'.1 Y g → DM Y a'.2 N → (0 < a'.2 0 1 → TBr Y a'.2 l b) → Q (some (vi 1)) g := q
      rw [e'] at q
      refine q Y g' FY S' DY (fun pos => ⟨?_, ?_, ?_⟩)
      · rw [yt, bt 0 0 (by decide) (by decide)]; simp [pos]
      · rw [yt, bt 0 1 (by decide) (by decide), T.2.1]; simp
      · rw [yt, bt 0 2 (by decide) (by decide), T.2.2]; simp
    · rw [if_neg w0] at k
      have n0 : ¬ wm (tW B n s) = 0 := fun z => w0 (m0.mp z)
      rw [b0] at a1
      have a1 : o_and (h 103 20) 1 = 0 := a1
      exact g_M_roomPart_6 (fun _ => ff 2 _ _ k) (fun _ _ => ff 2 _ _ k) (fun _ _ z => absurd z n0) (fun _ _ _ z => absurd a1 z) (fun _ _ _ _ => ff 2 _ _ k)
  · rw [if_neg r0] at k
    have b0 : btI (X 103 20) 0 = true := by rw [T.1]; simp; omega
    rw [b0] at a1
    have a1 : o_and (h 103 20) 1 = 1 := a1
    by_cases w0 : tW B n s = 0
    · rw [if_pos w0] at k
      have e0 := m0.mpr w0
      rw [e0]
      refine g_M_roomPart_6 (fun z => absurd z (by decide)) (fun _ z => absurd z (by decide)) (fun _ _ _ => ?_) (fun _ _ z => absurd rfl z) (fun _ _ z => absurd rfl z)
      have s0 := sh 0 (by decide)
      rw [b0] at s0
      have s0 : o_and (o_shr (h 103 20) 0) 1 = 1 := s0
      exact g_M_roomPart_35 (fun z => absurd z (by decide)) (fun _ z => absurd s0 z) (fun _ _ => f5 5 _ _ k)
    · rw [if_neg w0] at k
      have n0 : ¬ wm (tW B n s) = 0 := fun z => w0 (m0.mp z)
      by_cases w2 : tW B n s = 2
      · rw [if_pos w2] at k
        rw [m2.mpr w2]
        refine g_M_roomPart_6 (fun z => absurd z (by decide)) (fun _ z => absurd z (by decide)) (fun _ _ z => absurd z (by decide)) (fun _ _ _ _ => ?_) (fun _ _ _ z => by omega)
        have s1 := sh 1 (by decide)
        by_cases l0 : l = 0
        · rw [if_pos l0] at k
          have b1 : btI (X 103 20) 1 = false := by rw [T.2.1]; simp; omega
          rw [b1] at s1
          have s1 : o_and (o_shr (h 103 20) 1) 1 = 0 := s1
          refine g_M_roomPart_35 (fun z => absurd z (by decide)) (fun _ _ => ?_) (fun _ z => by omega)
          refine g_M_roomPart_58 (fun z => absurd z (by decide)) (fun _ => ?_) (fun z => absurd z (by decide)) (fun _ z => absurd rfl z)
          unfold sLine at k
          rw [bd_a] at k
          refine c_M_aLine (Fj 1) (Sj 1) (DM_3 D) (by omega) (hd_m (hd_bd.mp k) (fun fk fp q g f => g_M_roomPart_108 (fun _ => q g f) (fun z => absurd rfl z)) (fun a q Y g FY SY DY yt => ?_))
          refine g_M_roomPart_108 (fun z => absurd z (by decide)) (fun _ => pair a.1 a.2 Y g ?_ FY SY _ _)
          refine hd_m (hd_bd.mp q) (fun _ _ q => q) (fun a' q g' S' e' => ?_)
          have q : ∀ Y g, FXM H Y → SMo B n a'.1 Y g → DM Y a'.2 N → (0 < a'.2 0 1 → TBr Y a'.2 1 b) → Q (some (vi 1)) g := q
          rw [e'] at q
          refine q Y g' FY S' DY (fun pos => ⟨?_, ?_, ?_⟩)
          · rw [yt, bt 1 0 (by decide) (by decide), b0]; simp [pos]
          · rw [yt, bt 1 1 (by decide) (by decide)]; simp
          · rw [yt, bt 1 2 (by decide) (by decide), T.2.2]; simp
        · rw [if_neg l0] at k
          have b1 : btI (X 103 20) 1 = true := by rw [T.2.1]; simp; omega
          rw [b1] at s1
          have s1 : o_and (o_shr (h 103 20) 1) 1 = 1 := s1
          exact g_M_roomPart_35 (fun z => absurd z (by decide)) (fun _ z => absurd s1 z) (fun _ _ => f5 5 _ _ k)
      · rw [if_neg w2] at k
        have n1 : ¬ wm (tW B n s) = 1 := fun z => w2 (m2.mp z)
        by_cases w3 : tW B n s = 3
        · rw [if_pos w3] at k
          rw [m3.mpr w3]
          refine g_M_roomPart_6 (fun z => absurd z (by decide)) (fun _ z => absurd z (by decide)) (fun _ _ z => absurd z (by decide)) (fun _ _ _ _ => ?_) (fun _ _ _ z => by omega)
          have s1 := sh 2 (by decide)
          by_cases l0 : b = 0
          · rw [if_pos l0, sBends_e, bd_a] at k
            have b1 : btI (X 103 20) 2 = false := by rw [T.2.2]; simp; omega
            rw [b1] at s1
            have s1 : o_and (o_shr (h 103 20) 2) 1 = 0 := s1
            refine g_M_roomPart_35 (fun z => absurd z (by decide)) (fun _ _ => ?_) (fun _ z => by omega)
            refine g_M_roomPart_58 (fun z => absurd z (by decide)) (fun z => absurd z (by decide)) (fun _ => ?_) (fun _ _ z => absurd rfl z)
            have k := hd_bd.mp k
            unfold sBends0 at k
            refine c3_next (Sj 2) (fun g1 S1 => g_M_roomPart_116 (c3_num (i := 2003) (Fj 2) S1 rfl (by decide) (hd_m (hd_bd.mp k) (fun fk fp q g f => g_M_roomPart_126 (fun _ => q g f) (fun z => absurd rfl z)) (fun a q l1 l2 g SY => ?_))))
            have FY := FXM_4 (i := 2003) (v := a.1) (Fj 2) (by decide)
            refine g_M_roomPart_126 (fun z => absurd z (by decide)) (fun _ => pair a.2 (hs R 0 2 a.1) _ g ?_ FY SY _ _)
            refine hd_m (hd_bd.mp q) (fun _ _ q => q) (fun a' q g' S' e' => ?_)
            have q : ∀ Y g, FXM H Y → SMo B n a'.1 Y g → DM Y a'.2 N → (0 < a'.2 0 1 → TBr Y a'.2 l 1) → Q (some (vi 1)) g := q
            rw [e'] at q
            refine q _ g' FY S' (DM_bend (DM_3 D) (by omega) (by omega)) (fun pos => ⟨?_, ?_, ?_⟩)
            · rw [hs_ne (show (103 : Nat) ≠ 104 by decide), bt 2 0 (by decide) (by decide), b0]; simp [pos]
            · rw [hs_ne (show (103 : Nat) ≠ 104 by decide), bt 2 1 (by decide) (by decide), T.2.1]; simp
            · rw [hs_ne (show (103 : Nat) ≠ 104 by decide), bt 2 2 (by decide) (by decide)]; simp
          · rw [if_neg l0] at k
            have b1 : btI (X 103 20) 2 = true := by rw [T.2.2]; simp; omega
            rw [b1] at s1
            have s1 : o_and (o_shr (h 103 20) 2) 1 = 1 := s1
            exact g_M_roomPart_35 (fun z => absurd z (by decide)) (fun _ z => absurd s1 z) (fun _ _ => f5 5 _ _ k)
        · rw [if_neg w3] at k
          have n2 : ¬ wm (tW B n s) = 2 := fun z => w3 (m3.mp z)
          by_cases w4 : tW B n s = 4
          · rw [if_pos w4] at k
            rw [m4.mpr w4]
            refine g_M_roomPart_6 (fun z => absurd z (by decide)) (fun _ z => absurd z (by decide)) (fun _ _ z => absurd z (by decide)) (fun _ _ _ _ => ?_) (fun _ _ _ z => by omega)
            refine g_M_roomPart_35 (fun _ => ?_) (fun z => absurd rfl z) (fun z => absurd rfl z)
            refine g_M_roomPart_58 (fun z => absurd z (by decide)) (fun z => absurd z (by decide)) (fun z => absurd z (by decide)) (fun _ _ _ => ?_)
            by_cases c10 : R 0 3 < 10
            · rw [if_pos c10, sThing_e, bd_a] at k
              refine c_M_aThing (Fj 3) (Sj 3) (DM_3 D) W c10 (hd_m (hd_bd.mp k) (fun fk fp q g f => g_M_roomPart_134 (fun _ => q g f) (fun z => absurd rfl z)) (fun a q Y g FY SY DY yt => ?_))
              refine g_M_roomPart_134 (fun z => absurd z (by decide)) (fun _ => c3_end FY SY ?_)
              have q := hd_bd.mp q
              refine hd_m (hd_bd.mp q) (fun fk fp q g f => g_M_roomPart_145 (fun _ => q g f) (fun z => absurd rfl z)) (fun s'' q g' S' => g_M_roomPart_145 (fun z => absurd z (by decide)) (fun _ => ?_))
              refine q Y g' FY S' DY (fun pos => ⟨?_, ?_, ?_⟩)
              · rw [yt, bt 3 0 (by decide) (by decide), b0]
                have pos : 0 < a.2.1 0 1 := pos
                simp [pos]
              · rw [yt, bt 3 1 (by decide) (by decide), T.2.1]; simp
              · rw [yt, bt 3 2 (by decide) (by decide), T.2.2]; simp
            · rw [if_neg c10] at k
              have h2 : (hs h 103 20 (o_or (h 103 20) (o_shl 1 3))) 104 2002 = 10 := by rw [hs_ne (by decide), S.1.1 104 (by decide), (DM_0 D).2.2]; omega
              refine g_M_aThing_0 (by omega) (by omega) (fun z => absurd h2 z) (fun _ => ?_)
              exact c3_fail (Fj 3) (Sj 3) (hd_m k (fun fk fp q g f => g_M_aThing_30 (Or.inl rfl) (g_M_roomPart_134 (fun _ => q g f) (fun z => absurd rfl z))) (fun a q => q))
          · rw [if_neg w4] at k
            have n3 : ¬ wm (tW B n s) = 3 := fun z => w4 (m4.mp z)
            exact g_M_roomPart_6 (fun _ => ff 2 _ _ k) (fun _ _ => ff 2 _ _ k) (fun _ _ z => absurd z n0) (fun _ _ _ _ => by omega) (fun _ _ _ z => by omega)
end
