theorem g_Is_close_0 {Q : PQ} {h : HP} {x1 : Int} 
    (k1 : Q none (hs h 82 8 (o_lor (h 82 8) (o_lshl 1 x1)))) :
    Wp true i_Is_close 0 [vr 82, vi x1] [] h Q := by
  refine r_aload_n (v := 82) f_79_0 rfl (by decide) ?_
  refine r_dupr f_79_1 ?_
  refine r_getj (v := h 82 8) f_79_2 rfl (by decide) rfl ?_
  refine r_lconst (v := 1) f_79_5 rfl ?_
  refine r_iload_n (v := x1) f_79_6 rfl ?_
  refine r_lshl f_79_7 ?_
  refine r_lor f_79_8 ?_
  refine r_putj f_79_9 rfl (by decide) ?_
  exact r_retv f_79_12 rfl k1

theorem c_Is_close {Q : PQ} {h : HP} {x1 : Int} (k : Q (none) (hs h 82 8 (o_lor (h 82 8) (o_lshl 1 x1)))) :
    Wp true i_Is_close 0 [vr 82, vi x1] [] h Q := by
  refine g_Is_close_0 ?_
  · intros; exact k

theorem g_Is_isOpen_0 {Q : PQ} {h : HP} {x1 : Int} 
    (k1 : ¬ o_land (o_lshr (h 82 8) x1) 1 = 0 → Q (some (vi 0)) h)
    (k2 : o_land (o_lshr (h 82 8) x1) 1 = 0 → Q (some (vi 1)) h) :
    Wp true i_Is_isOpen 0 [vr 82, vi x1] [] h Q := by
  refine r_aload_n (v := 82) f_80_0 rfl (by decide) ?_
  refine r_getj (v := h 82 8) f_80_1 rfl (by decide) rfl ?_
  refine r_iload_n (v := x1) f_80_4 rfl ?_
  refine r_lshr f_80_5 ?_
  refine r_lconst (v := 1) f_80_6 rfl ?_
  refine r_land f_80_7 ?_
  refine r_lconst (v := 0) f_80_8 rfl ?_
  refine r_lcmp f_80_9 ?_
  refine r_br (t := 17) f_80_10 rfl lc_ne (fun c1 => ?_) (fun c1 => ?_)
  · refine r_iconst f_80_17 (by decide) ?_
    exact r_retz f_80_18 rfl (by decide) (k1 c1)
  · have c1 := Decidable.not_not.mp c1
    refine r_iconst f_80_13 (by decide) ?_
    refine r_goto (t := 18) f_80_14 rfl ?_
    exact r_retz f_80_18 rfl (by decide) (k2 c1)

theorem c_Is_isOpen {Q : PQ} {h : HP} {x1 : Int} (k : Q (some (vi (bi (o_land (o_lshr (h 82 8) x1) 1 = 0)))) h) :
    Wp true i_Is_isOpen 0 [vr 82, vi x1] [] h Q := by
  refine g_Is_isOpen_0 ?_ ?_
  · intro c1; (try simp only [Int.toNat_natCast] at c1); first | (exfalso; omega) | exact absurd trivial ‹¬ True› | (exact kf k c1)
  · intro c1; (try simp only [Int.toNat_natCast] at c1); first | (exfalso; omega) | exact absurd trivial ‹¬ True› | (exact kt k c1)

theorem g_M_isBig_0 {Q : PQ} {h : HP} {x1 : Int} 
    (o1 : 0 ≤ x1)
    (o2 : 0 ≤ x1 ∧ x1 ≤ 2147483647)
    (o3 : WR (rmM h 0))
    (k4 : rOn (rmM h 0) (x1 % 10) (x1 / 10) = -1 → Q (some (vi 0)) h)
    (o5 : ¬ rOn (rmM h 0) (x1 % 10) (x1 / 10) = -1 → 0 ≤ (rOn (rmM h 0) (x1 % 10) (x1 / 10)) ∧ (rOn (rmM h 0) (x1 % 10) (x1 / 10)) < 100)
    (o6 : ¬ rOn (rmM h 0) (x1 % 10) (x1 / 10) = -1 → -2147483648 ≤ (15 + 6 * (rOn (rmM h 0) (x1 % 10) (x1 / 10))) + 5 ∧ (15 + 6 * (rOn (rmM h 0) (x1 % 10) (x1 / 10))) + 5 ≤ 2147483647)
    (o7 : ¬ rOn (rmM h 0) (x1 % 10) (x1 / 10) = -1 → 0 ≤ (15 + 6 * (rOn (rmM h 0) (x1 % 10) (x1 / 10))) + 5 ∧ (15 + 6 * (rOn (rmM h 0) (x1 % 10) (x1 / 10))) + 5 < 3000)
    (k8 : ¬ rOn (rmM h 0) (x1 % 10) (x1 / 10) = -1 → ¬ h 104 ((15 + 6 * (rOn (rmM h 0) (x1 % 10) (x1 / 10))) + 5).toNat = 1 → Q (some (vi 0)) h)
    (k9 : ¬ rOn (rmM h 0) (x1 % 10) (x1 / 10) = -1 → h 104 ((15 + 6 * (rOn (rmM h 0) (x1 % 10) (x1 / 10))) + 5).toNat = 1 → Q (some (vi 1)) h) :
    Wp true i_M_isBig 0 [vr 103, vi x1, vr 9999] [] h Q := by
  refine r_aload_n (v := 103) f_323_0 rfl (by decide) ?_
  refine r_iload_n (v := x1) f_323_1 rfl ?_
  refine r_bipush f_323_2 (by decide) ?_
  refine r_irem f_323_4 o1 (by decide) ?_
  refine r_iload_n (v := x1) f_323_5 rfl ?_
  refine r_bipush f_323_6 (by decide) ?_
  refine r_idiv f_323_8 o2 (by decide) ?_
  refine r_callv (as := [vr 103, vi (x1 % 10), vi (x1 / 10)]) (st' := []) (ls0 := [vr 103, vi (x1 % 10), vi (x1 / 10), vr 9999]) f_323_9 (by decide) rfl rfl (Nat.le_of_ble_eq_true rfl) (Nat.le_of_ble_eq_true rfl) ⟨_, _, rfl, rfl⟩ rfl ?_
  refine c_M_thingOn o3 ?_
  show Wp true i_M_isBig 12 [vr 103, vi x1, vr 9999] [vi (rOn (rmM h 0) (x1 % 10) (x1 / 10))] h Q
  refine r_istore_n (ls' := [vr 103, vi x1, vi (rOn (rmM h 0) (x1 % 10) (x1 / 10))]) f_323_12 (Nat.le_of_ble_eq_true rfl) rfl ?_
  refine r_iload_n (v := rOn (rmM h 0) (x1 % 10) (x1 / 10)) f_323_13 rfl ?_
  refine r_iconst f_323_14 (by decide) ?_
  refine r_br2 (t := 37) f_323_15 rfl cb_eq (fun c1 => ?_) (fun c1 => ?_)
  · refine r_iconst f_323_37 (by decide) ?_
    exact r_retz f_323_38 rfl (by decide) (k4 c1)
  · refine r_aload_n (v := 103) f_323_18 rfl (by decide) ?_
    refine r_getr (q := 104) f_323_19 rfl (by decide) (Or.inl rfl) rfl ?_
    refine r_iload_n (v := rOn (rmM h 0) (x1 % 10) (x1 / 10)) f_323_22 rfl ?_
    refine r_calls (as := [vi (rOn (rmM h 0) (x1 % 10) (x1 / 10))]) (st' := [vr 104]) (ls0 := [vi (rOn (rmM h 0) (x1 % 10) (x1 / 10))]) f_323_23 (by decide) (by decide) rfl rfl (Nat.le_of_ble_eq_true rfl) (Nat.le_of_ble_eq_true rfl) rfl ?_
    refine c_M_thingRow (o5 c1) ?_
    show Wp true i_M_isBig 26 [vr 103, vi x1, vi (rOn (rmM h 0) (x1 % 10) (x1 / 10))] [vi (15 + 6 * (rOn (rmM h 0) (x1 % 10) (x1 / 10))), vr 104] h Q
    refine r_iconst f_323_26 (by decide) ?_
    refine r_iadd (u := (15 + 6 * (rOn (rmM h 0) (x1 % 10) (x1 / 10))) + 5) f_323_27 rfl (o6 c1) ?_
    refine r_iaload (n := 3000) (v := h 104 ((15 + 6 * (rOn (rmM h 0) (x1 % 10) (x1 / 10))) + 5).toNat) f_323_28 ⟨rfl, rfl⟩ (o7 c1) rfl ?_
    refine r_iconst f_323_29 (by decide) ?_
    refine r_br2 (t := 37) f_323_30 rfl cb_ne (fun c2 => ?_) (fun c2 => ?_)
    · refine r_iconst f_323_37 (by decide) ?_
      exact r_retz f_323_38 rfl (by decide) (k8 c1 c2)
    · have c2 := Decidable.not_not.mp c2
      refine r_iconst f_323_33 (by decide) ?_
      refine r_goto (t := 38) f_323_34 rfl ?_
      exact r_retz f_323_38 rfl (by decide) (k9 c1 c2)

theorem c_M_isBig {Q : PQ} {h : HP} {x1 : Int} (o1 : WR (rmM h 0)) (o2 : 0 ≤ x1 ∧ x1 < 70) (k : Q (some (vi (bi (0 ≤ rOn (rmM h 0) (x1 % 10) (x1 / 10) ∧ rmM h 0 7 (rOn (rmM h 0) (x1 % 10) (x1 / 10)).toNat = 1)))) h) :
    Wp true i_M_isBig 0 [vr 103, vi x1, vr 9999] [] h Q := by
  have w := WM_0 o1
  have w1 := rOn_rg (rmM h 0) (x1 % 10) (x1 / 10)
  have e3 : rmM h 0 0 3 = h 104 2 := rfl
  have hT : ¬ rOn (rmM h 0) (x1 % 10) (x1 / 10) = -1 → (0 ≤ rOn (rmM h 0) (x1 % 10) (x1 / 10) ∧ rOn (rmM h 0) (x1 % 10) (x1 / 10) < h 104 2) ∧ rmM h 0 7 (rOn (rmM h 0) (x1 % 10) (x1 / 10)).toNat = h 104 (15 + 6 * rOn (rmM h 0) (x1 % 10) (x1 / 10) + 5).toNat := by
    intro q
    rcases w1 with w1 | ⟨w1, w2, w3, w4⟩
    · exact absurd w1 q
    · obtain ⟨-, -, -, -, -, t6⟩ := mR_t (h := h) (i := (rOn (rmM h 0) (x1 % 10) (x1 / 10)).toNat) (by omega)
      refine ⟨⟨w1, by omega⟩, ?_⟩
      rw [t6]
      congr 1
      omega
  refine g_M_isBig_0 ?_ ?_ ?_ ?_ ?_ ?_ ?_ ?_ ?_
  · first | omega | (exfalso; omega) | exact ⟨by omega, by omega⟩ | (first | exact o1 | (have hq := (hT c1).1; omega)) | exact absurd trivial ‹¬ True›
  · first | omega | (exfalso; omega) | exact ⟨by omega, by omega⟩ | (first | exact o1 | (have hq := (hT c1).1; omega)) | exact absurd trivial ‹¬ True›
  · first | omega | (exfalso; omega) | exact ⟨by omega, by omega⟩ | (first | exact o1 | (have hq := (hT c1).1; omega)) | exact absurd trivial ‹¬ True›
  · intro c1; (try simp only [Int.toNat_natCast] at c1); first | (exfalso; omega) | exact absurd trivial ‹¬ True› | (exact kf k (fun q => by omega))
  · intro c1; (try simp only [Int.toNat_natCast] at c1); first | omega | (exfalso; omega) | exact ⟨by omega, by omega⟩ | (first | exact o1 | (have hq := (hT c1).1; omega)) | exact absurd trivial ‹¬ True›
  · intro c1; (try simp only [Int.toNat_natCast] at c1); first | omega | (exfalso; omega) | exact ⟨by omega, by omega⟩ | (first | exact o1 | (have hq := (hT c1).1; omega)) | exact absurd trivial ‹¬ True›
  · intro c1; (try simp only [Int.toNat_natCast] at c1); first | omega | (exfalso; omega) | exact ⟨by omega, by omega⟩ | (first | exact o1 | (have hq := (hT c1).1; omega)) | exact absurd trivial ‹¬ True›
  · intro c1 c2; (try simp only [Int.toNat_natCast] at c1 c2); first | (exfalso; omega) | exact absurd trivial ‹¬ True› | (exact kf k (fun q => c2 ((hT c1).2.symm.trans q.2)))
  · intro c1 c2; (try simp only [Int.toNat_natCast] at c1 c2); first | (exfalso; omega) | exact absurd trivial ‹¬ True› | (exact kt k ⟨(hT c1).1.1, (hT c1).2.trans c2⟩)

theorem g_M_spreads_0 {Q : PQ} {h : HP} {x1 : Int} {x2 : Int} {x3 : Int} {x4 : Int} 
    (k1 : Wp true i_M_spreads 3 [vr 103, vi x1, vi x2, vi x3, vi x4, vi 1, vr 9999, vr 9999, vr 9999, vr 9999] [] h Q) :
    Wp true i_M_spreads 0 [vr 103, vi x1, vi x2, vi x3, vi x4, vr 9999, vr 9999, vr 9999, vr 9999, vr 9999] [] h Q := by
  refine r_iconst f_324_0 (by decide) ?_
  refine r_istore (ls' := [vr 103, vi x1, vi x2, vi x3, vi x4, vi 1, vr 9999, vr 9999, vr 9999, vr 9999]) f_324_1 (Nat.le_of_ble_eq_true rfl) rfl ?_
  exact k1

theorem g_M_spreads_3 {Q : PQ} {h : HP} {x1 : Int} {x2 : Int} {x3 : Int} {x4 : Int} {x5 : Int} {j6 : AV} {j7 : AV} {j8 : AV} {j9 : AV} 
    (k1 : x5 = 0 → Q none h)
    (k2 : ¬ x5 = 0 → Wp true i_M_spreads 14 [vr 103, vi x1, vi x2, vi x3, vi x4, vi 0, vi 0, j7, j8, j9] [] h Q) :
    Wp true i_M_spreads 3 [vr 103, vi x1, vi x2, vi x3, vi x4, vi x5, j6, j7, j8, j9] [] h Q := by
  refine r_iload (v := x5) f_324_3 rfl ?_
  refine r_br (t := 155) f_324_5 rfl cb_eq (fun c1 => ?_) (fun c1 => ?_)
  · exact r_retv f_324_155 rfl (k1 c1)
  · refine r_iconst f_324_8 (by decide) ?_
    refine r_istore (ls' := [vr 103, vi x1, vi x2, vi x3, vi x4, vi 0, j6, j7, j8, j9]) f_324_9 (Nat.le_of_ble_eq_true rfl) rfl ?_
    refine r_iconst f_324_11 (by decide) ?_
    refine r_istore (ls' := [vr 103, vi x1, vi x2, vi x3, vi x4, vi 0, vi 0, j7, j8, j9]) f_324_12 (Nat.le_of_ble_eq_true rfl) rfl ?_
    exact (k2 c1)

theorem g_M_spreads_14 {Q : PQ} {h : HP} {x1 : Int} {x2 : Int} {x3 : Int} {x4 : Int} {x5 : Int} {x6 : Int} {j7 : AV} {j8 : AV} {j9 : AV} 
    (k1 : 70 ≤ x6 → Wp true i_M_spreads 3 [vr 103, vi x1, vi x2, vi x3, vi x4, vi x5, vi x6, j7, j8, j9] [] h Q)
    (o2 : ¬ 70 ≤ x6 → 0 ≤ x6 ∧ x6 < 70)
    (o3 : ¬ 70 ≤ x6 → h 113 x6.toNat = 1000000 → -2147483648 ≤ x6 + 1 ∧ x6 + 1 ≤ 2147483647)
    (k4 : ¬ 70 ≤ x6 → h 113 x6.toNat = 1000000 → Wp true i_M_spreads 14 [vr 103, vi x1, vi x2, vi x3, vi x4, vi x5, vi (x6 + 1), j7, j8, j9] [] h Q)
    (k5 : ¬ 70 ≤ x6 → ¬ h 113 x6.toNat = 1000000 → ¬ x3 = 0 → Wp true i_M_spreads 60 [vr 103, vi x1, vi x2, vi x3, vi x4, vi x5, vi x6, vi 0, j8, j9] [] h Q)
    (k6 : ¬ 70 ≤ x6 → ¬ h 113 x6.toNat = 1000000 → x3 = 0 → x6 = x4 → Wp true i_M_spreads 60 [vr 103, vi x1, vi x2, vi x3, vi x4, vi x5, vi x6, vi 0, j8, j9] [] h Q)
    (o7 : ¬ 70 ≤ x6 → ¬ h 113 x6.toNat = 1000000 → x3 = 0 → ¬ x6 = x4 → WR (rmM h 0))
    (k8 : ¬ 70 ≤ x6 → ¬ h 113 x6.toNat = 1000000 → x3 = 0 → ¬ x6 = x4 → ¬ (0 ≤ rOn (rmM h 0) (x6 % 10) (x6 / 10) ∧ rmM h 0 7 (rOn (rmM h 0) (x6 % 10) (x6 / 10)).toNat = 1) → Wp true i_M_spreads 60 [vr 103, vi x1, vi x2, vi x3, vi x4, vi x5, vi x6, vi 0, j8, j9] [] h Q)
    (o9 : ¬ 70 ≤ x6 → ¬ h 113 x6.toNat = 1000000 → x3 = 0 → ¬ x6 = x4 → (0 ≤ rOn (rmM h 0) (x6 % 10) (x6 / 10) ∧ rmM h 0 7 (rOn (rmM h 0) (x6 % 10) (x6 / 10)).toNat = 1) → -2147483648 ≤ x6 + 1 ∧ x6 + 1 ≤ 2147483647)
    (k10 : ¬ 70 ≤ x6 → ¬ h 113 x6.toNat = 1000000 → x3 = 0 → ¬ x6 = x4 → (0 ≤ rOn (rmM h 0) (x6 % 10) (x6 / 10) ∧ rmM h 0 7 (rOn (rmM h 0) (x6 % 10) (x6 / 10)).toNat = 1) → Wp true i_M_spreads 14 [vr 103, vi x1, vi x2, vi x3, vi x4, vi x5, vi (x6 + 1), j7, j8, j9] [] h Q) :
    Wp true i_M_spreads 14 [vr 103, vi x1, vi x2, vi x3, vi x4, vi x5, vi x6, j7, j8, j9] [] h Q := by
  refine r_iload (v := x6) f_324_14 rfl ?_
  refine r_bipush f_324_16 (by decide) ?_
  refine r_br2 (t := 152) f_324_18 rfl cb_ge (fun c1 => ?_) (fun c1 => ?_)
  · refine r_goto (t := 3) f_324_152 rfl ?_
    exact (k1 c1)
  · refine r_aload_n (v := 103) f_324_21 rfl (by decide) ?_
    refine r_getr (q := 113) f_324_22 rfl (by decide) (Or.inl rfl) rfl ?_
    refine r_iload (v := x6) f_324_25 rfl ?_
    refine r_iaload (n := 70) (v := h 113 x6.toNat) f_324_27 ⟨rfl, rfl⟩ (o2 c1) rfl ?_
    refine r_ldc_w f_324_28 (by decide) ?_
    refine r_br2 (t := 146) f_324_31 rfl cb_eq (fun c2 => ?_) (fun c2 => ?_)
    · refine r_iinc (v := x6) (w := x6 + 1) (ls' := [vr 103, vi x1, vi x2, vi x3, vi x4, vi x5, vi (x6 + 1), j7, j8, j9]) f_324_146 rfl rfl (o3 c1 c2) rfl ?_
      refine r_goto (t := 14) f_324_149 rfl ?_
      exact (k4 c1 c2)
    · refine r_iload_n (v := x3) f_324_34 rfl ?_
      refine r_br (t := 57) f_324_35 rfl cb_ne (fun c3 => ?_) (fun c3 => ?_)
      · refine r_iconst f_324_57 (by decide) ?_
        refine r_istore (ls' := [vr 103, vi x1, vi x2, vi x3, vi x4, vi x5, vi x6, vi 0, j8, j9]) f_324_58 (Nat.le_of_ble_eq_true rfl) rfl ?_
        exact (k5 c1 c2 c3)
      · have c3 := Decidable.not_not.mp c3
        refine r_iload (v := x6) f_324_38 rfl ?_
        refine r_iload (v := x4) f_324_40 rfl ?_
        refine r_br2 (t := 57) f_324_42 rfl cb_eq (fun c4 => ?_) (fun c4 => ?_)
        · refine r_iconst f_324_57 (by decide) ?_
          refine r_istore (ls' := [vr 103, vi x1, vi x2, vi x3, vi x4, vi x5, vi x6, vi 0, j8, j9]) f_324_58 (Nat.le_of_ble_eq_true rfl) rfl ?_
          exact (k6 c1 c2 c3 c4)
        · refine r_aload_n (v := 103) f_324_45 rfl (by decide) ?_
          refine r_iload (v := x6) f_324_46 rfl ?_
          refine r_callv (as := [vr 103, vi x6]) (st' := []) (ls0 := [vr 103, vi x6, vr 9999]) f_324_48 (by decide) rfl rfl (Nat.le_of_ble_eq_true rfl) (Nat.le_of_ble_eq_true rfl) ⟨_, _, rfl, rfl⟩ rfl ?_
          refine c_M_isBig (o7 c1 c2 c3 c4) (o2 c1) ?_
          show Wp true i_M_spreads 51 [vr 103, vi x1, vi x2, vi x3, vi x4, vi x5, vi x6, j7, j8, j9] [vi (bi (0 ≤ rOn (rmM h 0) (x6 % 10) (x6 / 10) ∧ rmM h 0 7 (rOn (rmM h 0) (x6 % 10) (x6 / 10)).toNat = 1))] h Q
          refine r_br (t := 57) f_324_51 rfl cb_bf (fun c5 => ?_) (fun c5 => ?_)
          · refine r_iconst f_324_57 (by decide) ?_
            refine r_istore (ls' := [vr 103, vi x1, vi x2, vi x3, vi x4, vi x5, vi x6, vi 0, j8, j9]) f_324_58 (Nat.le_of_ble_eq_true rfl) rfl ?_
            exact (k8 c1 c2 c3 c4 c5)
          · have c5 := Decidable.not_not.mp c5
            refine r_goto (t := 146) f_324_54 rfl ?_
            refine r_iinc (v := x6) (w := x6 + 1) (ls' := [vr 103, vi x1, vi x2, vi x3, vi x4, vi x5, vi (x6 + 1), j7, j8, j9]) f_324_146 rfl rfl (o9 c1 c2 c3 c4 c5) rfl ?_
            refine r_goto (t := 14) f_324_149 rfl ?_
            exact (k10 c1 c2 c3 c4 c5)

theorem g_M_spreads_60 {Q : PQ} {h : HP} {x1 : Int} {x2 : Int} {x3 : Int} {x4 : Int} {x5 : Int} {x6 : Int} {x7 : Int} {j8 : AV} {j9 : AV} 
    (o1 : 4 ≤ x7 → -2147483648 ≤ x6 + 1 ∧ x6 + 1 ≤ 2147483647)
    (k2 : 4 ≤ x7 → Wp true i_M_spreads 14 [vr 103, vi x1, vi x2, vi x3, vi x4, vi x5, vi (x6 + 1), vi x7, j8, j9] [] h Q)
    (o3 : ¬ 4 ≤ x7 → 0 ≤ x6 ∧ x6 < 70)
    (o4 : ¬ 4 ≤ x7 → 0 ≤ x7 ∧ x7 < 4)
    (o5 : ¬ 4 ≤ x7 → ¬ mbs (rmM h 0) x6 x7 = -1 → -2147483648 ≤ (h 113 x6.toNat) + x2 ∧ (h 113 x6.toNat) + x2 ≤ 2147483647)
    (o6 : ¬ 4 ≤ x7 → ¬ mbs (rmM h 0) x6 x7 = -1 → WR (rmM h 0))
    (o7 : ¬ 4 ≤ x7 → ¬ mbs (rmM h 0) x6 x7 = -1 → 0 ≤ (mbs (rmM h 0) x6 x7) ∧ (mbs (rmM h 0) x6 x7) < 70)
    (k8 : ¬ 4 ≤ x7 → ¬ mbs (rmM h 0) x6 x7 = -1 → ¬ ((0 ≤ (mbs (rmM h 0) x6 x7) % 10 ∧ (mbs (rmM h 0) x6 x7) % 10 < h 104 0 ∧ 0 ≤ (mbs (rmM h 0) x6 x7) / 10 ∧ (mbs (rmM h 0) x6 x7) / 10 < h 104 1) ∧ rLand (rmM h 0) ((mbs (rmM h 0) x6 x7) % 10) ((mbs (rmM h 0) x6 x7) / 10) = x1) → Wp true i_M_spreads 110 [vr 103, vi x1, vi x2, vi x3, vi x4, vi x5, vi x6, vi x7, vi (mbs (rmM h 0) x6 x7), j9] [vi 100, vi ((h 113 x6.toNat) + x2)] h Q)
    (k9 : ¬ 4 ≤ x7 → ¬ mbs (rmM h 0) x6 x7 = -1 → ((0 ≤ (mbs (rmM h 0) x6 x7) % 10 ∧ (mbs (rmM h 0) x6 x7) % 10 < h 104 0 ∧ 0 ≤ (mbs (rmM h 0) x6 x7) / 10 ∧ (mbs (rmM h 0) x6 x7) / 10 < h 104 1) ∧ rLand (rmM h 0) ((mbs (rmM h 0) x6 x7) % 10) ((mbs (rmM h 0) x6 x7) / 10) = x1) → Wp true i_M_spreads 110 [vr 103, vi x1, vi x2, vi x3, vi x4, vi x5, vi x6, vi x7, vi (mbs (rmM h 0) x6 x7), j9] [vi 0, vi ((h 113 x6.toNat) + x2)] h Q)
    (o10 : ¬ 4 ≤ x7 → mbs (rmM h 0) x6 x7 = -1 → -2147483648 ≤ x7 + 1 ∧ x7 + 1 ≤ 2147483647)
    (k11 : ¬ 4 ≤ x7 → mbs (rmM h 0) x6 x7 = -1 → Wp true i_M_spreads 60 [vr 103, vi x1, vi x2, vi x3, vi x4, vi x5, vi x6, vi (x7 + 1), vi (mbs (rmM h 0) x6 x7), j9] [] h Q) :
    Wp true i_M_spreads 60 [vr 103, vi x1, vi x2, vi x3, vi x4, vi x5, vi x6, vi x7, j8, j9] [] h Q := by
  refine r_iload (v := x7) f_324_60 rfl ?_
  refine r_iconst f_324_62 (by decide) ?_
  refine r_br2 (t := 146) f_324_63 rfl cb_ge (fun c1 => ?_) (fun c1 => ?_)
  · refine r_iinc (v := x6) (w := x6 + 1) (ls' := [vr 103, vi x1, vi x2, vi x3, vi x4, vi x5, vi (x6 + 1), vi x7, j8, j9]) f_324_146 rfl rfl (o1 c1) rfl ?_
    refine r_goto (t := 14) f_324_149 rfl ?_
    exact (k2 c1)
  · refine r_aload_n (v := 103) f_324_66 rfl (by decide) ?_
    refine r_iload (v := x6) f_324_67 rfl ?_
    refine r_iload (v := x7) f_324_69 rfl ?_
    refine r_callv (as := [vr 103, vi x6, vi x7]) (st' := []) (ls0 := [vr 103, vi x6, vi x7, vr 9999, vr 9999]) f_324_71 (by decide) rfl rfl (Nat.le_of_ble_eq_true rfl) (Nat.le_of_ble_eq_true rfl) ⟨_, _, rfl, rfl⟩ rfl ?_
    refine c_M_beside (o3 c1) (o4 c1) ?_
    show Wp true i_M_spreads 74 [vr 103, vi x1, vi x2, vi x3, vi x4, vi x5, vi x6, vi x7, j8, j9] [vi (mbs (rmM h 0) x6 x7)] h Q
    refine r_istore (ls' := [vr 103, vi x1, vi x2, vi x3, vi x4, vi x5, vi x6, vi x7, vi (mbs (rmM h 0) x6 x7), j9]) f_324_74 (Nat.le_of_ble_eq_true rfl) rfl ?_
    refine r_iload (v := mbs (rmM h 0) x6 x7) f_324_76 rfl ?_
    refine r_iconst f_324_78 (by decide) ?_
    refine r_br2 (t := 85) f_324_79 rfl cb_ne (fun c2 => ?_) (fun c2 => ?_)
    · refine r_aload_n (v := 103) f_324_85 rfl (by decide) ?_
      refine r_getr (q := 113) f_324_86 rfl (by decide) (Or.inl rfl) rfl ?_
      refine r_iload (v := x6) f_324_89 rfl ?_
      refine r_iaload (n := 70) (v := h 113 x6.toNat) f_324_91 ⟨rfl, rfl⟩ (o3 c1) rfl ?_
      refine r_iload_n (v := x2) f_324_92 rfl ?_
      refine r_iadd (u := (h 113 x6.toNat) + x2) f_324_93 rfl (o5 c1 c2) ?_
      refine r_aload_n (v := 103) f_324_94 rfl (by decide) ?_
      refine r_iload (v := mbs (rmM h 0) x6 x7) f_324_95 rfl ?_
      refine r_iload_n (v := x1) f_324_97 rfl ?_
      refine r_callv (as := [vr 103, vi (mbs (rmM h 0) x6 x7), vi x1]) (st' := [vi ((h 113 x6.toNat) + x2)]) (ls0 := [vr 103, vi (mbs (rmM h 0) x6 x7), vi x1]) f_324_98 (by decide) rfl rfl (Nat.le_of_ble_eq_true rfl) (Nat.le_of_ble_eq_true rfl) ⟨_, _, rfl, rfl⟩ rfl ?_
      refine c_M_isBoardOf (o6 c1 c2) (o7 c1 c2) ?_
      show Wp true i_M_spreads 101 [vr 103, vi x1, vi x2, vi x3, vi x4, vi x5, vi x6, vi x7, vi (mbs (rmM h 0) x6 x7), j9] [vi (bi ((0 ≤ (mbs (rmM h 0) x6 x7) % 10 ∧ (mbs (rmM h 0) x6 x7) % 10 < h 104 0 ∧ 0 ≤ (mbs (rmM h 0) x6 x7) / 10 ∧ (mbs (rmM h 0) x6 x7) / 10 < h 104 1) ∧ rLand (rmM h 0) ((mbs (rmM h 0) x6 x7) % 10) ((mbs (rmM h 0) x6 x7) / 10) = x1)), vi ((h 113 x6.toNat) + x2)] h Q
      refine r_br (t := 108) f_324_101 rfl cb_bf (fun c3 => ?_) (fun c3 => ?_)
      · refine r_bipush f_324_108 (by decide) ?_
        exact (k8 c1 c2 c3)
      · have c3 := Decidable.not_not.mp c3
        refine r_iconst f_324_104 (by decide) ?_
        refine r_goto (t := 110) f_324_105 rfl ?_
        exact (k9 c1 c2 c3)
    · have c2 := Decidable.not_not.mp c2
      refine r_goto (t := 140) f_324_82 rfl ?_
      refine r_iinc (v := x7) (w := x7 + 1) (ls' := [vr 103, vi x1, vi x2, vi x3, vi x4, vi x5, vi x6, vi (x7 + 1), vi (mbs (rmM h 0) x6 x7), j9]) f_324_140 rfl rfl (o10 c1 c2) rfl ?_
      refine r_goto (t := 60) f_324_143 rfl ?_
      exact (k11 c1 c2)

theorem g_M_spreads_110 {Q : PQ} {h : HP} {x1 : Int} {x2 : Int} {x3 : Int} {x4 : Int} {x5 : Int} {x6 : Int} {x7 : Int} {x8 : Int} {j9 : AV} {s0 : Int} {s1 : Int} 
    (o1 : -2147483648 ≤ s0 + s1 ∧ s0 + s1 ≤ 2147483647)
    (o2 : 0 ≤ x8 ∧ x8 < 70)
    (o3 : s0 + s1 < h 113 x8.toNat → -2147483648 ≤ x7 + 1 ∧ x7 + 1 ≤ 2147483647)
    (k4 : s0 + s1 < h 113 x8.toNat → Wp true i_M_spreads 60 [vr 103, vi x1, vi x2, vi x3, vi x4, vi 1, vi x6, vi (x7 + 1), vi x8, vi (s0 + s1)] [] (hs h 113 x8.toNat (s0 + s1)) Q)
    (o5 : ¬ s0 + s1 < h 113 x8.toNat → -2147483648 ≤ x7 + 1 ∧ x7 + 1 ≤ 2147483647)
    (k6 : ¬ s0 + s1 < h 113 x8.toNat → Wp true i_M_spreads 60 [vr 103, vi x1, vi x2, vi x3, vi x4, vi x5, vi x6, vi (x7 + 1), vi x8, vi (s0 + s1)] [] h Q) :
    Wp true i_M_spreads 110 [vr 103, vi x1, vi x2, vi x3, vi x4, vi x5, vi x6, vi x7, vi x8, j9] [vi s1, vi s0] h Q := by
  refine r_iadd (u := s0 + s1) f_324_110 rfl o1 ?_
  refine r_istore (ls' := [vr 103, vi x1, vi x2, vi x3, vi x4, vi x5, vi x6, vi x7, vi x8, vi (s0 + s1)]) f_324_111 (Nat.le_of_ble_eq_true rfl) rfl ?_
  refine r_iload (v := s0 + s1) f_324_113 rfl ?_
  refine r_aload_n (v := 103) f_324_115 rfl (by decide) ?_
  refine r_getr (q := 113) f_324_116 rfl (by decide) (Or.inl rfl) rfl ?_
  refine r_iload (v := x8) f_324_119 rfl ?_
  refine r_iaload (n := 70) (v := h 113 x8.toNat) f_324_121 ⟨rfl, rfl⟩ o2 rfl ?_
  refine r_br2 (t := 128) f_324_122 rfl cb_lt (fun c1 => ?_) (fun c1 => ?_)
  · refine r_aload_n (v := 103) f_324_128 rfl (by decide) ?_
    refine r_getr (q := 113) f_324_129 rfl (by decide) (Or.inl rfl) rfl ?_
    refine r_iload (v := x8) f_324_132 rfl ?_
    refine r_iload (v := s0 + s1) f_324_134 rfl ?_
    refine r_iastore (n := 70) f_324_136 ⟨rfl, rfl⟩ o2 ?_
    refine r_iconst f_324_137 (by decide) ?_
    refine r_istore (ls' := [vr 103, vi x1, vi x2, vi x3, vi x4, vi 1, vi x6, vi x7, vi x8, vi (s0 + s1)]) f_324_138 (Nat.le_of_ble_eq_true rfl) rfl ?_
    refine r_iinc (v := x7) (w := x7 + 1) (ls' := [vr 103, vi x1, vi x2, vi x3, vi x4, vi 1, vi x6, vi (x7 + 1), vi x8, vi (s0 + s1)]) f_324_140 rfl rfl (o3 c1) rfl ?_
    refine r_goto (t := 60) f_324_143 rfl ?_
    exact (k4 c1)
  · refine r_goto (t := 140) f_324_125 rfl ?_
    refine r_iinc (v := x7) (w := x7 + 1) (ls' := [vr 103, vi x1, vi x2, vi x3, vi x4, vi x5, vi x6, vi (x7 + 1), vi x8, vi (s0 + s1)]) f_324_140 rfl rfl (o5 c1) rfl ?_
    refine r_goto (t := 60) f_324_143 rfl ?_
    exact (k6 c1)

theorem g_M_wayOf_0 {Q : PQ} {h : HP} {x1 : Int} {x2 : Int} {x3 : Int} 
    (o1 : WR (rmM h 0))
    (o2 : 0 ≤ x2 ∧ x2 < h 104 2)
    (k3 : Wp true i_M_wayOf 10 [vr 103, vi x1, vi x2, vi x3, vi (10 * rmM h 0 3 x2.toNat + rmM h 0 2 x2.toNat), vi 0] [] h Q) :
    Wp true i_M_wayOf 0 [vr 103, vi x1, vi x2, vi x3, vr 9999, vr 9999] [] h Q := by
  refine r_aload_n (v := 103) f_325_0 rfl (by decide) ?_
  refine r_iload_n (v := x2) f_325_1 rfl ?_
  refine r_callv (as := [vr 103, vi x2]) (st' := []) (ls0 := [vr 103, vi x2]) f_325_2 (by decide) rfl rfl (Nat.le_of_ble_eq_true rfl) (Nat.le_of_ble_eq_true rfl) ⟨_, _, rfl, rfl⟩ rfl ?_
  refine c_M_boardOf o1 o2 ?_
  show Wp true i_M_wayOf 5 [vr 103, vi x1, vi x2, vi x3, vr 9999, vr 9999] [vi (10 * rmM h 0 3 x2.toNat + rmM h 0 2 x2.toNat)] h Q
  refine r_istore (ls' := [vr 103, vi x1, vi x2, vi x3, vi (10 * rmM h 0 3 x2.toNat + rmM h 0 2 x2.toNat), vr 9999]) f_325_5 (Nat.le_of_ble_eq_true rfl) rfl ?_
  refine r_iconst f_325_7 (by decide) ?_
  refine r_istore (ls' := [vr 103, vi x1, vi x2, vi x3, vi (10 * rmM h 0 3 x2.toNat + rmM h 0 2 x2.toNat), vi 0]) f_325_8 (Nat.le_of_ble_eq_true rfl) rfl ?_
  exact k3

theorem g_M_wayOf_10 {Q : PQ} {h : HP} {x1 : Int} {x2 : Int} {x3 : Int} {x4 : Int} {x5 : Int} 
    (o1 : 70 ≤ x5 → WR (rmM h 0))
    (o2 : 70 ≤ x5 → 0 ≤ x4 ∧ x4 < 70)
    (k3 : 70 ≤ x5 → ¬ ((0 ≤ x4 % 10 ∧ x4 % 10 < h 104 0 ∧ 0 ≤ x4 / 10 ∧ x4 / 10 < h 104 1) ∧ rLand (rmM h 0) (x4 % 10) (x4 / 10) = x1) → Wp true i_M_spreads 0 [vr 103, vi x1, vi 1, vi 0, vi x4, vr 9999, vr 9999, vr 9999, vr 9999, vr 9999] [] (hs h 113 x4.toNat 100) (fun r h' => Wp true i_M_wayOf 65 [vr 103, vi x1, vi x2, vi x3, vi x4, vi x5] (r.toList ++ []) h' Q))
    (k4 : 70 ≤ x5 → ((0 ≤ x4 % 10 ∧ x4 % 10 < h 104 0 ∧ 0 ≤ x4 / 10 ∧ x4 / 10 < h 104 1) ∧ rLand (rmM h 0) (x4 % 10) (x4 / 10) = x1) → Wp true i_M_spreads 0 [vr 103, vi x1, vi 1, vi 0, vi x4, vr 9999, vr 9999, vr 9999, vr 9999, vr 9999] [] (hs h 113 x4.toNat 0) (fun r h' => Wp true i_M_wayOf 65 [vr 103, vi x1, vi x2, vi x3, vi x4, vi x5] (r.toList ++ []) h' Q))
    (o5 : ¬ 70 ≤ x5 → 0 ≤ x5 ∧ x5 < 70)
    (o6 : ¬ 70 ≤ x5 → -2147483648 ≤ x5 + 1 ∧ x5 + 1 ≤ 2147483647)
    (k7 : ¬ 70 ≤ x5 → Wp true i_M_wayOf 10 [vr 103, vi x1, vi x2, vi x3, vi x4, vi (x5 + 1)] [] (hs h 113 x5.toNat 1000000) Q) :
    Wp true i_M_wayOf 10 [vr 103, vi x1, vi x2, vi x3, vi x4, vi x5] [] h Q := by
  refine r_iload (v := x5) f_325_10 rfl ?_
  refine r_bipush f_325_12 (by decide) ?_
  refine r_br2 (t := 33) f_325_14 rfl cb_ge (fun c1 => ?_) (fun c1 => ?_)
  · refine r_aload_n (v := 103) f_325_33 rfl (by decide) ?_
    refine r_getr (q := 113) f_325_34 rfl (by decide) (Or.inl rfl) rfl ?_
    refine r_iload (v := x4) f_325_37 rfl ?_
    refine r_aload_n (v := 103) f_325_39 rfl (by decide) ?_
    refine r_iload (v := x4) f_325_40 rfl ?_
    refine r_iload_n (v := x1) f_325_42 rfl ?_
    refine r_callv (as := [vr 103, vi x4, vi x1]) (st' := [vi x4, vr 113]) (ls0 := [vr 103, vi x4, vi x1]) f_325_43 (by decide) rfl rfl (Nat.le_of_ble_eq_true rfl) (Nat.le_of_ble_eq_true rfl) ⟨_, _, rfl, rfl⟩ rfl ?_
    refine c_M_isBoardOf (o1 c1) (o2 c1) ?_
    show Wp true i_M_wayOf 46 [vr 103, vi x1, vi x2, vi x3, vi x4, vi x5] [vi (bi ((0 ≤ x4 % 10 ∧ x4 % 10 < h 104 0 ∧ 0 ≤ x4 / 10 ∧ x4 / 10 < h 104 1) ∧ rLand (rmM h 0) (x4 % 10) (x4 / 10) = x1)), vi x4, vr 113] h Q
    refine r_br (t := 53) f_325_46 rfl cb_bf (fun c2 => ?_) (fun c2 => ?_)
    · refine r_bipush f_325_53 (by decide) ?_
      refine r_iastore (n := 70) f_325_55 ⟨rfl, rfl⟩ (o2 c1) ?_
      refine r_aload_n (v := 103) f_325_56 rfl (by decide) ?_
      refine r_iload_n (v := x1) f_325_57 rfl ?_
      refine r_iconst f_325_58 (by decide) ?_
      refine r_iconst f_325_59 (by decide) ?_
      refine r_iload (v := x4) f_325_60 rfl ?_
      exact r_callv (as := [vr 103, vi x1, vi 1, vi 0, vi x4]) (st' := []) (ls0 := [vr 103, vi x1, vi 1, vi 0, vi x4, vr 9999, vr 9999, vr 9999, vr 9999, vr 9999]) f_325_62 (by decide) rfl rfl (Nat.le_of_ble_eq_true rfl) (Nat.le_of_ble_eq_true rfl) ⟨_, _, rfl, rfl⟩ rfl (k3 c1 c2)
    · have c2 := Decidable.not_not.mp c2
      refine r_iconst f_325_49 (by decide) ?_
      refine r_goto (t := 55) f_325_50 rfl ?_
      refine r_iastore (n := 70) f_325_55 ⟨rfl, rfl⟩ (o2 c1) ?_
      refine r_aload_n (v := 103) f_325_56 rfl (by decide) ?_
      refine r_iload_n (v := x1) f_325_57 rfl ?_
      refine r_iconst f_325_58 (by decide) ?_
      refine r_iconst f_325_59 (by decide) ?_
      refine r_iload (v := x4) f_325_60 rfl ?_
      exact r_callv (as := [vr 103, vi x1, vi 1, vi 0, vi x4]) (st' := []) (ls0 := [vr 103, vi x1, vi 1, vi 0, vi x4, vr 9999, vr 9999, vr 9999, vr 9999, vr 9999]) f_325_62 (by decide) rfl rfl (Nat.le_of_ble_eq_true rfl) (Nat.le_of_ble_eq_true rfl) ⟨_, _, rfl, rfl⟩ rfl (k4 c1 c2)
  · refine r_aload_n (v := 103) f_325_17 rfl (by decide) ?_
    refine r_getr (q := 113) f_325_18 rfl (by decide) (Or.inl rfl) rfl ?_
    refine r_iload (v := x5) f_325_21 rfl ?_
    refine r_ldc_w f_325_23 (by decide) ?_
    refine r_iastore (n := 70) f_325_26 ⟨rfl, rfl⟩ (o5 c1) ?_
    refine r_iinc (v := x5) (w := x5 + 1) (ls' := [vr 103, vi x1, vi x2, vi x3, vi x4, vi (x5 + 1)]) f_325_27 rfl rfl (o6 c1) rfl ?_
    refine r_goto (t := 10) f_325_30 rfl ?_
    exact (k7 c1)

theorem g_M_wayOf_65 {Q : PQ} {h : HP} {x1 : Int} {x2 : Int} {x3 : Int} {x4 : Int} {x5 : Int} 
    (o1 : WR (rmM h 0))
    (o2 : 0 ≤ x3 ∧ x3 < h 104 2)
    (o3 : 0 ≤ 10 * rmM h 0 3 x3.toNat + rmM h 0 2 x3.toNat ∧ 10 * rmM h 0 3 x3.toNat + rmM h 0 2 x3.toNat < 70)
    (k4 : Q (some (vi (h 113 (10 * rmM h 0 3 x3.toNat + rmM h 0 2 x3.toNat).toNat))) h) :
    Wp true i_M_wayOf 65 [vr 103, vi x1, vi x2, vi x3, vi x4, vi x5] [] h Q := by
  refine r_aload_n (v := 103) f_325_65 rfl (by decide) ?_
  refine r_getr (q := 113) f_325_66 rfl (by decide) (Or.inl rfl) rfl ?_
  refine r_aload_n (v := 103) f_325_69 rfl (by decide) ?_
  refine r_iload_n (v := x3) f_325_70 rfl ?_
  refine r_callv (as := [vr 103, vi x3]) (st' := [vr 113]) (ls0 := [vr 103, vi x3]) f_325_71 (by decide) rfl rfl (Nat.le_of_ble_eq_true rfl) (Nat.le_of_ble_eq_true rfl) ⟨_, _, rfl, rfl⟩ rfl ?_
  refine c_M_boardOf o1 o2 ?_
  show Wp true i_M_wayOf 74 [vr 103, vi x1, vi x2, vi x3, vi x4, vi x5] [vi (10 * rmM h 0 3 x3.toNat + rmM h 0 2 x3.toNat), vr 113] h Q
  refine r_iaload (n := 70) (v := h 113 (10 * rmM h 0 3 x3.toNat + rmM h 0 2 x3.toNat).toNat) f_325_74 ⟨rfl, rfl⟩ o3 rfl ?_
  exact r_reti f_325_75 rfl k4

/-! ===== WAYS ===== -/
def wtW (R : HP) (l st : Int) (c r : Nat) : Int := st + (if rLand R c r = l then 0 else 100)
theorem wtW_rg {R : HP} {l st : Int} {c r : Nat} (hs : 0 ≤ st ∧ st ≤ 1) : 0 ≤ wtW R l st c r ∧ wtW R l st c r ≤ 101 := by
  unfold wtW; split <;> omega
/-- there is a way to a board with a cost: F0 the costs at which ways begin, Lv the boards that may be left -/
def Pth (R : HP) (l st : Int) (F0 : Nat → Nat → Int) (Lv : Nat → Nat → Prop) (c r : Nat) (d : Int) : Prop :=
  ∀ P : Nat → Nat → Int → Prop, (∀ x y, isB R x y → F0 x y ≠ 1000000 → P x y (F0 x y)) → (∀ x y d x' y', P x y d → Lv x y → nb x y x' y' → isB R x' y' → P x' y' (d + wtW R l st x' y')) → P c r d
theorem Pth_0 {R : HP} {l st : Int} {F0 : Nat → Nat → Int} {Lv : Nat → Nat → Prop} {c r : Nat} (hb : isB R c r) (h : F0 c r ≠ 1000000) : Pth R l st F0 Lv c r (F0 c r) := fun P h0 _ => h0 c r hb h
theorem Pth_s {R : HP} {l st : Int} {F0 : Nat → Nat → Int} {Lv : Nat → Nat → Prop} {c r x y : Nat} {d : Int} (h : Pth R l st F0 Lv x y d) (hl : Lv x y) (hn : nb x y c r) (hb : isB R c r) : Pth R l st F0 Lv c r (d + wtW R l st c r) := fun P h0 h1 => h1 x y d c r (h P h0 h1) hl hn hb
/-- the least of some numbers -/
noncomputable def mnV (p : Int → Prop) : Int := @dite Int (∃ v, p v ∧ ∀ d, p d → v ≤ d) (Classical.propDecidable _) (fun h => Classical.choose h) (fun _ => 1000000)
theorem mnV_eq {p : Int → Prop} {v : Int} (h1 : p v) (h2 : ∀ d, p d → v ≤ d) : mnV p = v := by
  have ex : ∃ v, p v ∧ ∀ d, p d → v ≤ d := ⟨v, h1, h2⟩
  unfold mnV
  rw [dif_pos ex]
  have := Classical.choose_spec ex
  have a := this.2 v h1
  have b := h2 _ this.1
  omega
theorem mnV_no {p : Int → Prop} (h : ∀ d, ¬ p d) : mnV p = 1000000 := by
  unfold mnV
  rw [dif_neg]
  intro q
  obtain ⟨v, q1, -⟩ := q
  exact h v q1
/-- far, as it must be in the end -/
def Far (R : HP) (l st : Int) (F0 : Nat → Nat → Int) (Lv : Nat → Nat → Prop) (F : Nat → Nat → Int) : Prop :=
  (∀ c r, isB R c r → F c r = 1000000 ∨ (0 ≤ F c r ∧ F c r ≤ 6363 ∧ Pth R l st F0 Lv c r (F c r))) ∧ (∀ c r, isB R c r → F c r ≤ F0 c r) ∧
  (∀ x y x' y', isB R x y → isB R x' y' → F x y ≠ 1000000 → Lv x y → nb x y x' y' → F x' y' ≤ F x y + wtW R l st x' y')
theorem Far_mn {R : HP} {l st : Int} {F0 F : Nat → Nat → Int} {Lv : Nat → Nat → Prop} (hs : 0 ≤ st ∧ st ≤ 1) (h0 : ∀ c r, isB R c r → F0 c r ≤ 1000000) (h : Far R l st F0 Lv F) {c r : Nat} (hb : isB R c r) : F c r = mnV (fun d => Pth R l st F0 Lv c r d) := by
  obtain ⟨h1, h2, h3⟩ := h
  have low : ∀ c r d, Pth R l st F0 Lv c r d → isB R c r ∧ F c r ≠ 1000000 ∧ F c r ≤ d := by
    intro c r d p
    refine p (fun c r d => isB R c r ∧ F c r ≠ 1000000 ∧ F c r ≤ d) (fun x y b q => ?_) (fun x y d x' y' q lv n b => ?_)
    · have a := h2 x y b
      have a0 := h0 x y b
      exact ⟨b, by omega, a⟩
    · have a := h3 x y x' y' q.1 b q.2.1 lv n
      have w := wtW_rg (R := R) (l := l) (c := x') (r := y') hs
      have z := h1 x y q.1
      refine ⟨b, by omega, by omega⟩
  rcases h1 c r hb with z | z
  · rw [z]
    symm
    apply mnV_no
    intro d p
    exact (low c r d p).2.1 z
  · symm
    exact mnV_eq z.2.2 (fun d p => (low c r d p).2.2)
theorem sumF_upd {f g : Nat → Int} {t : Nat} {v : Int} : ∀ (d i : Nat), i ≤ t → t < i + d → (∀ k, k ≠ t → g k = f k) → g t = v → sumF g d i = sumF f d i + (v - f t) := by
  intro d i h1 h2 hk hv
  have e : sumF g d i = sumF (fun k => f k + (if k = t then v - f t else 0)) d i := by
    apply sumF_congr
    intro j _ _
    by_cases z : j = t
    · rw [if_pos z, z, hv]; omega
    · rw [if_neg z, hk j z]; omega
  rw [e, sumF_add, sumF_one (f := fun k => if k = t then v - f t else 0) (t := t) d i h1 h2, if_pos rfl]
  intro j _ _ hj
  exact if_neg hj
/-- far, on its way -/
def SpI (R : HP) (l st : Int) (F0 : Nat → Nat → Int) (Lv : Nat → Nat → Prop) (h h1 : HP) : Prop :=
  (∀ k, k ≠ 113 → h1 k = h k) ∧ (∀ c r, isB R c r → h1 113 (10 * r + c) = 1000000 ∨ (0 ≤ h1 113 (10 * r + c) ∧ h1 113 (10 * r + c) ≤ 101 * cnt R (fun c r => ¬ h1 113 (10 * r + c) = 1000000) ∧ Pth R l st F0 Lv c r (h1 113 (10 * r + c)))) ∧
  (∀ c r, isB R c r → h1 113 (10 * r + c) ≤ F0 c r) ∧ (∀ m, m < 70 → ¬ isB R (m % 10) (m / 10) → h1 113 m = 1000000)
/-- of the boards below a, all ways on are short enough -/
def Spd (R : HP) (l st : Int) (Lv : Nat → Nat → Prop) (h1 : HP) (a : Nat) : Prop := ∀ m, m < a → m < 70 → h1 113 m ≠ 1000000 → Lv (m % 10) (m / 10) → ∀ c' r', isB R c' r' → nb (m % 10) (m / 10) c' r' → h1 113 (10 * r' + c') ≤ h1 113 m + wtW R l st c' r'
theorem SpI_upd {R : HP} (W : WR R) {l st : Int} {F0 : Nat → Nat → Int} {Lv : Nat → Nat → Prop} {h h1 : HP} {c r x y : Nat} (hs' : 0 ≤ st ∧ st ≤ 1) (I : SpI R l st F0 Lv h h1) (hx : isB R x y) (hb : isB R c r) (hf : h1 113 (10 * y + x) ≠ 1000000) (hl : Lv x y) (hn : nb x y c r) (lt : h1 113 (10 * y + x) + wtW R l st c r < h1 113 (10 * r + c)) :
    SpI R l st F0 Lv h (hs h1 113 (10 * r + c) (h1 113 (10 * y + x) + wtW R l st c r)) := by
  have w := W.1
  have b1 := hb.1
  have b2 := hb.2
  obtain ⟨I1, I2, I3, I4⟩ := I
  have wr := wtW_rg (R := R) (l := l) (c := c) (r := r) hs'
  have vx := I2 x y hx
  have vc := I2 c r hb
  have cr := cnt_rg W (fun c r => ¬ h1 113 (10 * r + c) = 1000000)
  have a : ∀ m, hs h1 113 (10 * r + c) (h1 113 (10 * y + x) + wtW R l st c r) 113 m = if m = 10 * r + c then h1 113 (10 * y + x) + wtW R l st c r else h1 113 m := fun m => by
    by_cases z : m = 10 * r + c
    · rw [if_pos z, z, hs_s]
    · rw [if_neg z, hs_o (Or.inr z)]
  have cm : cnt R (fun c' r' => ¬ hs h1 113 (10 * r + c) (h1 113 (10 * y + x) + wtW R l st c r) 113 (10 * r' + c') = 1000000) = cnt R (fun c r => ¬ h1 113 (10 * r + c) = 1000000) + (if h1 113 (10 * r + c) = 1000000 then 1 else 0) := by
    by_cases z : h1 113 (10 * r + c) = 1000000
    · rw [if_pos z]
      apply cnt_upd hb (fun q => q z)
      intro c' r' q
      have := q.1
      rw [a]
      by_cases y' : 10 * r' + c' = 10 * r + c
      · rw [if_pos y']; exact ⟨fun _ => Or.inr (by omega), fun _ => by omega⟩
      · rw [if_neg y']; exact ⟨fun q => Or.inl q, fun q => q.elim (fun u => u) (fun u => absurd (by rw [u.1, u.2]) y')⟩
    · rw [if_neg z, Int.add_zero]
      apply cnt_congr
      intro c' r' q
      rw [a]
      by_cases y' : 10 * r' + c' = 10 * r + c
      · rw [if_pos y', y']; exact ⟨fun _ => z, fun _ => by omega⟩
      · rw [if_neg y']
  refine ⟨fun k hk => (hs_ne hk).trans (I1 k hk), fun c' r' q => ?_, fun c' r' q => ?_, fun m hm q => ?_⟩
  · rw [cm, a]
    have q1 := q.1
    by_cases z : 10 * r' + c' = 10 * r + c
    · obtain ⟨rfl, rfl⟩ : c' = c ∧ r' = r := by omega
      rw [if_pos rfl]
      right
      rcases vx with vx | vx
      · exact absurd vx hf
      · refine ⟨by omega, ?_, Pth_s vx.2.2 hl hn hb⟩
        rcases vc with vc | vc
        · rw [if_pos vc]; omega
        · split <;> omega
    · rw [if_neg z]
      rcases I2 c' r' q with u | u
      · exact Or.inl u
      · right
        refine ⟨u.1, ?_, u.2.2⟩
        split <;> omega
  · rw [a]
    have q1 := q.1
    by_cases z : 10 * r' + c' = 10 * r + c
    · obtain ⟨rfl, rfl⟩ : c' = c ∧ r' = r := by omega
      rw [if_pos rfl]
      have := I3 c' r' q
      omega
    · rw [if_neg z]; exact I3 c' r' q
  · rw [a, if_neg]
    · exact I4 m hm q
    · intro z
      rw [z, show (10 * r + c) % 10 = c by omega, show (10 * r + c) / 10 = r by omega] at q
      exact q hb
theorem c_M_spreads {Q : PQ} {h R : HP} {x1 x2 x3 x4 : Int} {F0 : Nat → Nat → Int} {Lv : Nat → Nat → Prop} (eM : rmM h 0 = R) (W : WR R) (hs' : 0 ≤ x2 ∧ x2 ≤ 1) (I0 : SpI R x1 x2 F0 Lv h h)
    (hLv : ∀ m : Nat, m < 70 → isB R (m % 10) (m / 10) → (Lv (m % 10) (m / 10) ↔ (¬ x3 = 0 ∨ (m : Int) = x4 ∨ ¬ (0 ≤ rOn R ((m : Int) % 10) ((m : Int) / 10) ∧ R 7 (rOn R ((m : Int) % 10) ((m : Int) / 10)).toNat = 1))))
    (k : ∀ h', (∀ k, k ≠ 113 → h' k = h k) → (∀ m, m < 70 → ¬ isB R (m % 10) (m / 10) → h' 113 m = 1000000) → Far R x1 x2 F0 Lv (fun c r => h' 113 (10 * r + c)) → Q none h') : Wp true i_M_spreads 0 [vr 103, vi x1, vi x2, vi x3, vi x4, vr 9999, vr 9999, vr 9999, vr 9999, vr 9999] [] h Q := by
  have w := W.1
  have fr : ∀ h1, SpI R x1 x2 F0 Lv h h1 → rmM h1 0 = R := fun h1 I => (rmM_congr (I.1 104 (by decide))).trans eM
  have fb : ∀ h1, SpI R x1 x2 F0 Lv h h1 → ∀ m, m < 70 → h1 113 m ≠ 1000000 → isB R (m % 10) (m / 10) := by
    intro h1 I m hm q
    by_cases z : isB R (m % 10) (m / 10)
    · exact z
    · exact absurd (I.2.2.2 m hm z) q
  have fv : ∀ h1, SpI R x1 x2 F0 Lv h h1 → ∀ m, m < 70 → 0 ≤ h1 113 m ∧ h1 113 m ≤ 1000000 := by
    intro h1 I m hm
    by_cases z : isB R (m % 10) (m / 10)
    · have := I.2.1 _ _ z
      rw [show 10 * (m / 10) + m % 10 = m by omega] at this
      have cr := cnt_rg W (fun c r => ¬ h1 113 (10 * r + c) = 1000000)
      omega
    · rw [I.2.2.2 m hm z]; omega
  have ways : ∀ (d : Nat) (wy : Int) (a : Nat) (h1 : HP) (g : Int) (v0 : Int) (j8 j9 : AV), 0 ≤ wy → wy + d = 4 → a < 70 → SpI R x1 x2 F0 Lv h h1 → h1 113 a ≠ 1000000 → Lv (a % 10) (a / 10) → (g = 0 ∨ g = 1) → (g = 0 → Spd R x1 x2 Lv h1 a) →
      (g = 0 → ∀ w', 0 ≤ w' → w' < wy → ∀ c' r', isB R c' r' → mbs R (a : Int) w' = ((10 * r' + c' : Nat) : Int) → h1 113 (10 * r' + c') ≤ h1 113 a + wtW R x1 x2 c' r') → (sumF (fun m => h1 113 m) 70 0 ≤ v0 ∧ (g = 1 → sumF (fun m => h1 113 m) 70 0 < v0)) →
      (∀ (h2 : HP) (g' : Int) (j7 j8 j9 : AV), SpI R x1 x2 F0 Lv h h2 → (g' = 0 ∨ g' = 1) → (g' = 0 → Spd R x1 x2 Lv h2 (a + 1)) → (sumF (fun m => h2 113 m) 70 0 ≤ v0 ∧ (g' = 1 → sumF (fun m => h2 113 m) 70 0 < v0)) → Wp true i_M_spreads 14 [vr 103, vi x1, vi x2, vi x3, vi x4, vi g', vi ((a : Int) + 1), j7, j8, j9] [] h2 Q) →
      Wp true i_M_spreads 60 [vr 103, vi x1, vi x2, vi x3, vi x4, vi g, vi (a : Int), vi wy, j8, j9] [] h1 Q := by
    intro d
    induction d with
    | zero =>
      intro wy a h1 g v0 j8 j9 w0 e ha I fa la hg pz pw hv kk
      have fin : Wp true i_M_spreads 14 [vr 103, vi x1, vi x2, vi x3, vi x4, vi g, vi ((a : Int) + 1), vi wy, j8, j9] [] h1 Q := by
        refine kk h1 g _ _ _ I hg (fun g0 m q1 q2 q3 q4 c' r' q5 q6 => ?_) hv
        by_cases z : m < a
        · exact pz g0 m z q2 q3 q4 c' r' q5 q6
        · have z : m = a := by omega
          subst z
          obtain ⟨w', w1, w2⟩ := nb_mbs W (fb h1 I m ha q3) q5 q6
          rw [show 10 * (m / 10) + m % 10 = m by omega] at w2
          exact pw g0 w' w1.1 (by omega) c' r' q5 w2
      refine g_M_spreads_60 ?_ ?_ ?_ ?_ ?_ ?_ ?_ ?_ ?_ ?_ ?_
      · intro c1; (try simp only [Int.toNat_natCast] at c1); first | omega | (exfalso; omega) | exact ⟨by omega, by omega⟩ | (omega) | exact absurd trivial ‹¬ True›
      · intro c1; (try simp only [Int.toNat_natCast] at c1); first | (exfalso; omega) | exact absurd trivial ‹¬ True› | (exact fin)
      · intro c1; (try simp only [Int.toNat_natCast] at c1); first | omega | (exfalso; omega) | exact ⟨by omega, by omega⟩ | (omega) | exact absurd trivial ‹¬ True›
      · intro c1; (try simp only [Int.toNat_natCast] at c1); first | omega | (exfalso; omega) | exact ⟨by omega, by omega⟩ | (omega) | exact absurd trivial ‹¬ True›
      · intro c1 c2; (try simp only [Int.toNat_natCast] at c1 c2); first | omega | (exfalso; omega) | exact ⟨by omega, by omega⟩ | (omega) | exact absurd trivial ‹¬ True›
      · intro c1 c2; (try simp only [Int.toNat_natCast] at c1 c2); first | omega | (exfalso; omega) | exact ⟨by omega, by omega⟩ | (omega) | exact absurd trivial ‹¬ True›
      · intro c1 c2; (try simp only [Int.toNat_natCast] at c1 c2); first | omega | (exfalso; omega) | exact ⟨by omega, by omega⟩ | (omega) | exact absurd trivial ‹¬ True›
      · intro c1 c2 c3; (try simp only [Int.toNat_natCast] at c1 c2 c3); first | (exfalso; omega) | exact absurd trivial ‹¬ True› | (skip)
      · intro c1 c2 c3; (try simp only [Int.toNat_natCast] at c1 c2 c3); first | (exfalso; omega) | exact absurd trivial ‹¬ True› | (skip)
      · intro c1 c2; (try simp only [Int.toNat_natCast] at c1 c2); first | omega | (exfalso; omega) | exact ⟨by omega, by omega⟩ | (omega) | exact absurd trivial ‹¬ True›
      · intro c1 c2; (try simp only [Int.toNat_natCast] at c1 c2); first | (exfalso; omega) | exact absurd trivial ‹¬ True› | (skip)
    | succ d ih =>
      intro wy a h1 g v0 j8 j9 w0 e ha I fa la hg pz pw hv kk
      have eM1 := fr h1 I
      have ba := fb h1 I a ha fa
      have ena : ((a : Int)).toNat = a := Int.toNat_natCast a
      have va := fv h1 I a ha
      have va' : h1 113 a ≤ 6363 := by
        have := I.2.1 _ _ ba
        rw [show 10 * (a / 10) + a % 10 = a by omega] at this
        have cr := cnt_rg W (fun c r => ¬ h1 113 (10 * r + c) = 1000000)
        omega
      have vE : h1 113 ((a : Int)).toNat = h1 113 a := by rw [ena]
      have next : ∀ (j8 j9 : AV), (g = 0 → ∀ c' r', isB R c' r' → mbs R (a : Int) wy = ((10 * r' + c' : Nat) : Int) → h1 113 (10 * r' + c') ≤ h1 113 a + wtW R x1 x2 c' r') → Wp true i_M_spreads 60 [vr 103, vi x1, vi x2, vi x3, vi x4, vi g, vi (a : Int), vi (wy + 1), j8, j9] [] h1 Q := by
        intro j8 j9 hq
        refine ih (wy + 1) a h1 g v0 j8 j9 (by omega) (by omega) ha I fa la hg pz (fun g0 w' w1 w2 c' r' q1 q2 => ?_) hv kk
        by_cases z : w' < wy
        · exact pw g0 w' w1 z c' r' q1 q2
        · have z : w' = wy := by omega
          subst z
          exact hq g0 c' r' q1 q2
      have bsv := mbs_nb W ba (s := wy) (by omega)
      rw [show 10 * (a / 10) + a % 10 = a by omega] at bsv
      rcases bsv with z | ⟨cc, rr, n1, b1, e1⟩
      · have z' : mbs (rmM h1 0) (a : Int) wy = -1 := by rw [eM1]; exact z
        have nx := fun j8 j9 => next j8 j9 (fun g0 c' r' q1 q2 => by rw [z] at q2; omega)
        refine g_M_spreads_60 ?_ ?_ ?_ ?_ ?_ ?_ ?_ ?_ ?_ ?_ ?_
        · intro c1; (try simp only [Int.toNat_natCast] at c1); first | omega | (exfalso; omega) | exact ⟨by omega, by omega⟩ | ((rw [eM1]; exact W)) | exact absurd trivial ‹¬ True›
        · intro c1; (try simp only [Int.toNat_natCast] at c1); first | (exfalso; omega) | exact absurd trivial ‹¬ True› | (skip)
        · intro c1; (try simp only [Int.toNat_natCast] at c1); first | omega | (exfalso; omega) | exact ⟨by omega, by omega⟩ | ((rw [eM1]; exact W)) | exact absurd trivial ‹¬ True›
        · intro c1; (try simp only [Int.toNat_natCast] at c1); first | omega | (exfalso; omega) | exact ⟨by omega, by omega⟩ | ((rw [eM1]; exact W)) | exact absurd trivial ‹¬ True›
        · intro c1 c2; (try simp only [Int.toNat_natCast] at c1 c2); first | omega | (exfalso; omega) | exact ⟨by omega, by omega⟩ | ((rw [eM1]; exact W)) | exact absurd trivial ‹¬ True›
        · intro c1 c2; (try simp only [Int.toNat_natCast] at c1 c2); first | omega | (exfalso; omega) | exact ⟨by omega, by omega⟩ | ((rw [eM1]; exact W)) | exact absurd trivial ‹¬ True›
        · intro c1 c2; (try simp only [Int.toNat_natCast] at c1 c2); first | omega | (exfalso; omega) | exact ⟨by omega, by omega⟩ | ((rw [eM1]; exact W)) | exact absurd trivial ‹¬ True›
        · intro c1 c2 c3; (try simp only [Int.toNat_natCast] at c1 c2 c3); first | (exfalso; omega) | exact absurd trivial ‹¬ True› | (skip)
        · intro c1 c2 c3; (try simp only [Int.toNat_natCast] at c1 c2 c3); first | (exfalso; omega) | exact absurd trivial ‹¬ True› | (skip)
        · intro c1 c2; (try simp only [Int.toNat_natCast] at c1 c2); first | omega | (exfalso; omega) | exact ⟨by omega, by omega⟩ | ((rw [eM1]; exact W)) | exact absurd trivial ‹¬ True›
        · intro c1 c2; (try simp only [Int.toNat_natCast] at c1 c2); first | (exfalso; omega) | exact absurd trivial ‹¬ True› | (exact nx _ _)
      · have b11 := b1.1
        have b12 := b1.2
        have z' : mbs (rmM h1 0) (a : Int) wy = ((10 * rr + cc : Nat) : Int) := by rw [eM1]; exact e1
        have en : (((10 * rr + cc : Nat) : Int)).toNat = 10 * rr + cc := Int.toNat_natCast _
        have bo := bo_iff (m := 10 * rr + cc) (l := x1) eM1
        rw [show (10 * rr + cc) % 10 = cc by omega, show (10 * rr + cc) / 10 = rr by omega] at bo
        have wr := wtW_rg (R := R) (l := x1) (c := cc) (r := rr) hs'
        have p110 : ∀ s1 : Int, x2 + s1 = wtW R x1 x2 cc rr → Wp true i_M_spreads 110 [vr 103, vi x1, vi x2, vi x3, vi x4, vi g, vi (a : Int), vi wy, vi ((10 * rr + cc : Nat) : Int), j9] [vi s1, vi (h1 113 a + x2)] h1 Q := by
          intro s1 es
          have es' : h1 113 a + x2 + s1 = h1 113 a + wtW R x1 x2 cc rr := by omega
          refine g_M_spreads_110 (by omega) (by omega) (fun _ => by omega) (fun q => ?_) (fun _ => by omega) (fun q => ?_)
          · rw [en] at q ⊢
            rw [es'] at q ⊢
            have ema : 10 * (a / 10) + a % 10 = a := by omega
            have I' := SpI_upd W hs' I ba b1 (by rw [ema]; exact fa) la n1 (by rw [ema]; exact q)
            rw [ema] at I'
            have su := sumF_upd (f := fun m => h1 113 m) (g := fun m => hs h1 113 (10 * rr + cc) (h1 113 a + wtW R x1 x2 cc rr) 113 m) (t := 10 * rr + cc) (v := h1 113 a + wtW R x1 x2 cc rr) 70 0 (by omega) (by omega) (fun j hj => hs_o (Or.inr hj)) hs_s
            have na : a ≠ 10 * rr + cc := fun z => by rw [z] at q; omega
            have fa' : hs h1 113 (10 * rr + cc) (h1 113 a + wtW R x1 x2 cc rr) 113 a ≠ 1000000 := by rw [hs_o (Or.inr na)]; exact fa
            refine ih (wy + 1) a _ 1 v0 _ _ (by omega) (by omega) ha I' fa' la (Or.inr rfl) (fun z => absurd z (by decide)) (fun z => absurd z (by decide)) ⟨by rw [su]; omega, fun _ => by rw [su]; omega⟩ kk
          · rw [en, es'] at q
            refine next _ _ (fun g0 c' r' q1 q2 => ?_)
            rw [e1] at q2
            have := q1.1
            obtain ⟨rfl, rfl⟩ : c' = cc ∧ r' = rr := by omega
            omega
        refine g_M_spreads_60 ?_ ?_ ?_ ?_ ?_ ?_ ?_ ?_ ?_ ?_ ?_
        · intro c1; (try simp only [Int.toNat_natCast] at c1); first | omega | (exfalso; omega) | exact ⟨by omega, by omega⟩ | ((rw [eM1]; exact W)) | exact absurd trivial ‹¬ True›
        · intro c1; (try simp only [Int.toNat_natCast] at c1); first | (exfalso; omega) | exact absurd trivial ‹¬ True› | (skip)
        · intro c1; (try simp only [Int.toNat_natCast] at c1); first | omega | (exfalso; omega) | exact ⟨by omega, by omega⟩ | ((rw [eM1]; exact W)) | exact absurd trivial ‹¬ True›
        · intro c1; (try simp only [Int.toNat_natCast] at c1); first | omega | (exfalso; omega) | exact ⟨by omega, by omega⟩ | ((rw [eM1]; exact W)) | exact absurd trivial ‹¬ True›
        · intro c1 c2; (try simp only [Int.toNat_natCast] at c1 c2); first | omega | (exfalso; omega) | exact ⟨by omega, by omega⟩ | ((rw [eM1]; exact W)) | exact absurd trivial ‹¬ True›
        · intro c1 c2; (try simp only [Int.toNat_natCast] at c1 c2); first | omega | (exfalso; omega) | exact ⟨by omega, by omega⟩ | ((rw [eM1]; exact W)) | exact absurd trivial ‹¬ True›
        · intro c1 c2; (try simp only [Int.toNat_natCast] at c1 c2); first | omega | (exfalso; omega) | exact ⟨by omega, by omega⟩ | ((rw [eM1]; exact W)) | exact absurd trivial ‹¬ True›
        · intro c1 c2 c3; (try simp only [Int.toNat_natCast] at c1 c2 c3)
          rw [z'] at c3
          rw [z', ena]
          exact p110 100 (by unfold wtW; rw [if_neg (fun q => c3 (bo.mpr ⟨b1, q⟩))])
        · intro c1 c2 c3; (try simp only [Int.toNat_natCast] at c1 c2 c3)
          rw [z'] at c3
          rw [z', ena]
          exact p110 0 (by unfold wtW; rw [if_pos (bo.mp c3).2])
        · intro c1 c2; (try simp only [Int.toNat_natCast] at c1 c2); first | omega | (exfalso; omega) | exact ⟨by omega, by omega⟩ | ((rw [eM1]; exact W)) | exact absurd trivial ‹¬ True›
        · intro c1 c2; (try simp only [Int.toNat_natCast] at c1 c2); first | (exfalso; omega) | exact absurd trivial ‹¬ True› | (skip)
  have pass : ∀ (d a : Nat) (h1 : HP) (g v0 : Int) (j7 j8 j9 : AV), a + d = 70 → SpI R x1 x2 F0 Lv h h1 → (g = 0 ∨ g = 1) → (g = 0 → Spd R x1 x2 Lv h1 a) → (sumF (fun m => h1 113 m) 70 0 ≤ v0 ∧ (g = 1 → sumF (fun m => h1 113 m) 70 0 < v0)) →
      (∀ (h2 : HP) (g' : Int) (j6 j7 j8 j9 : AV), SpI R x1 x2 F0 Lv h h2 → (g' = 0 ∨ g' = 1) → (g' = 0 → Spd R x1 x2 Lv h2 70) → (g' = 1 → sumF (fun m => h2 113 m) 70 0 < v0) → Wp true i_M_spreads 3 [vr 103, vi x1, vi x2, vi x3, vi x4, vi g', j6, j7, j8, j9] [] h2 Q) →
      Wp true i_M_spreads 14 [vr 103, vi x1, vi x2, vi x3, vi x4, vi g, vi (a : Int), j7, j8, j9] [] h1 Q := by
    intro d
    induction d with
    | zero =>
      intro a h1 g v0 j7 j8 j9 e I hg pz hv kk
      have : a = 70 := by omega
      subst this
      have fin := fun j6 => kk h1 g j6 j7 j8 j9 I hg pz hv.2
      refine g_M_spreads_14 ?_ ?_ ?_ ?_ ?_ ?_ ?_ ?_ ?_ ?_
      · intro c1; (try simp only [Int.toNat_natCast] at c1); first | (exfalso; omega) | exact absurd trivial ‹¬ True› | (exact fin _)
      · intro c1; (try simp only [Int.toNat_natCast] at c1); first | omega | (exfalso; omega) | exact ⟨by omega, by omega⟩ | (omega) | exact absurd trivial ‹¬ True›
      · intro c1 c2; (try simp only [Int.toNat_natCast] at c1 c2); first | omega | (exfalso; omega) | exact ⟨by omega, by omega⟩ | (omega) | exact absurd trivial ‹¬ True›
      · intro c1 c2; (try simp only [Int.toNat_natCast] at c1 c2); first | (exfalso; omega) | exact absurd trivial ‹¬ True› | (skip)
      · intro c1 c2 c3; (try simp only [Int.toNat_natCast] at c1 c2 c3); first | (exfalso; omega) | exact absurd trivial ‹¬ True› | (skip)
      · intro c1 c2 c3 c4; (try simp only [Int.toNat_natCast] at c1 c2 c3 c4); first | (exfalso; omega) | exact absurd trivial ‹¬ True› | (skip)
      · intro c1 c2 c3 c4; (try simp only [Int.toNat_natCast] at c1 c2 c3 c4); first | omega | (exfalso; omega) | exact ⟨by omega, by omega⟩ | (omega) | exact absurd trivial ‹¬ True›
      · intro c1 c2 c3 c4 c5; (try simp only [Int.toNat_natCast] at c1 c2 c3 c4 c5); first | (exfalso; omega) | exact absurd trivial ‹¬ True› | (skip)
      · intro c1 c2 c3 c4 c5; (try simp only [Int.toNat_natCast] at c1 c2 c3 c4 c5); first | omega | (exfalso; omega) | exact ⟨by omega, by omega⟩ | (omega) | exact absurd trivial ‹¬ True›
      · intro c1 c2 c3 c4 c5; (try simp only [Int.toNat_natCast] at c1 c2 c3 c4 c5); first | (exfalso; omega) | exact absurd trivial ‹¬ True› | (skip)
    | succ d ih =>
      intro a h1 g v0 j7 j8 j9 e I hg pz hv kk
      have eM1 := fr h1 I
      have ena : ((a : Int)).toNat = a := Int.toNat_natCast a
      have skip : (h1 113 a = 1000000 ∨ ¬ Lv (a % 10) (a / 10)) → ∀ (j7 j8 j9 : AV), Wp true i_M_spreads 14 [vr 103, vi x1, vi x2, vi x3, vi x4, vi g, vi ((a : Int) + 1), j7, j8, j9] [] h1 Q := by
        intro q j7 j8 j9
        have := ih (a + 1) h1 g v0 j7 j8 j9 (by omega) I hg (fun g0 m q1 q2 q3 q4 c' r' q5 q6 => by
          by_cases z : m < a
          · exact pz g0 m z q2 q3 q4 c' r' q5 q6
          · have z : m = a := by omega
            subst z
            rcases q with q | q
            · exact absurd q q3
            · exact absurd q4 q) hv kk
        rw [show ((a + 1 : Nat) : Int) = (a : Int) + 1 by omega] at this
        exact this
      have go : h1 113 a ≠ 1000000 → Lv (a % 10) (a / 10) → ∀ (j8 j9 : AV), Wp true i_M_spreads 60 [vr 103, vi x1, vi x2, vi x3, vi x4, vi g, vi (a : Int), vi 0, j8, j9] [] h1 Q := by
        intro q1 q2 j8 j9
        refine ways 4 0 a h1 g v0 j8 j9 (by omega) (by omega) (by omega) I q1 q2 hg pz (fun _ w' w1 w2 => by omega) hv (fun h2 g' j7 j8 j9 I2 hg2 pz2 hv2 => ?_)
        have := ih (a + 1) h2 g' v0 j7 j8 j9 (by omega) I2 hg2 pz2 hv2 kk
        rw [show ((a + 1 : Nat) : Int) = (a : Int) + 1 by omega] at this
        exact this
      refine g_M_spreads_14 ?_ ?_ ?_ ?_ ?_ ?_ ?_ ?_ ?_ ?_
      · intro c1; (try simp only [Int.toNat_natCast] at c1); first | (exfalso; omega) | exact absurd trivial ‹¬ True› | (skip)
      · intro c1; (try simp only [Int.toNat_natCast] at c1); first | omega | (exfalso; omega) | exact ⟨by omega, by omega⟩ | ((rw [eM1]; exact W)) | exact absurd trivial ‹¬ True›
      · intro c1 c2; (try simp only [Int.toNat_natCast] at c1 c2); first | omega | (exfalso; omega) | exact ⟨by omega, by omega⟩ | ((rw [eM1]; exact W)) | exact absurd trivial ‹¬ True›
      · intro c1 c2; (try simp only [Int.toNat_natCast] at c1 c2); first | (exfalso; omega) | exact absurd trivial ‹¬ True› | (exact skip (Or.inl c2) _ _ _)
      · intro c1 c2 c3; (try simp only [Int.toNat_natCast] at c1 c2 c3); first | (exfalso; omega) | exact absurd trivial ‹¬ True› | (exact go c2 ((hLv a (by omega) (fb h1 I a (by omega) c2)).mpr (Or.inl c3)) _ _)
      · intro c1 c2 c3 c4; (try simp only [Int.toNat_natCast] at c1 c2 c3 c4); first | (exfalso; omega) | exact absurd trivial ‹¬ True› | (exact go c2 ((hLv a (by omega) (fb h1 I a (by omega) c2)).mpr (Or.inr (Or.inl c4))) _ _)
      · intro c1 c2 c3 c4; (try simp only [Int.toNat_natCast] at c1 c2 c3 c4); first | omega | (exfalso; omega) | exact ⟨by omega, by omega⟩ | ((rw [eM1]; exact W)) | exact absurd trivial ‹¬ True›
      · intro c1 c2 c3 c4 c5; (try simp only [Int.toNat_natCast] at c1 c2 c3 c4 c5)
        rw [eM1] at c5
        exact go c2 ((hLv a (by omega) (fb h1 I a (by omega) c2)).mpr (Or.inr (Or.inr c5))) _ _
      · intro c1 c2 c3 c4 c5; (try simp only [Int.toNat_natCast] at c1 c2 c3 c4 c5); first | omega | (exfalso; omega) | exact ⟨by omega, by omega⟩ | ((rw [eM1]; exact W)) | exact absurd trivial ‹¬ True›
      · intro c1 c2 c3 c4 c5; (try simp only [Int.toNat_natCast] at c1 c2 c3 c4 c5)
        rw [eM1] at c5
        exact skip (Or.inr (fun q => ((hLv a (by omega) (fb h1 I a (by omega) c2)).mp q).elim (fun z => z c3) (fun z => z.elim c4 (fun y => y c5)))) _ _ _
  have lp : ∀ (d : Nat) (h1 : HP) (g : Int) (j6 j7 j8 j9 : AV), sumF (fun m => h1 113 m) 70 0 ≤ d → SpI R x1 x2 F0 Lv h h1 → (g = 0 ∨ g = 1) → (g = 0 → Spd R x1 x2 Lv h1 70) → Wp true i_M_spreads 3 [vr 103, vi x1, vi x2, vi x3, vi x4, vi g, j6, j7, j8, j9] [] h1 Q := by
    have done : ∀ h1, SpI R x1 x2 F0 Lv h h1 → Spd R x1 x2 Lv h1 70 → Q none h1 := by
      intro h1 I P
      refine k h1 I.1 I.2.2.2 ⟨fun c r q => ?_, I.2.2.1, fun x y x' y' q1 q2 q3 q4 q5 => ?_⟩
      · have cr := cnt_rg W (fun c r => ¬ h1 113 (10 * r + c) = 1000000)
        have := I.2.1 c r q
        rcases this with z | z
        · exact Or.inl z
        · exact Or.inr ⟨z.1, by show h1 113 (10 * r + c) ≤ 6363; omega, z.2.2⟩
      · have b1 := q1.1
        have b2 := q1.2
        have e1 : (10 * y + x) % 10 = x := by omega
        have e2 : (10 * y + x) / 10 = y := by omega
        exact P (10 * y + x) (by omega) (by omega) q3 (by rw [e1, e2]; exact q4) x' y' q2 (by rw [e1, e2]; exact q5)
    intro d
    induction d with
    | zero =>
      intro h1 g j6 j7 j8 j9 hd I hg pz
      refine g_M_spreads_3 (fun q => done h1 I (pz q)) (fun q => ?_)
      refine pass 70 0 h1 0 (sumF (fun m => h1 113 m) 70 0) _ _ _ rfl I (Or.inl rfl) (fun _ m q => by omega) ⟨Int.le_refl _, fun q => absurd q (by decide)⟩ (fun h2 g' j6 j7 j8 j9 I2 hg2 pz2 hv2 => ?_)
      rcases hg2 with rfl | rfl
      · exact g_M_spreads_3 (fun _ => done h2 I2 (pz2 rfl)) (fun q => absurd rfl q)
      · have s2 := hv2 rfl
        have := sumF_rng (f := fun m => h2 113 m) (a := 0) (b := 1000000) 70 0 (fun j _ hj => fv h2 I2 j (by omega))
        omega
    | succ d ih =>
      intro h1 g j6 j7 j8 j9 hd I hg pz
      refine g_M_spreads_3 (fun q => done h1 I (pz q)) (fun q => ?_)
      refine pass 70 0 h1 0 (sumF (fun m => h1 113 m) 70 0) _ _ _ rfl I (Or.inl rfl) (fun _ m q => by omega) ⟨Int.le_refl _, fun q => absurd q (by decide)⟩ (fun h2 g' j6 j7 j8 j9 I2 hg2 pz2 hv2 => ?_)
      rcases hg2 with rfl | rfl
      · exact g_M_spreads_3 (fun _ => done h2 I2 (pz2 rfl)) (fun q => absurd rfl q)
      · have s2 := hv2 rfl
        exact ih h2 1 _ _ _ _ (by omega) I2 (Or.inr rfl) pz2
  have s0 := sumF_rng (f := fun m => h 113 m) (a := 0) (b := 1000000) 70 0 (fun j _ hj => fv h I0 j (by omega))
  exact g_M_spreads_0 (lp (sumF (fun m => h 113 m) 70 0).toNat h 1 _ _ _ _ (by omega) I0 (Or.inr rfl) (fun q => absurd q (by decide)))
