theorem g_Is_beside_0 {Q : PQ} {h : HP} {x1 : Int} {x2 : Int} {f0 : Nat} (h_f0 : isF f0)
    (o1 : 0 ≤ x1)
    (o2 : 0 ≤ x1 ∧ x1 ≤ 2147483647)
    (o3 : x2 = 0 → -2147483648 ≤ (x1 % 9) + 1 ∧ (x1 % 9) + 1 ≤ 2147483647)
    (k4 : x2 = 0 → h f0 0 ≤ (x1 % 9) + 1 → Q (some (vi (-1))) h)
    (o5 : x2 = 0 → ¬ h f0 0 ≤ (x1 % 9) + 1 → -2147483648 ≤ x1 + 1 ∧ x1 + 1 ≤ 2147483647)
    (k6 : x2 = 0 → ¬ h f0 0 ≤ (x1 % 9) + 1 → Q (some (vi (x1 + 1))) h)
    (o7 : x2 = 1 → -2147483648 ≤ (x1 / 9) + 1 ∧ (x1 / 9) + 1 ≤ 2147483647)
    (k8 : x2 = 1 → h f0 1 ≤ (x1 / 9) + 1 → Q (some (vi (-1))) h)
    (o9 : x2 = 1 → ¬ h f0 1 ≤ (x1 / 9) + 1 → -2147483648 ≤ x1 + 9 ∧ x1 + 9 ≤ 2147483647)
    (k10 : x2 = 1 → ¬ h f0 1 ≤ (x1 / 9) + 1 → Q (some (vi (x1 + 9))) h)
    (k11 : x2 = 2 → x1 % 9 ≤ 0 → Q (some (vi (-1))) h)
    (o12 : x2 = 2 → ¬ x1 % 9 ≤ 0 → -2147483648 ≤ x1 - 1 ∧ x1 - 1 ≤ 2147483647)
    (k13 : x2 = 2 → ¬ x1 % 9 ≤ 0 → Q (some (vi (x1 - 1))) h)
    (k14 : ¬ x2 = 0 → ¬ x2 = 1 → ¬ x2 = 2 → x1 / 9 ≤ 0 → Q (some (vi (-1))) h)
    (o15 : ¬ x2 = 0 → ¬ x2 = 1 → ¬ x2 = 2 → ¬ x1 / 9 ≤ 0 → -2147483648 ≤ x1 - 9 ∧ x1 - 9 ≤ 2147483647)
    (k16 : ¬ x2 = 0 → ¬ x2 = 1 → ¬ x2 = 2 → ¬ x1 / 9 ≤ 0 → Q (some (vi (x1 - 9))) h) :
    Wp true i_Is_beside 0 [vr f0, vi x1, vi x2, vr 9999, vr 9999] [] h Q := by
  refine r_iload_n (v := x1) f_65_0 rfl ?_
  refine r_bipush f_65_1 (by decide) ?_
  refine r_irem f_65_3 o1 (by decide) ?_
  refine r_istore_n (ls' := [vr f0, vi x1, vi x2, vi (x1 % 9), vr 9999]) f_65_4 (Nat.le_of_ble_eq_true rfl) rfl ?_
  refine r_iload_n (v := x1) f_65_5 rfl ?_
  refine r_bipush f_65_6 (by decide) ?_
  refine r_idiv f_65_8 o2 (by decide) ?_
  refine r_istore (ls' := [vr f0, vi x1, vi x2, vi (x1 % 9), vi (x1 / 9)]) f_65_9 (Nat.le_of_ble_eq_true rfl) rfl ?_
  refine r_iload_n (v := x2) f_65_11 rfl ?_
  by_cases c1 : x2 = 0
  · refine r_swi (t := 40) f_65_12 0 c1 (by decide) rfl rfl ?_
    refine r_iload_n (v := x1 % 9) f_65_40 rfl ?_
    refine r_iconst f_65_41 (by decide) ?_
    refine r_iadd (u := (x1 % 9) + 1) f_65_42 rfl (o3 c1) ?_
    refine r_aload_n (v := f0) f_65_43 rfl (F_n h_f0) ?_
    refine r_geti (v := h f0 0) f_65_44 (F_k h_f0) (by decide) rfl ?_
    refine r_br2 (t := 56) f_65_47 rfl cb_ge (fun c2 => ?_) (fun c2 => ?_)
    · refine r_iconst f_65_56 (by decide) ?_
      exact r_reti f_65_57 rfl (k4 c1 c2)
    · refine r_iload_n (v := x1) f_65_50 rfl ?_
      refine r_iconst f_65_51 (by decide) ?_
      refine r_iadd (u := x1 + 1) f_65_52 rfl (o5 c1 c2) ?_
      refine r_goto (t := 57) f_65_53 rfl ?_
      exact r_reti f_65_57 rfl (k6 c1 c2)
  by_cases c2 : x2 = 1
  · refine r_swi (t := 58) f_65_12 1 c2 (by decide) rfl rfl ?_
    refine r_iload (v := x1 / 9) f_65_58 rfl ?_
    refine r_iconst f_65_60 (by decide) ?_
    refine r_iadd (u := (x1 / 9) + 1) f_65_61 rfl (o7 c2) ?_
    refine r_aload_n (v := f0) f_65_62 rfl (F_n h_f0) ?_
    refine r_geti (v := h f0 1) f_65_63 (F_k h_f0) (by decide) rfl ?_
    refine r_br2 (t := 76) f_65_66 rfl cb_ge (fun c3 => ?_) (fun c3 => ?_)
    · refine r_iconst f_65_76 (by decide) ?_
      exact r_reti f_65_77 rfl (k8 c2 c3)
    · refine r_iload_n (v := x1) f_65_69 rfl ?_
      refine r_bipush f_65_70 (by decide) ?_
      refine r_iadd (u := x1 + 9) f_65_72 rfl (o9 c2 c3) ?_
      refine r_goto (t := 77) f_65_73 rfl ?_
      exact r_reti f_65_77 rfl (k10 c2 c3)
  by_cases c3 : x2 = 2
  · refine r_swi (t := 78) f_65_12 2 c3 (by decide) rfl rfl ?_
    refine r_iload_n (v := x1 % 9) f_65_78 rfl ?_
    refine r_br (t := 88) f_65_79 rfl cb_le (fun c4 => ?_) (fun c4 => ?_)
    · refine r_iconst f_65_88 (by decide) ?_
      exact r_reti f_65_89 rfl (k11 c3 c4)
    · refine r_iload_n (v := x1) f_65_82 rfl ?_
      refine r_iconst f_65_83 (by decide) ?_
      refine r_isub (u := x1 - 1) f_65_84 rfl (o12 c3 c4) ?_
      refine r_goto (t := 89) f_65_85 rfl ?_
      exact r_reti f_65_89 rfl (k13 c3 c4)
  refine r_swo (t := 90) f_65_12 (by omega) rfl ?_
  refine r_iload (v := x1 / 9) f_65_90 rfl ?_
  refine r_br (t := 102) f_65_92 rfl cb_le (fun c4 => ?_) (fun c4 => ?_)
  · refine r_iconst f_65_102 (by decide) ?_
    exact r_reti f_65_103 rfl (k14 c1 c2 c3 c4)
  · refine r_iload_n (v := x1) f_65_95 rfl ?_
    refine r_bipush f_65_96 (by decide) ?_
    refine r_isub (u := x1 - 9) f_65_98 rfl (o15 c1 c2 c3 c4) ?_
    refine r_goto (t := 103) f_65_99 rfl ?_
    exact r_reti f_65_103 rfl (k16 c1 c2 c3 c4)

theorem c_Is_beside {Q : PQ} {h : HP} {x1 : Int} {x2 : Int} {f0 : Nat} (h_f0 : isF f0) (o1 : 0 ≤ x1 ∧ x1 < 63) (o2 : 0 ≤ x2 ∧ x2 < 4) (k : Q (some (vi (bs (rmC h f0) x1 x2))) h) :
    Wp true i_Is_beside 0 [vr f0, vi x1, vi x2, vr 9999, vr 9999] [] h Q := by
  have d := cdim (rfl : rmC h f0 = rmC h f0)
  simp only [bs, ← d.1, ← d.2.1] at k
  refine g_Is_beside_0 h_f0 ?_ ?_ ?_ ?_ ?_ ?_ ?_ ?_ ?_ ?_ ?_ ?_ ?_ ?_ ?_ ?_
  · first | omega | (exfalso; omega) | exact ⟨by omega, by omega⟩ | (omega) | exact absurd trivial ‹¬ True›
  · first | omega | (exfalso; omega) | exact ⟨by omega, by omega⟩ | (omega) | exact absurd trivial ‹¬ True›
  · intro c1; (try simp only [Int.toNat_natCast] at c1); first | omega | (exfalso; omega) | exact ⟨by omega, by omega⟩ | (omega) | exact absurd trivial ‹¬ True›
  · intro c1 c2; (try simp only [Int.toNat_natCast] at c1 c2); first | (exfalso; omega) | exact absurd trivial ‹¬ True› | (rw [if_pos c1, if_pos c2] at k; exact k)
  · intro c1 c2; (try simp only [Int.toNat_natCast] at c1 c2); first | omega | (exfalso; omega) | exact ⟨by omega, by omega⟩ | (omega) | exact absurd trivial ‹¬ True›
  · intro c1 c2; (try simp only [Int.toNat_natCast] at c1 c2); first | (exfalso; omega) | exact absurd trivial ‹¬ True› | (rw [if_pos c1, if_neg c2] at k; exact k)
  · intro c2; (try simp only [Int.toNat_natCast] at c2); first | omega | (exfalso; omega) | exact ⟨by omega, by omega⟩ | (omega) | exact absurd trivial ‹¬ True›
  · intro c2 c3; (try simp only [Int.toNat_natCast] at c2 c3); first | (exfalso; omega) | exact absurd trivial ‹¬ True› | (rw [if_neg (by omega), if_pos c2, if_pos c3] at k; exact k)
  · intro c2 c3; (try simp only [Int.toNat_natCast] at c2 c3); first | omega | (exfalso; omega) | exact ⟨by omega, by omega⟩ | (omega) | exact absurd trivial ‹¬ True›
  · intro c2 c3; (try simp only [Int.toNat_natCast] at c2 c3); first | (exfalso; omega) | exact absurd trivial ‹¬ True› | (rw [if_neg (by omega), if_pos c2, if_neg c3] at k; exact k)
  · intro c3 c4; (try simp only [Int.toNat_natCast] at c3 c4); first | (exfalso; omega) | exact absurd trivial ‹¬ True› | (rw [if_neg (by omega), if_neg (by omega), if_pos c3, if_pos c4] at k; exact k)
  · intro c3 c4; (try simp only [Int.toNat_natCast] at c3 c4); first | omega | (exfalso; omega) | exact ⟨by omega, by omega⟩ | (omega) | exact absurd trivial ‹¬ True›
  · intro c3 c4; (try simp only [Int.toNat_natCast] at c3 c4); first | (exfalso; omega) | exact absurd trivial ‹¬ True› | (rw [if_neg (by omega), if_neg (by omega), if_pos c3, if_neg c4] at k; exact k)
  · intro c1 c2 c3 c4; (try simp only [Int.toNat_natCast] at c1 c2 c3 c4); first | (exfalso; omega) | exact absurd trivial ‹¬ True› | (rw [if_neg c1, if_neg c2, if_neg c3, if_pos c4] at k; exact k)
  · intro c1 c2 c3 c4; (try simp only [Int.toNat_natCast] at c1 c2 c3 c4); first | omega | (exfalso; omega) | exact ⟨by omega, by omega⟩ | (omega) | exact absurd trivial ‹¬ True›
  · intro c1 c2 c3 c4; (try simp only [Int.toNat_natCast] at c1 c2 c3 c4); first | (exfalso; omega) | exact absurd trivial ‹¬ True› | (rw [if_neg c1, if_neg c2, if_neg c3, if_neg c4] at k; exact k)

theorem g_Is_claim_0 {Q : PQ} {h : HP} {x1 : Int} 
    (o1 : 0 ≤ x1 ∧ x1 < 63)
    (o2 : 0 ≤ h 82 6 ∧ h 82 6 < 63)
    (o3 : -2147483648 ≤ (h 82 6) + 1 ∧ (h 82 6) + 1 ≤ 2147483647)
    (k4 : Q none (hs (hs (hs h 84 x1.toNat (h 82 4)) 87 (h 82 6).toNat x1) 82 6 ((h 82 6) + 1))) :
    Wp true i_Is_claim 0 [vr 82, vi x1] [] h Q := by
  refine r_aload_n (v := 82) f_63_0 rfl (by decide) ?_
  refine r_getr (q := 84) f_63_1 rfl (by decide) (Or.inl rfl) rfl ?_
  refine r_iload_n (v := x1) f_63_4 rfl ?_
  refine r_aload_n (v := 82) f_63_5 rfl (by decide) ?_
  refine r_geti (v := h 82 4) f_63_6 rfl (by decide) rfl ?_
  refine r_iastore (n := 63) f_63_9 ⟨rfl, rfl⟩ o1 ?_
  refine r_aload_n (v := 82) f_63_10 rfl (by decide) ?_
  refine r_getr (q := 87) f_63_11 rfl (by decide) (Or.inl rfl) rfl ?_
  refine r_aload_n (v := 82) f_63_14 rfl (by decide) ?_
  refine r_geti (v := h 82 6) f_63_15 rfl (by decide) (by simp [hs]) ?_
  refine r_iload_n (v := x1) f_63_18 rfl ?_
  refine r_iastore (n := 63) f_63_19 ⟨rfl, rfl⟩ o2 ?_
  refine r_aload_n (v := 82) f_63_20 rfl (by decide) ?_
  refine r_dupr f_63_21 ?_
  refine r_geti (v := h 82 6) f_63_22 rfl (by decide) (by simp [hs]) ?_
  refine r_iconst f_63_25 (by decide) ?_
  refine r_iadd (u := (h 82 6) + 1) f_63_26 rfl o3 ?_
  refine r_puti f_63_27 rfl (by decide) ?_
  exact r_retv f_63_30 rfl k4

theorem c_Is_claim {Q : PQ} {h : HP} {x1 : Int} (o1 : 0 ≤ x1 ∧ x1 < 63) (o2 : 0 ≤ h 82 6 ∧ h 82 6 < 63) (k : Q (none) (hs (hs (hs h 84 x1.toNat (h 82 4)) 87 (h 82 6).toNat x1) 82 6 ((h 82 6) + 1))) :
    Wp true i_Is_claim 0 [vr 82, vi x1] [] h Q := by
  refine g_Is_claim_0 ?_ ?_ ?_ ?_
  · intros; first | omega | exact ⟨by omega, by omega⟩
  · intros; first | omega | exact ⟨by omega, by omega⟩
  · intros; first | omega | exact ⟨by omega, by omega⟩
  · intros; exact k

theorem g_Is_boardOf_0 {Q : PQ} {h : HP} {x1 : Int} {f0 : Nat} (h_f0 : isF f0)
    (o1 : 0 ≤ x1 ∧ x1 < 10)
    (o2 : 0 ≤ (h (f0 + 4) x1.toNat) ∧ (h (f0 + 4) x1.toNat) < 100)
    (o3 : 0 ≤ (h (f0 + 5) x1.toNat) ∧ (h (f0 + 5) x1.toNat) < 100)
    (k4 : Q (some (vi ((h (f0 + 5) x1.toNat) * 9 + (h (f0 + 4) x1.toNat)))) h) :
    Wp true i_Is_boardOf 0 [vr f0, vi x1] [] h Q := by
  refine r_aload_n (v := f0) f_64_0 rfl (F_n h_f0) ?_
  refine r_getr (q := (f0 + 4)) f_64_1 (F_k h_f0) (by decide) (Or.inl rfl) rfl ?_
  refine r_iload_n (v := x1) f_64_4 rfl ?_
  refine r_iaload (n := 10) (v := h (f0 + 4) x1.toNat) f_64_5 (F_4 h_f0) o1 rfl ?_
  refine r_aload_n (v := f0) f_64_6 rfl (F_n h_f0) ?_
  refine r_getr (q := (f0 + 5)) f_64_7 (F_k h_f0) (by decide) (Or.inl rfl) rfl ?_
  refine r_iload_n (v := x1) f_64_10 rfl ?_
  refine r_iaload (n := 10) (v := h (f0 + 5) x1.toNat) f_64_11 (F_5 h_f0) o1 rfl ?_
  refine r_calls (as := [vi (h (f0 + 4) x1.toNat), vi (h (f0 + 5) x1.toNat)]) (st' := []) (ls0 := [vi (h (f0 + 4) x1.toNat), vi (h (f0 + 5) x1.toNat)]) f_64_12 (by decide) (by decide) rfl rfl (Nat.le_of_ble_eq_true rfl) (Nat.le_of_ble_eq_true rfl) rfl ?_
  refine c_C_boardNumber o2 o3 ?_
  show Wp true i_Is_boardOf 15 [vr f0, vi x1] [vi ((h (f0 + 5) x1.toNat) * 9 + (h (f0 + 4) x1.toNat))] h Q
  exact r_reti f_64_15 rfl k4

theorem c_Is_boardOf {Q : PQ} {h : HP} {x1 : Int} {f0 : Nat} (h_f0 : isF f0) (o1 : WR (rmC h f0)) (o2 : 0 ≤ x1 ∧ x1 < h f0 3) (k : Q (some (vi (rmC h f0 3 x1.toNat * 9 + rmC h f0 2 x1.toNat))) h) :
    Wp true i_Is_boardOf 0 [vr f0, vi x1] [] h Q := by
  have w := WC_0 o1
  have w1 := WC_t o1 o2.1 o2.2
  obtain ⟨e1, e2, -⟩ := cR_t (h := h) (f := f0) (i := x1.toNat) (by omega)
  simp only [e1, e2] at k
  refine g_Is_boardOf_0 h_f0 ?_ ?_ ?_ ?_
  · intros; first | omega | exact ⟨by omega, by omega⟩
  · intros; first | omega | exact ⟨by omega, by omega⟩
  · intros; first | omega | exact ⟨by omega, by omega⟩
  · intros; first | exact k | (refine kv k ?_; omega) | (refine kv k ?_; simp only [*, if_true, if_false]; try omega) | (refine kv k ?_; split <;> omega)

theorem g_Is_together_0 {Q : PQ} {h : HP} {x1 : Int} {x2 : Int} 
    (o1 : 0 ≤ x1 ∧ x1 < 63)
    (o2 : 0 ≤ x2 ∧ x2 < 63)
    (k3 : ¬ h 84 x1.toNat = h 84 x2.toNat → Q (some (vi 0)) h)
    (k4 : h 84 x1.toNat = h 84 x2.toNat → Q (some (vi 1)) h) :
    Wp true i_Is_together 0 [vr 82, vi x1, vi x2] [] h Q := by
  refine r_aload_n (v := 82) f_69_0 rfl (by decide) ?_
  refine r_getr (q := 84) f_69_1 rfl (by decide) (Or.inl rfl) rfl ?_
  refine r_iload_n (v := x1) f_69_4 rfl ?_
  refine r_iaload (n := 63) (v := h 84 x1.toNat) f_69_5 ⟨rfl, rfl⟩ o1 rfl ?_
  refine r_aload_n (v := 82) f_69_6 rfl (by decide) ?_
  refine r_getr (q := 84) f_69_7 rfl (by decide) (Or.inl rfl) rfl ?_
  refine r_iload_n (v := x2) f_69_10 rfl ?_
  refine r_iaload (n := 63) (v := h 84 x2.toNat) f_69_11 ⟨rfl, rfl⟩ o2 rfl ?_
  refine r_br2 (t := 19) f_69_12 rfl cb_ne (fun c1 => ?_) (fun c1 => ?_)
  · refine r_iconst f_69_19 (by decide) ?_
    exact r_retz f_69_20 rfl (by decide) (k3 c1)
  · have c1 := Decidable.not_not.mp c1
    refine r_iconst f_69_15 (by decide) ?_
    refine r_goto (t := 20) f_69_16 rfl ?_
    exact r_retz f_69_20 rfl (by decide) (k4 c1)

theorem c_Is_together {Q : PQ} {h : HP} {x1 : Int} {x2 : Int} (o1 : 0 ≤ x1 ∧ x1 < 63) (o2 : 0 ≤ x2 ∧ x2 < 63) (k : Q (some (vi (bi (h 84 x1.toNat = h 84 x2.toNat)))) h) :
    Wp true i_Is_together 0 [vr 82, vi x1, vi x2] [] h Q := by
  refine g_Is_together_0 ?_ ?_ ?_ ?_
  · first | omega | (exfalso; omega) | exact ⟨by omega, by omega⟩ | (omega) | exact absurd trivial ‹¬ True›
  · first | omega | (exfalso; omega) | exact ⟨by omega, by omega⟩ | (omega) | exact absurd trivial ‹¬ True›
  · intro c1; (try simp only [Int.toNat_natCast] at c1); first | (exfalso; omega) | exact absurd trivial ‹¬ True› | (exact kf k c1)
  · intro c1; (try simp only [Int.toNat_natCast] at c1); first | (exfalso; omega) | exact absurd trivial ‹¬ True› | (exact kt k c1)

theorem g_Ar_fillI_0 {Q : PQ} {h : HP} {x1 : Int} {a0 : Nat} {n0 : Nat} (h_a0 : zck a0 = 20 ∧ zcn a0 = n0)
    (o1 : a0 ≠ 9999)
    (k2 : Wp true i_Ar_fillI 5 [vr a0, vi x1, vi 0, vi (n0 : Int)] [] h Q) :
    Wp true i_Ar_fillI 0 [vr a0, vi x1, vr 9999, vr 9999] [] h Q := by
  refine r_iconst f_379_0 (by decide) ?_
  refine r_istore_n (ls' := [vr a0, vi x1, vi 0, vr 9999]) f_379_1 (Nat.le_of_ble_eq_true rfl) rfl ?_
  refine r_aload_n (v := a0) f_379_2 rfl o1 ?_
  refine r_alen (v := (n0 : Int)) f_379_3 (Or.inl h_a0.1) (by rw [h_a0.2]) ?_
  refine r_istore_n (ls' := [vr a0, vi x1, vi 0, vi (n0 : Int)]) f_379_4 (Nat.le_of_ble_eq_true rfl) rfl ?_
  exact k2

theorem g_Ar_fillI_5 {Q : PQ} {h : HP} {x1 : Int} {x2 : Int} {x3 : Int} {a0 : Nat} {n0 : Nat} (h_a0 : zck a0 = 20 ∧ zcn a0 = n0)
    (k1 : x3 ≤ x2 → Q none h)
    (o2 : ¬ x3 ≤ x2 → a0 ≠ 9999)
    (o3 : ¬ x3 ≤ x2 → 0 ≤ x2 ∧ x2 < (n0 : Int))
    (o4 : ¬ x3 ≤ x2 → -2147483648 ≤ x2 + 1 ∧ x2 + 1 ≤ 2147483647)
    (k5 : ¬ x3 ≤ x2 → Wp true i_Ar_fillI 5 [vr a0, vi x1, vi (x2 + 1), vi x3] [] (hs h a0 x2.toNat x1) Q) :
    Wp true i_Ar_fillI 5 [vr a0, vi x1, vi x2, vi x3] [] h Q := by
  refine r_iload_n (v := x2) f_379_5 rfl ?_
  refine r_iload_n (v := x3) f_379_6 rfl ?_
  refine r_br2 (t := 20) f_379_7 rfl cb_ge (fun c1 => ?_) (fun c1 => ?_)
  · exact r_retv f_379_20 rfl (k1 c1)
  · refine r_aload_n (v := a0) f_379_10 rfl (o2 c1) ?_
    refine r_iload_n (v := x2) f_379_11 rfl ?_
    refine r_iload_n (v := x1) f_379_12 rfl ?_
    refine r_iastore (n := n0) f_379_13 h_a0 (o3 c1) ?_
    refine r_iinc (v := x2) (w := x2 + 1) (ls' := [vr a0, vi x1, vi (x2 + 1), vi x3]) f_379_14 rfl rfl (o4 c1) rfl ?_
    refine r_goto (t := 5) f_379_17 rfl ?_
    exact (k5 c1)

theorem g_Ar_fillJ_0 {Q : PQ} {h : HP} {y1 : Int} {a0 : Nat} {n0 : Nat} (h_a0 : zck a0 = 21 ∧ zcn a0 = n0)
    (o1 : a0 ≠ 9999)
    (k2 : Wp true i_Ar_fillJ 6 [vr a0, vj y1, vr 9999, vi 0, vi (n0 : Int)] [] h Q) :
    Wp true i_Ar_fillJ 0 [vr a0, vj y1, vr 9999, vr 9999, vr 9999] [] h Q := by
  refine r_iconst f_378_0 (by decide) ?_
  refine r_istore_n (ls' := [vr a0, vj y1, vr 9999, vi 0, vr 9999]) f_378_1 (Nat.le_of_ble_eq_true rfl) rfl ?_
  refine r_aload_n (v := a0) f_378_2 rfl o1 ?_
  refine r_alen (v := (n0 : Int)) f_378_3 (Or.inr (Or.inl h_a0.1)) (by rw [h_a0.2]) ?_
  refine r_istore (ls' := [vr a0, vj y1, vr 9999, vi 0, vi (n0 : Int)]) f_378_4 (Nat.le_of_ble_eq_true rfl) rfl ?_
  exact k2

theorem g_Ar_fillJ_6 {Q : PQ} {h : HP} {y1 : Int} {x3 : Int} {x4 : Int} {a0 : Nat} {n0 : Nat} (h_a0 : zck a0 = 21 ∧ zcn a0 = n0)
    (k1 : x4 ≤ x3 → Q none h)
    (o2 : ¬ x4 ≤ x3 → a0 ≠ 9999)
    (o3 : ¬ x4 ≤ x3 → 0 ≤ x3 ∧ x3 < (n0 : Int))
    (o4 : ¬ x4 ≤ x3 → -2147483648 ≤ x3 + 1 ∧ x3 + 1 ≤ 2147483647)
    (k5 : ¬ x4 ≤ x3 → Wp true i_Ar_fillJ 6 [vr a0, vj y1, vr 9999, vi (x3 + 1), vi x4] [] (hs h a0 x3.toNat y1) Q) :
    Wp true i_Ar_fillJ 6 [vr a0, vj y1, vr 9999, vi x3, vi x4] [] h Q := by
  refine r_iload_n (v := x3) f_378_6 rfl ?_
  refine r_iload (v := x4) f_378_7 rfl ?_
  refine r_br2 (t := 22) f_378_9 rfl cb_ge (fun c1 => ?_) (fun c1 => ?_)
  · exact r_retv f_378_22 rfl (k1 c1)
  · refine r_aload_n (v := a0) f_378_12 rfl (o2 c1) ?_
    refine r_iload_n (v := x3) f_378_13 rfl ?_
    refine r_lload_n (v := y1) f_378_14 rfl ?_
    refine r_lastore (n := n0) f_378_15 h_a0 (o3 c1) ?_
    refine r_iinc (v := x3) (w := x3 + 1) (ls' := [vr a0, vj y1, vr 9999, vi (x3 + 1), vi x4]) f_378_16 rfl rfl (o4 c1) rfl ?_
    refine r_goto (t := 6) f_378_19 rfl ?_
    exact (k5 c1)

theorem g_Is_findKeepers_0 {Q : PQ} {h : HP}  {f1 : Nat} (h_f1 : isF f1)
    (k1 : Wp true i_Is_findKeepers 2 [vr 82, vr f1, vi 0, vr 9999] [] h Q) :
    Wp true i_Is_findKeepers 0 [vr 82, vr f1, vr 9999, vr 9999] [] h Q := by
  refine r_iconst f_61_0 (by decide) ?_
  refine r_istore_n (ls' := [vr 82, vr f1, vi 0, vr 9999]) f_61_1 (Nat.le_of_ble_eq_true rfl) rfl ?_
  exact k1

theorem g_Is_findKeepers_2 {Q : PQ} {h : HP} {x2 : Int} {j3 : AV} {f1 : Nat} (h_f1 : isF f1)
    (k1 : h f1 1 ≤ x2 → Wp true i_Is_findKeepers 59 [vr 82, vr f1, vi 0, j3] [] h Q)
    (k2 : ¬ h f1 1 ≤ x2 → Wp true i_Is_findKeepers 12 [vr 82, vr f1, vi x2, vi 0] [] h Q) :
    Wp true i_Is_findKeepers 2 [vr 82, vr f1, vi x2, j3] [] h Q := by
  refine r_iload_n (v := x2) f_61_2 rfl ?_
  refine r_aload_n (v := f1) f_61_3 rfl (F_n h_f1) ?_
  refine r_geti (v := h f1 1) f_61_4 (F_k h_f1) (by decide) rfl ?_
  refine r_br2 (t := 57) f_61_7 rfl cb_ge (fun c1 => ?_) (fun c1 => ?_)
  · refine r_iconst f_61_57 (by decide) ?_
    refine r_istore_n (ls' := [vr 82, vr f1, vi 0, j3]) f_61_58 (Nat.le_of_ble_eq_true rfl) rfl ?_
    exact (k1 c1)
  · refine r_iconst f_61_10 (by decide) ?_
    refine r_istore_n (ls' := [vr 82, vr f1, vi x2, vi 0]) f_61_11 (Nat.le_of_ble_eq_true rfl) rfl ?_
    exact (k2 c1)

theorem g_Is_findKeepers_12 {Q : PQ} {h : HP} {x2 : Int} {x3 : Int} {f1 : Nat} (h_f1 : isF f1)
    (o1 : h f1 0 ≤ x3 → -2147483648 ≤ x2 + 1 ∧ x2 + 1 ≤ 2147483647)
    (k2 : h f1 0 ≤ x3 → Wp true i_Is_findKeepers 2 [vr 82, vr f1, vi (x2 + 1), vi x3] [] h Q)
    (o3 : ¬ h f1 0 ≤ x3 → 0 ≤ x3 ∧ x3 < 100)
    (o4 : ¬ h f1 0 ≤ x3 → 0 ≤ x2 ∧ x2 < 100)
    (o5 : ¬ h f1 0 ≤ x3 → 0 ≤ x2 ∧ x2 < 7)
    (o6 : ¬ h f1 0 ≤ x3 → h (f1 + 2) x2.toNat ≤ x3 → 0 ≤ x2 * 9 + x3 ∧ x2 * 9 + x3 < 63)
    (o7 : ¬ h f1 0 ≤ x3 → h (f1 + 2) x2.toNat ≤ x3 → -2147483648 ≤ x3 + 1 ∧ x3 + 1 ≤ 2147483647)
    (k8 : ¬ h f1 0 ≤ x3 → h (f1 + 2) x2.toNat ≤ x3 → Wp true i_Is_findKeepers 12 [vr 82, vr f1, vi x2, vi (x3 + 1)] [] (hs h 83 (x2 * 9 + x3).toNat 1) Q)
    (o9 : ¬ h f1 0 ≤ x3 → ¬ h (f1 + 2) x2.toNat ≤ x3 → 0 ≤ x2 * 9 + x3 ∧ x2 * 9 + x3 < 63)
    (o10 : ¬ h f1 0 ≤ x3 → ¬ h (f1 + 2) x2.toNat ≤ x3 → -2147483648 ≤ x3 + 1 ∧ x3 + 1 ≤ 2147483647)
    (k11 : ¬ h f1 0 ≤ x3 → ¬ h (f1 + 2) x2.toNat ≤ x3 → Wp true i_Is_findKeepers 12 [vr 82, vr f1, vi x2, vi (x3 + 1)] [] (hs h 83 (x2 * 9 + x3).toNat 0) Q) :
    Wp true i_Is_findKeepers 12 [vr 82, vr f1, vi x2, vi x3] [] h Q := by
  refine r_iload_n (v := x3) f_61_12 rfl ?_
  refine r_aload_n (v := f1) f_61_13 rfl (F_n h_f1) ?_
  refine r_geti (v := h f1 0) f_61_14 (F_k h_f1) (by decide) rfl ?_
  refine r_br2 (t := 51) f_61_17 rfl cb_ge (fun c1 => ?_) (fun c1 => ?_)
  · refine r_iinc (v := x2) (w := x2 + 1) (ls' := [vr 82, vr f1, vi (x2 + 1), vi x3]) f_61_51 rfl rfl (o1 c1) rfl ?_
    refine r_goto (t := 2) f_61_54 rfl ?_
    exact (k2 c1)
  · refine r_aload_n (v := 82) f_61_20 rfl (by decide) ?_
    refine r_getr (q := 83) f_61_21 rfl (by decide) (Or.inl rfl) rfl ?_
    refine r_iload_n (v := x3) f_61_24 rfl ?_
    refine r_iload_n (v := x2) f_61_25 rfl ?_
    refine r_calls (as := [vi x3, vi x2]) (st' := [vr 83]) (ls0 := [vi x3, vi x2]) f_61_26 (by decide) (by decide) rfl rfl (Nat.le_of_ble_eq_true rfl) (Nat.le_of_ble_eq_true rfl) rfl ?_
    refine c_C_boardNumber (o3 c1) (o4 c1) ?_
    show Wp true i_Is_findKeepers 29 [vr 82, vr f1, vi x2, vi x3] [vi (x2 * 9 + x3), vr 83] h Q
    refine r_iload_n (v := x3) f_61_29 rfl ?_
    refine r_aload_n (v := f1) f_61_30 rfl (F_n h_f1) ?_
    refine r_getr (q := (f1 + 2)) f_61_31 (F_k h_f1) (by decide) (Or.inl rfl) rfl ?_
    refine r_iload_n (v := x2) f_61_34 rfl ?_
    refine r_iaload (n := 7) (v := h (f1 + 2) x2.toNat) f_61_35 (F_2 h_f1) (o5 c1) rfl ?_
    refine r_br2 (t := 43) f_61_36 rfl cb_ge (fun c2 => ?_) (fun c2 => ?_)
    · refine r_iconst f_61_43 (by decide) ?_
      refine r_iastore (n := 63) f_61_44 ⟨rfl, rfl⟩ (o6 c1 c2) ?_
      refine r_iinc (v := x3) (w := x3 + 1) (ls' := [vr 82, vr f1, vi x2, vi (x3 + 1)]) f_61_45 rfl rfl (o7 c1 c2) rfl ?_
      refine r_goto (t := 12) f_61_48 rfl ?_
      exact (k8 c1 c2)
    · refine r_iconst f_61_39 (by decide) ?_
      refine r_goto (t := 44) f_61_40 rfl ?_
      refine r_iastore (n := 63) f_61_44 ⟨rfl, rfl⟩ (o9 c1 c2) ?_
      refine r_iinc (v := x3) (w := x3 + 1) (ls' := [vr 82, vr f1, vi x2, vi (x3 + 1)]) f_61_45 rfl rfl (o10 c1 c2) rfl ?_
      refine r_goto (t := 12) f_61_48 rfl ?_
      exact (k11 c1 c2)

theorem g_Is_findKeepers_59 {Q : PQ} {h : HP} {x2 : Int} {j3 : AV} {f1 : Nat} (h_f1 : isF f1)
    (k1 : h f1 3 ≤ x2 → Q none h)
    (o2 : ¬ h f1 3 ≤ x2 → WR (rmC h f1))
    (o3 : ¬ h f1 3 ≤ x2 → 0 ≤ x2 ∧ x2 < h f1 3)
    (o4 : ¬ h f1 3 ≤ x2 → 0 ≤ rmC h f1 3 x2.toNat * 9 + rmC h f1 2 x2.toNat ∧ rmC h f1 3 x2.toNat * 9 + rmC h f1 2 x2.toNat < 63)
    (o5 : ¬ h f1 3 ≤ x2 → -2147483648 ≤ x2 + 1 ∧ x2 + 1 ≤ 2147483647)
    (k6 : ¬ h f1 3 ≤ x2 → Wp true i_Is_findKeepers 59 [vr 82, vr f1, vi (x2 + 1), j3] [] (hs h 83 (rmC h f1 3 x2.toNat * 9 + rmC h f1 2 x2.toNat).toNat (rHo (rmC h f1) x2.toNat)) Q) :
    Wp true i_Is_findKeepers 59 [vr 82, vr f1, vi x2, j3] [] h Q := by
  refine r_iload_n (v := x2) f_61_59 rfl ?_
  refine r_aload_n (v := f1) f_61_60 rfl (F_n h_f1) ?_
  refine r_geti (v := h f1 3) f_61_61 (F_k h_f1) (by decide) rfl ?_
  refine r_br2 (t := 88) f_61_64 rfl cb_ge (fun c1 => ?_) (fun c1 => ?_)
  · exact r_retv f_61_88 rfl (k1 c1)
  · refine r_aload_n (v := 82) f_61_67 rfl (by decide) ?_
    refine r_getr (q := 83) f_61_68 rfl (by decide) (Or.inl rfl) rfl ?_
    refine r_aload_n (v := f1) f_61_71 rfl (F_n h_f1) ?_
    refine r_iload_n (v := x2) f_61_72 rfl ?_
    refine r_calls (as := [vr f1, vi x2]) (st' := [vr 83]) (ls0 := [vr f1, vi x2]) f_61_73 (by decide) (by decide) rfl rfl (Nat.le_of_ble_eq_true rfl) (Nat.le_of_ble_eq_true rfl) rfl ?_
    refine c_Is_boardOf h_f1 (o2 c1) (o3 c1) ?_
    show Wp true i_Is_findKeepers 76 [vr 82, vr f1, vi x2, j3] [vi (rmC h f1 3 x2.toNat * 9 + rmC h f1 2 x2.toNat), vr 83] h Q
    refine r_aload_n (v := f1) f_61_76 rfl (F_n h_f1) ?_
    refine r_iload_n (v := x2) f_61_77 rfl ?_
    refine r_callv (as := [vr f1, vi x2]) (st' := [vi (rmC h f1 3 x2.toNat * 9 + rmC h f1 2 x2.toNat), vr 83]) (ls0 := [vr f1, vi x2]) f_61_78 (by decide) rfl rfl (Nat.le_of_ble_eq_true rfl) (Nat.le_of_ble_eq_true rfl) ⟨_, _, rfl, (F_k h_f1)⟩ rfl ?_
    refine c_Fl_holderOf h_f1 (o2 c1) (o3 c1) ?_
    show Wp true i_Is_findKeepers 81 [vr 82, vr f1, vi x2, j3] [vi (rHo (rmC h f1) x2.toNat), vi (rmC h f1 3 x2.toNat * 9 + rmC h f1 2 x2.toNat), vr 83] h Q
    refine r_iastore (n := 63) f_61_81 ⟨rfl, rfl⟩ (o4 c1) ?_
    refine r_iinc (v := x2) (w := x2 + 1) (ls' := [vr 82, vr f1, vi (x2 + 1), j3]) f_61_82 rfl rfl (o5 c1) rfl ?_
    refine r_goto (t := 59) f_61_85 rfl ?_
    exact (k6 c1)

theorem g_Is_flood_0 {Q : PQ} {h : HP} {x2 : Int} {f1 : Nat} (h_f1 : isF f1)
    (o1 : 0 ≤ x2 ∧ x2 < 63)
    (o2 : 0 ≤ (hs h 82 6 0) 82 6 ∧ (hs h 82 6 0) 82 6 < 63)
    (k3 : Wp true i_Is_flood 20 [vr 82, vr f1, vi x2, vi (h 83 x2.toNat), vi 0, vr 9999, vr 9999] [] (hs (hs (hs (hs h 82 6 0) 84 x2.toNat ((hs h 82 6 0) 82 4)) 87 ((hs h 82 6 0) 82 6).toNat x2) 82 6 (((hs h 82 6 0) 82 6) + 1)) Q) :
    Wp true i_Is_flood 0 [vr 82, vr f1, vi x2, vr 9999, vr 9999, vr 9999, vr 9999] [] h Q := by
  refine r_aload_n (v := 82) f_62_0 rfl (by decide) ?_
  refine r_getr (q := 83) f_62_1 rfl (by decide) (Or.inl rfl) rfl ?_
  refine r_iload_n (v := x2) f_62_4 rfl ?_
  refine r_iaload (n := 63) (v := h 83 x2.toNat) f_62_5 ⟨rfl, rfl⟩ o1 rfl ?_
  refine r_istore_n (ls' := [vr 82, vr f1, vi x2, vi (h 83 x2.toNat), vr 9999, vr 9999, vr 9999]) f_62_6 (Nat.le_of_ble_eq_true rfl) rfl ?_
  refine r_aload_n (v := 82) f_62_7 rfl (by decide) ?_
  refine r_iconst f_62_8 (by decide) ?_
  refine r_puti f_62_9 rfl (by decide) ?_
  refine r_aload_n (v := 82) f_62_12 rfl (by decide) ?_
  refine r_iload_n (v := x2) f_62_13 rfl ?_
  refine r_callv (as := [vr 82, vi x2]) (st' := []) (ls0 := [vr 82, vi x2]) f_62_14 (by decide) rfl rfl (Nat.le_of_ble_eq_true rfl) (Nat.le_of_ble_eq_true rfl) ⟨_, _, rfl, rfl⟩ rfl ?_
  refine c_Is_claim o1 o2 ?_
  show Wp true i_Is_flood 17 [vr 82, vr f1, vi x2, vi (h 83 x2.toNat), vr 9999, vr 9999, vr 9999] [] (hs (hs (hs (hs h 82 6 0) 84 x2.toNat ((hs h 82 6 0) 82 4)) 87 ((hs h 82 6 0) 82 6).toNat x2) 82 6 (((hs h 82 6 0) 82 6) + 1)) Q
  refine r_iconst f_62_17 (by decide) ?_
  refine r_istore (ls' := [vr 82, vr f1, vi x2, vi (h 83 x2.toNat), vi 0, vr 9999, vr 9999]) f_62_18 (Nat.le_of_ble_eq_true rfl) rfl ?_
  exact k3

theorem g_Is_flood_20 {Q : PQ} {h : HP} {x2 : Int} {x3 : Int} {x4 : Int} {j5 : AV} {j6 : AV} {f1 : Nat} (h_f1 : isF f1)
    (o1 : h 82 6 ≤ x4 → 0 ≤ h 82 4 ∧ h 82 4 < 63)
    (k2 : h 82 6 ≤ x4 → Q none (hs (hs h 85 (h 82 4).toNat x3) 86 (h 82 4).toNat (h 82 6)))
    (k3 : ¬ h 82 6 ≤ x4 → Wp true i_Is_flood 32 [vr 82, vr f1, vi x2, vi x3, vi x4, vi 0, j6] [] h Q) :
    Wp true i_Is_flood 20 [vr 82, vr f1, vi x2, vi x3, vi x4, j5, j6] [] h Q := by
  refine r_iload (v := x4) f_62_20 rfl ?_
  refine r_aload_n (v := 82) f_62_22 rfl (by decide) ?_
  refine r_geti (v := h 82 6) f_62_23 rfl (by decide) rfl ?_
  refine r_br2 (t := 97) f_62_26 rfl cb_ge (fun c1 => ?_) (fun c1 => ?_)
  · refine r_aload_n (v := 82) f_62_97 rfl (by decide) ?_
    refine r_getr (q := 85) f_62_98 rfl (by decide) (Or.inl rfl) rfl ?_
    refine r_aload_n (v := 82) f_62_101 rfl (by decide) ?_
    refine r_geti (v := h 82 4) f_62_102 rfl (by decide) rfl ?_
    refine r_iload_n (v := x3) f_62_105 rfl ?_
    refine r_iastore (n := 63) f_62_106 ⟨rfl, rfl⟩ (o1 c1) ?_
    refine r_aload_n (v := 82) f_62_107 rfl (by decide) ?_
    refine r_getr (q := 86) f_62_108 rfl (by decide) (Or.inl rfl) rfl ?_
    refine r_aload_n (v := 82) f_62_111 rfl (by decide) ?_
    refine r_geti (v := h 82 4) f_62_112 rfl (by decide) (by simp [hs]) ?_
    refine r_aload_n (v := 82) f_62_115 rfl (by decide) ?_
    refine r_geti (v := h 82 6) f_62_116 rfl (by decide) (by simp [hs]) ?_
    refine r_iastore (n := 63) f_62_119 ⟨rfl, rfl⟩ (o1 c1) ?_
    exact r_retv f_62_120 rfl (k2 c1)
  · refine r_iconst f_62_29 (by decide) ?_
    refine r_istore (ls' := [vr 82, vr f1, vi x2, vi x3, vi x4, vi 0, j6]) f_62_30 (Nat.le_of_ble_eq_true rfl) rfl ?_
    exact (k3 c1)

theorem g_Is_flood_32 {Q : PQ} {h : HP} {x2 : Int} {x3 : Int} {x4 : Int} {x5 : Int} {j6 : AV} {f1 : Nat} (h_f1 : isF f1)
    (o1 : 4 ≤ x5 → -2147483648 ≤ x4 + 1 ∧ x4 + 1 ≤ 2147483647)
    (k2 : 4 ≤ x5 → Wp true i_Is_flood 20 [vr 82, vr f1, vi x2, vi x3, vi (x4 + 1), vi x5, j6] [] h Q)
    (o3 : ¬ 4 ≤ x5 → 0 ≤ x4 ∧ x4 < 63)
    (o4 : ¬ 4 ≤ x5 → 0 ≤ (h 87 x4.toNat) ∧ (h 87 x4.toNat) < 63)
    (o5 : ¬ 4 ≤ x5 → 0 ≤ x5 ∧ x5 < 4)
    (o6 : ¬ 4 ≤ x5 → bs (rmC h f1) (h 87 x4.toNat) x5 < 0 → -2147483648 ≤ x5 + 1 ∧ x5 + 1 ≤ 2147483647)
    (k7 : ¬ 4 ≤ x5 → bs (rmC h f1) (h 87 x4.toNat) x5 < 0 → Wp true i_Is_flood 32 [vr 82, vr f1, vi x2, vi x3, vi x4, vi (x5 + 1), vi (bs (rmC h f1) (h 87 x4.toNat) x5)] [] h Q)
    (o8 : ¬ 4 ≤ x5 → ¬ bs (rmC h f1) (h 87 x4.toNat) x5 < 0 → 0 ≤ bs (rmC h f1) (h 87 x4.toNat) x5 ∧ bs (rmC h f1) (h 87 x4.toNat) x5 < 63)
    (o9 : ¬ 4 ≤ x5 → ¬ bs (rmC h f1) (h 87 x4.toNat) x5 < 0 → ¬ h 83 (bs (rmC h f1) (h 87 x4.toNat) x5).toNat = x3 → -2147483648 ≤ x5 + 1 ∧ x5 + 1 ≤ 2147483647)
    (k10 : ¬ 4 ≤ x5 → ¬ bs (rmC h f1) (h 87 x4.toNat) x5 < 0 → ¬ h 83 (bs (rmC h f1) (h 87 x4.toNat) x5).toNat = x3 → Wp true i_Is_flood 32 [vr 82, vr f1, vi x2, vi x3, vi x4, vi (x5 + 1), vi (bs (rmC h f1) (h 87 x4.toNat) x5)] [] h Q)
    (o11 : ¬ 4 ≤ x5 → ¬ bs (rmC h f1) (h 87 x4.toNat) x5 < 0 → h 83 (bs (rmC h f1) (h 87 x4.toNat) x5).toNat = x3 → 0 ≤ h 84 (bs (rmC h f1) (h 87 x4.toNat) x5).toNat → -2147483648 ≤ x5 + 1 ∧ x5 + 1 ≤ 2147483647)
    (k12 : ¬ 4 ≤ x5 → ¬ bs (rmC h f1) (h 87 x4.toNat) x5 < 0 → h 83 (bs (rmC h f1) (h 87 x4.toNat) x5).toNat = x3 → 0 ≤ h 84 (bs (rmC h f1) (h 87 x4.toNat) x5).toNat → Wp true i_Is_flood 32 [vr 82, vr f1, vi x2, vi x3, vi x4, vi (x5 + 1), vi (bs (rmC h f1) (h 87 x4.toNat) x5)] [] h Q)
    (o13 : ¬ 4 ≤ x5 → ¬ bs (rmC h f1) (h 87 x4.toNat) x5 < 0 → h 83 (bs (rmC h f1) (h 87 x4.toNat) x5).toNat = x3 → ¬ 0 ≤ h 84 (bs (rmC h f1) (h 87 x4.toNat) x5).toNat → 0 ≤ (bs (rmC h f1) (h 87 x4.toNat) x5) ∧ (bs (rmC h f1) (h 87 x4.toNat) x5) < 63)
    (o14 : ¬ 4 ≤ x5 → ¬ bs (rmC h f1) (h 87 x4.toNat) x5 < 0 → h 83 (bs (rmC h f1) (h 87 x4.toNat) x5).toNat = x3 → ¬ 0 ≤ h 84 (bs (rmC h f1) (h 87 x4.toNat) x5).toNat → 0 ≤ h 82 6 ∧ h 82 6 < 63)
    (o15 : ¬ 4 ≤ x5 → ¬ bs (rmC h f1) (h 87 x4.toNat) x5 < 0 → h 83 (bs (rmC h f1) (h 87 x4.toNat) x5).toNat = x3 → ¬ 0 ≤ h 84 (bs (rmC h f1) (h 87 x4.toNat) x5).toNat → -2147483648 ≤ x5 + 1 ∧ x5 + 1 ≤ 2147483647)
    (k16 : ¬ 4 ≤ x5 → ¬ bs (rmC h f1) (h 87 x4.toNat) x5 < 0 → h 83 (bs (rmC h f1) (h 87 x4.toNat) x5).toNat = x3 → ¬ 0 ≤ h 84 (bs (rmC h f1) (h 87 x4.toNat) x5).toNat → Wp true i_Is_flood 32 [vr 82, vr f1, vi x2, vi x3, vi x4, vi (x5 + 1), vi (bs (rmC h f1) (h 87 x4.toNat) x5)] [] (hs (hs (hs h 84 (bs (rmC h f1) (h 87 x4.toNat) x5).toNat (h 82 4)) 87 (h 82 6).toNat (bs (rmC h f1) (h 87 x4.toNat) x5)) 82 6 ((h 82 6) + 1)) Q) :
    Wp true i_Is_flood 32 [vr 82, vr f1, vi x2, vi x3, vi x4, vi x5, j6] [] h Q := by
  refine r_iload (v := x5) f_62_32 rfl ?_
  refine r_iconst f_62_34 (by decide) ?_
  refine r_br2 (t := 91) f_62_35 rfl cb_ge (fun c1 => ?_) (fun c1 => ?_)
  · refine r_iinc (v := x4) (w := x4 + 1) (ls' := [vr 82, vr f1, vi x2, vi x3, vi (x4 + 1), vi x5, j6]) f_62_91 rfl rfl (o1 c1) rfl ?_
    refine r_goto (t := 20) f_62_94 rfl ?_
    exact (k2 c1)
  · refine r_aload_n (v := f1) f_62_38 rfl (F_n h_f1) ?_
    refine r_aload_n (v := 82) f_62_39 rfl (by decide) ?_
    refine r_getr (q := 87) f_62_40 rfl (by decide) (Or.inl rfl) rfl ?_
    refine r_iload (v := x4) f_62_43 rfl ?_
    refine r_iaload (n := 63) (v := h 87 x4.toNat) f_62_45 ⟨rfl, rfl⟩ (o3 c1) rfl ?_
    refine r_iload (v := x5) f_62_46 rfl ?_
    refine r_calls (as := [vr f1, vi (h 87 x4.toNat), vi x5]) (st' := []) (ls0 := [vr f1, vi (h 87 x4.toNat), vi x5, vr 9999, vr 9999]) f_62_48 (by decide) (by decide) rfl rfl (Nat.le_of_ble_eq_true rfl) (Nat.le_of_ble_eq_true rfl) rfl ?_
    refine c_Is_beside h_f1 (o4 c1) (o5 c1) ?_
    show Wp true i_Is_flood 51 [vr 82, vr f1, vi x2, vi x3, vi x4, vi x5, j6] [vi (bs (rmC h f1) (h 87 x4.toNat) x5)] h Q
    refine r_istore (ls' := [vr 82, vr f1, vi x2, vi x3, vi x4, vi x5, vi (bs (rmC h f1) (h 87 x4.toNat) x5)]) f_62_51 (Nat.le_of_ble_eq_true rfl) rfl ?_
    refine r_iload (v := bs (rmC h f1) (h 87 x4.toNat) x5) f_62_53 rfl ?_
    refine r_br (t := 85) f_62_55 rfl cb_lt (fun c2 => ?_) (fun c2 => ?_)
    · refine r_iinc (v := x5) (w := x5 + 1) (ls' := [vr 82, vr f1, vi x2, vi x3, vi x4, vi (x5 + 1), vi (bs (rmC h f1) (h 87 x4.toNat) x5)]) f_62_85 rfl rfl (o6 c1 c2) rfl ?_
      refine r_goto (t := 32) f_62_88 rfl ?_
      exact (k7 c1 c2)
    · refine r_aload_n (v := 82) f_62_58 rfl (by decide) ?_
      refine r_getr (q := 83) f_62_59 rfl (by decide) (Or.inl rfl) rfl ?_
      refine r_iload (v := bs (rmC h f1) (h 87 x4.toNat) x5) f_62_62 rfl ?_
      refine r_iaload (n := 63) (v := h 83 (bs (rmC h f1) (h 87 x4.toNat) x5).toNat) f_62_64 ⟨rfl, rfl⟩ (o8 c1 c2) rfl ?_
      refine r_iload_n (v := x3) f_62_65 rfl ?_
      refine r_br2 (t := 85) f_62_66 rfl cb_ne (fun c3 => ?_) (fun c3 => ?_)
      · refine r_iinc (v := x5) (w := x5 + 1) (ls' := [vr 82, vr f1, vi x2, vi x3, vi x4, vi (x5 + 1), vi (bs (rmC h f1) (h 87 x4.toNat) x5)]) f_62_85 rfl rfl (o9 c1 c2 c3) rfl ?_
        refine r_goto (t := 32) f_62_88 rfl ?_
        exact (k10 c1 c2 c3)
      · have c3 := Decidable.not_not.mp c3
        refine r_aload_n (v := 82) f_62_69 rfl (by decide) ?_
        refine r_getr (q := 84) f_62_70 rfl (by decide) (Or.inl rfl) rfl ?_
        refine r_iload (v := bs (rmC h f1) (h 87 x4.toNat) x5) f_62_73 rfl ?_
        refine r_iaload (n := 63) (v := h 84 (bs (rmC h f1) (h 87 x4.toNat) x5).toNat) f_62_75 ⟨rfl, rfl⟩ (o8 c1 c2) rfl ?_
        refine r_br (t := 85) f_62_76 rfl cb_ge (fun c4 => ?_) (fun c4 => ?_)
        · refine r_iinc (v := x5) (w := x5 + 1) (ls' := [vr 82, vr f1, vi x2, vi x3, vi x4, vi (x5 + 1), vi (bs (rmC h f1) (h 87 x4.toNat) x5)]) f_62_85 rfl rfl (o11 c1 c2 c3 c4) rfl ?_
          refine r_goto (t := 32) f_62_88 rfl ?_
          exact (k12 c1 c2 c3 c4)
        · refine r_aload_n (v := 82) f_62_79 rfl (by decide) ?_
          refine r_iload (v := bs (rmC h f1) (h 87 x4.toNat) x5) f_62_80 rfl ?_
          refine r_callv (as := [vr 82, vi (bs (rmC h f1) (h 87 x4.toNat) x5)]) (st' := []) (ls0 := [vr 82, vi (bs (rmC h f1) (h 87 x4.toNat) x5)]) f_62_82 (by decide) rfl rfl (Nat.le_of_ble_eq_true rfl) (Nat.le_of_ble_eq_true rfl) ⟨_, _, rfl, rfl⟩ rfl ?_
          refine c_Is_claim (o13 c1 c2 c3 c4) (o14 c1 c2 c3 c4) ?_
          show Wp true i_Is_flood 85 [vr 82, vr f1, vi x2, vi x3, vi x4, vi x5, vi (bs (rmC h f1) (h 87 x4.toNat) x5)] [] (hs (hs (hs h 84 (bs (rmC h f1) (h 87 x4.toNat) x5).toNat (h 82 4)) 87 (h 82 6).toNat (bs (rmC h f1) (h 87 x4.toNat) x5)) 82 6 ((h 82 6) + 1)) Q
          refine r_iinc (v := x5) (w := x5 + 1) (ls' := [vr 82, vr f1, vi x2, vi x3, vi x4, vi (x5 + 1), vi (bs (rmC h f1) (h 87 x4.toNat) x5)]) f_62_85 rfl rfl (o15 c1 c2 c3 c4) rfl ?_
          refine r_goto (t := 32) f_62_88 rfl ?_
          exact (k16 c1 c2 c3 c4)

theorem g_Is_survey_0 {Q : PQ} {h : HP}  {f1 : Nat} (h_f1 : isF f1)
    (k1 : Wp true i_Is_findKeepers 0 [vr 82, vr f1, vr 9999, vr 9999] [] h (fun r h' => Wp true i_Is_survey 5 [vr 82, vr f1, vr 9999, vr 9999, vr 9999] (r.toList ++ []) h' Q)) :
    Wp true i_Is_survey 0 [vr 82, vr f1, vr 9999, vr 9999, vr 9999] [] h Q := by
  refine r_aload_n (v := 82) f_60_0 rfl (by decide) ?_
  refine r_aload_n (v := f1) f_60_1 rfl (F_n h_f1) ?_
  exact r_callv (as := [vr 82, vr f1]) (st' := []) (ls0 := [vr 82, vr f1, vr 9999, vr 9999]) f_60_2 (by decide) rfl rfl (Nat.le_of_ble_eq_true rfl) (Nat.le_of_ble_eq_true rfl) ⟨_, _, rfl, rfl⟩ rfl k1

theorem g_Is_survey_5 {Q : PQ} {h : HP}  {f1 : Nat} (h_f1 : isF f1)
    (k1 : Wp true i_Ar_fillI 0 [vr 84, vi (-1), vr 9999, vr 9999] [] h (fun r h' => Wp true i_Is_survey 13 [vr 82, vr f1, vr 9999, vr 9999, vr 9999] (r.toList ++ []) h' Q)) :
    Wp true i_Is_survey 5 [vr 82, vr f1, vr 9999, vr 9999, vr 9999] [] h Q := by
  refine r_aload_n (v := 82) f_60_5 rfl (by decide) ?_
  refine r_getr (q := 84) f_60_6 rfl (by decide) (Or.inl rfl) rfl ?_
  refine r_iconst f_60_9 (by decide) ?_
  exact r_calls (as := [vr 84, vi (-1)]) (st' := []) (ls0 := [vr 84, vi (-1), vr 9999, vr 9999]) f_60_10 (by decide) (by decide) rfl rfl (Nat.le_of_ble_eq_true rfl) (Nat.le_of_ble_eq_true rfl) rfl k1

theorem g_Is_survey_13 {Q : PQ} {h : HP}  {f1 : Nat} (h_f1 : isF f1)
    (k1 : Wp true i_Is_survey 20 [vr 82, vr f1, vi 0, vr 9999, vr 9999] [] (hs h 82 4 0) Q) :
    Wp true i_Is_survey 13 [vr 82, vr f1, vr 9999, vr 9999, vr 9999] [] h Q := by
  refine r_aload_n (v := 82) f_60_13 rfl (by decide) ?_
  refine r_iconst f_60_14 (by decide) ?_
  refine r_puti f_60_15 rfl (by decide) ?_
  refine r_iconst f_60_18 (by decide) ?_
  refine r_istore_n (ls' := [vr 82, vr f1, vi 0, vr 9999, vr 9999]) f_60_19 (Nat.le_of_ble_eq_true rfl) rfl ?_
  exact k1

theorem g_Is_survey_20 {Q : PQ} {h : HP} {x2 : Int} {j3 : AV} {j4 : AV} {f1 : Nat} (h_f1 : isF f1)
    (k1 : h f1 1 ≤ x2 → Q none h)
    (k2 : ¬ h f1 1 ≤ x2 → Wp true i_Is_survey 30 [vr 82, vr f1, vi x2, vi 0, j4] [] h Q) :
    Wp true i_Is_survey 20 [vr 82, vr f1, vi x2, j3, j4] [] h Q := by
  refine r_iload_n (v := x2) f_60_20 rfl ?_
  refine r_aload_n (v := f1) f_60_21 rfl (F_n h_f1) ?_
  refine r_geti (v := h f1 1) f_60_22 (F_k h_f1) (by decide) rfl ?_
  refine r_br2 (t := 84) f_60_25 rfl cb_ge (fun c1 => ?_) (fun c1 => ?_)
  · exact r_retv f_60_84 rfl (k1 c1)
  · refine r_iconst f_60_28 (by decide) ?_
    refine r_istore_n (ls' := [vr 82, vr f1, vi x2, vi 0, j4]) f_60_29 (Nat.le_of_ble_eq_true rfl) rfl ?_
    exact (k2 c1)

theorem g_Is_survey_30 {Q : PQ} {h : HP} {x2 : Int} {x3 : Int} {j4 : AV} {f1 : Nat} (h_f1 : isF f1)
    (o1 : h f1 0 ≤ x3 → -2147483648 ≤ x2 + 1 ∧ x2 + 1 ≤ 2147483647)
    (k2 : h f1 0 ≤ x3 → Wp true i_Is_survey 20 [vr 82, vr f1, vi (x2 + 1), vi x3, j4] [] h Q)
    (o3 : ¬ h f1 0 ≤ x3 → 0 ≤ x3 ∧ x3 < 100)
    (o4 : ¬ h f1 0 ≤ x3 → 0 ≤ x2 ∧ x2 < 100)
    (o5 : ¬ h f1 0 ≤ x3 → 0 ≤ x2 * 9 + x3 ∧ x2 * 9 + x3 < 63)
    (o6 : ¬ h f1 0 ≤ x3 → 0 ≤ h 84 (x2 * 9 + x3).toNat → -2147483648 ≤ x3 + 1 ∧ x3 + 1 ≤ 2147483647)
    (k7 : ¬ h f1 0 ≤ x3 → 0 ≤ h 84 (x2 * 9 + x3).toNat → Wp true i_Is_survey 30 [vr 82, vr f1, vi x2, vi (x3 + 1), vi (x2 * 9 + x3)] [] h Q)
    (k8 : ¬ h f1 0 ≤ x3 → ¬ 0 ≤ h 84 (x2 * 9 + x3).toNat → Wp true i_Is_flood 0 [vr 82, vr f1, vi (x2 * 9 + x3), vr 9999, vr 9999, vr 9999, vr 9999] [] h (fun r h' => Wp true i_Is_survey 62 [vr 82, vr f1, vi x2, vi x3, vi (x2 * 9 + x3)] (r.toList ++ []) h' Q)) :
    Wp true i_Is_survey 30 [vr 82, vr f1, vi x2, vi x3, j4] [] h Q := by
  refine r_iload_n (v := x3) f_60_30 rfl ?_
  refine r_aload_n (v := f1) f_60_31 rfl (F_n h_f1) ?_
  refine r_geti (v := h f1 0) f_60_32 (F_k h_f1) (by decide) rfl ?_
  refine r_br2 (t := 78) f_60_35 rfl cb_ge (fun c1 => ?_) (fun c1 => ?_)
  · refine r_iinc (v := x2) (w := x2 + 1) (ls' := [vr 82, vr f1, vi (x2 + 1), vi x3, j4]) f_60_78 rfl rfl (o1 c1) rfl ?_
    refine r_goto (t := 20) f_60_81 rfl ?_
    exact (k2 c1)
  · refine r_iload_n (v := x3) f_60_38 rfl ?_
    refine r_iload_n (v := x2) f_60_39 rfl ?_
    refine r_calls (as := [vi x3, vi x2]) (st' := []) (ls0 := [vi x3, vi x2]) f_60_40 (by decide) (by decide) rfl rfl (Nat.le_of_ble_eq_true rfl) (Nat.le_of_ble_eq_true rfl) rfl ?_
    refine c_C_boardNumber (o3 c1) (o4 c1) ?_
    show Wp true i_Is_survey 43 [vr 82, vr f1, vi x2, vi x3, j4] [vi (x2 * 9 + x3)] h Q
    refine r_istore (ls' := [vr 82, vr f1, vi x2, vi x3, vi (x2 * 9 + x3)]) f_60_43 (Nat.le_of_ble_eq_true rfl) rfl ?_
    refine r_aload_n (v := 82) f_60_45 rfl (by decide) ?_
    refine r_getr (q := 84) f_60_46 rfl (by decide) (Or.inl rfl) rfl ?_
    refine r_iload (v := x2 * 9 + x3) f_60_49 rfl ?_
    refine r_iaload (n := 63) (v := h 84 (x2 * 9 + x3).toNat) f_60_51 ⟨rfl, rfl⟩ (o5 c1) rfl ?_
    refine r_br (t := 72) f_60_52 rfl cb_ge (fun c2 => ?_) (fun c2 => ?_)
    · refine r_iinc (v := x3) (w := x3 + 1) (ls' := [vr 82, vr f1, vi x2, vi (x3 + 1), vi (x2 * 9 + x3)]) f_60_72 rfl rfl (o6 c1 c2) rfl ?_
      refine r_goto (t := 30) f_60_75 rfl ?_
      exact (k7 c1 c2)
    · refine r_aload_n (v := 82) f_60_55 rfl (by decide) ?_
      refine r_aload_n (v := f1) f_60_56 rfl (F_n h_f1) ?_
      refine r_iload (v := x2 * 9 + x3) f_60_57 rfl ?_
      exact r_callv (as := [vr 82, vr f1, vi (x2 * 9 + x3)]) (st' := []) (ls0 := [vr 82, vr f1, vi (x2 * 9 + x3), vr 9999, vr 9999, vr 9999, vr 9999]) f_60_59 (by decide) rfl rfl (Nat.le_of_ble_eq_true rfl) (Nat.le_of_ble_eq_true rfl) ⟨_, _, rfl, rfl⟩ rfl (k8 c1 c2)

theorem g_Is_survey_62 {Q : PQ} {h : HP} {x2 : Int} {x3 : Int} {x4 : Int} {f1 : Nat} (h_f1 : isF f1)
    (o1 : -2147483648 ≤ (h 82 4) + 1 ∧ (h 82 4) + 1 ≤ 2147483647)
    (o2 : -2147483648 ≤ x3 + 1 ∧ x3 + 1 ≤ 2147483647)
    (k3 : Wp true i_Is_survey 30 [vr 82, vr f1, vi x2, vi (x3 + 1), vi x4] [] (hs h 82 4 ((h 82 4) + 1)) Q) :
    Wp true i_Is_survey 62 [vr 82, vr f1, vi x2, vi x3, vi x4] [] h Q := by
  refine r_aload_n (v := 82) f_60_62 rfl (by decide) ?_
  refine r_dupr f_60_63 ?_
  refine r_geti (v := h 82 4) f_60_64 rfl (by decide) rfl ?_
  refine r_iconst f_60_67 (by decide) ?_
  refine r_iadd (u := (h 82 4) + 1) f_60_68 rfl o1 ?_
  refine r_puti f_60_69 rfl (by decide) ?_
  refine r_iinc (v := x3) (w := x3 + 1) (ls' := [vr 82, vr f1, vi x2, vi (x3 + 1), vi x4]) f_60_72 rfl rfl o2 rfl ?_
  refine r_goto (t := 30) f_60_75 rfl ?_
  exact k3

theorem c_Ar_fillI {Q : PQ} {h : HP} {x1 : Int} {a0 n0 : Nat} (h_a0 : zck a0 = 20 ∧ zcn a0 = n0) (o1 : a0 ≠ 9999) (o2 : n0 ≤ 100000) (k : Q none (wr h a0 0 n0 (fun _ => x1))) : Wp true i_Ar_fillI 0 [vr a0, vi x1, vr 9999, vr 9999] [] h Q := by
  refine g_Ar_fillI_0 h_a0 o1 ?_
  have key : ∀ (d i : Nat), i + d = n0 → Wp true i_Ar_fillI 5 [vr a0, vi x1, vi (i : Int), vi (n0 : Int)] [] (wr h a0 0 i (fun _ => x1)) Q := by
    intro d
    induction d with
    | zero =>
      intro i e
      have : i = n0 := by omega
      subst this
      exact g_Ar_fillI_5 h_a0 (fun _ => k) (fun q => by omega) (fun q => by omega) (fun q => by omega) (fun q => by omega)
    | succ d ih =>
      intro i e
      refine g_Ar_fillI_5 h_a0 (fun q => by omega) (fun _ => o1) (fun _ => by omega) (fun _ => by omega) (fun _ => ?_)
      have st := wr_s (h := h) (k := a0) (a := 0) (n := i) (T := fun _ => x1)
      rw [Nat.zero_add] at st
      rw [Int.toNat_natCast, st]
      exact ih (i + 1) (by omega)
  have := key n0 0 (by omega)
  rw [wr_0] at this
  exact this
theorem c_Ar_fillJ {Q : PQ} {h : HP} {y1 : Int} {a0 n0 : Nat} (h_a0 : zck a0 = 21 ∧ zcn a0 = n0) (o1 : a0 ≠ 9999) (o2 : n0 ≤ 100000) (k : Q none (wr h a0 0 n0 (fun _ => y1))) : Wp true i_Ar_fillJ 0 [vr a0, vj y1, vr 9999, vr 9999, vr 9999] [] h Q := by
  refine g_Ar_fillJ_0 h_a0 o1 ?_
  have key : ∀ (d i : Nat), i + d = n0 → Wp true i_Ar_fillJ 6 [vr a0, vj y1, vr 9999, vi (i : Int), vi (n0 : Int)] [] (wr h a0 0 i (fun _ => y1)) Q := by
    intro d
    induction d with
    | zero =>
      intro i e
      have : i = n0 := by omega
      subst this
      exact g_Ar_fillJ_6 h_a0 (fun _ => k) (fun q => by omega) (fun q => by omega) (fun q => by omega) (fun q => by omega)
    | succ d ih =>
      intro i e
      refine g_Ar_fillJ_6 h_a0 (fun q => by omega) (fun _ => o1) (fun _ => by omega) (fun _ => by omega) (fun _ => ?_)
      have st := wr_s (h := h) (k := a0) (a := 0) (n := i) (T := fun _ => y1)
      rw [Nat.zero_add] at st
      rw [Int.toNat_natCast, st]
      exact ih (i + 1) (by omega)
  have := key n0 0 (by omega)
  rw [wr_0] at this
  exact this
/-- a ROOM of the class, when a cell far from it changes -/
theorem rC_cell {h : HP} {f k i : Nat} {v : Int} (hf : isF f) (hk : 82 ≤ k) : rmC (hs h k i v) f = rmC h f := by
  have : f + 8 ≤ 82 := by
    unfold isF at hf; omega
  exact rmC_congr (fun j => by rw [hs_ne (by omega)]) (hs_ne (by omega)) (hs_ne (by omega)) (hs_ne (by omega)) (hs_ne (by omega)) (hs_ne (by omega)) (hs_ne (by omega))
theorem rC_frame {h h' : HP} {f : Nat} (hf : isF f) (e : ∀ k, k < 82 → h' k = h k) : rmC h' f = rmC h f := by
  have : f + 8 ≤ 82 := by
    unfold isF at hf; omega
  exact rmC_congr (fun j => by rw [e _ (by omega)]) (e _ (by omega)) (e _ (by omega)) (e _ (by omega)) (e _ (by omega)) (e _ (by omega)) (e _ (by omega))
theorem c_Is_findKeepers {Q : PQ} {h R : HP} {f1 : Nat} (h_f1 : isF f1) (eR : rmC h f1 = R) (W : WR R)
    (k : ∀ h', (∀ k, k ≠ 83 → h' k = h k) → (∀ c r, isB R c r → h' 83 (9 * r + c) = rLand R c r) → Q none h') : Wp true i_Is_findKeepers 0 [vr 82, vr f1, vr 9999, vr 9999] [] h Q := by
  have w := W.1
  have hd := cdim eR
  have fr : ∀ h1 : HP, (∀ k, k ≠ 83 → h1 k = h k) → rmC h1 f1 = R := fun h1 e => (rC_frame h_f1 (fun k hk => e k (by omega))).trans eR
  have fl : f1 + 8 ≤ 82 := by unfold isF at h_f1; omega
  have third : ∀ (d i : Nat) (h1 : HP) (j3 : AV), (i : Int) + d = R 0 3 → (∀ k, k ≠ 83 → h1 k = h k) →
      (∀ c r, isB R c r → (∃ t, t < i ∧ R 2 t = (c : Nat) ∧ R 3 t = (r : Nat) ∧ h1 83 (9 * r + c) = rHo R t) ∨ ((∀ t, t < i → ¬ (R 2 t = (c : Nat) ∧ R 3 t = (r : Nat))) ∧ h1 83 (9 * r + c) = rBy R c r)) → Wp true i_Is_findKeepers 59 [vr 82, vr f1, vi (i : Int), j3] [] h1 Q := by
    intro d
    induction d with
    | zero =>
      intro i h1 j3 e f1' g
      have e1 := fr h1 f1'
      have d1 := cdim e1
      refine g_Is_findKeepers_59 h_f1 (fun _ => k h1 f1' (fun c r hb => ?_)) (fun q => by omega) (fun q => by omega) (fun q => by omega) (fun q => by omega) (fun q => by omega)
      rcases g c r hb with ⟨t, t1, t2, t3, t4⟩ | ⟨t1, t2⟩
      · rw [t4, ← rLand_self W (by omega), t2, t3]
      · rw [t2]
        unfold rLand
        rcases rOn_rg R c r with q | ⟨q1, q2, q3, q4⟩
        · rw [if_neg (by omega), Int.toNat_natCast]
        · exact absurd ⟨q3, q4⟩ (t1 _ (by omega))
    | succ d ih =>
      intro i h1 j3 e f1' g
      have e1 := fr h1 f1'
      have d1 := cdim e1
      obtain ⟨v1, v2, -⟩ := W.2.2.1 i (by omega)
      refine g_Is_findKeepers_59 h_f1 (fun q => by omega) (fun _ => by rw [e1]; exact W) (fun _ => by omega) (fun _ => ?_) (fun _ => by omega) (fun _ => ?_)
      · rw [e1, Int.toNat_natCast]; omega
      · rw [e1, Int.toNat_natCast]
        obtain ⟨c0, hc0⟩ : ∃ c0 : Nat, R 2 i = c0 := ⟨(R 2 i).toNat, by omega⟩
        obtain ⟨r0, hr0⟩ : ∃ r0 : Nat, R 3 i = r0 := ⟨(R 3 i).toNat, by omega⟩
        have en : (R 3 i * 9 + R 2 i).toNat = 9 * r0 + c0 := by omega
        rw [en]
        refine ih (i + 1) _ j3 (by omega) (fun k hk => (hs_ne hk).trans (f1' k hk)) (fun c r hb => ?_)
        have hb1 := hb.1
        have hb2 := hb.2
        by_cases z : c = c0 ∧ r = r0
        · obtain ⟨rfl, rfl⟩ := z
          left
          exact ⟨i, by omega, hc0, hr0, hs_s⟩
        · have zz : 9 * r + c ≠ 9 * r0 + c0 := by omega
          rw [hs_o (Or.inr zz)]
          rcases g c r hb with ⟨t, t1, t2, t3, t4⟩ | ⟨t1, t2⟩
          · exact Or.inl ⟨t, by omega, t2, t3, t4⟩
          · right
            refine ⟨fun t ht q => ?_, t2⟩
            by_cases y : t = i
            · subst y; omega
            · exact t1 t (by omega) q
  have row : ∀ (d c r : Nat) (h1 : HP), (c : Int) + d = R 0 0 → (r : Int) < R 0 1 → (∀ k, k ≠ 83 → h1 k = h k) → (∀ c' r', isB R c' r' → (r' < r ∨ (r' = r ∧ c' < c)) → h1 83 (9 * r' + c') = rBy R c' r') →
      (∀ (h2 : HP) (j3 : AV), (∀ k, k ≠ 83 → h2 k = h k) → (∀ c' r', isB R c' r' → r' < r + 1 → h2 83 (9 * r' + c') = rBy R c' r') → Wp true i_Is_findKeepers 2 [vr 82, vr f1, vi ((r : Int) + 1), j3] [] h2 Q) → Wp true i_Is_findKeepers 12 [vr 82, vr f1, vi (r : Int), vi (c : Int)] [] h1 Q := by
    intro d
    induction d with
    | zero =>
      intro c r h1 e hr f1' g kk
      have d1 := cdim (fr h1 f1')
      refine g_Is_findKeepers_12 h_f1 (fun _ => by omega) (fun _ => kk h1 _ f1' (fun c' r' hb q => g c' r' hb ?_)) (fun q => by omega) (fun q => by omega) (fun q => by omega) (fun q => by omega) (fun q => by omega) (fun q => by omega) (fun q => by omega) (fun q => by omega) (fun q => by omega)
      have := hb.1
      omega
    | succ d ih =>
      intro c r h1 e hr f1' g kk
      have e1 := fr h1 f1'
      have d1 := cdim e1
      have ec : h1 (f1 + 2) r = R 1 r := by
        rw [← e1]
        exact (cR_1 (by omega)).symm
      have en : ((r : Int) * 9 + (c : Int)).toNat = 9 * r + c := by omega
      have go : ∀ v : Int, v = rBy R c r → Wp true i_Is_findKeepers 12 [vr 82, vr f1, vi (r : Int), vi ((c : Int) + 1)] [] (hs h1 83 (9 * r + c) v) Q := by
        intro v ev
        refine ih (c + 1) r _ (by omega) hr (fun k hk => (hs_ne hk).trans (f1' k hk)) (fun c' r' hb q => ?_) kk
        by_cases z : c' = c ∧ r' = r
        · obtain ⟨rfl, rfl⟩ := z
          rw [hs_s, ev]
        · have hb1 := hb.1
          rw [hs_o (by omega)]
          exact g c' r' hb (by omega)
      refine g_Is_findKeepers_12 h_f1 (fun q => by omega) (fun q => by omega) (fun _ => by omega) (fun _ => by omega) (fun _ => by omega) (fun _ _ => by omega) (fun _ _ => by omega) (fun _ q => ?_) (fun _ _ => by omega) (fun _ _ => by omega) (fun _ q => ?_)
      · rw [en]
        rw [Int.toNat_natCast, ec] at q
        exact go 1 (by unfold rBy; rw [if_pos q])
      · rw [en]
        rw [Int.toNat_natCast, ec] at q
        exact go 0 (by unfold rBy; rw [if_neg q])
  have rows : ∀ (d r : Nat) (h1 : HP) (j3 : AV), (r : Int) + d = R 0 1 → (∀ k, k ≠ 83 → h1 k = h k) → (∀ c' r', isB R c' r' → r' < r → h1 83 (9 * r' + c') = rBy R c' r') → Wp true i_Is_findKeepers 2 [vr 82, vr f1, vi (r : Int), j3] [] h1 Q := by
    intro d
    induction d with
    | zero =>
      intro r h1 j3 e f1' g
      have d1 := cdim (fr h1 f1')
      refine g_Is_findKeepers_2 h_f1 (fun _ => ?_) (fun q => by omega)
      exact third (R 0 3).toNat 0 h1 j3 (by omega) f1' (fun c r hb => Or.inr ⟨fun t ht => by omega, g c r hb (by have := hb.2; omega)⟩)
    | succ d ih =>
      intro r h1 j3 e f1' g
      have d1 := cdim (fr h1 f1')
      refine g_Is_findKeepers_2 h_f1 (fun q => by omega) (fun _ => ?_)
      exact row (R 0 0).toNat 0 r h1 (by omega) (by omega) f1' (fun c' r' hb q => g c' r' hb (by omega)) (fun h2 j3 a b => ih (r + 1) h2 j3 (by omega) a b)
  exact g_Is_findKeepers_0 h_f1 (rows (R 0 1).toNat 0 h _ (by omega) (fun _ _ => rfl) (fun c' r' _ q => by omega))

/-- labels of the ISLANDS so far: -1, or below n; each one whole -/
def Lbl (R : HP) (L : Nat → Int) (n : Int) : Prop :=
  (∀ b, b < 63 → -1 ≤ L b ∧ L b < n) ∧ (∀ c r c' r', isB R c r → isB R c' r' → 0 ≤ L (9 * r + c) → nb c r c' r' → rLand R c r = rLand R c' r' → L (9 * r' + c') = L (9 * r + c))
/-- what a flood does -/
def Fld (R : HP) (h h' : HP) (c0 r0 : Nat) : Prop :=
  (∀ k, k ≠ 82 → k ≠ 84 → k ≠ 85 → k ≠ 86 → k ≠ 87 → h' k = h k) ∧ (∀ i, i ≠ 6 → h' 82 i = h 82 i) ∧
  (∀ c r, isB R c r → (h' 84 (9 * r + c) = h 82 4 ↔ rLand R c r = rLand R c0 r0 ∧ Cn (SL R (rLand R c0 r0)) c0 r0 c r)) ∧
  (∀ b, b < 63 → h' 84 b ≠ h 82 4 → h' 84 b = h 84 b) ∧ (∀ b, b < 63 → h' 84 b = h 82 4 → h 84 b = -1) ∧
  (∀ k, k ≠ (h 82 4).toNat → h' 85 k = h 85 k ∧ h' 86 k = h 86 k) ∧ h' 85 (h 82 4).toNat = rLand R c0 r0 ∧ h' 86 (h 82 4).toNat = cnt R (fun c r => h' 84 (9 * r + c) = h 82 4)
theorem c_Is_flood {Q : PQ} {h R : HP} {x2 : Int} {f1 c0 r0 : Nat} (h_f1 : isF f1) (eR : rmC h f1 = R) (W : WR R) (hb : isB R c0 r0) (hx : x2 = ((9 * r0 + c0 : Nat) : Int))
    (hk : ∀ c r, isB R c r → h 83 (9 * r + c) = rLand R c r) (hn : 0 ≤ h 82 4 ∧ h 82 4 < 63) (hL : Lbl R (h 84) (h 82 4)) (h0 : h 84 (9 * r0 + c0) = -1)
    (k : ∀ h', Fld R h h' c0 r0 → Q none h') : Wp true i_Is_flood 0 [vr 82, vr f1, vi x2, vr 9999, vr 9999, vr 9999, vr 9999] [] h Q := by
  have w := W.1
  have hb1 := hb.1
  have hb2 := hb.2
  subst hx
  obtain ⟨n, en⟩ : ∃ n, n = h 82 4 := ⟨_, rfl⟩
  obtain ⟨l, el⟩ : ∃ l, l = rLand R c0 r0 := ⟨_, rfl⟩
  rw [← en] at hn hL
  -- what holds all along
  let In : HP → Prop := fun h1 =>
    (∀ k, k ≠ 82 → k ≠ 84 → k ≠ 87 → h1 k = h k) ∧ (∀ i, i ≠ 6 → h1 82 i = h 82 i) ∧
    (∀ c r, isB R c r → h1 84 (9 * r + c) = n → rLand R c r = l ∧ Cn (SL R l) c0 r0 c r) ∧
    (∀ b, b < 63 → h1 84 b ≠ n → h1 84 b = h 84 b) ∧ (∀ b, b < 63 → h1 84 b = n → h 84 b = -1 ∧ isB R (b % 9) (b / 9)) ∧ h1 84 (9 * r0 + c0) = n ∧
    (∀ j : Nat, (j : Int) < h1 82 6 → 0 ≤ h1 87 j ∧ h1 87 j < 63 ∧ h1 84 (h1 87 j).toNat = n) ∧
    (∀ b, b < 63 → h1 84 b = n → ∃ j : Nat, (j : Int) < h1 82 6 ∧ h1 87 j = (b : Int)) ∧ h1 82 6 = cnt R (fun c r => h1 84 (9 * r + c) = n)
  have fl : f1 + 8 ≤ 82 := by unfold isF at h_f1; omega
  have fr : ∀ h1, In h1 → rmC h1 f1 = R := fun h1 I => (rC_frame h_f1 (fun k hk => I.1 k (by omega) (by omega) (by omega))).trans eR
  have kp : ∀ h1, In h1 → ∀ c r, isB R c r → h1 83 (9 * r + c) = rLand R c r := fun h1 I c r hb => by rw [I.1 83 (by decide) (by decide) (by decide)]; exact hk c r hb
  have bnd' : ∀ h1, In h1 → 0 ≤ h1 82 6 ∧ h1 82 6 ≤ 63 := fun h1 I => by
    rw [I.2.2.2.2.2.2.2.2]; exact cnt_rg W _
  -- a board is claimed
  have clm : ∀ h1 c r, In h1 → isB R c r → h1 84 (9 * r + c) < 0 → rLand R c r = l → Cn (SL R l) c0 r0 c r →
      In (hs (hs (hs h1 84 (9 * r + c) (h1 82 4)) 87 (h1 82 6).toNat ((9 * r + c : Nat) : Int)) 82 6 (h1 82 6 + 1)) := by
    intro h1 c r I hb' hneg hl hc
    have b1 := hb'.1
    have b2 := hb'.2
    have q0 := bnd' h1 I
    have e4 : h1 82 4 = n := by rw [I.2.1 4 (by decide), en]
    obtain ⟨I1, I2, I3, I4, I5, I6, I7, I8, I9⟩ := I
    have ne : h1 84 (9 * r + c) ≠ n := by omega
    have a84 : ∀ b, (hs (hs (hs h1 84 (9 * r + c) (h1 82 4)) 87 (h1 82 6).toNat ((9 * r + c : Nat) : Int)) 82 6 (h1 82 6 + 1)) 84 b = if b = 9 * r + c then n else h1 84 b := by
      intro b
      rw [hs_ne (by decide), hs_ne (by decide)]
      by_cases z : b = 9 * r + c
      · rw [if_pos z, z, hs_s, e4]
      · rw [if_neg z, hs_o (Or.inr z)]
    have a87 : ∀ j, (hs (hs (hs h1 84 (9 * r + c) (h1 82 4)) 87 (h1 82 6).toNat ((9 * r + c : Nat) : Int)) 82 6 (h1 82 6 + 1)) 87 j = if j = (h1 82 6).toNat then ((9 * r + c : Nat) : Int) else h1 87 j := by
      intro j
      rw [hs_ne (by decide)]
      by_cases z : j = (h1 82 6).toNat
      · rw [if_pos z, z, hs_s]
      · rw [if_neg z, hs_o (Or.inr z), hs_ne (by decide)]
    have a6 : (hs (hs (hs h1 84 (9 * r + c) (h1 82 4)) 87 (h1 82 6).toNat ((9 * r + c : Nat) : Int)) 82 6 (h1 82 6 + 1)) 82 6 = h1 82 6 + 1 := hs_s
    refine ⟨fun k k1 k2 k3 => ?_, fun i hi => ?_, fun c' r' hb'' q => ?_, fun b hb6 q => ?_, fun b hb6 q => ?_, ?_, fun j hj => ?_, fun b hb6 q => ?_, ?_⟩
    · rw [hs_ne k1, hs_ne k3, hs_ne k2]; exact I1 k k1 k2 k3
    · rw [hs_o (Or.inr hi), hs_ne (by decide), hs_ne (by decide)]; exact I2 i hi
    · rw [a84] at q
      by_cases z : 9 * r' + c' = 9 * r + c
      · have z1 := hb''.1
        have z2 : c' = c ∧ r' = r := by omega
        rw [z2.1, z2.2]; exact ⟨hl, hc⟩
      · rw [if_neg z] at q; exact I3 c' r' hb'' q
    · rw [a84] at q ⊢
      by_cases z : b = 9 * r + c
      · rw [if_pos z] at q; exact absurd rfl q
      · rw [if_neg z] at q ⊢; exact I4 b hb6 q
    · rw [a84] at q
      by_cases z : b = 9 * r + c
      · have z1 : b % 9 = c := by omega
        have z2 : b / 9 = r := by omega
        refine ⟨?_, by rw [z1, z2]; exact hb'⟩
        have q1 := hL.1 (9 * r + c) (by omega)
        have q2 := I4 _ (by omega) ne
        rw [z]
        omega
      · rw [if_neg z] at q; exact I5 b hb6 q
    · rw [a84]
      split
      · rfl
      · exact I6
    · rw [a6] at hj
      rw [a87]
      by_cases z : j = (h1 82 6).toNat
      · rw [if_pos z, Int.toNat_natCast, a84, if_pos rfl]
        exact ⟨by omega, by omega, rfl⟩
      · rw [if_neg z]
        have := I7 j (by omega)
        refine ⟨this.1, this.2.1, ?_⟩
        rw [a84]
        split
        · rfl
        · exact this.2.2
    · rw [a84] at q
      rw [a6]
      by_cases z : b = 9 * r + c
      · exact ⟨(h1 82 6).toNat, by omega, by rw [a87, if_pos rfl, z]⟩
      · rw [if_neg z] at q
        obtain ⟨j, j1, j2⟩ := I8 b hb6 q
        exact ⟨j, by omega, by rw [a87, if_neg (by omega)]; exact j2⟩
    · refine (a6.trans (congrArg (fun z => z + 1) I9)).trans ?_
      show cnt R (fun c r => h1 84 (9 * r + c) = n) + 1 = _
      symm
      apply cnt_upd hb' ne
      intro c' r' hb''
      rw [a84]
      have z1 := hb''.1
      by_cases z : 9 * r' + c' = 9 * r + c
      · rw [if_pos z]
        exact ⟨fun _ => Or.inr (by omega), fun _ => rfl⟩
      · rw [if_neg z]
        exact ⟨fun q => Or.inl q, fun q => q.elim (fun y => y) (fun y => absurd (by rw [y.1, y.2]) z)⟩
  -- the sides of the board that is looked at
  have sides : ∀ (d : Nat) (s : Int) (m : Nat) (h1 : HP) (j6 : AV), 0 ≤ s → s + d = 4 → In h1 → (m : Int) < h1 82 6 →
      (∀ j : Nat, j < m → ∀ c r c' r', h1 87 j = ((9 * r + c : Nat) : Int) → isB R c r → isB R c' r' → nb c r c' r' → rLand R c' r' = l → h1 84 (9 * r' + c') = n) →
      (∀ s' : Int, 0 ≤ s' → s' < s → ∀ c' r', isB R c' r' → bs R (h1 87 m) s' = ((9 * r' + c' : Nat) : Int) → rLand R c' r' = l → h1 84 (9 * r' + c') = n) →
      (∀ (h2 : HP) (j5 j6 : AV), In h2 → (m : Int) + 1 ≤ h2 82 6 → (∀ j : Nat, j < m + 1 → ∀ c r c' r', h2 87 j = ((9 * r + c : Nat) : Int) → isB R c r → isB R c' r' → nb c r c' r' → rLand R c' r' = l → h2 84 (9 * r' + c') = n) → Wp true i_Is_flood 20 [vr 82, vr f1, vi ((9 * r0 + c0 : Nat) : Int), vi l, vi ((m : Int) + 1), j5, j6] [] h2 Q) →
      Wp true i_Is_flood 32 [vr 82, vr f1, vi ((9 * r0 + c0 : Nat) : Int), vi l, vi (m : Int), vi s, j6] [] h1 Q := by
    intro d
    induction d with
    | zero =>
      intro s m h1 j6 s0 e I hm pr sd kk
      have q0 := bnd' h1 I
      have fin : Wp true i_Is_flood 20 [vr 82, vr f1, vi ((9 * r0 + c0 : Nat) : Int), vi l, vi ((m : Int) + 1), vi s, j6] [] h1 Q := by
        refine kk h1 _ _ I (by omega) (fun j hj c r c' r' ej bj bj' hn' hl' => ?_)
        by_cases z : j < m
        · exact pr j z c r c' r' ej bj bj' hn' hl'
        · have z : j = m := by omega
          subst z
          obtain ⟨s', s1, s2⟩ := nb_bs W bj bj' hn'
          rw [← ej] at s2
          exact sd s' s1.1 (by omega) c' r' bj' s2 hl'
      refine g_Is_flood_32 h_f1 ?_ ?_ ?_ ?_ ?_ ?_ ?_ ?_ ?_ ?_ ?_ ?_ ?_ ?_ ?_ ?_
      · intro c1; (try simp only [Int.toNat_natCast] at c1); first | omega | (exfalso; omega) | exact ⟨by omega, by omega⟩ | (omega) | exact absurd trivial ‹¬ True›
      · intro c1; (try simp only [Int.toNat_natCast] at c1); first | (exfalso; omega) | exact absurd trivial ‹¬ True› | (exact fin)
      · intro c1; (try simp only [Int.toNat_natCast] at c1); first | omega | (exfalso; omega) | exact ⟨by omega, by omega⟩ | (omega) | exact absurd trivial ‹¬ True›
      · intro c1; (try simp only [Int.toNat_natCast] at c1); first | omega | (exfalso; omega) | exact ⟨by omega, by omega⟩ | (omega) | exact absurd trivial ‹¬ True›
      · intro c1; (try simp only [Int.toNat_natCast] at c1); first | omega | (exfalso; omega) | exact ⟨by omega, by omega⟩ | (omega) | exact absurd trivial ‹¬ True›
      · intro c1 c2; (try simp only [Int.toNat_natCast] at c1 c2); first | omega | (exfalso; omega) | exact ⟨by omega, by omega⟩ | (omega) | exact absurd trivial ‹¬ True›
      · intro c1 c2; (try simp only [Int.toNat_natCast] at c1 c2); first | (exfalso; omega) | exact absurd trivial ‹¬ True› | (skip)
      · intro c1 c2; (try simp only [Int.toNat_natCast] at c1 c2); first | omega | (exfalso; omega) | exact ⟨by omega, by omega⟩ | (omega) | exact absurd trivial ‹¬ True›
      · intro c1 c2 c3; (try simp only [Int.toNat_natCast] at c1 c2 c3); first | omega | (exfalso; omega) | exact ⟨by omega, by omega⟩ | (omega) | exact absurd trivial ‹¬ True›
      · intro c1 c2 c3; (try simp only [Int.toNat_natCast] at c1 c2 c3); first | (exfalso; omega) | exact absurd trivial ‹¬ True› | (skip)
      · intro c1 c2 c3 c4; (try simp only [Int.toNat_natCast] at c1 c2 c3 c4); first | omega | (exfalso; omega) | exact ⟨by omega, by omega⟩ | (omega) | exact absurd trivial ‹¬ True›
      · intro c1 c2 c3 c4; (try simp only [Int.toNat_natCast] at c1 c2 c3 c4); first | (exfalso; omega) | exact absurd trivial ‹¬ True› | (skip)
      · intro c1 c2 c3 c4; (try simp only [Int.toNat_natCast] at c1 c2 c3 c4); first | omega | (exfalso; omega) | exact ⟨by omega, by omega⟩ | (omega) | exact absurd trivial ‹¬ True›
      · intro c1 c2 c3 c4; (try simp only [Int.toNat_natCast] at c1 c2 c3 c4); first | omega | (exfalso; omega) | exact ⟨by omega, by omega⟩ | (omega) | exact absurd trivial ‹¬ True›
      · intro c1 c2 c3 c4; (try simp only [Int.toNat_natCast] at c1 c2 c3 c4); first | omega | (exfalso; omega) | exact ⟨by omega, by omega⟩ | (omega) | exact absurd trivial ‹¬ True›
      · intro c1 c2 c3 c4; (try simp only [Int.toNat_natCast] at c1 c2 c3 c4); first | (exfalso; omega) | exact absurd trivial ‹¬ True› | (skip)
    | succ d ih =>
      intro s m h1 j6 s0 e I hm pr sd kk
      have q0 := bnd' h1 I
      have eR1 := fr h1 I
      have qm := I.2.2.2.2.2.2.1 m hm
      have i5 := I.2.2.2.2.1 _ (by omega) qm.2.2
      have bm : isB R ((h1 87 m).toNat % 9) ((h1 87 m).toNat / 9) := i5.2
      have em : h1 87 m = ((9 * ((h1 87 m).toNat / 9) + (h1 87 m).toNat % 9 : Nat) : Int) := by omega
      have lm := I.2.2.1 _ _ bm (by rw [show 9 * ((h1 87 m).toNat / 9) + (h1 87 m).toNat % 9 = (h1 87 m).toNat by omega]; exact qm.2.2)
      have bsv := bs_nb W bm (s := s) (by omega)
      rw [← em] at bsv
      have bsr : -1 ≤ bs R (h1 87 m) s ∧ bs R (h1 87 m) s < 63 := by
        rcases bsv with z | ⟨c1, r1, n1, b1, e1⟩
        · omega
        · have := b1.1
          have := b1.2
          omega
      have bsE : bs (rmC h1 f1) (h1 87 ((m : Int)).toNat) s = bs R (h1 87 m) s := by rw [eR1, Int.toNat_natCast]
      have bsE2 : bs (rmC h1 f1) (h1 87 m) s = bs R (h1 87 m) s := by rw [eR1]
      have qE : h1 87 ((m : Int)).toNat = h1 87 m := by rw [Int.toNat_natCast]
      have lt63 : ¬ bs R (h1 87 m) s < 0 → ¬ 0 ≤ h1 84 (bs R (h1 87 m) s).toNat → h1 82 6 < 63 := by
        intro a b
        rcases bsv with z | ⟨c1, r1, n1, b1, e1⟩
        · omega
        · rw [e1, Int.toNat_natCast] at b
          rw [I.2.2.2.2.2.2.2.2]
          exact cnt_lt W b1 (fun q => by omega)
      -- the next side, when nothing is claimed
      have same : ∀ (j6 : AV), (∀ c' r', isB R c' r' → bs R (h1 87 m) s = ((9 * r' + c' : Nat) : Int) → rLand R c' r' = l → h1 84 (9 * r' + c') = n) → Wp true i_Is_flood 32 [vr 82, vr f1, vi ((9 * r0 + c0 : Nat) : Int), vi l, vi (m : Int), vi (s + 1), j6] [] h1 Q := by
        intro j6 this
        refine ih (s + 1) m h1 j6 (by omega) (by omega) I hm pr (fun s' s1 s2 c' r' b' e' l' => ?_) kk
        by_cases z : s' < s
        · exact sd s' s1 z c' r' b' e' l'
        · have z : s' = s := by omega
          rw [z] at e'
          exact this c' r' b' e' l'
      have ej : ∀ c1 r1 c' r', isB R c1 r1 → isB R c' r' → ((9 * r1 + c1 : Nat) : Int) = ((9 * r' + c' : Nat) : Int) → c' = c1 ∧ r' = r1 := by
        intro c1 r1 c' r' p1 p2 p3
        have := p1.1
        have := p2.1
        omega
      refine g_Is_flood_32 h_f1 ?_ ?_ ?_ ?_ ?_ ?_ ?_ ?_ ?_ ?_ ?_ ?_ ?_ ?_ ?_ ?_
      · intro c1; (try simp only [Int.toNat_natCast] at c1); first | omega | (exfalso; omega) | exact ⟨by omega, by omega⟩ | (exact ⟨q0.1, lt63 (by rw [← bsE2]; exact c2) (by rw [← bsE2]; exact c4)⟩) | exact absurd trivial ‹¬ True›
      · intro c1; (try simp only [Int.toNat_natCast] at c1); first | (exfalso; omega) | exact absurd trivial ‹¬ True› | (skip)
      · intro c1; (try simp only [Int.toNat_natCast] at c1); first | omega | (exfalso; omega) | exact ⟨by omega, by omega⟩ | (exact ⟨q0.1, lt63 (by rw [← bsE2]; exact c2) (by rw [← bsE2]; exact c4)⟩) | exact absurd trivial ‹¬ True›
      · intro c1; (try simp only [Int.toNat_natCast] at c1); first | omega | (exfalso; omega) | exact ⟨by omega, by omega⟩ | (exact ⟨q0.1, lt63 (by rw [← bsE2]; exact c2) (by rw [← bsE2]; exact c4)⟩) | exact absurd trivial ‹¬ True›
      · intro c1; (try simp only [Int.toNat_natCast] at c1); first | omega | (exfalso; omega) | exact ⟨by omega, by omega⟩ | (exact ⟨q0.1, lt63 (by rw [← bsE2]; exact c2) (by rw [← bsE2]; exact c4)⟩) | exact absurd trivial ‹¬ True›
      · intro c1 c2; (try simp only [Int.toNat_natCast] at c1 c2); first | omega | (exfalso; omega) | exact ⟨by omega, by omega⟩ | (exact ⟨q0.1, lt63 (by rw [← bsE2]; exact c2) (by rw [← bsE2]; exact c4)⟩) | exact absurd trivial ‹¬ True›
      · intro c1 c2; (try simp only [Int.toNat_natCast] at c1 c2)
        rw [bsE2] at c2
        rw [bsE]
        refine same _ (fun c' r' b' e' l' => ?_)
        omega
      · intro c1 c2; (try simp only [Int.toNat_natCast] at c1 c2); first | omega | (exfalso; omega) | exact ⟨by omega, by omega⟩ | (exact ⟨q0.1, lt63 (by rw [← bsE2]; exact c2) (by rw [← bsE2]; exact c4)⟩) | exact absurd trivial ‹¬ True›
      · intro c1 c2 c3; (try simp only [Int.toNat_natCast] at c1 c2 c3); first | omega | (exfalso; omega) | exact ⟨by omega, by omega⟩ | (exact ⟨q0.1, lt63 (by rw [← bsE2]; exact c2) (by rw [← bsE2]; exact c4)⟩) | exact absurd trivial ‹¬ True›
      · intro c1 c2 c3; (try simp only [Int.toNat_natCast] at c1 c2 c3)
        rw [bsE2] at c2 c3
        rw [bsE]
        refine same _ (fun c' r' b' e' l' => ?_)
        rw [e', Int.toNat_natCast, kp h1 I c' r' b'] at c3
        exact absurd l' c3
      · intro c1 c2 c3 c4; (try simp only [Int.toNat_natCast] at c1 c2 c3 c4); first | omega | (exfalso; omega) | exact ⟨by omega, by omega⟩ | (exact ⟨q0.1, lt63 (by rw [← bsE2]; exact c2) (by rw [← bsE2]; exact c4)⟩) | exact absurd trivial ‹¬ True›
      · intro c1 c2 c3 c4; (try simp only [Int.toNat_natCast] at c1 c2 c3 c4)
        rw [bsE2] at c2 c3 c4
        rw [bsE]
        refine same _ (fun c' r' b' e' l' => ?_)
        rw [e', Int.toNat_natCast] at c4
        rcases bsv with z | ⟨c1, r1, n1, b1, e1⟩
        · omega
        · obtain ⟨rfl, rfl⟩ := ej c1 r1 c' r' b1 b' (e1.symm.trans e')
          by_cases y : h1 84 (9 * r' + c') = n
          · exact y
          · have b11 := b'.1
            have b12 := b'.2
            have y2 := I.2.2.2.1 _ (by omega) y
            have y3 := hL.2 c' r' _ _ b' bm (by omega) (nb_sym n1) (by rw [l', lm.1])
            rw [show 9 * ((h1 87 m).toNat / 9) + (h1 87 m).toNat % 9 = (h1 87 m).toNat by omega] at y3
            omega
      · intro c1 c2 c3 c4; (try simp only [Int.toNat_natCast] at c1 c2 c3 c4); first | omega | (exfalso; omega) | exact ⟨by omega, by omega⟩ | (exact ⟨q0.1, lt63 (by rw [← bsE2]; exact c2) (by rw [← bsE2]; exact c4)⟩) | exact absurd trivial ‹¬ True›
      · intro c1 c2 c3 c4; (try simp only [Int.toNat_natCast] at c1 c2 c3 c4); first | omega | (exfalso; omega) | exact ⟨by omega, by omega⟩ | (exact ⟨q0.1, lt63 (by rw [← bsE2]; exact c2) (by rw [← bsE2]; exact c4)⟩) | exact absurd trivial ‹¬ True›
      · intro c1 c2 c3 c4; (try simp only [Int.toNat_natCast] at c1 c2 c3 c4); first | omega | (exfalso; omega) | exact ⟨by omega, by omega⟩ | (exact ⟨q0.1, lt63 (by rw [← bsE2]; exact c2) (by rw [← bsE2]; exact c4)⟩) | exact absurd trivial ‹¬ True›
      · intro c1 c2 c3 c4; (try simp only [Int.toNat_natCast] at c1 c2 c3 c4)
        rw [bsE2] at c2 c3 c4
        rw [bsE]
        rcases bsv with z | ⟨c1, r1, n1, b1, e1⟩
        · omega
        · rw [e1] at c3 c4 ⊢
          rw [Int.toNat_natCast] at c3 c4 ⊢
          rw [kp h1 I c1 r1 b1] at c3
          have cn : Cn (SL R l) c0 r0 c1 r1 := Cn_step lm.2 n1 ⟨b1, c3⟩
          have I' := clm h1 c1 r1 I b1 (by omega) c3 cn
          have b11 := b1.1
          have e87 : ∀ j : Nat, (j : Int) < h1 82 6 → (hs (hs (hs h1 84 (9 * r1 + c1) (h1 82 4)) 87 (h1 82 6).toNat ((9 * r1 + c1 : Nat) : Int)) 82 6 (h1 82 6 + 1)) 87 j = h1 87 j := fun j hj => by
            rw [hs_ne (by decide), hs_o (by omega), hs_ne (by decide)]
          have e84 : ∀ b, h1 84 b = n → (hs (hs (hs h1 84 (9 * r1 + c1) (h1 82 4)) 87 (h1 82 6).toNat ((9 * r1 + c1 : Nat) : Int)) 82 6 (h1 82 6 + 1)) 84 b = n := fun b hb => by
            rw [hs_ne (by decide), hs_ne (by decide)]
            by_cases z : b = 9 * r1 + c1
            · rw [z, hs_s, I.2.1 4 (by decide), en]
            · rw [hs_o (Or.inr z)]; exact hb
          have e84' : (hs (hs (hs h1 84 (9 * r1 + c1) (h1 82 4)) 87 (h1 82 6).toNat ((9 * r1 + c1 : Nat) : Int)) 82 6 (h1 82 6 + 1)) 84 (9 * r1 + c1) = n := by
            rw [hs_ne (by decide), hs_ne (by decide), hs_s, I.2.1 4 (by decide), en]
          refine ih (s + 1) m _ _ (by omega) (by omega) I' (by rw [hs_s]; omega) (fun j hj c r c' r' ej' bj bj' hn' hl' => ?_) (fun s' s1 s2 c' r' b' e' l' => ?_) kk
          · rw [e87 j (by omega)] at ej'
            exact e84 _ (pr j hj c r c' r' ej' bj bj' hn' hl')
          · rw [e87 m hm] at e'
            by_cases z : s' < s
            · exact e84 _ (sd s' s1 z c' r' b' e' l')
            · have z : s' = s := by omega
              rw [z] at e'
              obtain ⟨rfl, rfl⟩ := ej c1 r1 c' r' b1 b' (e1.symm.trans e')
              exact e84'
  have all : ∀ (d m : Nat) (h1 : HP) (j5 j6 : AV), m + d = 63 → In h1 → (m : Int) ≤ h1 82 6 →
      (∀ j : Nat, j < m → ∀ c r c' r', h1 87 j = ((9 * r + c : Nat) : Int) → isB R c r → isB R c' r' → nb c r c' r' → rLand R c' r' = l → h1 84 (9 * r' + c') = n) → Wp true i_Is_flood 20 [vr 82, vr f1, vi ((9 * r0 + c0 : Nat) : Int), vi l, vi (m : Int), j5, j6] [] h1 Q := by
    have done : ∀ (m : Nat) (h1 : HP), In h1 → (m : Int) = h1 82 6 → (∀ j : Nat, j < m → ∀ c r c' r', h1 87 j = ((9 * r + c : Nat) : Int) → isB R c r → isB R c' r' → nb c r c' r' → rLand R c' r' = l → h1 84 (9 * r' + c') = n) → Q none (hs (hs h1 85 (h1 82 4).toNat l) 86 (h1 82 4).toNat (h1 82 6)) := by
      intro m h1 I em pr
      have e4 : h1 82 4 = h 82 4 := I.2.1 4 (by decide)
      refine k _ ⟨fun k k1 k2 k3 k4 k5 => ?_, fun i hi => ?_, fun c r hb' => ?_, fun b hb6 q => ?_, fun b hb6 q => ?_, fun k hk' => ?_, ?_, ?_⟩
      · rw [hs_ne k4, hs_ne k3]; exact I.1 k k1 k2 k5
      · rw [hs_ne (by decide), hs_ne (by decide)]; exact I.2.1 i hi
      · rw [hs_ne (by decide), hs_ne (by decide), ← en, ← el]
        refine ⟨fun q => I.2.2.1 c r hb' q, fun q => ?_⟩
        have := q.2 (fun a b => SL R l a b ∧ h1 84 (9 * b + a) = n) ⟨⟨hb, el.symm⟩, I.2.2.2.2.2.1⟩ (fun x y x' y' p nn s => ⟨s, ?_⟩)
        · exact this.2
        · have p1 := p.1.1.1
          have p2 := p.1.1.2
          obtain ⟨j, j1, j2⟩ := I.2.2.2.2.2.2.2.1 _ (by omega) p.2
          exact pr j (by omega) x y x' y' j2 p.1.1 s.1 nn s.2
      · rw [hs_ne (by decide), hs_ne (by decide)] at q ⊢
        rw [← en] at q
        exact I.2.2.2.1 b hb6 q
      · rw [hs_ne (by decide), hs_ne (by decide), ← en] at q
        exact (I.2.2.2.2.1 b hb6 q).1
      · rw [e4]
        refine ⟨?_, ?_⟩
        · rw [hs_ne (by decide), hs_o (Or.inr hk'), I.1 85 (by decide) (by decide) (by decide)]
        · rw [hs_o (Or.inr hk'), hs_ne (by decide), I.1 86 (by decide) (by decide) (by decide)]
      · rw [e4, hs_ne (by decide), hs_s, el]
      · rw [e4, hs_s, I.2.2.2.2.2.2.2.2]
        apply cnt_congr
        intro c r _
        rw [hs_ne (by decide), hs_ne (by decide), ← en]
    intro d
    induction d with
    | zero =>
      intro m h1 j5 j6 e I hm pr
      have q0 := bnd' h1 I
      have e4 : h1 82 4 = n := by rw [I.2.1 4 (by decide), en]
      exact g_Is_flood_20 h_f1 (fun _ => by omega) (fun _ => done m h1 I (by omega) pr) (fun q => by omega)
    | succ d ih =>
      intro m h1 j5 j6 e I hm pr
      have q0 := bnd' h1 I
      have e4 : h1 82 4 = n := by rw [I.2.1 4 (by decide), en]
      refine g_Is_flood_20 h_f1 (fun _ => by omega) (fun _ => done m h1 I (by omega) pr) (fun q => ?_)
      exact sides 4 0 m h1 j6 (by omega) (by omega) I (by omega) pr (fun s' s1 s2 => by omega) (fun h2 j5 j6 I2 m2 pr2 => by
        have := ih (m + 1) h2 j5 j6 (by omega) I2 (by omega) pr2
        rw [show ((m + 1 : Nat) : Int) = (m : Int) + 1 by omega] at this
        exact this)
  have ek : h 83 (((9 * r0 + c0 : Nat) : Int)).toNat = l := by rw [Int.toNat_natCast, hk c0 r0 hb, el]
  refine g_Is_flood_0 h_f1 ?_ ?_ ?_
  · first | omega | (exfalso; omega) | exact ⟨by omega, by omega⟩ | (first | (rw [hs_s]; omega)) | exact absurd trivial ‹¬ True›
  · first | omega | (exfalso; omega) | exact ⟨by omega, by omega⟩ | (first | (rw [hs_s]; omega)) | exact absurd trivial ‹¬ True›
  · rw [ek, Int.toNat_natCast]
    have e46 : (hs h 82 6 0) 82 4 = n := by rw [hs_o (by decide), en]
    have e66 : (hs h 82 6 0) 82 6 = 0 := hs_s
    refine all 63 0 _ _ _ (by omega) ?_ ?_ (fun j hj => by omega)
    · rw [e46, e66]
      have a84 : ∀ b, (hs (hs (hs (hs h 82 6 0) 84 (9 * r0 + c0) n) 87 (0 : Int).toNat ((9 * r0 + c0 : Nat) : Int)) 82 6 (0 + 1)) 84 b = if b = 9 * r0 + c0 then n else h 84 b := by
        intro b
        rw [hs_ne (by decide), hs_ne (by decide)]
        by_cases z : b = 9 * r0 + c0
        · rw [if_pos z, z, hs_s]
        · rw [if_neg z, hs_o (Or.inr z), hs_ne (by decide)]
      have a6 : (hs (hs (hs (hs h 82 6 0) 84 (9 * r0 + c0) n) 87 (0 : Int).toNat ((9 * r0 + c0 : Nat) : Int)) 82 6 (0 + 1)) 82 6 = 1 := hs_s
      have a87 : (hs (hs (hs (hs h 82 6 0) 84 (9 * r0 + c0) n) 87 (0 : Int).toNat ((9 * r0 + c0 : Nat) : Int)) 82 6 (0 + 1)) 87 0 = ((9 * r0 + c0 : Nat) : Int) := by
        rw [hs_ne (by decide)]; exact hs_s
      have lo := fun b (hb : b < 63) => hL.1 b hb
      refine ⟨fun k k1 k2 k3 => ?_, fun i hi => ?_, fun c' r' hb'' q => ?_, fun b hb6 q => ?_, fun b hb6 q => ?_, ?_, fun j hj => ?_, fun b hb6 q => ?_, ?_⟩
      · rw [hs_ne k1, hs_ne k3, hs_ne k2, hs_ne k1]
      · rw [hs_o (Or.inr hi), hs_ne (by decide), hs_ne (by decide), hs_o (Or.inr hi)]
      · rw [a84] at q
        have z1 := hb''.1
        by_cases z : 9 * r' + c' = 9 * r0 + c0
        · have z2 : c' = c0 ∧ r' = r0 := by omega
          rw [z2.1, z2.2, el]; exact ⟨rfl, Cn_refl⟩
        · rw [if_neg z] at q
          have z2 := hb''.2
          have := lo (9 * r' + c') (by omega)
          omega
      · rw [a84] at q ⊢
        by_cases z : b = 9 * r0 + c0
        · rw [if_pos z] at q; exact absurd rfl q
        · rw [if_neg z]
      · rw [a84] at q
        by_cases z : b = 9 * r0 + c0
        · have z1 : b % 9 = c0 := by omega
          have z2 : b / 9 = r0 := by omega
          exact ⟨by rw [z]; exact h0, by rw [z1, z2]; exact hb⟩
        · rw [if_neg z] at q
          have := lo b hb6
          omega
      · rw [a84, if_pos rfl]
      · rw [a6] at hj
        have z : j = 0 := by omega
        subst z
        rw [a87, Int.toNat_natCast, a84, if_pos rfl]
        exact ⟨by omega, by omega, rfl⟩
      · rw [a84] at q
        by_cases z : b = 9 * r0 + c0
        · exact ⟨0, by rw [a6]; omega, by rw [a87, z]⟩
        · rw [if_neg z] at q
          have := lo b hb6
          omega
      · rw [a6]
        have zero : cnt R (fun _ _ => False) = 0 := by
          unfold cnt
          apply sumF_zero
          intro j _ _
          apply sumF_zero
          intro i _ _
          rfl
        have := cnt_upd (R := R) (p := fun _ _ => False) (q := fun c r => (hs (hs (hs (hs h 82 6 0) 84 (9 * r0 + c0) n) 87 (0 : Int).toNat ((9 * r0 + c0 : Nat) : Int)) 82 6 (0 + 1)) 84 (9 * r + c) = n) hb (fun q => q) (fun c r hb' => by
          rw [a84]
          have z1 := hb'.1
          have z2 := hb'.2
          by_cases z : 9 * r + c = 9 * r0 + c0
          · rw [if_pos z]; exact ⟨fun _ => Or.inr (by omega), fun _ => rfl⟩
          · rw [if_neg z]
            have := lo (9 * r + c) (by omega)
            exact ⟨fun q => by omega, fun q => q.elim (fun y => y.elim) (fun y => absurd (by rw [y.1, y.2]) z)⟩)
        rw [this, zero]; rfl
    · rw [hs_s]; omega

def Svy (R h' : HP) : Prop :=
  (∀ c r, isB R c r → h' 83 (9 * r + c) = rLand R c r) ∧ (0 ≤ h' 82 4 ∧ h' 82 4 ≤ 63) ∧
  (∀ c r, isB R c r → 0 ≤ h' 84 (9 * r + c) ∧ h' 84 (9 * r + c) < h' 82 4) ∧
  (∀ c r c' r', isB R c r → isB R c' r' → (h' 84 (9 * r + c) = h' 84 (9 * r' + c') ↔ (rLand R c' r' = rLand R c r ∧ Cn (SL R (rLand R c r)) c r c' r'))) ∧
  (∀ k : Nat, (k : Int) < h' 82 4 → ∃ c r, isB R c r ∧ h' 84 (9 * r + c) = k ∧ h' 85 k = rLand R c r) ∧
  (∀ k : Nat, (k : Int) < h' 82 4 → h' 86 k = cnt R (fun c r => h' 84 (9 * r + c) = k))
/-- the boards that were looked at so far -/
def Sv0 (R h h1 : HP) (c r : Nat) : Prop :=
  (∀ k, ¬ (82 ≤ k ∧ k ≤ 87) → h1 k = h k) ∧ (∀ c r, isB R c r → h1 83 (9 * r + c) = rLand R c r) ∧ (0 ≤ h1 82 4 ∧ h1 82 4 ≤ 9 * r + c) ∧ Lbl R (h1 84) (h1 82 4) ∧
  (∀ c' r', isB R c' r' → (r' < r ∨ (r' = r ∧ c' < c)) → 0 ≤ h1 84 (9 * r' + c')) ∧
  (∀ c r c' r', isB R c r → isB R c' r' → 0 ≤ h1 84 (9 * r + c) → h1 84 (9 * r + c) = h1 84 (9 * r' + c') → (rLand R c' r' = rLand R c r ∧ Cn (SL R (rLand R c r)) c r c' r')) ∧
  (∀ k : Nat, (k : Int) < h1 82 4 → ∃ c r, isB R c r ∧ h1 84 (9 * r + c) = k ∧ h1 85 k = rLand R c r) ∧
  (∀ k : Nat, (k : Int) < h1 82 4 → h1 86 k = cnt R (fun c r => h1 84 (9 * r + c) = k))
theorem Sv0_fld {R h h1 h2 : HP} {c r : Nat} (W : WR R) (hb : isB R c r) (I : Sv0 R h h1 c r) (F : Fld R h1 h2 c r) (h0 : h1 84 (9 * r + c) = -1) : Sv0 R h (hs h2 82 4 (h2 82 4 + 1)) (c + 1) r := by
  have w := W.1
  obtain ⟨I1, I2, I3, I4, I5, I6, I7, I8⟩ := I
  obtain ⟨F1, F2, F3, F4, F5, F6, F7, F8⟩ := F
  have e4 : h2 82 4 = h1 82 4 := F2 4 (by decide)
  have lt : ∀ a b, isB R a b → 9 * b + a < 63 := fun a b q => by have := q.1; have := q.2; omega
  have f84 : ∀ b, hs h2 82 4 (h2 82 4 + 1) 84 b = h2 84 b := fun b => by rw [hs_ne (by decide)]
  have n4 : hs h2 82 4 (h2 82 4 + 1) 82 4 = h1 82 4 + 1 := by rw [hs_s, e4]
  have st : h2 84 (9 * r + c) = h1 82 4 := (F3 c r hb).mpr ⟨rfl, Cn_refl⟩
  have old : ∀ a b, isB R a b → 0 ≤ h1 84 (9 * b + a) → h2 84 (9 * b + a) = h1 84 (9 * b + a) := by
    intro a b q1 q2
    refine F4 _ (lt a b q1) (fun z => ?_)
    have := F5 _ (lt a b q1) z
    omega
  have nw : ∀ a b, isB R a b → h2 84 (9 * b + a) ≠ h1 82 4 → h2 84 (9 * b + a) = h1 84 (9 * b + a) := fun a b q1 q2 => F4 _ (lt a b q1) q2
  refine ⟨fun k hk => ?_, fun a b q => ?_, ?_, ⟨fun b hb6 => ?_, fun a b a' b' q1 q2 q3 q4 q5 => ?_⟩, fun a b q1 q2 => ?_, fun a b a' b' q1 q2 q3 q4 => ?_, fun k hk => ?_, fun k hk => ?_⟩
  · rw [hs_ne (by omega), F1 k (by omega) (by omega) (by omega) (by omega) (by omega)]; exact I1 k hk
  · rw [hs_ne (by decide), F1 83 (by decide) (by decide) (by decide) (by decide) (by decide)]; exact I2 a b q
  · rw [n4]; omega
  · rw [f84, n4]
    have := I4.1 b hb6
    by_cases z : h2 84 b = h1 82 4
    · omega
    · rw [F4 b hb6 z]; omega
  · rw [f84] at q3
    rw [f84, f84]
    by_cases z : h2 84 (9 * b + a) = h1 82 4
    · have y := (F3 a b q1).mp z
      rw [z]
      exact (F3 a' b' q2).mpr ⟨q5.symm.trans y.1, Cn_step y.2 q4 ⟨q2, q5.symm.trans y.1⟩⟩
    · have y := nw a b q1 z
      rw [y] at q3 ⊢
      have x := I4.2 a b a' b' q1 q2 q3 q4 q5
      rw [old a' b' q2 (by omega), x]
  · rw [f84]
    by_cases z : a = c ∧ b = r
    · rw [z.1, z.2, st]; omega
    · have := I5 a b q1 (by omega)
      rw [old a b q1 this]; exact this
  · rw [f84] at q3
    rw [f84, f84] at q4
    by_cases z : h2 84 (9 * b + a) = h1 82 4
    · have y := (F3 a b q1).mp z
      have y' := (F3 a' b' q2).mp (q4.symm.trans z)
      refine ⟨y'.1.trans y.1.symm, ?_⟩
      rw [y.1]
      exact Cn_tr (Cn_sym y.2 ⟨hb, rfl⟩) y'.2
    · have z' : h2 84 (9 * b' + a') ≠ h1 82 4 := fun y => z (q4.trans y)
      rw [nw a b q1 z, nw a' b' q2 z'] at q4
      rw [nw a b q1 z] at q3
      exact I6 a b a' b' q1 q2 q3 q4
  · rw [n4] at hk
    by_cases z : (k : Int) = h1 82 4
    · refine ⟨c, r, hb, by rw [f84, st, z], ?_⟩
      rw [hs_ne (by decide)]
      have : k = (h1 82 4).toNat := by omega
      rw [this]; exact F7
    · obtain ⟨a, b, q1, q2, q3⟩ := I7 k (by omega)
      refine ⟨a, b, q1, by rw [f84, old a b q1 (by omega)]; exact q2, ?_⟩
      rw [hs_ne (by decide), (F6 k (by omega)).1]; exact q3
  · rw [n4] at hk
    rw [hs_ne (by decide)]
    by_cases z : (k : Int) = h1 82 4
    · have : k = (h1 82 4).toNat := by omega
      rw [this, F8]
      apply cnt_congr
      intro a b _
      rw [f84, ← this, z]
    · rw [(F6 k (by omega)).2, I8 k (by omega)]
      apply cnt_congr
      intro a b q
      rw [f84]
      constructor
      · intro y
        rw [old a b q (by omega)]; exact y
      · intro y
        rw [← nw a b q (by omega)]; exact y
theorem c_Is_survey {Q : PQ} {h R : HP} {f1 : Nat} (h_f1 : isF f1) (eR : rmC h f1 = R) (W : WR R)
    (k : ∀ h', (∀ k, ¬ (82 ≤ k ∧ k ≤ 87) → h' k = h k) → Svy R h' → Q none h') : Wp true i_Is_survey 0 [vr 82, vr f1, vr 9999, vr 9999, vr 9999] [] h Q := by
  have w := W.1
  have fr : ∀ h1 : HP, (∀ k, ¬ (82 ≤ k ∧ k ≤ 87) → h1 k = h k) → rmC h1 f1 = R := fun h1 e => (rC_frame h_f1 (fun k hk => e k (by omega))).trans eR
  have row : ∀ (d c r : Nat) (h1 : HP) (j4 : AV), (c : Int) + d = R 0 0 → (r : Int) < R 0 1 → Sv0 R h h1 c r →
      (∀ (h2 : HP) (j3 j4 : AV), Sv0 R h h2 0 (r + 1) → Wp true i_Is_survey 20 [vr 82, vr f1, vi ((r : Int) + 1), j3, j4] [] h2 Q) → Wp true i_Is_survey 30 [vr 82, vr f1, vi (r : Int), vi (c : Int), j4] [] h1 Q := by
    intro d
    induction d with
    | zero =>
      intro c r h1 j4 e hr I kk
      have d1 := cdim (fr h1 I.1)
      have I' : Sv0 R h h1 0 (r + 1) := by
        obtain ⟨I1, I2, I3, I4, I5, I6, I7, I8⟩ := I
        exact ⟨I1, I2, by omega, I4, fun c' r' q1 q2 => I5 c' r' q1 (by have := q1.1; omega), I6, I7, I8⟩
      refine g_Is_survey_30 h_f1 ?_ ?_ ?_ ?_ ?_ ?_ ?_ ?_
      · intro c1; (try simp only [Int.toNat_natCast] at c1); first | omega | (exfalso; omega) | exact ⟨by omega, by omega⟩ | (omega) | exact absurd trivial ‹¬ True›
      · intro c1; (try simp only [Int.toNat_natCast] at c1); first | (exfalso; omega) | exact absurd trivial ‹¬ True› | (exact kk h1 _ _ I')
      · intro c1; (try simp only [Int.toNat_natCast] at c1); first | omega | (exfalso; omega) | exact ⟨by omega, by omega⟩ | (omega) | exact absurd trivial ‹¬ True›
      · intro c1; (try simp only [Int.toNat_natCast] at c1); first | omega | (exfalso; omega) | exact ⟨by omega, by omega⟩ | (omega) | exact absurd trivial ‹¬ True›
      · intro c1; (try simp only [Int.toNat_natCast] at c1); first | omega | (exfalso; omega) | exact ⟨by omega, by omega⟩ | (omega) | exact absurd trivial ‹¬ True›
      · intro c1 c2; (try simp only [Int.toNat_natCast] at c1 c2); first | omega | (exfalso; omega) | exact ⟨by omega, by omega⟩ | (omega) | exact absurd trivial ‹¬ True›
      · intro c1 c2; (try simp only [Int.toNat_natCast] at c1 c2); first | (exfalso; omega) | exact absurd trivial ‹¬ True› | (skip)
      · intro c1 c2; (try simp only [Int.toNat_natCast] at c1 c2); first | (exfalso; omega) | exact absurd trivial ‹¬ True› | (skip)
    | succ d ih =>
      intro c r h1 j4 e hr I kk
      have d1 := cdim (fr h1 I.1)
      have hb : isB R c r := ⟨by omega, hr⟩
      have eb : ((r : Int) * 9 + (c : Int)) = ((9 * r + c : Nat) : Int) := by omega
      have I1 := I.2.2.1
      have I4 := I.2.2.2.1.1 (9 * r + c) (by omega)
      have eb2 : ((r : Int) * 9 + (c : Int)).toNat = 9 * r + c := by omega
      refine g_Is_survey_30 h_f1 ?_ ?_ ?_ ?_ ?_ ?_ ?_ ?_
      · intro c1; (try simp only [Int.toNat_natCast] at c1); first | omega | (exfalso; omega) | exact ⟨by omega, by omega⟩ | (omega) | exact absurd trivial ‹¬ True›
      · intro c1; (try simp only [Int.toNat_natCast] at c1); first | (exfalso; omega) | exact absurd trivial ‹¬ True› | (skip)
      · intro c1; (try simp only [Int.toNat_natCast] at c1); first | omega | (exfalso; omega) | exact ⟨by omega, by omega⟩ | (omega) | exact absurd trivial ‹¬ True›
      · intro c1; (try simp only [Int.toNat_natCast] at c1); first | omega | (exfalso; omega) | exact ⟨by omega, by omega⟩ | (omega) | exact absurd trivial ‹¬ True›
      · intro c1; (try simp only [Int.toNat_natCast] at c1); first | omega | (exfalso; omega) | exact ⟨by omega, by omega⟩ | (omega) | exact absurd trivial ‹¬ True›
      · intro c1 c2; (try simp only [Int.toNat_natCast] at c1 c2); first | omega | (exfalso; omega) | exact ⟨by omega, by omega⟩ | (omega) | exact absurd trivial ‹¬ True›
      · intro c1 c2; (try simp only [Int.toNat_natCast] at c1 c2)
        rw [eb2] at c2
        refine ih (c + 1) r h1 _ (by omega) hr ?_ kk
        obtain ⟨I1, I2, I3, I4, I5, I6, I7, I8⟩ := I
        refine ⟨I1, I2, by omega, I4, fun c' r' q1 q2 => ?_, I6, I7, I8⟩
        by_cases z : c' = c ∧ r' = r
        · rw [z.1, z.2]; exact c2
        · exact I5 c' r' q1 (by omega)
      · intro c1 c2; (try simp only [Int.toNat_natCast] at c1 c2)
        rw [eb2] at c2
        have h0 : h1 84 (9 * r + c) = -1 := by omega
        refine c_Is_flood h_f1 (fr h1 I.1) W hb eb I.2.1 (by omega) I.2.2.2.1 h0 (fun h2 F => ?_)
        have I' := Sv0_fld W hb I F h0
        have e4 : h2 82 4 = h1 82 4 := F.2.1 4 (by decide)
        refine g_Is_survey_62 h_f1 (by omega) (by omega) ?_
        exact ih (c + 1) r _ _ (by omega) hr I' kk
  have rows : ∀ (d r : Nat) (h1 : HP) (j3 j4 : AV), (r : Int) + d = R 0 1 → Sv0 R h h1 0 r → Wp true i_Is_survey 20 [vr 82, vr f1, vi (r : Int), j3, j4] [] h1 Q := by
    intro d
    induction d with
    | zero =>
      intro r h1 j3 j4 e I
      have d1 := cdim (fr h1 I.1)
      refine g_Is_survey_20 h_f1 (fun _ => k h1 I.1 ?_) (fun q => by omega)
      obtain ⟨I1, I2, I3, I4, I5, I6, I7, I8⟩ := I
      have lab : ∀ c r, isB R c r → 0 ≤ h1 84 (9 * r + c) := fun c' r' q => I5 c' r' q (by have := q.2; omega)
      refine ⟨I2, by omega, fun c r q => ⟨lab c r q, (I4.1 _ (by have := q.1; have := q.2; omega)).2⟩, fun c r c' r' q1 q2 => ⟨fun z => I6 c r c' r' q1 q2 (lab c r q1) z, fun z => ?_⟩, I7, I8⟩
      have := z.2 (fun a b => SL R (rLand R c r) a b ∧ h1 84 (9 * b + a) = h1 84 (9 * r + c)) ⟨⟨q1, rfl⟩, rfl⟩ (fun x y x' y' p nn s => ⟨s, ?_⟩)
      · exact this.2.symm
      · rw [← p.2]
        exact I4.2 x y x' y' p.1.1 s.1 (lab x y p.1.1) nn (p.1.2.trans s.2.symm)
    | succ d ih =>
      intro r h1 j3 j4 e I
      have d1 := cdim (fr h1 I.1)
      refine g_Is_survey_20 h_f1 (fun q => by omega) (fun _ => ?_)
      refine row (R 0 0).toNat 0 r h1 j4 (by omega) (by omega) I (fun h2 j3 j4 I2 => ?_)
      have := ih (r + 1) h2 j3 j4 (by omega) I2
      rw [show ((r + 1 : Nat) : Int) = (r : Int) + 1 by omega] at this
      exact this
  refine g_Is_survey_0 h_f1 (c_Is_findKeepers h_f1 eR W (fun h1 a b => ?_))
  refine g_Is_survey_5 h_f1 (c_Ar_fillI (n0 := 63) ⟨rfl, rfl⟩ (by decide) (by decide) ?_)
  refine g_Is_survey_13 h_f1 ?_
  refine rows (R 0 1).toNat 0 _ _ _ (by omega) ⟨fun k hk => ?_, fun c r q => ?_, ?_, ⟨fun b hb => ?_, fun c r c' r' q1 q2 q3 => ?_⟩, fun c r q1 q2 => by omega, fun c r c' r' q1 q2 q3 => ?_, fun k hk => ?_, fun k hk => ?_⟩
  · rw [hs_ne (by omega), wr_ne (by omega), a k (by omega)]
  · rw [hs_ne (by decide), wr_ne (by decide)]; exact b c r q
  · rw [hs_s]; omega
  · rw [hs_s, hs_ne (by decide), wr_in (by omega)]; omega
  · rw [hs_ne (by decide), wr_in (by have := q1.1; have := q1.2; omega)] at q3; omega
  · rw [hs_ne (by decide), wr_in (by have := q1.1; have := q1.2; omega)] at q3; omega
  · rw [hs_s] at hk; omega
  · rw [hs_s] at hk; omega
