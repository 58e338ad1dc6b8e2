theorem g_Is_countOf_0 {Q : PQ} {h : HP} {x1 : Int} 
    (k1 : Wp true i_Is_countOf 4 [vr 82, vi x1, vi 0, vi 0] [] h Q) :
    Wp true i_Is_countOf 0 [vr 82, vi x1, vr 9999, vr 9999] [] h Q := by
  refine r_iconst f_66_0 (by decide) ?_
  refine r_istore_n (ls' := [vr 82, vi x1, vi 0, vr 9999]) f_66_1 (Nat.le_of_ble_eq_true rfl) rfl ?_
  refine r_iconst f_66_2 (by decide) ?_
  refine r_istore_n (ls' := [vr 82, vi x1, vi 0, vi 0]) f_66_3 (Nat.le_of_ble_eq_true rfl) rfl ?_
  exact k1

theorem g_Is_countOf_4 {Q : PQ} {h : HP} {x1 : Int} {x2 : Int} {x3 : Int} 
    (k1 : h 82 4 ≤ x3 → Q (some (vi x2)) h)
    (o2 : ¬ h 82 4 ≤ x3 → 0 ≤ x3 ∧ x3 < 63)
    (o3 : ¬ h 82 4 ≤ x3 → ¬ h 85 x3.toNat = x1 → -2147483648 ≤ x3 + 1 ∧ x3 + 1 ≤ 2147483647)
    (k4 : ¬ h 82 4 ≤ x3 → ¬ h 85 x3.toNat = x1 → Wp true i_Is_countOf 4 [vr 82, vi x1, vi x2, vi (x3 + 1)] [] h Q)
    (o5 : ¬ h 82 4 ≤ x3 → h 85 x3.toNat = x1 → -2147483648 ≤ x2 + 1 ∧ x2 + 1 ≤ 2147483647)
    (o6 : ¬ h 82 4 ≤ x3 → h 85 x3.toNat = x1 → -2147483648 ≤ x3 + 1 ∧ x3 + 1 ≤ 2147483647)
    (k7 : ¬ h 82 4 ≤ x3 → h 85 x3.toNat = x1 → Wp true i_Is_countOf 4 [vr 82, vi x1, vi (x2 + 1), vi (x3 + 1)] [] h Q) :
    Wp true i_Is_countOf 4 [vr 82, vi x1, vi x2, vi x3] [] h Q := by
  refine r_iload_n (v := x3) f_66_4 rfl ?_
  refine r_aload_n (v := 82) f_66_5 rfl (by decide) ?_
  refine r_geti (v := h 82 4) f_66_6 rfl (by decide) rfl ?_
  refine r_br2 (t := 31) f_66_9 rfl cb_ge (fun c1 => ?_) (fun c1 => ?_)
  · refine r_iload_n (v := x2) f_66_31 rfl ?_
    exact r_reti f_66_32 rfl (k1 c1)
  · refine r_aload_n (v := 82) f_66_12 rfl (by decide) ?_
    refine r_getr (q := 85) f_66_13 rfl (by decide) (Or.inl rfl) rfl ?_
    refine r_iload_n (v := x3) f_66_16 rfl ?_
    refine r_iaload (n := 63) (v := h 85 x3.toNat) f_66_17 ⟨rfl, rfl⟩ (o2 c1) rfl ?_
    refine r_iload_n (v := x1) f_66_18 rfl ?_
    refine r_br2 (t := 25) f_66_19 rfl cb_ne (fun c2 => ?_) (fun c2 => ?_)
    · refine r_iinc (v := x3) (w := x3 + 1) (ls' := [vr 82, vi x1, vi x2, vi (x3 + 1)]) f_66_25 rfl rfl (o3 c1 c2) rfl ?_
      refine r_goto (t := 4) f_66_28 rfl ?_
      exact (k4 c1 c2)
    · have c2 := Decidable.not_not.mp c2
      refine r_iinc (v := x2) (w := x2 + 1) (ls' := [vr 82, vi x1, vi (x2 + 1), vi x3]) f_66_22 rfl rfl (o5 c1 c2) rfl ?_
      refine r_iinc (v := x3) (w := x3 + 1) (ls' := [vr 82, vi x1, vi (x2 + 1), vi (x3 + 1)]) f_66_25 rfl rfl (o6 c1 c2) rfl ?_
      refine r_goto (t := 4) f_66_28 rfl ?_
      exact (k7 c1 c2)

theorem c_Is_countOf {Q : PQ} {h : HP} {x1 : Int} (o1 : 0 ≤ h 82 4 ∧ h 82 4 ≤ 63) (k : Q (some (vi (sumF (fun k => if h 85 k = x1 then 1 else 0) (h 82 4).toNat 0))) h) :
    Wp true i_Is_countOf 0 [vr 82, vi x1, vr 9999, vr 9999] [] h Q := by
  refine g_Is_countOf_0 ?_
  have key : ∀ (d i : Nat) (s : Int), ((i : Int) + d = h 82 4 ∨ (d = 0 ∧ h 82 4 ≤ i)) → (0 ≤ s ∧ s ≤ i) → Q (some (vi (s + sumF (fun k => if h 85 k = x1 then 1 else 0) d i))) h → Wp true i_Is_countOf 4 [vr 82, vi x1, vi s, vi (i : Int)] [] h Q := by
    intro d
    induction d with
    | zero =>
      intro i s e hi kk
      simp only [fld, sumF, Int.add_zero] at kk
      refine g_Is_countOf_4 ?_ ?_ ?_ ?_ ?_ ?_ ?_
      · intro c1; (try simp only [Int.toNat_natCast] at c1); first | (exfalso; omega) | exact absurd trivial ‹¬ True› | (exact kk)
      · intro c1; (try simp only [Int.toNat_natCast] at c1); first | omega | (exfalso; omega) | exact ⟨by omega, by omega⟩ | (first | exact o1 | assumption) | exact absurd trivial ‹¬ True›
      · intro c1 c2; (try simp only [Int.toNat_natCast] at c1 c2); first | omega | (exfalso; omega) | exact ⟨by omega, by omega⟩ | (first | exact o1 | assumption) | exact absurd trivial ‹¬ True›
      · intro c1 c2; (try simp only [Int.toNat_natCast] at c1 c2); first | (exfalso; omega) | exact absurd trivial ‹¬ True› | (skip)
      · intro c1 c2; (try simp only [Int.toNat_natCast] at c1 c2); first | omega | (exfalso; omega) | exact ⟨by omega, by omega⟩ | (first | exact o1 | assumption) | exact absurd trivial ‹¬ True›
      · intro c1 c2; (try simp only [Int.toNat_natCast] at c1 c2); first | omega | (exfalso; omega) | exact ⟨by omega, by omega⟩ | (first | exact o1 | assumption) | exact absurd trivial ‹¬ True›
      · intro c1 c2; (try simp only [Int.toNat_natCast] at c1 c2); first | (exfalso; omega) | exact absurd trivial ‹¬ True› | (skip)
    | succ d ih =>
      intro i s e hi kk
      refine g_Is_countOf_4 ?_ ?_ ?_ ?_ ?_ ?_ ?_
      · intro c1; (try simp only [Int.toNat_natCast] at c1); first | (exfalso; omega) | exact absurd trivial ‹¬ True› | (skip)
      · intro c1; (try simp only [Int.toNat_natCast] at c1); first | omega | (exfalso; omega) | exact ⟨by omega, by omega⟩ | (first | exact o1 | assumption) | exact absurd trivial ‹¬ True›
      · intro c1 c2; (try simp only [Int.toNat_natCast] at c1 c2); first | omega | (exfalso; omega) | exact ⟨by omega, by omega⟩ | (first | exact o1 | assumption) | exact absurd trivial ‹¬ True›
      · intro c1 c2; (try simp only [Int.toNat_natCast] at c1 c2); first | (exfalso; omega) | exact absurd trivial ‹¬ True› | (refine ih (i + 1) _ (by omega) (by omega) (kv kk ?_); simp only [sumF, if_neg c2]; omega)
      · intro c1 c2; (try simp only [Int.toNat_natCast] at c1 c2); first | omega | (exfalso; omega) | exact ⟨by omega, by omega⟩ | (first | exact o1 | assumption) | exact absurd trivial ‹¬ True›
      · intro c1 c2; (try simp only [Int.toNat_natCast] at c1 c2); first | omega | (exfalso; omega) | exact ⟨by omega, by omega⟩ | (first | exact o1 | assumption) | exact absurd trivial ‹¬ True›
      · intro c1 c2; (try simp only [Int.toNat_natCast] at c1 c2); first | (exfalso; omega) | exact absurd trivial ‹¬ True› | (refine ih (i + 1) _ (by omega) (by omega) (kv kk ?_); simp only [sumF, if_pos c2]; omega)
  refine key (h 82 4).toNat 0 0 (by omega) (by omega) ?_
  rw [Int.zero_add]; exact k

theorem g_Is_greatestOf_0 {Q : PQ} {h : HP} {x1 : Int} 
    (k1 : Wp true i_Is_greatestOf 4 [vr 82, vi x1, vi 0, vi 0] [] h Q) :
    Wp true i_Is_greatestOf 0 [vr 82, vi x1, vr 9999, vr 9999] [] h Q := by
  refine r_iconst f_67_0 (by decide) ?_
  refine r_istore_n (ls' := [vr 82, vi x1, vi 0, vr 9999]) f_67_1 (Nat.le_of_ble_eq_true rfl) rfl ?_
  refine r_iconst f_67_2 (by decide) ?_
  refine r_istore_n (ls' := [vr 82, vi x1, vi 0, vi 0]) f_67_3 (Nat.le_of_ble_eq_true rfl) rfl ?_
  exact k1

theorem g_Is_greatestOf_4 {Q : PQ} {h : HP} {x1 : Int} {x2 : Int} {x3 : Int} 
    (k1 : h 82 4 ≤ x3 → Q (some (vi x2)) h)
    (o2 : ¬ h 82 4 ≤ x3 → 0 ≤ x3 ∧ x3 < 63)
    (o3 : ¬ h 82 4 ≤ x3 → ¬ h 85 x3.toNat = x1 → -2147483648 ≤ x3 + 1 ∧ x3 + 1 ≤ 2147483647)
    (k4 : ¬ h 82 4 ≤ x3 → ¬ h 85 x3.toNat = x1 → Wp true i_Is_greatestOf 4 [vr 82, vi x1, vi x2, vi (x3 + 1)] [] h Q)
    (o5 : ¬ h 82 4 ≤ x3 → h 85 x3.toNat = x1 → -2147483648 ≤ x3 + 1 ∧ x3 + 1 ≤ 2147483647)
    (k6 : ¬ h 82 4 ≤ x3 → h 85 x3.toNat = x1 → Wp true i_Is_greatestOf 4 [vr 82, vi x1, vi (max x2 (h 86 x3.toNat)), vi (x3 + 1)] [] h Q) :
    Wp true i_Is_greatestOf 4 [vr 82, vi x1, vi x2, vi x3] [] h Q := by
  refine r_iload_n (v := x3) f_67_4 rfl ?_
  refine r_aload_n (v := 82) f_67_5 rfl (by decide) ?_
  refine r_geti (v := h 82 4) f_67_6 rfl (by decide) rfl ?_
  refine r_br2 (t := 39) f_67_9 rfl cb_ge (fun c1 => ?_) (fun c1 => ?_)
  · refine r_iload_n (v := x2) f_67_39 rfl ?_
    exact r_reti f_67_40 rfl (k1 c1)
  · refine r_aload_n (v := 82) f_67_12 rfl (by decide) ?_
    refine r_getr (q := 85) f_67_13 rfl (by decide) (Or.inl rfl) rfl ?_
    refine r_iload_n (v := x3) f_67_16 rfl ?_
    refine r_iaload (n := 63) (v := h 85 x3.toNat) f_67_17 ⟨rfl, rfl⟩ (o2 c1) rfl ?_
    refine r_iload_n (v := x1) f_67_18 rfl ?_
    refine r_br2 (t := 33) f_67_19 rfl cb_ne (fun c2 => ?_) (fun c2 => ?_)
    · refine r_iinc (v := x3) (w := x3 + 1) (ls' := [vr 82, vi x1, vi x2, vi (x3 + 1)]) f_67_33 rfl rfl (o3 c1 c2) rfl ?_
      refine r_goto (t := 4) f_67_36 rfl ?_
      exact (k4 c1 c2)
    · have c2 := Decidable.not_not.mp c2
      refine r_iload_n (v := x2) f_67_22 rfl ?_
      refine r_aload_n (v := 82) f_67_23 rfl (by decide) ?_
      refine r_getr (q := 86) f_67_24 rfl (by decide) (Or.inl rfl) rfl ?_
      refine r_iload_n (v := x3) f_67_27 rfl ?_
      refine r_iaload (n := 63) (v := h 86 x3.toNat) f_67_28 ⟨rfl, rfl⟩ (o2 c1) rfl ?_
      refine r_calls (as := [vi x2, vi (h 86 x3.toNat)]) (st' := []) (ls0 := [vi x2, vi (h 86 x3.toNat)]) f_67_29 (by decide) (by decide) rfl rfl (Nat.le_of_ble_eq_true rfl) (Nat.le_of_ble_eq_true rfl) rfl ?_
      refine c_Ma_max  ?_
      show Wp true i_Is_greatestOf 32 [vr 82, vi x1, vi x2, vi x3] [vi (max x2 (h 86 x3.toNat))] h Q
      refine r_istore_n (ls' := [vr 82, vi x1, vi (max x2 (h 86 x3.toNat)), vi x3]) f_67_32 (Nat.le_of_ble_eq_true rfl) rfl ?_
      refine r_iinc (v := x3) (w := x3 + 1) (ls' := [vr 82, vi x1, vi (max x2 (h 86 x3.toNat)), vi (x3 + 1)]) f_67_33 rfl rfl (o5 c1 c2) rfl ?_
      refine r_goto (t := 4) f_67_36 rfl ?_
      exact (k6 c1 c2)

theorem c_Is_greatestOf {Q : PQ} {h : HP} {x1 : Int} (o1 : 0 ≤ h 82 4 ∧ h 82 4 ≤ 63) (k : Q (some (vi (fld (fun k s => if h 85 k = x1 then max s (h 86 k) else s) (h 82 4).toNat 0 0))) h) :
    Wp true i_Is_greatestOf 0 [vr 82, vi x1, vr 9999, vr 9999] [] h Q := by
  refine g_Is_greatestOf_0 ?_
  have key : ∀ (d i : Nat) (s : Int), ((i : Int) + d = h 82 4 ∨ (d = 0 ∧ h 82 4 ≤ i)) → (True) → Q (some (vi (fld (fun k s => if h 85 k = x1 then max s (h 86 k) else s) d i s))) h → Wp true i_Is_greatestOf 4 [vr 82, vi x1, vi s, vi (i : Int)] [] h Q := by
    intro d
    induction d with
    | zero =>
      intro i s e hi kk
      simp only [fld, sumF, Int.add_zero] at kk
      refine g_Is_greatestOf_4 ?_ ?_ ?_ ?_ ?_ ?_
      · intro c1; (try simp only [Int.toNat_natCast] at c1); first | (exfalso; omega) | exact absurd trivial ‹¬ True› | (exact kk)
      · intro c1; (try simp only [Int.toNat_natCast] at c1); first | omega | (exfalso; omega) | exact ⟨by omega, by omega⟩ | (first | exact o1 | assumption) | exact absurd trivial ‹¬ True›
      · intro c1 c2; (try simp only [Int.toNat_natCast] at c1 c2); first | omega | (exfalso; omega) | exact ⟨by omega, by omega⟩ | (first | exact o1 | assumption) | exact absurd trivial ‹¬ True›
      · intro c1 c2; (try simp only [Int.toNat_natCast] at c1 c2); first | (exfalso; omega) | exact absurd trivial ‹¬ True› | (skip)
      · intro c1 c2; (try simp only [Int.toNat_natCast] at c1 c2); first | omega | (exfalso; omega) | exact ⟨by omega, by omega⟩ | (first | exact o1 | assumption) | exact absurd trivial ‹¬ True›
      · intro c1 c2; (try simp only [Int.toNat_natCast] at c1 c2); first | (exfalso; omega) | exact absurd trivial ‹¬ True› | (skip)
    | succ d ih =>
      intro i s e hi kk
      refine g_Is_greatestOf_4 ?_ ?_ ?_ ?_ ?_ ?_
      · intro c1; (try simp only [Int.toNat_natCast] at c1); first | (exfalso; omega) | exact absurd trivial ‹¬ True› | (skip)
      · intro c1; (try simp only [Int.toNat_natCast] at c1); first | omega | (exfalso; omega) | exact ⟨by omega, by omega⟩ | (first | exact o1 | assumption) | exact absurd trivial ‹¬ True›
      · intro c1 c2; (try simp only [Int.toNat_natCast] at c1 c2); first | omega | (exfalso; omega) | exact ⟨by omega, by omega⟩ | (first | exact o1 | assumption) | exact absurd trivial ‹¬ True›
      · intro c1 c2; (try simp only [Int.toNat_natCast] at c1 c2); first | (exfalso; omega) | exact absurd trivial ‹¬ True› | (simp only [fld, if_neg c2] at kk; exact ih (i + 1) _ (by omega) (trivial) kk)
      · intro c1 c2; (try simp only [Int.toNat_natCast] at c1 c2); first | omega | (exfalso; omega) | exact ⟨by omega, by omega⟩ | (first | exact o1 | assumption) | exact absurd trivial ‹¬ True›
      · intro c1 c2; (try simp only [Int.toNat_natCast] at c1 c2); first | (exfalso; omega) | exact absurd trivial ‹¬ True› | (rw [Int.toNat_natCast]; simp only [fld, if_pos c2] at kk; exact ih (i + 1) _ (by omega) trivial kk)
  refine key (h 82 4).toNat 0 0 (by omega) (trivial) ?_
  exact k

theorem g_Is_extentAt_0 {Q : PQ} {h : HP} {x1 : Int} 
    (o1 : 0 ≤ x1 ∧ x1 < 63)
    (o2 : 0 ≤ h 84 x1.toNat ∧ h 84 x1.toNat < 63)
    (k3 : Q (some (vi (h 86 (h 84 x1.toNat).toNat))) h) :
    Wp true i_Is_extentAt 0 [vr 82, vi x1] [] h Q := by
  refine r_aload_n (v := 82) f_68_0 rfl (by decide) ?_
  refine r_getr (q := 86) f_68_1 rfl (by decide) (Or.inl rfl) rfl ?_
  refine r_aload_n (v := 82) f_68_4 rfl (by decide) ?_
  refine r_getr (q := 84) f_68_5 rfl (by decide) (Or.inl rfl) rfl ?_
  refine r_iload_n (v := x1) f_68_8 rfl ?_
  refine r_iaload (n := 63) (v := h 84 x1.toNat) f_68_9 ⟨rfl, rfl⟩ o1 rfl ?_
  refine r_iaload (n := 63) (v := h 86 (h 84 x1.toNat).toNat) f_68_10 ⟨rfl, rfl⟩ o2 rfl ?_
  exact r_reti f_68_11 rfl k3

theorem c_Is_extentAt {Q : PQ} {h : HP} {x1 : Int} (o1 : 0 ≤ x1 ∧ x1 < 63) (o2 : 0 ≤ h 84 x1.toNat ∧ h 84 x1.toNat < 63) (k : Q (some (vi (h 86 (h 84 x1.toNat).toNat))) h) :
    Wp true i_Is_extentAt 0 [vr 82, vi x1] [] h Q := by
  refine g_Is_extentAt_0 ?_ ?_ ?_
  · intros; first | omega | exact ⟨by omega, by omega⟩
  · intros; first | omega | exact ⟨by omega, by omega⟩
  · intros; first | exact k | (refine kv k ?_; omega) | (refine kv k ?_; simp only [*, if_true, if_false]; try omega) | (refine kv k ?_; split <;> omega)

theorem g_M_sizeOf_0 {Q : PQ} {h : HP} {x1 : Int} 
    (k1 : Wp true i_M_sizeOf 4 [vr 103, vi x1, vi 0, vi 0] [] h Q) :
    Wp true i_M_sizeOf 0 [vr 103, vi x1, vr 9999, vr 9999] [] h Q := by
  refine r_iconst f_317_0 (by decide) ?_
  refine r_istore_n (ls' := [vr 103, vi x1, vi 0, vr 9999]) f_317_1 (Nat.le_of_ble_eq_true rfl) rfl ?_
  refine r_iconst f_317_2 (by decide) ?_
  refine r_istore_n (ls' := [vr 103, vi x1, vi 0, vi 0]) f_317_3 (Nat.le_of_ble_eq_true rfl) rfl ?_
  exact k1

theorem g_M_sizeOf_4 {Q : PQ} {h : HP} {x1 : Int} {x2 : Int} {x3 : Int} 
    (k1 : 70 ≤ x3 → Q (some (vi x2)) h)
    (o2 : ¬ 70 ≤ x3 → 0 ≤ x3 ∧ x3 < 70)
    (o3 : ¬ 70 ≤ x3 → ¬ h 112 x3.toNat = x1 → -2147483648 ≤ x2 + 0 ∧ x2 + 0 ≤ 2147483647)
    (o4 : ¬ 70 ≤ x3 → ¬ h 112 x3.toNat = x1 → -2147483648 ≤ x3 + 1 ∧ x3 + 1 ≤ 2147483647)
    (k5 : ¬ 70 ≤ x3 → ¬ h 112 x3.toNat = x1 → Wp true i_M_sizeOf 4 [vr 103, vi x1, vi (x2 + 0), vi (x3 + 1)] [] h Q)
    (o6 : ¬ 70 ≤ x3 → h 112 x3.toNat = x1 → -2147483648 ≤ x2 + 1 ∧ x2 + 1 ≤ 2147483647)
    (o7 : ¬ 70 ≤ x3 → h 112 x3.toNat = x1 → -2147483648 ≤ x3 + 1 ∧ x3 + 1 ≤ 2147483647)
    (k8 : ¬ 70 ≤ x3 → h 112 x3.toNat = x1 → Wp true i_M_sizeOf 4 [vr 103, vi x1, vi (x2 + 1), vi (x3 + 1)] [] h Q) :
    Wp true i_M_sizeOf 4 [vr 103, vi x1, vi x2, vi x3] [] h Q := by
  refine r_iload_n (v := x3) f_317_4 rfl ?_
  refine r_bipush f_317_5 (by decide) ?_
  refine r_br2 (t := 34) f_317_7 rfl cb_ge (fun c1 => ?_) (fun c1 => ?_)
  · refine r_iload_n (v := x2) f_317_34 rfl ?_
    exact r_reti f_317_35 rfl (k1 c1)
  · refine r_iload_n (v := x2) f_317_10 rfl ?_
    refine r_aload_n (v := 103) f_317_11 rfl (by decide) ?_
    refine r_getr (q := 112) f_317_12 rfl (by decide) (Or.inl rfl) rfl ?_
    refine r_iload_n (v := x3) f_317_15 rfl ?_
    refine r_iaload (n := 70) (v := h 112 x3.toNat) f_317_16 ⟨rfl, rfl⟩ (o2 c1) rfl ?_
    refine r_iload_n (v := x1) f_317_17 rfl ?_
    refine r_br2 (t := 25) f_317_18 rfl cb_ne (fun c2 => ?_) (fun c2 => ?_)
    · refine r_iconst f_317_25 (by decide) ?_
      refine r_iadd (u := x2 + 0) f_317_26 rfl (o3 c1 c2) ?_
      refine r_istore_n (ls' := [vr 103, vi x1, vi (x2 + 0), vi x3]) f_317_27 (Nat.le_of_ble_eq_true rfl) rfl ?_
      refine r_iinc (v := x3) (w := x3 + 1) (ls' := [vr 103, vi x1, vi (x2 + 0), vi (x3 + 1)]) f_317_28 rfl rfl (o4 c1 c2) rfl ?_
      refine r_goto (t := 4) f_317_31 rfl ?_
      exact (k5 c1 c2)
    · have c2 := Decidable.not_not.mp c2
      refine r_iconst f_317_21 (by decide) ?_
      refine r_goto (t := 26) f_317_22 rfl ?_
      refine r_iadd (u := x2 + 1) f_317_26 rfl (o6 c1 c2) ?_
      refine r_istore_n (ls' := [vr 103, vi x1, vi (x2 + 1), vi x3]) f_317_27 (Nat.le_of_ble_eq_true rfl) rfl ?_
      refine r_iinc (v := x3) (w := x3 + 1) (ls' := [vr 103, vi x1, vi (x2 + 1), vi (x3 + 1)]) f_317_28 rfl rfl (o7 c1 c2) rfl ?_
      refine r_goto (t := 4) f_317_31 rfl ?_
      exact (k8 c1 c2)

theorem c_M_sizeOf {Q : PQ} {h : HP} {x1 : Int} (k : Q (some (vi (sumF (fun m => if h 112 m = x1 then 1 else 0) 70 0))) h) :
    Wp true i_M_sizeOf 0 [vr 103, vi x1, vr 9999, vr 9999] [] h Q := by
  refine g_M_sizeOf_0 ?_
  have key : ∀ (d i : Nat) (s : Int), ((i : Int) + d = (70 : Int) ∨ (d = 0 ∧ (70 : Int) ≤ i)) → (0 ≤ s ∧ s ≤ i) → Q (some (vi (s + sumF (fun m => if h 112 m = x1 then 1 else 0) d i))) h → Wp true i_M_sizeOf 4 [vr 103, vi x1, vi s, vi (i : Int)] [] h Q := by
    intro d
    induction d with
    | zero =>
      intro i s e hi kk
      simp only [fld, sumF, Int.add_zero] at kk
      refine g_M_sizeOf_4 ?_ ?_ ?_ ?_ ?_ ?_ ?_ ?_
      · intro c1; (try simp only [Int.toNat_natCast] at c1); first | (exfalso; omega) | exact absurd trivial ‹¬ True› | (exact kk)
      · intro c1; (try simp only [Int.toNat_natCast] at c1); first | omega | (exfalso; omega) | exact ⟨by omega, by omega⟩ | (first | exact o1 | assumption) | exact absurd trivial ‹¬ True›
      · intro c1 c2; (try simp only [Int.toNat_natCast] at c1 c2); first | omega | (exfalso; omega) | exact ⟨by omega, by omega⟩ | (first | exact o1 | assumption) | exact absurd trivial ‹¬ True›
      · intro c1 c2; (try simp only [Int.toNat_natCast] at c1 c2); first | omega | (exfalso; omega) | exact ⟨by omega, by omega⟩ | (first | exact o1 | assumption) | exact absurd trivial ‹¬ True›
      · intro c1 c2; (try simp only [Int.toNat_natCast] at c1 c2); first | (exfalso; omega) | exact absurd trivial ‹¬ True› | (skip)
      · intro c1 c2; (try simp only [Int.toNat_natCast] at c1 c2); first | omega | (exfalso; omega) | exact ⟨by omega, by omega⟩ | (first | exact o1 | assumption) | exact absurd trivial ‹¬ True›
      · intro c1 c2; (try simp only [Int.toNat_natCast] at c1 c2); first | omega | (exfalso; omega) | exact ⟨by omega, by omega⟩ | (first | exact o1 | assumption) | exact absurd trivial ‹¬ True›
      · intro c1 c2; (try simp only [Int.toNat_natCast] at c1 c2); first | (exfalso; omega) | exact absurd trivial ‹¬ True› | (skip)
    | succ d ih =>
      intro i s e hi kk
      refine g_M_sizeOf_4 ?_ ?_ ?_ ?_ ?_ ?_ ?_ ?_
      · intro c1; (try simp only [Int.toNat_natCast] at c1); first | (exfalso; omega) | exact absurd trivial ‹¬ True› | (skip)
      · intro c1; (try simp only [Int.toNat_natCast] at c1); first | omega | (exfalso; omega) | exact ⟨by omega, by omega⟩ | (first | exact o1 | assumption) | exact absurd trivial ‹¬ True›
      · intro c1 c2; (try simp only [Int.toNat_natCast] at c1 c2); first | omega | (exfalso; omega) | exact ⟨by omega, by omega⟩ | (first | exact o1 | assumption) | exact absurd trivial ‹¬ True›
      · intro c1 c2; (try simp only [Int.toNat_natCast] at c1 c2); first | omega | (exfalso; omega) | exact ⟨by omega, by omega⟩ | (first | exact o1 | assumption) | exact absurd trivial ‹¬ True›
      · intro c1 c2; (try simp only [Int.toNat_natCast] at c1 c2); first | (exfalso; omega) | exact absurd trivial ‹¬ True› | (rw [Int.add_zero]; refine ih (i + 1) _ (by omega) (by omega) (kv kk ?_); simp only [sumF, if_neg c2]; omega)
      · intro c1 c2; (try simp only [Int.toNat_natCast] at c1 c2); first | omega | (exfalso; omega) | exact ⟨by omega, by omega⟩ | (first | exact o1 | assumption) | exact absurd trivial ‹¬ True›
      · intro c1 c2; (try simp only [Int.toNat_natCast] at c1 c2); first | omega | (exfalso; omega) | exact ⟨by omega, by omega⟩ | (first | exact o1 | assumption) | exact absurd trivial ‹¬ True›
      · intro c1 c2; (try simp only [Int.toNat_natCast] at c1 c2); first | (exfalso; omega) | exact absurd trivial ‹¬ True› | (refine ih (i + 1) _ (by omega) (by omega) (kv kk ?_); simp only [sumF, if_pos c2]; omega)
  refine key ((70 : Int)).toNat 0 0 (by omega) (by omega) ?_
  rw [Int.zero_add]; exact k

theorem g_Is_thingsWith_0 {Q : PQ} {h : HP} {x2 : Int} {f1 : Nat} (h_f1 : isF f1)
    (k1 : Wp true i_Is_thingsWith 5 [vr 82, vr f1, vi x2, vi 0, vi 0] [] h Q) :
    Wp true i_Is_thingsWith 0 [vr 82, vr f1, vi x2, vr 9999, vr 9999] [] h Q := by
  refine r_iconst f_70_0 (by decide) ?_
  refine r_istore_n (ls' := [vr 82, vr f1, vi x2, vi 0, vr 9999]) f_70_1 (Nat.le_of_ble_eq_true rfl) rfl ?_
  refine r_iconst f_70_2 (by decide) ?_
  refine r_istore (ls' := [vr 82, vr f1, vi x2, vi 0, vi 0]) f_70_3 (Nat.le_of_ble_eq_true rfl) rfl ?_
  exact k1

theorem g_Is_thingsWith_5 {Q : PQ} {h : HP} {x2 : Int} {x3 : Int} {x4 : Int} {f1 : Nat} (h_f1 : isF f1)
    (k1 : h f1 3 ≤ x4 → Q (some (vi x3)) h)
    (o2 : ¬ h f1 3 ≤ x4 → WR (rmC h f1))
    (o3 : ¬ h f1 3 ≤ x4 → 0 ≤ x2 ∧ x2 < h f1 3)
    (o4 : ¬ h f1 3 ≤ x4 → 0 ≤ x4 ∧ x4 < h f1 3)
    (o5 : ¬ h f1 3 ≤ x4 → 0 ≤ (rmC h f1 3 x2.toNat * 9 + rmC h f1 2 x2.toNat) ∧ (rmC h f1 3 x2.toNat * 9 + rmC h f1 2 x2.toNat) < 63)
    (o6 : ¬ h f1 3 ≤ x4 → 0 ≤ (rmC h f1 3 x4.toNat * 9 + rmC h f1 2 x4.toNat) ∧ (rmC h f1 3 x4.toNat * 9 + rmC h f1 2 x4.toNat) < 63)
    (o7 : ¬ h f1 3 ≤ x4 → ¬ (h 84 (rmC h f1 3 x2.toNat * 9 + rmC h f1 2 x2.toNat).toNat = h 84 (rmC h f1 3 x4.toNat * 9 + rmC h f1 2 x4.toNat).toNat) → -2147483648 ≤ x4 + 1 ∧ x4 + 1 ≤ 2147483647)
    (k8 : ¬ h f1 3 ≤ x4 → ¬ (h 84 (rmC h f1 3 x2.toNat * 9 + rmC h f1 2 x2.toNat).toNat = h 84 (rmC h f1 3 x4.toNat * 9 + rmC h f1 2 x4.toNat).toNat) → Wp true i_Is_thingsWith 5 [vr 82, vr f1, vi x2, vi x3, vi (x4 + 1)] [] h Q)
    (o9 : ¬ h f1 3 ≤ x4 → (h 84 (rmC h f1 3 x2.toNat * 9 + rmC h f1 2 x2.toNat).toNat = h 84 (rmC h f1 3 x4.toNat * 9 + rmC h f1 2 x4.toNat).toNat) → -2147483648 ≤ x4 + 1 ∧ x4 + 1 ≤ 2147483647)
    (k10 : ¬ h f1 3 ≤ x4 → (h 84 (rmC h f1 3 x2.toNat * 9 + rmC h f1 2 x2.toNat).toNat = h 84 (rmC h f1 3 x4.toNat * 9 + rmC h f1 2 x4.toNat).toNat) → Wp true i_Is_thingsWith 5 [vr 82, vr f1, vi x2, vi (o_or x3 (o_shl 1 x4)), vi (x4 + 1)] [] h Q) :
    Wp true i_Is_thingsWith 5 [vr 82, vr f1, vi x2, vi x3, vi x4] [] h Q := by
  refine r_iload (v := x4) f_70_5 rfl ?_
  refine r_aload_n (v := f1) f_70_7 rfl (F_n h_f1) ?_
  refine r_geti (v := h f1 3) f_70_8 (F_k h_f1) (by decide) rfl ?_
  refine r_br2 (t := 45) f_70_11 rfl cb_ge (fun c1 => ?_) (fun c1 => ?_)
  · refine r_iload_n (v := x3) f_70_45 rfl ?_
    exact r_reti f_70_46 rfl (k1 c1)
  · refine r_aload_n (v := 82) f_70_14 rfl (by decide) ?_
    refine r_aload_n (v := f1) f_70_15 rfl (F_n h_f1) ?_
    refine r_iload_n (v := x2) f_70_16 rfl ?_
    refine r_calls (as := [vr f1, vi x2]) (st' := [vr 82]) (ls0 := [vr f1, vi x2]) f_70_17 (by decide) (by decide) rfl rfl (Nat.le_of_ble_eq_true rfl) (Nat.le_of_ble_eq_true rfl) rfl ?_
    refine c_Is_boardOf h_f1 (o2 c1) (o3 c1) ?_
    show Wp true i_Is_thingsWith 20 [vr 82, vr f1, vi x2, vi x3, vi x4] [vi (rmC h f1 3 x2.toNat * 9 + rmC h f1 2 x2.toNat), vr 82] h Q
    refine r_aload_n (v := f1) f_70_20 rfl (F_n h_f1) ?_
    refine r_iload (v := x4) f_70_21 rfl ?_
    refine r_calls (as := [vr f1, vi x4]) (st' := [vi (rmC h f1 3 x2.toNat * 9 + rmC h f1 2 x2.toNat), vr 82]) (ls0 := [vr f1, vi x4]) f_70_23 (by decide) (by decide) rfl rfl (Nat.le_of_ble_eq_true rfl) (Nat.le_of_ble_eq_true rfl) rfl ?_
    refine c_Is_boardOf h_f1 (o2 c1) (o4 c1) ?_
    show Wp true i_Is_thingsWith 26 [vr 82, vr f1, vi x2, vi x3, vi x4] [vi (rmC h f1 3 x4.toNat * 9 + rmC h f1 2 x4.toNat), vi (rmC h f1 3 x2.toNat * 9 + rmC h f1 2 x2.toNat), vr 82] h Q
    refine r_callv (as := [vr 82, vi (rmC h f1 3 x2.toNat * 9 + rmC h f1 2 x2.toNat), vi (rmC h f1 3 x4.toNat * 9 + rmC h f1 2 x4.toNat)]) (st' := []) (ls0 := [vr 82, vi (rmC h f1 3 x2.toNat * 9 + rmC h f1 2 x2.toNat), vi (rmC h f1 3 x4.toNat * 9 + rmC h f1 2 x4.toNat)]) f_70_26 (by decide) rfl rfl (Nat.le_of_ble_eq_true rfl) (Nat.le_of_ble_eq_true rfl) ⟨_, _, rfl, rfl⟩ rfl ?_
    refine c_Is_together (o5 c1) (o6 c1) ?_
    show Wp true i_Is_thingsWith 29 [vr 82, vr f1, vi x2, vi x3, vi x4] [vi (bi (h 84 (rmC h f1 3 x2.toNat * 9 + rmC h f1 2 x2.toNat).toNat = h 84 (rmC h f1 3 x4.toNat * 9 + rmC h f1 2 x4.toNat).toNat))] h Q
    refine r_br (t := 39) f_70_29 rfl cb_bf (fun c2 => ?_) (fun c2 => ?_)
    · refine r_iinc (v := x4) (w := x4 + 1) (ls' := [vr 82, vr f1, vi x2, vi x3, vi (x4 + 1)]) f_70_39 rfl rfl (o7 c1 c2) rfl ?_
      refine r_goto (t := 5) f_70_42 rfl ?_
      exact (k8 c1 c2)
    · have c2 := Decidable.not_not.mp c2
      refine r_iload_n (v := x3) f_70_32 rfl ?_
      refine r_iconst f_70_33 (by decide) ?_
      refine r_iload (v := x4) f_70_34 rfl ?_
      refine r_ishl f_70_36 ?_
      refine r_ior f_70_37 ?_
      refine r_istore_n (ls' := [vr 82, vr f1, vi x2, vi (o_or x3 (o_shl 1 x4)), vi x4]) f_70_38 (Nat.le_of_ble_eq_true rfl) rfl ?_
      refine r_iinc (v := x4) (w := x4 + 1) (ls' := [vr 82, vr f1, vi x2, vi (o_or x3 (o_shl 1 x4)), vi (x4 + 1)]) f_70_39 rfl rfl (o9 c1 c2) rfl ?_
      refine r_goto (t := 5) f_70_42 rfl ?_
      exact (k10 c1 c2)

theorem c_Is_thingsWith {Q : PQ} {h : HP} {x2 : Int} {f1 : Nat} (h_f1 : isF f1) (o1 : WR (rmC h f1)) (o2 : 0 ≤ x2 ∧ x2 < h f1 3) (k : Q (some (vi (fld (fun i s => if h 84 (rmC h f1 3 x2.toNat * 9 + rmC h f1 2 x2.toNat).toNat = h 84 (rmC h f1 3 i * 9 + rmC h f1 2 i).toNat then o_or s (o_shl 1 i) else s) (rmC h f1 0 3).toNat 0 0))) h) :
    Wp true i_Is_thingsWith 0 [vr 82, vr f1, vi x2, vr 9999, vr 9999] [] h Q := by
  have w := WC_0 o1
  have d0 := cdim (rfl : rmC h f1 = rmC h f1)
  obtain ⟨w1, w2, -⟩ := o1.2.2.1 x2.toNat (by omega)
  refine g_Is_thingsWith_0 h_f1 ?_
  have key : ∀ (d i : Nat) (s : Int), ((i : Int) + d = h f1 3 ∨ (d = 0 ∧ h f1 3 ≤ i)) → (True) → Q (some (vi (fld (fun i s => if h 84 (rmC h f1 3 x2.toNat * 9 + rmC h f1 2 x2.toNat).toNat = h 84 (rmC h f1 3 i * 9 + rmC h f1 2 i).toNat then o_or s (o_shl 1 i) else s) d i s))) h → Wp true i_Is_thingsWith 5 [vr 82, vr f1, vi x2, vi s, vi (i : Int)] [] h Q := by
    intro d
    induction d with
    | zero =>
      intro i s e hi kk
      simp only [fld, sumF, Int.add_zero] at kk
      refine g_Is_thingsWith_5 h_f1 ?_ ?_ ?_ ?_ ?_ ?_ ?_ ?_ ?_ ?_
      · intro c1; (try simp only [Int.toNat_natCast] at c1); first | (exfalso; omega) | exact absurd trivial ‹¬ True› | (exact kk)
      · intro c1; (try simp only [Int.toNat_natCast] at c1); first | omega | (exfalso; omega) | exact ⟨by omega, by omega⟩ | (first | exact o1 | exact o2 | (rw [ei]; omega)) | exact absurd trivial ‹¬ True›
      · intro c1; (try simp only [Int.toNat_natCast] at c1); first | omega | (exfalso; omega) | exact ⟨by omega, by omega⟩ | (first | exact o1 | exact o2 | (rw [ei]; omega)) | exact absurd trivial ‹¬ True›
      · intro c1; (try simp only [Int.toNat_natCast] at c1); first | omega | (exfalso; omega) | exact ⟨by omega, by omega⟩ | (first | exact o1 | exact o2 | (rw [ei]; omega)) | exact absurd trivial ‹¬ True›
      · intro c1; (try simp only [Int.toNat_natCast] at c1); first | omega | (exfalso; omega) | exact ⟨by omega, by omega⟩ | (first | exact o1 | exact o2 | (rw [ei]; omega)) | exact absurd trivial ‹¬ True›
      · intro c1; (try simp only [Int.toNat_natCast] at c1); first | omega | (exfalso; omega) | exact ⟨by omega, by omega⟩ | (first | exact o1 | exact o2 | (rw [ei]; omega)) | exact absurd trivial ‹¬ True›
      · intro c1 c2; (try simp only [Int.toNat_natCast] at c1 c2); first | omega | (exfalso; omega) | exact ⟨by omega, by omega⟩ | (first | exact o1 | exact o2 | (rw [ei]; omega)) | exact absurd trivial ‹¬ True›
      · intro c1 c2; (try simp only [Int.toNat_natCast] at c1 c2); first | (exfalso; omega) | exact absurd trivial ‹¬ True› | (skip)
      · intro c1 c2; (try simp only [Int.toNat_natCast] at c1 c2); first | omega | (exfalso; omega) | exact ⟨by omega, by omega⟩ | (first | exact o1 | exact o2 | (rw [ei]; omega)) | exact absurd trivial ‹¬ True›
      · intro c1 c2; (try simp only [Int.toNat_natCast] at c1 c2); first | (exfalso; omega) | exact absurd trivial ‹¬ True› | (skip)
    | succ d ih =>
      intro i s e hi kk
      obtain ⟨v1, v2, -⟩ := o1.2.2.1 i (by omega)
      have ei : ((i : Int)).toNat = i := Int.toNat_natCast i
      refine g_Is_thingsWith_5 h_f1 ?_ ?_ ?_ ?_ ?_ ?_ ?_ ?_ ?_ ?_
      · intro c1; (try simp only [Int.toNat_natCast] at c1); first | (exfalso; omega) | exact absurd trivial ‹¬ True› | (skip)
      · intro c1; (try simp only [Int.toNat_natCast] at c1); first | omega | (exfalso; omega) | exact ⟨by omega, by omega⟩ | (first | exact o1 | exact o2 | (rw [ei]; omega)) | exact absurd trivial ‹¬ True›
      · intro c1; (try simp only [Int.toNat_natCast] at c1); first | omega | (exfalso; omega) | exact ⟨by omega, by omega⟩ | (first | exact o1 | exact o2 | (rw [ei]; omega)) | exact absurd trivial ‹¬ True›
      · intro c1; (try simp only [Int.toNat_natCast] at c1); first | omega | (exfalso; omega) | exact ⟨by omega, by omega⟩ | (first | exact o1 | exact o2 | (rw [ei]; omega)) | exact absurd trivial ‹¬ True›
      · intro c1; (try simp only [Int.toNat_natCast] at c1); first | omega | (exfalso; omega) | exact ⟨by omega, by omega⟩ | (first | exact o1 | exact o2 | (rw [ei]; omega)) | exact absurd trivial ‹¬ True›
      · intro c1; (try simp only [Int.toNat_natCast] at c1); first | omega | (exfalso; omega) | exact ⟨by omega, by omega⟩ | (first | exact o1 | exact o2 | (rw [ei]; omega)) | exact absurd trivial ‹¬ True›
      · intro c1 c2; (try simp only [Int.toNat_natCast] at c1 c2); first | omega | (exfalso; omega) | exact ⟨by omega, by omega⟩ | (first | exact o1 | exact o2 | (rw [ei]; omega)) | exact absurd trivial ‹¬ True›
      · intro c1 c2; (try simp only [Int.toNat_natCast] at c1 c2); first | (exfalso; omega) | exact absurd trivial ‹¬ True› | (simp only [fld, if_neg c2] at kk; exact ih (i + 1) _ (by omega) (trivial) kk)
      · intro c1 c2; (try simp only [Int.toNat_natCast] at c1 c2); first | omega | (exfalso; omega) | exact ⟨by omega, by omega⟩ | (first | exact o1 | exact o2 | (rw [ei]; omega)) | exact absurd trivial ‹¬ True›
      · intro c1 c2; (try simp only [Int.toNat_natCast] at c1 c2); first | (exfalso; omega) | exact absurd trivial ‹¬ True› | (simp only [fld, if_pos c2] at kk; exact ih (i + 1) _ (by omega) (trivial) kk)
  refine key (h f1 3).toNat 0 0 (by omega) (trivial) ?_
  exact k

theorem g_C_islands_0 {Q : PQ} {h : HP} {x1 : Int} 
    (k1 : (x1 = 0 ∨ x1 = 1) → Wp true i_Is_survey 0 [vr 82, vr 10, vr 9999, vr 9999, vr 9999] [] h (fun r h' => Wp true i_C_islands 24 [vr 0, vi x1] (r.toList ++ []) h' Q))
    (k2 : ¬ (x1 = 0 ∨ x1 = 1) → Q (some (vi (-1))) (hs h 0 0 1)) :
    Wp true i_C_islands 0 [vr 0, vi x1] [] h Q := by
  refine r_iload_n (v := x1) f_178_0 rfl ?_
  refine r_calls (as := [vi x1]) (st' := []) (ls0 := [vi x1]) f_178_1 (by decide) (by decide) rfl rfl (Nat.le_of_ble_eq_true rfl) (Nat.le_of_ble_eq_true rfl) rfl ?_
  refine c_C_isLand  ?_
  show Wp true i_C_islands 4 [vr 0, vi x1] [vi (bi (x1 = 0 ∨ x1 = 1))] h Q
  refine r_br (t := 13) f_178_4 rfl cb_bt (fun c1 => ?_) (fun c1 => ?_)
  · refine r_aload_n (v := 0) f_178_13 rfl (by decide) ?_
    refine r_getr (q := 82) f_178_14 rfl (by decide) (Or.inl rfl) rfl ?_
    refine r_aload_n (v := 0) f_178_17 rfl (by decide) ?_
    refine r_getr (q := 10) f_178_18 rfl (by decide) (Or.inl rfl) rfl ?_
    exact r_callv (as := [vr 82, vr 10]) (st' := []) (ls0 := [vr 82, vr 10, vr 9999, vr 9999, vr 9999]) f_178_21 (by decide) rfl rfl (Nat.le_of_ble_eq_true rfl) (Nat.le_of_ble_eq_true rfl) ⟨_, _, rfl, rfl⟩ rfl (k1 c1)
  · refine r_aload_n (v := 0) f_178_7 rfl (by decide) ?_
    refine r_iconst f_178_8 (by decide) ?_
    refine r_callv (as := [vr 0, vi 1]) (st' := []) (ls0 := [vr 0, vi 1]) f_178_9 (by decide) rfl rfl (Nat.le_of_ble_eq_true rfl) (Nat.le_of_ble_eq_true rfl) ⟨_, _, rfl, rfl⟩ rfl ?_
    refine c_C_refuse  ?_
    show Wp true i_C_islands 12 [vr 0, vi x1] [vi (-1)] (hs h 0 0 1) Q
    exact r_reti f_178_12 rfl (k2 c1)

theorem g_C_islands_24 {Q : PQ} {h : HP} {x1 : Int} 
    (o1 : 0 ≤ h 82 4 ∧ h 82 4 ≤ 63)
    (k2 : Q (some (vi (sumF (fun k => if h 85 k = x1 then 1 else 0) (h 82 4).toNat 0))) (hs h 0 0 0)) :
    Wp true i_C_islands 24 [vr 0, vi x1] [] h Q := by
  refine r_aload_n (v := 0) f_178_24 rfl (by decide) ?_
  refine r_aload_n (v := 0) f_178_25 rfl (by decide) ?_
  refine r_getr (q := 82) f_178_26 rfl (by decide) (Or.inl rfl) rfl ?_
  refine r_iload_n (v := x1) f_178_29 rfl ?_
  refine r_callv (as := [vr 82, vi x1]) (st' := [vr 0]) (ls0 := [vr 82, vi x1, vr 9999, vr 9999]) f_178_30 (by decide) rfl rfl (Nat.le_of_ble_eq_true rfl) (Nat.le_of_ble_eq_true rfl) ⟨_, _, rfl, rfl⟩ rfl ?_
  refine c_Is_countOf o1 ?_
  show Wp true i_C_islands 33 [vr 0, vi x1] [vi (sumF (fun k => if h 85 k = x1 then 1 else 0) (h 82 4).toNat 0), vr 0] h Q
  refine r_callv (as := [vr 0, vi (sumF (fun k => if h 85 k = x1 then 1 else 0) (h 82 4).toNat 0)]) (st' := []) (ls0 := [vr 0, vi (sumF (fun k => if h 85 k = x1 then 1 else 0) (h 82 4).toNat 0)]) f_178_33 (by decide) rfl rfl (Nat.le_of_ble_eq_true rfl) (Nat.le_of_ble_eq_true rfl) ⟨_, _, rfl, rfl⟩ rfl ?_
  refine c_C_answer  ?_
  show Wp true i_C_islands 36 [vr 0, vi x1] [vi (sumF (fun k => if h 85 k = x1 then 1 else 0) (h 82 4).toNat 0)] (hs h 0 0 0) Q
  exact r_reti f_178_36 rfl k2

theorem g_M_islands_0 {Q : PQ} {h : HP} {x1 : Int} 
    (k1 : ¬ (x1 = 0 ∨ x1 = 1) → Q (some (vi (-1))) (hs h 103 2 1))
    (k2 : (x1 = 0 ∨ x1 = 1) → Wp true i_M_laysIslands 0 [vr 103, vi x1, vi (-1), vr 9999, vr 9999, vr 9999, vr 9999, vr 9999, vr 9999] [] h (fun r h' => Wp true i_M_islands 14 [vr 103, vi x1] (r.toList ++ [vr 103]) h' Q)) :
    Wp true i_M_islands 0 [vr 103, vi x1] [] h Q := by
  refine r_iload_n (v := x1) f_318_0 rfl ?_
  refine r_calls (as := [vi x1]) (st' := []) (ls0 := [vi x1]) f_318_1 (by decide) (by decide) rfl rfl (Nat.le_of_ble_eq_true rfl) (Nat.le_of_ble_eq_true rfl) rfl ?_
  refine c_M_isLand  ?_
  show Wp true i_M_islands 4 [vr 103, vi x1] [vi (bi (x1 = 0 ∨ x1 = 1))] h Q
  refine r_br (t := 20) f_318_4 rfl cb_bf (fun c1 => ?_) (fun c1 => ?_)
  · refine r_aload_n (v := 103) f_318_20 rfl (by decide) ?_
    refine r_iconst f_318_21 (by decide) ?_
    refine r_callv (as := [vr 103, vi 1]) (st' := []) (ls0 := [vr 103, vi 1]) f_318_22 (by decide) rfl rfl (Nat.le_of_ble_eq_true rfl) (Nat.le_of_ble_eq_true rfl) ⟨_, _, rfl, rfl⟩ rfl ?_
    refine c_M_refuse  ?_
    show Wp true i_M_islands 25 [vr 103, vi x1] [vi (-1)] (hs h 103 2 1) Q
    exact r_reti f_318_25 rfl (k1 c1)
  · have c1 := Decidable.not_not.mp c1
    refine r_aload_n (v := 103) f_318_7 rfl (by decide) ?_
    refine r_aload_n (v := 103) f_318_8 rfl (by decide) ?_
    refine r_iload_n (v := x1) f_318_9 rfl ?_
    refine r_iconst f_318_10 (by decide) ?_
    exact r_callv (as := [vr 103, vi x1, vi (-1)]) (st' := [vr 103]) (ls0 := [vr 103, vi x1, vi (-1), vr 9999, vr 9999, vr 9999, vr 9999, vr 9999, vr 9999]) f_318_11 (by decide) rfl rfl (Nat.le_of_ble_eq_true rfl) (Nat.le_of_ble_eq_true rfl) ⟨_, _, rfl, rfl⟩ rfl (k2 c1)

theorem g_M_islands_14 {Q : PQ} {h : HP} {x1 : Int} {s1 : Int} 
    (k1 : Q (some (vi s1)) (hs h 103 2 0)) :
    Wp true i_M_islands 14 [vr 103, vi x1] [vi s1, vr 103] h Q := by
  refine r_callv (as := [vr 103, vi s1]) (st' := []) (ls0 := [vr 103, vi s1]) f_318_14 (by decide) rfl rfl (Nat.le_of_ble_eq_true rfl) (Nat.le_of_ble_eq_true rfl) ⟨_, _, rfl, rfl⟩ rfl ?_
  refine c_M_gives  ?_
  show Wp true i_M_islands 17 [vr 103, vi x1] [vi s1] (hs h 103 2 0) Q
  refine r_goto (t := 25) f_318_17 rfl ?_
  exact r_reti f_318_25 rfl k1

theorem g_C_island_0 {Q : PQ} {h : HP} {x1 : Int} {x2 : Int} 
    (k1 : (0 ≤ x1 ∧ x1 < h 10 0 ∧ 0 ≤ x2 ∧ x2 < h 10 1) → Wp true i_Is_survey 0 [vr 82, vr 10, vr 9999, vr 9999, vr 9999] [] h (fun r h' => Wp true i_C_island 29 [vr 0, vi x1, vi x2] (r.toList ++ []) h' Q))
    (k2 : ¬ (0 ≤ x1 ∧ x1 < h 10 0 ∧ 0 ≤ x2 ∧ x2 < h 10 1) → Q (some (vi (-1))) (hs h 0 0 1)) :
    Wp true i_C_island 0 [vr 0, vi x1, vi x2] [] h Q := by
  refine r_aload_n (v := 0) f_179_0 rfl (by decide) ?_
  refine r_getr (q := 10) f_179_1 rfl (by decide) (Or.inl rfl) rfl ?_
  refine r_iload_n (v := x1) f_179_4 rfl ?_
  refine r_iload_n (v := x2) f_179_5 rfl ?_
  refine r_callv (as := [vr 10, vi x1, vi x2]) (st' := []) (ls0 := [vr 10, vi x1, vi x2]) f_179_6 (by decide) rfl rfl (Nat.le_of_ble_eq_true rfl) (Nat.le_of_ble_eq_true rfl) ⟨_, _, rfl, rfl⟩ rfl ?_
  refine c_Fl_hasBoard isF_10 ?_
  show Wp true i_C_island 9 [vr 0, vi x1, vi x2] [vi (bi (0 ≤ x1 ∧ x1 < h 10 0 ∧ 0 ≤ x2 ∧ x2 < h 10 1))] h Q
  refine r_br (t := 18) f_179_9 rfl cb_bt (fun c1 => ?_) (fun c1 => ?_)
  · refine r_aload_n (v := 0) f_179_18 rfl (by decide) ?_
    refine r_getr (q := 82) f_179_19 rfl (by decide) (Or.inl rfl) rfl ?_
    refine r_aload_n (v := 0) f_179_22 rfl (by decide) ?_
    refine r_getr (q := 10) f_179_23 rfl (by decide) (Or.inl rfl) rfl ?_
    exact r_callv (as := [vr 82, vr 10]) (st' := []) (ls0 := [vr 82, vr 10, vr 9999, vr 9999, vr 9999]) f_179_26 (by decide) rfl rfl (Nat.le_of_ble_eq_true rfl) (Nat.le_of_ble_eq_true rfl) ⟨_, _, rfl, rfl⟩ rfl (k1 c1)
  · refine r_aload_n (v := 0) f_179_12 rfl (by decide) ?_
    refine r_iconst f_179_13 (by decide) ?_
    refine r_callv (as := [vr 0, vi 1]) (st' := []) (ls0 := [vr 0, vi 1]) f_179_14 (by decide) rfl rfl (Nat.le_of_ble_eq_true rfl) (Nat.le_of_ble_eq_true rfl) ⟨_, _, rfl, rfl⟩ rfl ?_
    refine c_C_refuse  ?_
    show Wp true i_C_island 17 [vr 0, vi x1, vi x2] [vi (-1)] (hs h 0 0 1) Q
    exact r_reti f_179_17 rfl (k2 c1)

theorem g_C_island_29 {Q : PQ} {h : HP} {x1 : Int} {x2 : Int} 
    (o1 : 0 ≤ x1 ∧ x1 < 100)
    (o2 : 0 ≤ x2 ∧ x2 < 100)
    (o3 : 0 ≤ (x2 * 9 + x1) ∧ (x2 * 9 + x1) < 63)
    (o4 : 0 ≤ h 84 (x2 * 9 + x1).toNat ∧ h 84 (x2 * 9 + x1).toNat < 63)
    (k5 : Q (some (vi (h 86 (h 84 (x2 * 9 + x1).toNat).toNat))) (hs h 0 0 0)) :
    Wp true i_C_island 29 [vr 0, vi x1, vi x2] [] h Q := by
  refine r_aload_n (v := 0) f_179_29 rfl (by decide) ?_
  refine r_aload_n (v := 0) f_179_30 rfl (by decide) ?_
  refine r_getr (q := 82) f_179_31 rfl (by decide) (Or.inl rfl) rfl ?_
  refine r_iload_n (v := x1) f_179_34 rfl ?_
  refine r_iload_n (v := x2) f_179_35 rfl ?_
  refine r_calls (as := [vi x1, vi x2]) (st' := [vr 82, vr 0]) (ls0 := [vi x1, vi x2]) f_179_36 (by decide) (by decide) rfl rfl (Nat.le_of_ble_eq_true rfl) (Nat.le_of_ble_eq_true rfl) rfl ?_
  refine c_C_boardNumber o1 o2 ?_
  show Wp true i_C_island 39 [vr 0, vi x1, vi x2] [vi (x2 * 9 + x1), vr 82, vr 0] h Q
  refine r_callv (as := [vr 82, vi (x2 * 9 + x1)]) (st' := [vr 0]) (ls0 := [vr 82, vi (x2 * 9 + x1)]) f_179_39 (by decide) rfl rfl (Nat.le_of_ble_eq_true rfl) (Nat.le_of_ble_eq_true rfl) ⟨_, _, rfl, rfl⟩ rfl ?_
  refine c_Is_extentAt o3 o4 ?_
  show Wp true i_C_island 42 [vr 0, vi x1, vi x2] [vi (h 86 (h 84 (x2 * 9 + x1).toNat).toNat), vr 0] h Q
  refine r_callv (as := [vr 0, vi (h 86 (h 84 (x2 * 9 + x1).toNat).toNat)]) (st' := []) (ls0 := [vr 0, vi (h 86 (h 84 (x2 * 9 + x1).toNat).toNat)]) f_179_42 (by decide) rfl rfl (Nat.le_of_ble_eq_true rfl) (Nat.le_of_ble_eq_true rfl) ⟨_, _, rfl, rfl⟩ rfl ?_
  refine c_C_answer  ?_
  show Wp true i_C_island 45 [vr 0, vi x1, vi x2] [vi (h 86 (h 84 (x2 * 9 + x1).toNat).toNat)] (hs h 0 0 0) Q
  exact r_reti f_179_45 rfl k5

theorem g_M_island_0 {Q : PQ} {h : HP} {x1 : Int} {x2 : Int} 
    (o1 : (0 ≤ x1 ∧ x1 < h 104 0 ∧ 0 ≤ x2 ∧ x2 < h 104 1) → WR (rmM h 0))
    (o2 : (0 ≤ x1 ∧ x1 < h 104 0 ∧ 0 ≤ x2 ∧ x2 < h 104 1) → 0 ≤ x2 ∧ x2 < h 104 1)
    (k3 : (0 ≤ x1 ∧ x1 < h 104 0 ∧ 0 ≤ x2 ∧ x2 < h 104 1) → Wp true i_M_laysIslands 0 [vr 103, vi (rLand (rmM h 0) x1 x2), vi (-1), vr 9999, vr 9999, vr 9999, vr 9999, vr 9999, vr 9999] [] h (fun r h' => Wp true i_M_island 26 [vr 103, vi x1, vi x2] (r.toList ++ []) h' Q))
    (k4 : ¬ (0 ≤ x1 ∧ x1 < h 104 0 ∧ 0 ≤ x2 ∧ x2 < h 104 1) → Q (some (vi (-1))) (hs h 103 2 1)) :
    Wp true i_M_island 0 [vr 103, vi x1, vi x2] [] h Q := by
  refine r_aload_n (v := 103) f_319_0 rfl (by decide) ?_
  refine r_iload_n (v := x1) f_319_1 rfl ?_
  refine r_iload_n (v := x2) f_319_2 rfl ?_
  refine r_callv (as := [vr 103, vi x1, vi x2]) (st' := []) (ls0 := [vr 103, vi x1, vi x2]) f_319_3 (by decide) rfl rfl (Nat.le_of_ble_eq_true rfl) (Nat.le_of_ble_eq_true rfl) ⟨_, _, rfl, rfl⟩ rfl ?_
  refine c_M_isBoard  ?_
  show Wp true i_M_island 6 [vr 103, vi x1, vi x2] [vi (bi (0 ≤ x1 ∧ x1 < h 104 0 ∧ 0 ≤ x2 ∧ x2 < h 104 1))] h Q
  refine r_br (t := 15) f_319_6 rfl cb_bt (fun c1 => ?_) (fun c1 => ?_)
  · refine r_aload_n (v := 103) f_319_15 rfl (by decide) ?_
    refine r_aload_n (v := 103) f_319_16 rfl (by decide) ?_
    refine r_iload_n (v := x1) f_319_17 rfl ?_
    refine r_iload_n (v := x2) f_319_18 rfl ?_
    refine r_callv (as := [vr 103, vi x1, vi x2]) (st' := [vr 103]) (ls0 := [vr 103, vi x1, vi x2, vr 9999]) f_319_19 (by decide) rfl rfl (Nat.le_of_ble_eq_true rfl) (Nat.le_of_ble_eq_true rfl) ⟨_, _, rfl, rfl⟩ rfl ?_
    refine c_M_landOf (o1 c1) (o2 c1) ?_
    show Wp true i_M_island 22 [vr 103, vi x1, vi x2] [vi (rLand (rmM h 0) x1 x2), vr 103] h Q
    refine r_iconst f_319_22 (by decide) ?_
    exact r_callv (as := [vr 103, vi (rLand (rmM h 0) x1 x2), vi (-1)]) (st' := []) (ls0 := [vr 103, vi (rLand (rmM h 0) x1 x2), vi (-1), vr 9999, vr 9999, vr 9999, vr 9999, vr 9999, vr 9999]) f_319_23 (by decide) rfl rfl (Nat.le_of_ble_eq_true rfl) (Nat.le_of_ble_eq_true rfl) ⟨_, _, rfl, rfl⟩ rfl (k3 c1)
  · refine r_aload_n (v := 103) f_319_9 rfl (by decide) ?_
    refine r_iconst f_319_10 (by decide) ?_
    refine r_callv (as := [vr 103, vi 1]) (st' := []) (ls0 := [vr 103, vi 1]) f_319_11 (by decide) rfl rfl (Nat.le_of_ble_eq_true rfl) (Nat.le_of_ble_eq_true rfl) ⟨_, _, rfl, rfl⟩ rfl ?_
    refine c_M_refuse  ?_
    show Wp true i_M_island 14 [vr 103, vi x1, vi x2] [vi (-1)] (hs h 103 2 1) Q
    exact r_reti f_319_14 rfl (k4 c1)

theorem g_M_island_26 {Q : PQ} {h : HP} {x1 : Int} {x2 : Int} {s0 : Int} 
    (o1 : -2147483648 ≤ 10 * x2 ∧ 10 * x2 ≤ 2147483647)
    (o2 : -2147483648 ≤ (10 * x2) + x1 ∧ (10 * x2) + x1 ≤ 2147483647)
    (o3 : 0 ≤ (10 * x2) + x1 ∧ (10 * x2) + x1 < 70)
    (k4 : Q (some (vi (sumF (fun m => if h 112 m = (h 112 ((10 * x2) + x1).toNat) then 1 else 0) 70 0))) (hs h 103 2 0)) :
    Wp true i_M_island 26 [vr 103, vi x1, vi x2] [vi s0] h Q := by
  refine r_popi f_319_26 ?_
  refine r_aload_n (v := 103) f_319_27 rfl (by decide) ?_
  refine r_aload_n (v := 103) f_319_28 rfl (by decide) ?_
  refine r_aload_n (v := 103) f_319_29 rfl (by decide) ?_
  refine r_getr (q := 112) f_319_30 rfl (by decide) (Or.inl rfl) rfl ?_
  refine r_bipush f_319_33 (by decide) ?_
  refine r_iload_n (v := x2) f_319_35 rfl ?_
  refine r_imul (u := 10 * x2) f_319_36 rfl o1 ?_
  refine r_iload_n (v := x1) f_319_37 rfl ?_
  refine r_iadd (u := (10 * x2) + x1) f_319_38 rfl o2 ?_
  refine r_iaload (n := 70) (v := h 112 ((10 * x2) + x1).toNat) f_319_39 ⟨rfl, rfl⟩ o3 rfl ?_
  refine r_callv (as := [vr 103, vi (h 112 ((10 * x2) + x1).toNat)]) (st' := [vr 103]) (ls0 := [vr 103, vi (h 112 ((10 * x2) + x1).toNat), vr 9999, vr 9999]) f_319_40 (by decide) rfl rfl (Nat.le_of_ble_eq_true rfl) (Nat.le_of_ble_eq_true rfl) ⟨_, _, rfl, rfl⟩ rfl ?_
  refine c_M_sizeOf  ?_
  show Wp true i_M_island 43 [vr 103, vi x1, vi x2] [vi (sumF (fun m => if h 112 m = (h 112 ((10 * x2) + x1).toNat) then 1 else 0) 70 0), vr 103] h Q
  refine r_callv (as := [vr 103, vi (sumF (fun m => if h 112 m = (h 112 ((10 * x2) + x1).toNat) then 1 else 0) 70 0)]) (st' := []) (ls0 := [vr 103, vi (sumF (fun m => if h 112 m = (h 112 ((10 * x2) + x1).toNat) then 1 else 0) 70 0)]) f_319_43 (by decide) rfl rfl (Nat.le_of_ble_eq_true rfl) (Nat.le_of_ble_eq_true rfl) ⟨_, _, rfl, rfl⟩ rfl ?_
  refine c_M_gives  ?_
  show Wp true i_M_island 46 [vr 103, vi x1, vi x2] [vi (sumF (fun m => if h 112 m = (h 112 ((10 * x2) + x1).toNat) then 1 else 0) 70 0)] (hs h 103 2 0) Q
  exact r_reti f_319_46 rfl k4

theorem g_C_mainland_0 {Q : PQ} {h : HP} {x1 : Int} 
    (k1 : (x1 = 0 ∨ x1 = 1) → Wp true i_Is_survey 0 [vr 82, vr 10, vr 9999, vr 9999, vr 9999] [] h (fun r h' => Wp true i_C_mainland 24 [vr 0, vi x1] (r.toList ++ []) h' Q))
    (k2 : ¬ (x1 = 0 ∨ x1 = 1) → Q (some (vi (-1))) (hs h 0 0 1)) :
    Wp true i_C_mainland 0 [vr 0, vi x1] [] h Q := by
  refine r_iload_n (v := x1) f_180_0 rfl ?_
  refine r_calls (as := [vi x1]) (st' := []) (ls0 := [vi x1]) f_180_1 (by decide) (by decide) rfl rfl (Nat.le_of_ble_eq_true rfl) (Nat.le_of_ble_eq_true rfl) rfl ?_
  refine c_C_isLand  ?_
  show Wp true i_C_mainland 4 [vr 0, vi x1] [vi (bi (x1 = 0 ∨ x1 = 1))] h Q
  refine r_br (t := 13) f_180_4 rfl cb_bt (fun c1 => ?_) (fun c1 => ?_)
  · refine r_aload_n (v := 0) f_180_13 rfl (by decide) ?_
    refine r_getr (q := 82) f_180_14 rfl (by decide) (Or.inl rfl) rfl ?_
    refine r_aload_n (v := 0) f_180_17 rfl (by decide) ?_
    refine r_getr (q := 10) f_180_18 rfl (by decide) (Or.inl rfl) rfl ?_
    exact r_callv (as := [vr 82, vr 10]) (st' := []) (ls0 := [vr 82, vr 10, vr 9999, vr 9999, vr 9999]) f_180_21 (by decide) rfl rfl (Nat.le_of_ble_eq_true rfl) (Nat.le_of_ble_eq_true rfl) ⟨_, _, rfl, rfl⟩ rfl (k1 c1)
  · refine r_aload_n (v := 0) f_180_7 rfl (by decide) ?_
    refine r_iconst f_180_8 (by decide) ?_
    refine r_callv (as := [vr 0, vi 1]) (st' := []) (ls0 := [vr 0, vi 1]) f_180_9 (by decide) rfl rfl (Nat.le_of_ble_eq_true rfl) (Nat.le_of_ble_eq_true rfl) ⟨_, _, rfl, rfl⟩ rfl ?_
    refine c_C_refuse  ?_
    show Wp true i_C_mainland 12 [vr 0, vi x1] [vi (-1)] (hs h 0 0 1) Q
    exact r_reti f_180_12 rfl (k2 c1)

theorem g_C_mainland_24 {Q : PQ} {h : HP} {x1 : Int} 
    (o1 : 0 ≤ h 82 4 ∧ h 82 4 ≤ 63)
    (k2 : Q (some (vi (fld (fun k s => if h 85 k = x1 then max s (h 86 k) else s) (h 82 4).toNat 0 0))) (hs h 0 0 0)) :
    Wp true i_C_mainland 24 [vr 0, vi x1] [] h Q := by
  refine r_aload_n (v := 0) f_180_24 rfl (by decide) ?_
  refine r_aload_n (v := 0) f_180_25 rfl (by decide) ?_
  refine r_getr (q := 82) f_180_26 rfl (by decide) (Or.inl rfl) rfl ?_
  refine r_iload_n (v := x1) f_180_29 rfl ?_
  refine r_callv (as := [vr 82, vi x1]) (st' := [vr 0]) (ls0 := [vr 82, vi x1, vr 9999, vr 9999]) f_180_30 (by decide) rfl rfl (Nat.le_of_ble_eq_true rfl) (Nat.le_of_ble_eq_true rfl) ⟨_, _, rfl, rfl⟩ rfl ?_
  refine c_Is_greatestOf o1 ?_
  show Wp true i_C_mainland 33 [vr 0, vi x1] [vi (fld (fun k s => if h 85 k = x1 then max s (h 86 k) else s) (h 82 4).toNat 0 0), vr 0] h Q
  refine r_callv (as := [vr 0, vi (fld (fun k s => if h 85 k = x1 then max s (h 86 k) else s) (h 82 4).toNat 0 0)]) (st' := []) (ls0 := [vr 0, vi (fld (fun k s => if h 85 k = x1 then max s (h 86 k) else s) (h 82 4).toNat 0 0)]) f_180_33 (by decide) rfl rfl (Nat.le_of_ble_eq_true rfl) (Nat.le_of_ble_eq_true rfl) ⟨_, _, rfl, rfl⟩ rfl ?_
  refine c_C_answer  ?_
  show Wp true i_C_mainland 36 [vr 0, vi x1] [vi (fld (fun k s => if h 85 k = x1 then max s (h 86 k) else s) (h 82 4).toNat 0 0)] (hs h 0 0 0) Q
  exact r_reti f_180_36 rfl k2

theorem g_M_mainland_0 {Q : PQ} {h : HP} {x1 : Int} 
    (k1 : (x1 = 0 ∨ x1 = 1) → Wp true i_M_laysIslands 0 [vr 103, vi x1, vi (-1), vr 9999, vr 9999, vr 9999, vr 9999, vr 9999, vr 9999] [] h (fun r h' => Wp true i_M_mainland 21 [vr 103, vi x1, vi 0, vr 9999, vr 9999] (r.toList ++ []) h' Q))
    (k2 : ¬ (x1 = 0 ∨ x1 = 1) → Q (some (vi (-1))) (hs h 103 2 1)) :
    Wp true i_M_mainland 0 [vr 103, vi x1, vr 9999, vr 9999, vr 9999] [] h Q := by
  refine r_iload_n (v := x1) f_320_0 rfl ?_
  refine r_calls (as := [vi x1]) (st' := []) (ls0 := [vi x1]) f_320_1 (by decide) (by decide) rfl rfl (Nat.le_of_ble_eq_true rfl) (Nat.le_of_ble_eq_true rfl) rfl ?_
  refine c_M_isLand  ?_
  show Wp true i_M_mainland 4 [vr 103, vi x1, vr 9999, vr 9999, vr 9999] [vi (bi (x1 = 0 ∨ x1 = 1))] h Q
  refine r_br (t := 13) f_320_4 rfl cb_bt (fun c1 => ?_) (fun c1 => ?_)
  · refine r_iconst f_320_13 (by decide) ?_
    refine r_istore_n (ls' := [vr 103, vi x1, vi 0, vr 9999, vr 9999]) f_320_14 (Nat.le_of_ble_eq_true rfl) rfl ?_
    refine r_aload_n (v := 103) f_320_15 rfl (by decide) ?_
    refine r_iload_n (v := x1) f_320_16 rfl ?_
    refine r_iconst f_320_17 (by decide) ?_
    exact r_callv (as := [vr 103, vi x1, vi (-1)]) (st' := []) (ls0 := [vr 103, vi x1, vi (-1), vr 9999, vr 9999, vr 9999, vr 9999, vr 9999, vr 9999]) f_320_18 (by decide) rfl rfl (Nat.le_of_ble_eq_true rfl) (Nat.le_of_ble_eq_true rfl) ⟨_, _, rfl, rfl⟩ rfl (k1 c1)
  · refine r_aload_n (v := 103) f_320_7 rfl (by decide) ?_
    refine r_iconst f_320_8 (by decide) ?_
    refine r_callv (as := [vr 103, vi 1]) (st' := []) (ls0 := [vr 103, vi 1]) f_320_9 (by decide) rfl rfl (Nat.le_of_ble_eq_true rfl) (Nat.le_of_ble_eq_true rfl) ⟨_, _, rfl, rfl⟩ rfl ?_
    refine c_M_refuse  ?_
    show Wp true i_M_mainland 12 [vr 103, vi x1, vr 9999, vr 9999, vr 9999] [vi (-1)] (hs h 103 2 1) Q
    exact r_reti f_320_12 rfl (k2 c1)

theorem g_M_mainland_21 {Q : PQ} {h : HP} {x1 : Int} {x2 : Int} {s0 : Int} 
    (k1 : Wp true i_M_mainland 25 [vr 103, vi x1, vi x2, vi s0, vi 0] [] h Q) :
    Wp true i_M_mainland 21 [vr 103, vi x1, vi x2, vr 9999, vr 9999] [vi s0] h Q := by
  refine r_istore_n (ls' := [vr 103, vi x1, vi x2, vi s0, vr 9999]) f_320_21 (Nat.le_of_ble_eq_true rfl) rfl ?_
  refine r_iconst f_320_22 (by decide) ?_
  refine r_istore (ls' := [vr 103, vi x1, vi x2, vi s0, vi 0]) f_320_23 (Nat.le_of_ble_eq_true rfl) rfl ?_
  exact k1

theorem g_M_mainland_25 {Q : PQ} {h : HP} {x1 : Int} {x2 : Int} {x3 : Int} {x4 : Int} 
    (k1 : x3 ≤ x4 → Q (some (vi x2)) (hs h 103 2 0))
    (o2 : ¬ x3 ≤ x4 → -2147483648 ≤ x4 + 1 ∧ x4 + 1 ≤ 2147483647)
    (k3 : ¬ x3 ≤ x4 → Wp true i_M_mainland 25 [vr 103, vi x1, vi (max x2 (sumF (fun m => if h 112 m = x4 then 1 else 0) 70 0)), vi x3, vi (x4 + 1)] [] h Q) :
    Wp true i_M_mainland 25 [vr 103, vi x1, vi x2, vi x3, vi x4] [] h Q := by
  refine r_iload (v := x4) f_320_25 rfl ?_
  refine r_iload_n (v := x3) f_320_27 rfl ?_
  refine r_br2 (t := 48) f_320_28 rfl cb_ge (fun c1 => ?_) (fun c1 => ?_)
  · refine r_aload_n (v := 103) f_320_48 rfl (by decide) ?_
    refine r_iload_n (v := x2) f_320_49 rfl ?_
    refine r_callv (as := [vr 103, vi x2]) (st' := []) (ls0 := [vr 103, vi x2]) f_320_50 (by decide) rfl rfl (Nat.le_of_ble_eq_true rfl) (Nat.le_of_ble_eq_true rfl) ⟨_, _, rfl, rfl⟩ rfl ?_
    refine c_M_gives  ?_
    show Wp true i_M_mainland 53 [vr 103, vi x1, vi x2, vi x3, vi x4] [vi x2] (hs h 103 2 0) Q
    exact r_reti f_320_53 rfl (k1 c1)
  · refine r_iload_n (v := x2) f_320_31 rfl ?_
    refine r_aload_n (v := 103) f_320_32 rfl (by decide) ?_
    refine r_iload (v := x4) f_320_33 rfl ?_
    refine r_callv (as := [vr 103, vi x4]) (st' := [vi x2]) (ls0 := [vr 103, vi x4, vr 9999, vr 9999]) f_320_35 (by decide) rfl rfl (Nat.le_of_ble_eq_true rfl) (Nat.le_of_ble_eq_true rfl) ⟨_, _, rfl, rfl⟩ rfl ?_
    refine c_M_sizeOf  ?_
    show Wp true i_M_mainland 38 [vr 103, vi x1, vi x2, vi x3, vi x4] [vi (sumF (fun m => if h 112 m = x4 then 1 else 0) 70 0), vi x2] h Q
    refine r_calls (as := [vi x2, vi (sumF (fun m => if h 112 m = x4 then 1 else 0) 70 0)]) (st' := []) (ls0 := [vi x2, vi (sumF (fun m => if h 112 m = x4 then 1 else 0) 70 0)]) f_320_38 (by decide) (by decide) rfl rfl (Nat.le_of_ble_eq_true rfl) (Nat.le_of_ble_eq_true rfl) rfl ?_
    refine c_Ma_max  ?_
    show Wp true i_M_mainland 41 [vr 103, vi x1, vi x2, vi x3, vi x4] [vi (max x2 (sumF (fun m => if h 112 m = x4 then 1 else 0) 70 0))] h Q
    refine r_istore_n (ls' := [vr 103, vi x1, vi (max x2 (sumF (fun m => if h 112 m = x4 then 1 else 0) 70 0)), vi x3, vi x4]) f_320_41 (Nat.le_of_ble_eq_true rfl) rfl ?_
    refine r_iinc (v := x4) (w := x4 + 1) (ls' := [vr 103, vi x1, vi (max x2 (sumF (fun m => if h 112 m = x4 then 1 else 0) 70 0)), vi x3, vi (x4 + 1)]) f_320_42 rfl rfl (o2 c1) rfl ?_
    refine r_goto (t := 25) f_320_45 rfl ?_
    exact (k3 c1)

theorem g_C_joined_0 {Q : PQ} {h : HP} {x1 : Int} {x2 : Int} {x3 : Int} {x4 : Int} 
    (k1 : ¬ (0 ≤ x1 ∧ x1 < h 10 0 ∧ 0 ≤ x2 ∧ x2 < h 10 1) → Q (some (vi (-1))) (hs h 0 0 1))
    (k2 : (0 ≤ x1 ∧ x1 < h 10 0 ∧ 0 ≤ x2 ∧ x2 < h 10 1) → (0 ≤ x3 ∧ x3 < h 10 0 ∧ 0 ≤ x4 ∧ x4 < h 10 1) → Wp true i_Is_survey 0 [vr 82, vr 10, vr 9999, vr 9999, vr 9999] [] h (fun r h' => Wp true i_C_joined 42 [vr 0, vi x1, vi x2, vi x3, vi x4] (r.toList ++ []) h' Q))
    (k3 : (0 ≤ x1 ∧ x1 < h 10 0 ∧ 0 ≤ x2 ∧ x2 < h 10 1) → ¬ (0 ≤ x3 ∧ x3 < h 10 0 ∧ 0 ≤ x4 ∧ x4 < h 10 1) → Q (some (vi (-1))) (hs h 0 0 1)) :
    Wp true i_C_joined 0 [vr 0, vi x1, vi x2, vi x3, vi x4] [] h Q := by
  refine r_aload_n (v := 0) f_181_0 rfl (by decide) ?_
  refine r_getr (q := 10) f_181_1 rfl (by decide) (Or.inl rfl) rfl ?_
  refine r_iload_n (v := x1) f_181_4 rfl ?_
  refine r_iload_n (v := x2) f_181_5 rfl ?_
  refine r_callv (as := [vr 10, vi x1, vi x2]) (st' := []) (ls0 := [vr 10, vi x1, vi x2]) f_181_6 (by decide) rfl rfl (Nat.le_of_ble_eq_true rfl) (Nat.le_of_ble_eq_true rfl) ⟨_, _, rfl, rfl⟩ rfl ?_
  refine c_Fl_hasBoard isF_10 ?_
  show Wp true i_C_joined 9 [vr 0, vi x1, vi x2, vi x3, vi x4] [vi (bi (0 ≤ x1 ∧ x1 < h 10 0 ∧ 0 ≤ x2 ∧ x2 < h 10 1))] h Q
  refine r_br (t := 25) f_181_9 rfl cb_bf (fun c1 => ?_) (fun c1 => ?_)
  · refine r_aload_n (v := 0) f_181_25 rfl (by decide) ?_
    refine r_iconst f_181_26 (by decide) ?_
    refine r_callv (as := [vr 0, vi 1]) (st' := []) (ls0 := [vr 0, vi 1]) f_181_27 (by decide) rfl rfl (Nat.le_of_ble_eq_true rfl) (Nat.le_of_ble_eq_true rfl) ⟨_, _, rfl, rfl⟩ rfl ?_
    refine c_C_refuse  ?_
    show Wp true i_C_joined 30 [vr 0, vi x1, vi x2, vi x3, vi x4] [vi (-1)] (hs h 0 0 1) Q
    exact r_reti f_181_30 rfl (k1 c1)
  · have c1 := Decidable.not_not.mp c1
    refine r_aload_n (v := 0) f_181_12 rfl (by decide) ?_
    refine r_getr (q := 10) f_181_13 rfl (by decide) (Or.inl rfl) rfl ?_
    refine r_iload_n (v := x3) f_181_16 rfl ?_
    refine r_iload (v := x4) f_181_17 rfl ?_
    refine r_callv (as := [vr 10, vi x3, vi x4]) (st' := []) (ls0 := [vr 10, vi x3, vi x4]) f_181_19 (by decide) rfl rfl (Nat.le_of_ble_eq_true rfl) (Nat.le_of_ble_eq_true rfl) ⟨_, _, rfl, rfl⟩ rfl ?_
    refine c_Fl_hasBoard isF_10 ?_
    show Wp true i_C_joined 22 [vr 0, vi x1, vi x2, vi x3, vi x4] [vi (bi (0 ≤ x3 ∧ x3 < h 10 0 ∧ 0 ≤ x4 ∧ x4 < h 10 1))] h Q
    refine r_br (t := 31) f_181_22 rfl cb_bt (fun c2 => ?_) (fun c2 => ?_)
    · refine r_aload_n (v := 0) f_181_31 rfl (by decide) ?_
      refine r_getr (q := 82) f_181_32 rfl (by decide) (Or.inl rfl) rfl ?_
      refine r_aload_n (v := 0) f_181_35 rfl (by decide) ?_
      refine r_getr (q := 10) f_181_36 rfl (by decide) (Or.inl rfl) rfl ?_
      exact r_callv (as := [vr 82, vr 10]) (st' := []) (ls0 := [vr 82, vr 10, vr 9999, vr 9999, vr 9999]) f_181_39 (by decide) rfl rfl (Nat.le_of_ble_eq_true rfl) (Nat.le_of_ble_eq_true rfl) ⟨_, _, rfl, rfl⟩ rfl (k2 c1 c2)
    · refine r_aload_n (v := 0) f_181_25 rfl (by decide) ?_
      refine r_iconst f_181_26 (by decide) ?_
      refine r_callv (as := [vr 0, vi 1]) (st' := []) (ls0 := [vr 0, vi 1]) f_181_27 (by decide) rfl rfl (Nat.le_of_ble_eq_true rfl) (Nat.le_of_ble_eq_true rfl) ⟨_, _, rfl, rfl⟩ rfl ?_
      refine c_C_refuse  ?_
      show Wp true i_C_joined 30 [vr 0, vi x1, vi x2, vi x3, vi x4] [vi (-1)] (hs h 0 0 1) Q
      exact r_reti f_181_30 rfl (k3 c1 c2)

theorem g_C_joined_42 {Q : PQ} {h : HP} {x1 : Int} {x2 : Int} {x3 : Int} {x4 : Int} 
    (o1 : 0 ≤ x1 ∧ x1 < 100)
    (o2 : 0 ≤ x2 ∧ x2 < 100)
    (o3 : 0 ≤ x3 ∧ x3 < 100)
    (o4 : 0 ≤ x4 ∧ x4 < 100)
    (o5 : 0 ≤ (x2 * 9 + x1) ∧ (x2 * 9 + x1) < 63)
    (o6 : 0 ≤ (x4 * 9 + x3) ∧ (x4 * 9 + x3) < 63)
    (k7 : ¬ (h 84 (x2 * 9 + x1).toNat = h 84 (x4 * 9 + x3).toNat) → Q (some (vi 0)) (hs h 0 0 0))
    (k8 : (h 84 (x2 * 9 + x1).toNat = h 84 (x4 * 9 + x3).toNat) → Q (some (vi 1)) (hs h 0 0 0)) :
    Wp true i_C_joined 42 [vr 0, vi x1, vi x2, vi x3, vi x4] [] h Q := by
  refine r_aload_n (v := 0) f_181_42 rfl (by decide) ?_
  refine r_aload_n (v := 0) f_181_43 rfl (by decide) ?_
  refine r_getr (q := 82) f_181_44 rfl (by decide) (Or.inl rfl) rfl ?_
  refine r_iload_n (v := x1) f_181_47 rfl ?_
  refine r_iload_n (v := x2) f_181_48 rfl ?_
  refine r_calls (as := [vi x1, vi x2]) (st' := [vr 82, vr 0]) (ls0 := [vi x1, vi x2]) f_181_49 (by decide) (by decide) rfl rfl (Nat.le_of_ble_eq_true rfl) (Nat.le_of_ble_eq_true rfl) rfl ?_
  refine c_C_boardNumber o1 o2 ?_
  show Wp true i_C_joined 52 [vr 0, vi x1, vi x2, vi x3, vi x4] [vi (x2 * 9 + x1), vr 82, vr 0] h Q
  refine r_iload_n (v := x3) f_181_52 rfl ?_
  refine r_iload (v := x4) f_181_53 rfl ?_
  refine r_calls (as := [vi x3, vi x4]) (st' := [vi (x2 * 9 + x1), vr 82, vr 0]) (ls0 := [vi x3, vi x4]) f_181_55 (by decide) (by decide) rfl rfl (Nat.le_of_ble_eq_true rfl) (Nat.le_of_ble_eq_true rfl) rfl ?_
  refine c_C_boardNumber o3 o4 ?_
  show Wp true i_C_joined 58 [vr 0, vi x1, vi x2, vi x3, vi x4] [vi (x4 * 9 + x3), vi (x2 * 9 + x1), vr 82, vr 0] h Q
  refine r_callv (as := [vr 82, vi (x2 * 9 + x1), vi (x4 * 9 + x3)]) (st' := [vr 0]) (ls0 := [vr 82, vi (x2 * 9 + x1), vi (x4 * 9 + x3)]) f_181_58 (by decide) rfl rfl (Nat.le_of_ble_eq_true rfl) (Nat.le_of_ble_eq_true rfl) ⟨_, _, rfl, rfl⟩ rfl ?_
  refine c_Is_together o5 o6 ?_
  show Wp true i_C_joined 61 [vr 0, vi x1, vi x2, vi x3, vi x4] [vi (bi (h 84 (x2 * 9 + x1).toNat = h 84 (x4 * 9 + x3).toNat)), vr 0] h Q
  refine r_br (t := 68) f_181_61 rfl cb_bf (fun c1 => ?_) (fun c1 => ?_)
  · refine r_iconst f_181_68 (by decide) ?_
    refine r_callv (as := [vr 0, vi 0]) (st' := []) (ls0 := [vr 0, vi 0]) f_181_69 (by decide) rfl rfl (Nat.le_of_ble_eq_true rfl) (Nat.le_of_ble_eq_true rfl) ⟨_, _, rfl, rfl⟩ rfl ?_
    refine c_C_answer  ?_
    show Wp true i_C_joined 72 [vr 0, vi x1, vi x2, vi x3, vi x4] [vi 0] (hs h 0 0 0) Q
    exact r_reti f_181_72 rfl (k7 c1)
  · have c1 := Decidable.not_not.mp c1
    refine r_iconst f_181_64 (by decide) ?_
    refine r_goto (t := 69) f_181_65 rfl ?_
    refine r_callv (as := [vr 0, vi 1]) (st' := []) (ls0 := [vr 0, vi 1]) f_181_69 (by decide) rfl rfl (Nat.le_of_ble_eq_true rfl) (Nat.le_of_ble_eq_true rfl) ⟨_, _, rfl, rfl⟩ rfl ?_
    refine c_C_answer  ?_
    show Wp true i_C_joined 72 [vr 0, vi x1, vi x2, vi x3, vi x4] [vi 1] (hs h 0 0 0) Q
    exact r_reti f_181_72 rfl (k8 c1)

theorem g_M_joined_0 {Q : PQ} {h : HP} {x1 : Int} {x2 : Int} {x3 : Int} {x4 : Int} 
    (k1 : ¬ (0 ≤ x1 ∧ x1 < h 104 0 ∧ 0 ≤ x2 ∧ x2 < h 104 1) → Q (some (vi (-1))) (hs h 103 2 1))
    (o2 : (0 ≤ x1 ∧ x1 < h 104 0 ∧ 0 ≤ x2 ∧ x2 < h 104 1) → (0 ≤ x3 ∧ x3 < h 104 0 ∧ 0 ≤ x4 ∧ x4 < h 104 1) → WR (rmM h 0))
    (o3 : (0 ≤ x1 ∧ x1 < h 104 0 ∧ 0 ≤ x2 ∧ x2 < h 104 1) → (0 ≤ x3 ∧ x3 < h 104 0 ∧ 0 ≤ x4 ∧ x4 < h 104 1) → 0 ≤ x2 ∧ x2 < h 104 1)
    (k4 : (0 ≤ x1 ∧ x1 < h 104 0 ∧ 0 ≤ x2 ∧ x2 < h 104 1) → (0 ≤ x3 ∧ x3 < h 104 0 ∧ 0 ≤ x4 ∧ x4 < h 104 1) → Wp true i_M_laysIslands 0 [vr 103, vi (rLand (rmM h 0) x1 x2), vi (-1), vr 9999, vr 9999, vr 9999, vr 9999, vr 9999, vr 9999] [] h (fun r h' => Wp true i_M_joined 36 [vr 103, vi x1, vi x2, vi x3, vi x4] (r.toList ++ []) h' Q))
    (k5 : (0 ≤ x1 ∧ x1 < h 104 0 ∧ 0 ≤ x2 ∧ x2 < h 104 1) → ¬ (0 ≤ x3 ∧ x3 < h 104 0 ∧ 0 ≤ x4 ∧ x4 < h 104 1) → Q (some (vi (-1))) (hs h 103 2 1)) :
    Wp true i_M_joined 0 [vr 103, vi x1, vi x2, vi x3, vi x4] [] h Q := by
  refine r_aload_n (v := 103) f_321_0 rfl (by decide) ?_
  refine r_iload_n (v := x1) f_321_1 rfl ?_
  refine r_iload_n (v := x2) f_321_2 rfl ?_
  refine r_callv (as := [vr 103, vi x1, vi x2]) (st' := []) (ls0 := [vr 103, vi x1, vi x2]) f_321_3 (by decide) rfl rfl (Nat.le_of_ble_eq_true rfl) (Nat.le_of_ble_eq_true rfl) ⟨_, _, rfl, rfl⟩ rfl ?_
  refine c_M_isBoard  ?_
  show Wp true i_M_joined 6 [vr 103, vi x1, vi x2, vi x3, vi x4] [vi (bi (0 ≤ x1 ∧ x1 < h 104 0 ∧ 0 ≤ x2 ∧ x2 < h 104 1))] h Q
  refine r_br (t := 19) f_321_6 rfl cb_bf (fun c1 => ?_) (fun c1 => ?_)
  · refine r_aload_n (v := 103) f_321_19 rfl (by decide) ?_
    refine r_iconst f_321_20 (by decide) ?_
    refine r_callv (as := [vr 103, vi 1]) (st' := []) (ls0 := [vr 103, vi 1]) f_321_21 (by decide) rfl rfl (Nat.le_of_ble_eq_true rfl) (Nat.le_of_ble_eq_true rfl) ⟨_, _, rfl, rfl⟩ rfl ?_
    refine c_M_refuse  ?_
    show Wp true i_M_joined 24 [vr 103, vi x1, vi x2, vi x3, vi x4] [vi (-1)] (hs h 103 2 1) Q
    exact r_reti f_321_24 rfl (k1 c1)
  · have c1 := Decidable.not_not.mp c1
    refine r_aload_n (v := 103) f_321_9 rfl (by decide) ?_
    refine r_iload_n (v := x3) f_321_10 rfl ?_
    refine r_iload (v := x4) f_321_11 rfl ?_
    refine r_callv (as := [vr 103, vi x3, vi x4]) (st' := []) (ls0 := [vr 103, vi x3, vi x4]) f_321_13 (by decide) rfl rfl (Nat.le_of_ble_eq_true rfl) (Nat.le_of_ble_eq_true rfl) ⟨_, _, rfl, rfl⟩ rfl ?_
    refine c_M_isBoard  ?_
    show Wp true i_M_joined 16 [vr 103, vi x1, vi x2, vi x3, vi x4] [vi (bi (0 ≤ x3 ∧ x3 < h 104 0 ∧ 0 ≤ x4 ∧ x4 < h 104 1))] h Q
    refine r_br (t := 25) f_321_16 rfl cb_bt (fun c2 => ?_) (fun c2 => ?_)
    · refine r_aload_n (v := 103) f_321_25 rfl (by decide) ?_
      refine r_aload_n (v := 103) f_321_26 rfl (by decide) ?_
      refine r_iload_n (v := x1) f_321_27 rfl ?_
      refine r_iload_n (v := x2) f_321_28 rfl ?_
      refine r_callv (as := [vr 103, vi x1, vi x2]) (st' := [vr 103]) (ls0 := [vr 103, vi x1, vi x2, vr 9999]) f_321_29 (by decide) rfl rfl (Nat.le_of_ble_eq_true rfl) (Nat.le_of_ble_eq_true rfl) ⟨_, _, rfl, rfl⟩ rfl ?_
      refine c_M_landOf (o2 c1 c2) (o3 c1 c2) ?_
      show Wp true i_M_joined 32 [vr 103, vi x1, vi x2, vi x3, vi x4] [vi (rLand (rmM h 0) x1 x2), vr 103] h Q
      refine r_iconst f_321_32 (by decide) ?_
      exact r_callv (as := [vr 103, vi (rLand (rmM h 0) x1 x2), vi (-1)]) (st' := []) (ls0 := [vr 103, vi (rLand (rmM h 0) x1 x2), vi (-1), vr 9999, vr 9999, vr 9999, vr 9999, vr 9999, vr 9999]) f_321_33 (by decide) rfl rfl (Nat.le_of_ble_eq_true rfl) (Nat.le_of_ble_eq_true rfl) ⟨_, _, rfl, rfl⟩ rfl (k4 c1 c2)
    · refine r_aload_n (v := 103) f_321_19 rfl (by decide) ?_
      refine r_iconst f_321_20 (by decide) ?_
      refine r_callv (as := [vr 103, vi 1]) (st' := []) (ls0 := [vr 103, vi 1]) f_321_21 (by decide) rfl rfl (Nat.le_of_ble_eq_true rfl) (Nat.le_of_ble_eq_true rfl) ⟨_, _, rfl, rfl⟩ rfl ?_
      refine c_M_refuse  ?_
      show Wp true i_M_joined 24 [vr 103, vi x1, vi x2, vi x3, vi x4] [vi (-1)] (hs h 103 2 1) Q
      exact r_reti f_321_24 rfl (k5 c1 c2)

theorem g_M_joined_36 {Q : PQ} {h : HP} {x1 : Int} {x2 : Int} {x3 : Int} {x4 : Int} {s0 : Int} 
    (o1 : -2147483648 ≤ 10 * x2 ∧ 10 * x2 ≤ 2147483647)
    (o2 : -2147483648 ≤ (10 * x2) + x1 ∧ (10 * x2) + x1 ≤ 2147483647)
    (o3 : 0 ≤ (10 * x2) + x1 ∧ (10 * x2) + x1 < 70)
    (o4 : -2147483648 ≤ 10 * x4 ∧ 10 * x4 ≤ 2147483647)
    (o5 : -2147483648 ≤ (10 * x4) + x3 ∧ (10 * x4) + x3 ≤ 2147483647)
    (o6 : 0 ≤ (10 * x4) + x3 ∧ (10 * x4) + x3 < 70)
    (k7 : ¬ h 112 ((10 * x2) + x1).toNat = h 112 ((10 * x4) + x3).toNat → Q (some (vi 0)) (hs h 103 2 0))
    (k8 : h 112 ((10 * x2) + x1).toNat = h 112 ((10 * x4) + x3).toNat → Q (some (vi 1)) (hs h 103 2 0)) :
    Wp true i_M_joined 36 [vr 103, vi x1, vi x2, vi x3, vi x4] [vi s0] h Q := by
  refine r_popi f_321_36 ?_
  refine r_aload_n (v := 103) f_321_37 rfl (by decide) ?_
  refine r_aload_n (v := 103) f_321_38 rfl (by decide) ?_
  refine r_getr (q := 112) f_321_39 rfl (by decide) (Or.inl rfl) rfl ?_
  refine r_bipush f_321_42 (by decide) ?_
  refine r_iload_n (v := x2) f_321_44 rfl ?_
  refine r_imul (u := 10 * x2) f_321_45 rfl o1 ?_
  refine r_iload_n (v := x1) f_321_46 rfl ?_
  refine r_iadd (u := (10 * x2) + x1) f_321_47 rfl o2 ?_
  refine r_iaload (n := 70) (v := h 112 ((10 * x2) + x1).toNat) f_321_48 ⟨rfl, rfl⟩ o3 rfl ?_
  refine r_aload_n (v := 103) f_321_49 rfl (by decide) ?_
  refine r_getr (q := 112) f_321_50 rfl (by decide) (Or.inl rfl) rfl ?_
  refine r_bipush f_321_53 (by decide) ?_
  refine r_iload (v := x4) f_321_55 rfl ?_
  refine r_imul (u := 10 * x4) f_321_57 rfl o4 ?_
  refine r_iload_n (v := x3) f_321_58 rfl ?_
  refine r_iadd (u := (10 * x4) + x3) f_321_59 rfl o5 ?_
  refine r_iaload (n := 70) (v := h 112 ((10 * x4) + x3).toNat) f_321_60 ⟨rfl, rfl⟩ o6 rfl ?_
  refine r_br2 (t := 68) f_321_61 rfl cb_ne (fun c1 => ?_) (fun c1 => ?_)
  · refine r_iconst f_321_68 (by decide) ?_
    refine r_callv (as := [vr 103, vi 0]) (st' := []) (ls0 := [vr 103, vi 0]) f_321_69 (by decide) rfl rfl (Nat.le_of_ble_eq_true rfl) (Nat.le_of_ble_eq_true rfl) ⟨_, _, rfl, rfl⟩ rfl ?_
    refine c_M_gives  ?_
    show Wp true i_M_joined 72 [vr 103, vi x1, vi x2, vi x3, vi x4] [vi 0] (hs h 103 2 0) Q
    exact r_reti f_321_72 rfl (k7 c1)
  · have c1 := Decidable.not_not.mp c1
    refine r_iconst f_321_64 (by decide) ?_
    refine r_goto (t := 69) f_321_65 rfl ?_
    refine r_callv (as := [vr 103, vi 1]) (st' := []) (ls0 := [vr 103, vi 1]) f_321_69 (by decide) rfl rfl (Nat.le_of_ble_eq_true rfl) (Nat.le_of_ble_eq_true rfl) ⟨_, _, rfl, rfl⟩ rfl ?_
    refine c_M_gives  ?_
    show Wp true i_M_joined 72 [vr 103, vi x1, vi x2, vi x3, vi x4] [vi 1] (hs h 103 2 0) Q
    exact r_reti f_321_72 rfl (k8 c1)

theorem g_C_reach_0 {Q : PQ} {h : HP} {x1 : Int} 
    (k1 : (0 ≤ x1 ∧ x1 < h 10 3) → Wp true i_Is_survey 0 [vr 82, vr 10, vr 9999, vr 9999, vr 9999] [] h (fun r h' => Wp true i_C_reach 28 [vr 0, vi x1] (r.toList ++ []) h' Q))
    (k2 : ¬ (0 ≤ x1 ∧ x1 < h 10 3) → Q (some (vi (-1))) (hs h 0 0 1)) :
    Wp true i_C_reach 0 [vr 0, vi x1] [] h Q := by
  refine r_aload_n (v := 0) f_184_0 rfl (by decide) ?_
  refine r_getr (q := 10) f_184_1 rfl (by decide) (Or.inl rfl) rfl ?_
  refine r_iload_n (v := x1) f_184_4 rfl ?_
  refine r_callv (as := [vr 10, vi x1]) (st' := []) (ls0 := [vr 10, vi x1]) f_184_5 (by decide) rfl rfl (Nat.le_of_ble_eq_true rfl) (Nat.le_of_ble_eq_true rfl) ⟨_, _, rfl, rfl⟩ rfl ?_
  refine c_Fl_hasThing isF_10 ?_
  show Wp true i_C_reach 8 [vr 0, vi x1] [vi (bi (0 ≤ x1 ∧ x1 < h 10 3))] h Q
  refine r_br (t := 17) f_184_8 rfl cb_bt (fun c1 => ?_) (fun c1 => ?_)
  · refine r_aload_n (v := 0) f_184_17 rfl (by decide) ?_
    refine r_getr (q := 82) f_184_18 rfl (by decide) (Or.inl rfl) rfl ?_
    refine r_aload_n (v := 0) f_184_21 rfl (by decide) ?_
    refine r_getr (q := 10) f_184_22 rfl (by decide) (Or.inl rfl) rfl ?_
    exact r_callv (as := [vr 82, vr 10]) (st' := []) (ls0 := [vr 82, vr 10, vr 9999, vr 9999, vr 9999]) f_184_25 (by decide) rfl rfl (Nat.le_of_ble_eq_true rfl) (Nat.le_of_ble_eq_true rfl) ⟨_, _, rfl, rfl⟩ rfl (k1 c1)
  · refine r_aload_n (v := 0) f_184_11 rfl (by decide) ?_
    refine r_iconst f_184_12 (by decide) ?_
    refine r_callv (as := [vr 0, vi 1]) (st' := []) (ls0 := [vr 0, vi 1]) f_184_13 (by decide) rfl rfl (Nat.le_of_ble_eq_true rfl) (Nat.le_of_ble_eq_true rfl) ⟨_, _, rfl, rfl⟩ rfl ?_
    refine c_C_refuse  ?_
    show Wp true i_C_reach 16 [vr 0, vi x1] [vi (-1)] (hs h 0 0 1) Q
    exact r_reti f_184_16 rfl (k2 c1)

theorem g_C_reach_28 {Q : PQ} {h : HP} {x1 : Int} 
    (o1 : WR (rmC h 10))
    (o2 : 0 ≤ x1 ∧ x1 < h 10 3)
    (k3 : Q (some (vi (fld (fun i s => if h 84 (rmC h 10 3 x1.toNat * 9 + rmC h 10 2 x1.toNat).toNat = h 84 (rmC h 10 3 i * 9 + rmC h 10 2 i).toNat then o_or s (o_shl 1 i) else s) (rmC h 10 0 3).toNat 0 0))) (hs h 0 0 0)) :
    Wp true i_C_reach 28 [vr 0, vi x1] [] h Q := by
  refine r_aload_n (v := 0) f_184_28 rfl (by decide) ?_
  refine r_aload_n (v := 0) f_184_29 rfl (by decide) ?_
  refine r_getr (q := 82) f_184_30 rfl (by decide) (Or.inl rfl) rfl ?_
  refine r_aload_n (v := 0) f_184_33 rfl (by decide) ?_
  refine r_getr (q := 10) f_184_34 rfl (by decide) (Or.inl rfl) rfl ?_
  refine r_iload_n (v := x1) f_184_37 rfl ?_
  refine r_callv (as := [vr 82, vr 10, vi x1]) (st' := [vr 0]) (ls0 := [vr 82, vr 10, vi x1, vr 9999, vr 9999]) f_184_38 (by decide) rfl rfl (Nat.le_of_ble_eq_true rfl) (Nat.le_of_ble_eq_true rfl) ⟨_, _, rfl, rfl⟩ rfl ?_
  refine c_Is_thingsWith isF_10 o1 o2 ?_
  show Wp true i_C_reach 41 [vr 0, vi x1] [vi (fld (fun i s => if h 84 (rmC h 10 3 x1.toNat * 9 + rmC h 10 2 x1.toNat).toNat = h 84 (rmC h 10 3 i * 9 + rmC h 10 2 i).toNat then o_or s (o_shl 1 i) else s) (rmC h 10 0 3).toNat 0 0), vr 0] h Q
  refine r_callv (as := [vr 0, vi (fld (fun i s => if h 84 (rmC h 10 3 x1.toNat * 9 + rmC h 10 2 x1.toNat).toNat = h 84 (rmC h 10 3 i * 9 + rmC h 10 2 i).toNat then o_or s (o_shl 1 i) else s) (rmC h 10 0 3).toNat 0 0)]) (st' := []) (ls0 := [vr 0, vi (fld (fun i s => if h 84 (rmC h 10 3 x1.toNat * 9 + rmC h 10 2 x1.toNat).toNat = h 84 (rmC h 10 3 i * 9 + rmC h 10 2 i).toNat then o_or s (o_shl 1 i) else s) (rmC h 10 0 3).toNat 0 0)]) f_184_41 (by decide) rfl rfl (Nat.le_of_ble_eq_true rfl) (Nat.le_of_ble_eq_true rfl) ⟨_, _, rfl, rfl⟩ rfl ?_
  refine c_C_answer  ?_
  show Wp true i_C_reach 44 [vr 0, vi x1] [vi (fld (fun i s => if h 84 (rmC h 10 3 x1.toNat * 9 + rmC h 10 2 x1.toNat).toNat = h 84 (rmC h 10 3 i * 9 + rmC h 10 2 i).toNat then o_or s (o_shl 1 i) else s) (rmC h 10 0 3).toNat 0 0)] (hs h 0 0 0) Q
  exact r_reti f_184_44 rfl k3

theorem g_M_reach_0 {Q : PQ} {h : HP} {x1 : Int} 
    (o1 : (0 ≤ x1 ∧ x1 < h 104 2) → WR (rmM h 0))
    (o2 : (0 ≤ x1 ∧ x1 < h 104 2) → 0 ≤ x1 ∧ x1 < h 104 2)
    (k3 : (0 ≤ x1 ∧ x1 < h 104 2) → Wp true i_M_laysIslands 0 [vr 103, vi (rHo (rmM h 0) x1.toNat), vi (-1), vr 9999, vr 9999, vr 9999, vr 9999, vr 9999, vr 9999] [] h (fun r h' => Wp true i_M_reach 24 [vr 103, vi x1, vr 9999, vr 9999] (r.toList ++ []) h' Q))
    (k4 : ¬ (0 ≤ x1 ∧ x1 < h 104 2) → Q (some (vi (-1))) (hs h 103 2 1)) :
    Wp true i_M_reach 0 [vr 103, vi x1, vr 9999, vr 9999] [] h Q := by
  refine r_aload_n (v := 103) f_329_0 rfl (by decide) ?_
  refine r_iload_n (v := x1) f_329_1 rfl ?_
  refine r_callv (as := [vr 103, vi x1]) (st' := []) (ls0 := [vr 103, vi x1]) f_329_2 (by decide) rfl rfl (Nat.le_of_ble_eq_true rfl) (Nat.le_of_ble_eq_true rfl) ⟨_, _, rfl, rfl⟩ rfl ?_
  refine c_M_isThing  ?_
  show Wp true i_M_reach 5 [vr 103, vi x1, vr 9999, vr 9999] [vi (bi (0 ≤ x1 ∧ x1 < h 104 2))] h Q
  refine r_br (t := 14) f_329_5 rfl cb_bt (fun c1 => ?_) (fun c1 => ?_)
  · refine r_aload_n (v := 103) f_329_14 rfl (by decide) ?_
    refine r_aload_n (v := 103) f_329_15 rfl (by decide) ?_
    refine r_iload_n (v := x1) f_329_16 rfl ?_
    refine r_callv (as := [vr 103, vi x1]) (st' := [vr 103]) (ls0 := [vr 103, vi x1]) f_329_17 (by decide) rfl rfl (Nat.le_of_ble_eq_true rfl) (Nat.le_of_ble_eq_true rfl) ⟨_, _, rfl, rfl⟩ rfl ?_
    refine c_M_holderOf (o1 c1) (o2 c1) ?_
    show Wp true i_M_reach 20 [vr 103, vi x1, vr 9999, vr 9999] [vi (rHo (rmM h 0) x1.toNat), vr 103] h Q
    refine r_iconst f_329_20 (by decide) ?_
    exact r_callv (as := [vr 103, vi (rHo (rmM h 0) x1.toNat), vi (-1)]) (st' := []) (ls0 := [vr 103, vi (rHo (rmM h 0) x1.toNat), vi (-1), vr 9999, vr 9999, vr 9999, vr 9999, vr 9999, vr 9999]) f_329_21 (by decide) rfl rfl (Nat.le_of_ble_eq_true rfl) (Nat.le_of_ble_eq_true rfl) ⟨_, _, rfl, rfl⟩ rfl (k3 c1)
  · refine r_aload_n (v := 103) f_329_8 rfl (by decide) ?_
    refine r_iconst f_329_9 (by decide) ?_
    refine r_callv (as := [vr 103, vi 1]) (st' := []) (ls0 := [vr 103, vi 1]) f_329_10 (by decide) rfl rfl (Nat.le_of_ble_eq_true rfl) (Nat.le_of_ble_eq_true rfl) ⟨_, _, rfl, rfl⟩ rfl ?_
    refine c_M_refuse  ?_
    show Wp true i_M_reach 13 [vr 103, vi x1, vr 9999, vr 9999] [vi (-1)] (hs h 103 2 1) Q
    exact r_reti f_329_13 rfl (k4 c1)

theorem g_M_reach_24 {Q : PQ} {h : HP} {x1 : Int} {s0 : Int} 
    (k1 : Wp true i_M_reach 29 [vr 103, vi x1, vi 0, vi 0] [] h Q) :
    Wp true i_M_reach 24 [vr 103, vi x1, vr 9999, vr 9999] [vi s0] h Q := by
  refine r_popi f_329_24 ?_
  refine r_iconst f_329_25 (by decide) ?_
  refine r_istore_n (ls' := [vr 103, vi x1, vi 0, vr 9999]) f_329_26 (Nat.le_of_ble_eq_true rfl) rfl ?_
  refine r_iconst f_329_27 (by decide) ?_
  refine r_istore_n (ls' := [vr 103, vi x1, vi 0, vi 0]) f_329_28 (Nat.le_of_ble_eq_true rfl) rfl ?_
  exact k1

theorem g_M_reach_29 {Q : PQ} {h : HP} {x1 : Int} {x2 : Int} {x3 : Int} 
    (k1 : h 104 2 ≤ x3 → Q (some (vi x2)) (hs h 103 2 0))
    (o2 : ¬ h 104 2 ≤ x3 → WR (rmM h 0))
    (o3 : ¬ h 104 2 ≤ x3 → 0 ≤ x3 ∧ x3 < h 104 2)
    (o4 : ¬ h 104 2 ≤ x3 → 0 ≤ 10 * rmM h 0 3 x3.toNat + rmM h 0 2 x3.toNat ∧ 10 * rmM h 0 3 x3.toNat + rmM h 0 2 x3.toNat < 70)
    (o5 : ¬ h 104 2 ≤ x3 → 0 ≤ x1 ∧ x1 < h 104 2)
    (o6 : ¬ h 104 2 ≤ x3 → 0 ≤ 10 * rmM h 0 3 x1.toNat + rmM h 0 2 x1.toNat ∧ 10 * rmM h 0 3 x1.toNat + rmM h 0 2 x1.toNat < 70)
    (o7 : ¬ h 104 2 ≤ x3 → ¬ h 112 (10 * rmM h 0 3 x3.toNat + rmM h 0 2 x3.toNat).toNat = h 112 (10 * rmM h 0 3 x1.toNat + rmM h 0 2 x1.toNat).toNat → -2147483648 ≤ x3 + 1 ∧ x3 + 1 ≤ 2147483647)
    (k8 : ¬ h 104 2 ≤ x3 → ¬ h 112 (10 * rmM h 0 3 x3.toNat + rmM h 0 2 x3.toNat).toNat = h 112 (10 * rmM h 0 3 x1.toNat + rmM h 0 2 x1.toNat).toNat → Wp true i_M_reach 29 [vr 103, vi x1, vi (o_or x2 0), vi (x3 + 1)] [] h Q)
    (o9 : ¬ h 104 2 ≤ x3 → h 112 (10 * rmM h 0 3 x3.toNat + rmM h 0 2 x3.toNat).toNat = h 112 (10 * rmM h 0 3 x1.toNat + rmM h 0 2 x1.toNat).toNat → -2147483648 ≤ x3 + 1 ∧ x3 + 1 ≤ 2147483647)
    (k10 : ¬ h 104 2 ≤ x3 → h 112 (10 * rmM h 0 3 x3.toNat + rmM h 0 2 x3.toNat).toNat = h 112 (10 * rmM h 0 3 x1.toNat + rmM h 0 2 x1.toNat).toNat → Wp true i_M_reach 29 [vr 103, vi x1, vi (o_or x2 (o_shl 1 x3)), vi (x3 + 1)] [] h Q) :
    Wp true i_M_reach 29 [vr 103, vi x1, vi x2, vi x3] [] h Q := by
  refine r_iload_n (v := x3) f_329_29 rfl ?_
  refine r_aload_n (v := 103) f_329_30 rfl (by decide) ?_
  refine r_getr (q := 104) f_329_31 rfl (by decide) (Or.inl rfl) rfl ?_
  refine r_iconst f_329_34 (by decide) ?_
  refine r_iaload (n := 3000) (v := h 104 2) f_329_35 ⟨rfl, rfl⟩ (by decide) rfl ?_
  refine r_br2 (t := 78) f_329_36 rfl cb_ge (fun c1 => ?_) (fun c1 => ?_)
  · refine r_aload_n (v := 103) f_329_78 rfl (by decide) ?_
    refine r_iload_n (v := x2) f_329_79 rfl ?_
    refine r_callv (as := [vr 103, vi x2]) (st' := []) (ls0 := [vr 103, vi x2]) f_329_80 (by decide) rfl rfl (Nat.le_of_ble_eq_true rfl) (Nat.le_of_ble_eq_true rfl) ⟨_, _, rfl, rfl⟩ rfl ?_
    refine c_M_gives  ?_
    show Wp true i_M_reach 83 [vr 103, vi x1, vi x2, vi x3] [vi x2] (hs h 103 2 0) Q
    exact r_reti f_329_83 rfl (k1 c1)
  · refine r_iload_n (v := x2) f_329_39 rfl ?_
    refine r_aload_n (v := 103) f_329_40 rfl (by decide) ?_
    refine r_getr (q := 112) f_329_41 rfl (by decide) (Or.inl rfl) rfl ?_
    refine r_aload_n (v := 103) f_329_44 rfl (by decide) ?_
    refine r_iload_n (v := x3) f_329_45 rfl ?_
    refine r_callv (as := [vr 103, vi x3]) (st' := [vr 112, vi x2]) (ls0 := [vr 103, vi x3]) f_329_46 (by decide) rfl rfl (Nat.le_of_ble_eq_true rfl) (Nat.le_of_ble_eq_true rfl) ⟨_, _, rfl, rfl⟩ rfl ?_
    refine c_M_boardOf (o2 c1) (o3 c1) ?_
    show Wp true i_M_reach 49 [vr 103, vi x1, vi x2, vi x3] [vi (10 * rmM h 0 3 x3.toNat + rmM h 0 2 x3.toNat), vr 112, vi x2] h Q
    refine r_iaload (n := 70) (v := h 112 (10 * rmM h 0 3 x3.toNat + rmM h 0 2 x3.toNat).toNat) f_329_49 ⟨rfl, rfl⟩ (o4 c1) rfl ?_
    refine r_aload_n (v := 103) f_329_50 rfl (by decide) ?_
    refine r_getr (q := 112) f_329_51 rfl (by decide) (Or.inl rfl) rfl ?_
    refine r_aload_n (v := 103) f_329_54 rfl (by decide) ?_
    refine r_iload_n (v := x1) f_329_55 rfl ?_
    refine r_callv (as := [vr 103, vi x1]) (st' := [vr 112, vi (h 112 (10 * rmM h 0 3 x3.toNat + rmM h 0 2 x3.toNat).toNat), vi x2]) (ls0 := [vr 103, vi x1]) f_329_56 (by decide) rfl rfl (Nat.le_of_ble_eq_true rfl) (Nat.le_of_ble_eq_true rfl) ⟨_, _, rfl, rfl⟩ rfl ?_
    refine c_M_boardOf (o2 c1) (o5 c1) ?_
    show Wp true i_M_reach 59 [vr 103, vi x1, vi x2, vi x3] [vi (10 * rmM h 0 3 x1.toNat + rmM h 0 2 x1.toNat), vr 112, vi (h 112 (10 * rmM h 0 3 x3.toNat + rmM h 0 2 x3.toNat).toNat), vi x2] h Q
    refine r_iaload (n := 70) (v := h 112 (10 * rmM h 0 3 x1.toNat + rmM h 0 2 x1.toNat).toNat) f_329_59 ⟨rfl, rfl⟩ (o6 c1) rfl ?_
    refine r_br2 (t := 69) f_329_60 rfl cb_ne (fun c2 => ?_) (fun c2 => ?_)
    · refine r_iconst f_329_69 (by decide) ?_
      refine r_ior f_329_70 ?_
      refine r_istore_n (ls' := [vr 103, vi x1, vi (o_or x2 0), vi x3]) f_329_71 (Nat.le_of_ble_eq_true rfl) rfl ?_
      refine r_iinc (v := x3) (w := x3 + 1) (ls' := [vr 103, vi x1, vi (o_or x2 0), vi (x3 + 1)]) f_329_72 rfl rfl (o7 c1 c2) rfl ?_
      refine r_goto (t := 29) f_329_75 rfl ?_
      exact (k8 c1 c2)
    · have c2 := Decidable.not_not.mp c2
      refine r_iconst f_329_63 (by decide) ?_
      refine r_iload_n (v := x3) f_329_64 rfl ?_
      refine r_ishl f_329_65 ?_
      refine r_goto (t := 70) f_329_66 rfl ?_
      refine r_ior f_329_70 ?_
      refine r_istore_n (ls' := [vr 103, vi x1, vi (o_or x2 (o_shl 1 x3)), vi x3]) f_329_71 (Nat.le_of_ble_eq_true rfl) rfl ?_
      refine r_iinc (v := x3) (w := x3 + 1) (ls' := [vr 103, vi x1, vi (o_or x2 (o_shl 1 x3)), vi (x3 + 1)]) f_329_72 rfl rfl (o9 c1 c2) rfl ?_
      refine r_goto (t := 29) f_329_75 rfl ?_
      exact (k10 c1 c2)

theorem g_Is_touchesOther_0 {Q : PQ} {h : HP} {x2 : Int} {f1 : Nat} (h_f1 : isF f1)
    (k1 : Wp true i_Is_touchesOther 2 [vr 82, vr f1, vi x2, vi 0, vr 9999] [] h Q) :
    Wp true i_Is_touchesOther 0 [vr 82, vr f1, vi x2, vr 9999, vr 9999] [] h Q := by
  refine r_iconst f_72_0 (by decide) ?_
  refine r_istore_n (ls' := [vr 82, vr f1, vi x2, vi 0, vr 9999]) f_72_1 (Nat.le_of_ble_eq_true rfl) rfl ?_
  exact k1

theorem g_Is_touchesOther_2 {Q : PQ} {h : HP} {x2 : Int} {x3 : Int} {j4 : AV} {f1 : Nat} (h_f1 : isF f1)
    (k1 : 4 ≤ x3 → Q (some (vi 0)) h)
    (o2 : ¬ 4 ≤ x3 → 0 ≤ x2 ∧ x2 < 63)
    (o3 : ¬ 4 ≤ x3 → 0 ≤ x3 ∧ x3 < 4)
    (o4 : ¬ 4 ≤ x3 → bs (rmC h f1) x2 x3 < 0 → -2147483648 ≤ x3 + 1 ∧ x3 + 1 ≤ 2147483647)
    (k5 : ¬ 4 ≤ x3 → bs (rmC h f1) x2 x3 < 0 → Wp true i_Is_touchesOther 2 [vr 82, vr f1, vi x2, vi (x3 + 1), vi (bs (rmC h f1) x2 x3)] [] h Q)
    (o6 : ¬ 4 ≤ x3 → ¬ bs (rmC h f1) x2 x3 < 0 → 0 ≤ bs (rmC h f1) x2 x3 ∧ bs (rmC h f1) x2 x3 < 63)
    (o7 : ¬ 4 ≤ x3 → ¬ bs (rmC h f1) x2 x3 < 0 → h 83 (bs (rmC h f1) x2 x3).toNat = h 83 x2.toNat → -2147483648 ≤ x3 + 1 ∧ x3 + 1 ≤ 2147483647)
    (k8 : ¬ 4 ≤ x3 → ¬ bs (rmC h f1) x2 x3 < 0 → h 83 (bs (rmC h f1) x2 x3).toNat = h 83 x2.toNat → Wp true i_Is_touchesOther 2 [vr 82, vr f1, vi x2, vi (x3 + 1), vi (bs (rmC h f1) x2 x3)] [] h Q)
    (k9 : ¬ 4 ≤ x3 → ¬ bs (rmC h f1) x2 x3 < 0 → ¬ h 83 (bs (rmC h f1) x2 x3).toNat = h 83 x2.toNat → Q (some (vi 1)) h) :
    Wp true i_Is_touchesOther 2 [vr 82, vr f1, vi x2, vi x3, j4] [] h Q := by
  refine r_iload_n (v := x3) f_72_2 rfl ?_
  refine r_iconst f_72_3 (by decide) ?_
  refine r_br2 (t := 44) f_72_4 rfl cb_ge (fun c1 => ?_) (fun c1 => ?_)
  · refine r_iconst f_72_44 (by decide) ?_
    exact r_retz f_72_45 rfl (by decide) (k1 c1)
  · refine r_aload_n (v := f1) f_72_7 rfl (F_n h_f1) ?_
    refine r_iload_n (v := x2) f_72_8 rfl ?_
    refine r_iload_n (v := x3) f_72_9 rfl ?_
    refine r_calls (as := [vr f1, vi x2, vi x3]) (st' := []) (ls0 := [vr f1, vi x2, vi x3, vr 9999, vr 9999]) f_72_10 (by decide) (by decide) rfl rfl (Nat.le_of_ble_eq_true rfl) (Nat.le_of_ble_eq_true rfl) rfl ?_
    refine c_Is_beside h_f1 (o2 c1) (o3 c1) ?_
    show Wp true i_Is_touchesOther 13 [vr 82, vr f1, vi x2, vi x3, j4] [vi (bs (rmC h f1) x2 x3)] h Q
    refine r_istore (ls' := [vr 82, vr f1, vi x2, vi x3, vi (bs (rmC h f1) x2 x3)]) f_72_13 (Nat.le_of_ble_eq_true rfl) rfl ?_
    refine r_iload (v := bs (rmC h f1) x2 x3) f_72_15 rfl ?_
    refine r_br (t := 38) f_72_17 rfl cb_lt (fun c2 => ?_) (fun c2 => ?_)
    · refine r_iinc (v := x3) (w := x3 + 1) (ls' := [vr 82, vr f1, vi x2, vi (x3 + 1), vi (bs (rmC h f1) x2 x3)]) f_72_38 rfl rfl (o4 c1 c2) rfl ?_
      refine r_goto (t := 2) f_72_41 rfl ?_
      exact (k5 c1 c2)
    · refine r_aload_n (v := 82) f_72_20 rfl (by decide) ?_
      refine r_getr (q := 83) f_72_21 rfl (by decide) (Or.inl rfl) rfl ?_
      refine r_iload (v := bs (rmC h f1) x2 x3) f_72_24 rfl ?_
      refine r_iaload (n := 63) (v := h 83 (bs (rmC h f1) x2 x3).toNat) f_72_26 ⟨rfl, rfl⟩ (o6 c1 c2) rfl ?_
      refine r_aload_n (v := 82) f_72_27 rfl (by decide) ?_
      refine r_getr (q := 83) f_72_28 rfl (by decide) (Or.inl rfl) rfl ?_
      refine r_iload_n (v := x2) f_72_31 rfl ?_
      refine r_iaload (n := 63) (v := h 83 x2.toNat) f_72_32 ⟨rfl, rfl⟩ (o2 c1) rfl ?_
      refine r_br2 (t := 38) f_72_33 rfl cb_eq (fun c3 => ?_) (fun c3 => ?_)
      · refine r_iinc (v := x3) (w := x3 + 1) (ls' := [vr 82, vr f1, vi x2, vi (x3 + 1), vi (bs (rmC h f1) x2 x3)]) f_72_38 rfl rfl (o7 c1 c2 c3) rfl ?_
        refine r_goto (t := 2) f_72_41 rfl ?_
        exact (k8 c1 c2 c3)
      · refine r_iconst f_72_36 (by decide) ?_
        exact r_retz f_72_37 rfl (by decide) (k9 c1 c2 c3)

theorem g_Is_boardsAtBorder_0 {Q : PQ} {h : HP} {x2 : Int} {f1 : Nat} (h_f1 : isF f1)
    (k1 : Wp true i_Is_boardsAtBorder 5 [vr 82, vr f1, vi x2, vi 0, vi 0, vr 9999, vr 9999] [] h Q) :
    Wp true i_Is_boardsAtBorder 0 [vr 82, vr f1, vi x2, vr 9999, vr 9999, vr 9999, vr 9999] [] h Q := by
  refine r_iconst f_71_0 (by decide) ?_
  refine r_istore_n (ls' := [vr 82, vr f1, vi x2, vi 0, vr 9999, vr 9999, vr 9999]) f_71_1 (Nat.le_of_ble_eq_true rfl) rfl ?_
  refine r_iconst f_71_2 (by decide) ?_
  refine r_istore (ls' := [vr 82, vr f1, vi x2, vi 0, vi 0, vr 9999, vr 9999]) f_71_3 (Nat.le_of_ble_eq_true rfl) rfl ?_
  exact k1

theorem g_Is_boardsAtBorder_5 {Q : PQ} {h : HP} {x2 : Int} {x3 : Int} {x4 : Int} {j5 : AV} {j6 : AV} {f1 : Nat} (h_f1 : isF f1)
    (k1 : h f1 1 ≤ x4 → Q (some (vi x3)) h)
    (k2 : ¬ h f1 1 ≤ x4 → Wp true i_Is_boardsAtBorder 17 [vr 82, vr f1, vi x2, vi x3, vi x4, vi 0, j6] [] h Q) :
    Wp true i_Is_boardsAtBorder 5 [vr 82, vr f1, vi x2, vi x3, vi x4, j5, j6] [] h Q := by
  refine r_iload (v := x4) f_71_5 rfl ?_
  refine r_aload_n (v := f1) f_71_7 rfl (F_n h_f1) ?_
  refine r_geti (v := h f1 1) f_71_8 (F_k h_f1) (by decide) rfl ?_
  refine r_br2 (t := 71) f_71_11 rfl cb_ge (fun c1 => ?_) (fun c1 => ?_)
  · refine r_iload_n (v := x3) f_71_71 rfl ?_
    exact r_reti f_71_72 rfl (k1 c1)
  · refine r_iconst f_71_14 (by decide) ?_
    refine r_istore (ls' := [vr 82, vr f1, vi x2, vi x3, vi x4, vi 0, j6]) f_71_15 (Nat.le_of_ble_eq_true rfl) rfl ?_
    exact (k2 c1)

theorem g_Is_boardsAtBorder_17 {Q : PQ} {h : HP} {x2 : Int} {x3 : Int} {x4 : Int} {x5 : Int} {j6 : AV} {f1 : Nat} (h_f1 : isF f1)
    (o1 : h f1 0 ≤ x5 → -2147483648 ≤ x4 + 1 ∧ x4 + 1 ≤ 2147483647)
    (k2 : h f1 0 ≤ x5 → Wp true i_Is_boardsAtBorder 5 [vr 82, vr f1, vi x2, vi x3, vi (x4 + 1), vi x5, j6] [] h Q)
    (o3 : ¬ h f1 0 ≤ x5 → 0 ≤ x5 ∧ x5 < 100)
    (o4 : ¬ h f1 0 ≤ x5 → 0 ≤ x4 ∧ x4 < 100)
    (o5 : ¬ h f1 0 ≤ x5 → 0 ≤ x4 * 9 + x5 ∧ x4 * 9 + x5 < 63)
    (o6 : ¬ h f1 0 ≤ x5 → ¬ h 83 (x4 * 9 + x5).toNat = x2 → -2147483648 ≤ x5 + 1 ∧ x5 + 1 ≤ 2147483647)
    (k7 : ¬ h f1 0 ≤ x5 → ¬ h 83 (x4 * 9 + x5).toNat = x2 → Wp true i_Is_boardsAtBorder 17 [vr 82, vr f1, vi x2, vi x3, vi x4, vi (x5 + 1), vi (x4 * 9 + x5)] [] h Q)
    (k8 : ¬ h f1 0 ≤ x5 → h 83 (x4 * 9 + x5).toNat = x2 → Wp true i_Is_touchesOther 0 [vr 82, vr f1, vi (x4 * 9 + x5), vr 9999, vr 9999] [] h (fun r h' => Wp true i_Is_boardsAtBorder 53 [vr 82, vr f1, vi x2, vi x3, vi x4, vi x5, vi (x4 * 9 + x5)] (r.toList ++ []) h' Q)) :
    Wp true i_Is_boardsAtBorder 17 [vr 82, vr f1, vi x2, vi x3, vi x4, vi x5, j6] [] h Q := by
  refine r_iload (v := x5) f_71_17 rfl ?_
  refine r_aload_n (v := f1) f_71_19 rfl (F_n h_f1) ?_
  refine r_geti (v := h f1 0) f_71_20 (F_k h_f1) (by decide) rfl ?_
  refine r_br2 (t := 65) f_71_23 rfl cb_ge (fun c1 => ?_) (fun c1 => ?_)
  · refine r_iinc (v := x4) (w := x4 + 1) (ls' := [vr 82, vr f1, vi x2, vi x3, vi (x4 + 1), vi x5, j6]) f_71_65 rfl rfl (o1 c1) rfl ?_
    refine r_goto (t := 5) f_71_68 rfl ?_
    exact (k2 c1)
  · refine r_iload (v := x5) f_71_26 rfl ?_
    refine r_iload (v := x4) f_71_28 rfl ?_
    refine r_calls (as := [vi x5, vi x4]) (st' := []) (ls0 := [vi x5, vi x4]) f_71_30 (by decide) (by decide) rfl rfl (Nat.le_of_ble_eq_true rfl) (Nat.le_of_ble_eq_true rfl) rfl ?_
    refine c_C_boardNumber (o3 c1) (o4 c1) ?_
    show Wp true i_Is_boardsAtBorder 33 [vr 82, vr f1, vi x2, vi x3, vi x4, vi x5, j6] [vi (x4 * 9 + x5)] h Q
    refine r_istore (ls' := [vr 82, vr f1, vi x2, vi x3, vi x4, vi x5, vi (x4 * 9 + x5)]) f_71_33 (Nat.le_of_ble_eq_true rfl) rfl ?_
    refine r_aload_n (v := 82) f_71_35 rfl (by decide) ?_
    refine r_getr (q := 83) f_71_36 rfl (by decide) (Or.inl rfl) rfl ?_
    refine r_iload (v := x4 * 9 + x5) f_71_39 rfl ?_
    refine r_iaload (n := 63) (v := h 83 (x4 * 9 + x5).toNat) f_71_41 ⟨rfl, rfl⟩ (o5 c1) rfl ?_
    refine r_iload_n (v := x2) f_71_42 rfl ?_
    refine r_br2 (t := 59) f_71_43 rfl cb_ne (fun c2 => ?_) (fun c2 => ?_)
    · refine r_iinc (v := x5) (w := x5 + 1) (ls' := [vr 82, vr f1, vi x2, vi x3, vi x4, vi (x5 + 1), vi (x4 * 9 + x5)]) f_71_59 rfl rfl (o6 c1 c2) rfl ?_
      refine r_goto (t := 17) f_71_62 rfl ?_
      exact (k7 c1 c2)
    · have c2 := Decidable.not_not.mp c2
      refine r_aload_n (v := 82) f_71_46 rfl (by decide) ?_
      refine r_aload_n (v := f1) f_71_47 rfl (F_n h_f1) ?_
      refine r_iload (v := x4 * 9 + x5) f_71_48 rfl ?_
      exact r_callv (as := [vr 82, vr f1, vi (x4 * 9 + x5)]) (st' := []) (ls0 := [vr 82, vr f1, vi (x4 * 9 + x5), vr 9999, vr 9999]) f_71_50 (by decide) rfl rfl (Nat.le_of_ble_eq_true rfl) (Nat.le_of_ble_eq_true rfl) ⟨_, _, rfl, rfl⟩ rfl (k8 c1 c2)

theorem g_Is_boardsAtBorder_53 {Q : PQ} {h : HP} {x2 : Int} {x3 : Int} {x4 : Int} {x5 : Int} {x6 : Int} {s0 : Int} {f1 : Nat} (h_f1 : isF f1)
    (o1 : s0 = 0 → -2147483648 ≤ x5 + 1 ∧ x5 + 1 ≤ 2147483647)
    (k2 : s0 = 0 → Wp true i_Is_boardsAtBorder 17 [vr 82, vr f1, vi x2, vi x3, vi x4, vi (x5 + 1), vi x6] [] h Q)
    (o3 : ¬ s0 = 0 → -2147483648 ≤ x3 + 1 ∧ x3 + 1 ≤ 2147483647)
    (o4 : ¬ s0 = 0 → -2147483648 ≤ x5 + 1 ∧ x5 + 1 ≤ 2147483647)
    (k5 : ¬ s0 = 0 → Wp true i_Is_boardsAtBorder 17 [vr 82, vr f1, vi x2, vi (x3 + 1), vi x4, vi (x5 + 1), vi x6] [] h Q) :
    Wp true i_Is_boardsAtBorder 53 [vr 82, vr f1, vi x2, vi x3, vi x4, vi x5, vi x6] [vi s0] h Q := by
  refine r_br (t := 59) f_71_53 rfl cb_eq (fun c1 => ?_) (fun c1 => ?_)
  · refine r_iinc (v := x5) (w := x5 + 1) (ls' := [vr 82, vr f1, vi x2, vi x3, vi x4, vi (x5 + 1), vi x6]) f_71_59 rfl rfl (o1 c1) rfl ?_
    refine r_goto (t := 17) f_71_62 rfl ?_
    exact (k2 c1)
  · refine r_iinc (v := x3) (w := x3 + 1) (ls' := [vr 82, vr f1, vi x2, vi (x3 + 1), vi x4, vi x5, vi x6]) f_71_56 rfl rfl (o3 c1) rfl ?_
    refine r_iinc (v := x5) (w := x5 + 1) (ls' := [vr 82, vr f1, vi x2, vi (x3 + 1), vi x4, vi (x5 + 1), vi x6]) f_71_59 rfl rfl (o4 c1) rfl ?_
    refine r_goto (t := 17) f_71_62 rfl ?_
    exact (k5 c1)

theorem g_C_border_0 {Q : PQ} {h : HP} {x1 : Int} 
    (k1 : (x1 = 0 ∨ x1 = 1) → Wp true i_Is_survey 0 [vr 82, vr 10, vr 9999, vr 9999, vr 9999] [] h (fun r h' => Wp true i_C_border 24 [vr 0, vi x1] (r.toList ++ []) h' Q))
    (k2 : ¬ (x1 = 0 ∨ x1 = 1) → Q (some (vi (-1))) (hs h 0 0 1)) :
    Wp true i_C_border 0 [vr 0, vi x1] [] h Q := by
  refine r_iload_n (v := x1) f_166_0 rfl ?_
  refine r_calls (as := [vi x1]) (st' := []) (ls0 := [vi x1]) f_166_1 (by decide) (by decide) rfl rfl (Nat.le_of_ble_eq_true rfl) (Nat.le_of_ble_eq_true rfl) rfl ?_
  refine c_C_isLand  ?_
  show Wp true i_C_border 4 [vr 0, vi x1] [vi (bi (x1 = 0 ∨ x1 = 1))] h Q
  refine r_br (t := 13) f_166_4 rfl cb_bt (fun c1 => ?_) (fun c1 => ?_)
  · refine r_aload_n (v := 0) f_166_13 rfl (by decide) ?_
    refine r_getr (q := 82) f_166_14 rfl (by decide) (Or.inl rfl) rfl ?_
    refine r_aload_n (v := 0) f_166_17 rfl (by decide) ?_
    refine r_getr (q := 10) f_166_18 rfl (by decide) (Or.inl rfl) rfl ?_
    exact r_callv (as := [vr 82, vr 10]) (st' := []) (ls0 := [vr 82, vr 10, vr 9999, vr 9999, vr 9999]) f_166_21 (by decide) rfl rfl (Nat.le_of_ble_eq_true rfl) (Nat.le_of_ble_eq_true rfl) ⟨_, _, rfl, rfl⟩ rfl (k1 c1)
  · refine r_aload_n (v := 0) f_166_7 rfl (by decide) ?_
    refine r_iconst f_166_8 (by decide) ?_
    refine r_callv (as := [vr 0, vi 1]) (st' := []) (ls0 := [vr 0, vi 1]) f_166_9 (by decide) rfl rfl (Nat.le_of_ble_eq_true rfl) (Nat.le_of_ble_eq_true rfl) ⟨_, _, rfl, rfl⟩ rfl ?_
    refine c_C_refuse  ?_
    show Wp true i_C_border 12 [vr 0, vi x1] [vi (-1)] (hs h 0 0 1) Q
    exact r_reti f_166_12 rfl (k2 c1)

theorem g_C_border_24 {Q : PQ} {h : HP} {x1 : Int} 
    (k1 : Wp true i_Is_boardsAtBorder 0 [vr 82, vr 10, vi x1, vr 9999, vr 9999, vr 9999, vr 9999] [] h (fun r h' => Wp true i_C_border 37 [vr 0, vi x1] (r.toList ++ [vr 0]) h' Q)) :
    Wp true i_C_border 24 [vr 0, vi x1] [] h Q := by
  refine r_aload_n (v := 0) f_166_24 rfl (by decide) ?_
  refine r_aload_n (v := 0) f_166_25 rfl (by decide) ?_
  refine r_getr (q := 82) f_166_26 rfl (by decide) (Or.inl rfl) rfl ?_
  refine r_aload_n (v := 0) f_166_29 rfl (by decide) ?_
  refine r_getr (q := 10) f_166_30 rfl (by decide) (Or.inl rfl) rfl ?_
  refine r_iload_n (v := x1) f_166_33 rfl ?_
  exact r_callv (as := [vr 82, vr 10, vi x1]) (st' := [vr 0]) (ls0 := [vr 82, vr 10, vi x1, vr 9999, vr 9999, vr 9999, vr 9999]) f_166_34 (by decide) rfl rfl (Nat.le_of_ble_eq_true rfl) (Nat.le_of_ble_eq_true rfl) ⟨_, _, rfl, rfl⟩ rfl k1

theorem g_C_border_37 {Q : PQ} {h : HP} {x1 : Int} {s1 : Int} 
    (k1 : Q (some (vi s1)) (hs h 0 0 0)) :
    Wp true i_C_border 37 [vr 0, vi x1] [vi s1, vr 0] h Q := by
  refine r_callv (as := [vr 0, vi s1]) (st' := []) (ls0 := [vr 0, vi s1]) f_166_37 (by decide) rfl rfl (Nat.le_of_ble_eq_true rfl) (Nat.le_of_ble_eq_true rfl) ⟨_, _, rfl, rfl⟩ rfl ?_
  refine c_C_answer  ?_
  show Wp true i_C_border 40 [vr 0, vi x1] [vi s1] (hs h 0 0 0) Q
  exact r_reti f_166_40 rfl k1

theorem g_M_border_0 {Q : PQ} {h : HP} {x1 : Int} 
    (k1 : (x1 = 0 ∨ x1 = 1) → Wp true i_M_border 17 [vr 103, vi x1, vi 0, vi 0, vr 9999, vr 9999] [] h Q)
    (k2 : ¬ (x1 = 0 ∨ x1 = 1) → Q (some (vi (-1))) (hs h 103 2 1)) :
    Wp true i_M_border 0 [vr 103, vi x1, vr 9999, vr 9999, vr 9999, vr 9999] [] h Q := by
  refine r_iload_n (v := x1) f_300_0 rfl ?_
  refine r_calls (as := [vi x1]) (st' := []) (ls0 := [vi x1]) f_300_1 (by decide) (by decide) rfl rfl (Nat.le_of_ble_eq_true rfl) (Nat.le_of_ble_eq_true rfl) rfl ?_
  refine c_M_isLand  ?_
  show Wp true i_M_border 4 [vr 103, vi x1, vr 9999, vr 9999, vr 9999, vr 9999] [vi (bi (x1 = 0 ∨ x1 = 1))] h Q
  refine r_br (t := 13) f_300_4 rfl cb_bt (fun c1 => ?_) (fun c1 => ?_)
  · refine r_iconst f_300_13 (by decide) ?_
    refine r_istore_n (ls' := [vr 103, vi x1, vi 0, vr 9999, vr 9999, vr 9999]) f_300_14 (Nat.le_of_ble_eq_true rfl) rfl ?_
    refine r_iconst f_300_15 (by decide) ?_
    refine r_istore_n (ls' := [vr 103, vi x1, vi 0, vi 0, vr 9999, vr 9999]) f_300_16 (Nat.le_of_ble_eq_true rfl) rfl ?_
    exact (k1 c1)
  · refine r_aload_n (v := 103) f_300_7 rfl (by decide) ?_
    refine r_iconst f_300_8 (by decide) ?_
    refine r_callv (as := [vr 103, vi 1]) (st' := []) (ls0 := [vr 103, vi 1]) f_300_9 (by decide) rfl rfl (Nat.le_of_ble_eq_true rfl) (Nat.le_of_ble_eq_true rfl) ⟨_, _, rfl, rfl⟩ rfl ?_
    refine c_M_refuse  ?_
    show Wp true i_M_border 12 [vr 103, vi x1, vr 9999, vr 9999, vr 9999, vr 9999] [vi (-1)] (hs h 103 2 1) Q
    exact r_reti f_300_12 rfl (k2 c1)

theorem g_M_border_17 {Q : PQ} {h : HP} {x1 : Int} {x2 : Int} {x3 : Int} {j4 : AV} {j5 : AV} 
    (k1 : 70 ≤ x3 → Q (some (vi x2)) (hs h 103 2 0))
    (o2 : ¬ 70 ≤ x3 → WR (rmM h 0))
    (o3 : ¬ 70 ≤ x3 → 0 ≤ x3 ∧ x3 < 70)
    (k4 : ¬ 70 ≤ x3 → ((0 ≤ x3 % 10 ∧ x3 % 10 < h 104 0 ∧ 0 ≤ x3 / 10 ∧ x3 / 10 < h 104 1) ∧ rLand (rmM h 0) (x3 % 10) (x3 / 10) = x1) → Wp true i_M_border 41 [vr 103, vi x1, vi x2, vi x3, vi 0, vi 0] [] h Q)
    (o5 : ¬ 70 ≤ x3 → ¬ ((0 ≤ x3 % 10 ∧ x3 % 10 < h 104 0 ∧ 0 ≤ x3 / 10 ∧ x3 / 10 < h 104 1) ∧ rLand (rmM h 0) (x3 % 10) (x3 / 10) = x1) → -2147483648 ≤ x3 + 1 ∧ x3 + 1 ≤ 2147483647)
    (k6 : ¬ 70 ≤ x3 → ¬ ((0 ≤ x3 % 10 ∧ x3 % 10 < h 104 0 ∧ 0 ≤ x3 / 10 ∧ x3 / 10 < h 104 1) ∧ rLand (rmM h 0) (x3 % 10) (x3 / 10) = x1) → Wp true i_M_border 17 [vr 103, vi x1, vi x2, vi (x3 + 1), j4, j5] [] h Q) :
    Wp true i_M_border 17 [vr 103, vi x1, vi x2, vi x3, j4, j5] [] h Q := by
  refine r_iload_n (v := x3) f_300_17 rfl ?_
  refine r_bipush f_300_18 (by decide) ?_
  refine r_br2 (t := 110) f_300_20 rfl cb_ge (fun c1 => ?_) (fun c1 => ?_)
  · refine r_aload_n (v := 103) f_300_110 rfl (by decide) ?_
    refine r_iload_n (v := x2) f_300_111 rfl ?_
    refine r_callv (as := [vr 103, vi x2]) (st' := []) (ls0 := [vr 103, vi x2]) f_300_112 (by decide) rfl rfl (Nat.le_of_ble_eq_true rfl) (Nat.le_of_ble_eq_true rfl) ⟨_, _, rfl, rfl⟩ rfl ?_
    refine c_M_gives  ?_
    show Wp true i_M_border 115 [vr 103, vi x1, vi x2, vi x3, j4, j5] [vi x2] (hs h 103 2 0) Q
    exact r_reti f_300_115 rfl (k1 c1)
  · refine r_aload_n (v := 103) f_300_23 rfl (by decide) ?_
    refine r_iload_n (v := x3) f_300_24 rfl ?_
    refine r_iload_n (v := x1) f_300_25 rfl ?_
    refine r_callv (as := [vr 103, vi x3, vi x1]) (st' := []) (ls0 := [vr 103, vi x3, vi x1]) f_300_26 (by decide) rfl rfl (Nat.le_of_ble_eq_true rfl) (Nat.le_of_ble_eq_true rfl) ⟨_, _, rfl, rfl⟩ rfl ?_
    refine c_M_isBoardOf (o2 c1) (o3 c1) ?_
    show Wp true i_M_border 29 [vr 103, vi x1, vi x2, vi x3, j4, j5] [vi (bi ((0 ≤ x3 % 10 ∧ x3 % 10 < h 104 0 ∧ 0 ≤ x3 / 10 ∧ x3 / 10 < h 104 1) ∧ rLand (rmM h 0) (x3 % 10) (x3 / 10) = x1))] h Q
    refine r_br (t := 35) f_300_29 rfl cb_bt (fun c2 => ?_) (fun c2 => ?_)
    · refine r_iconst f_300_35 (by decide) ?_
      refine r_istore (ls' := [vr 103, vi x1, vi x2, vi x3, vi 0, j5]) f_300_36 (Nat.le_of_ble_eq_true rfl) rfl ?_
      refine r_iconst f_300_38 (by decide) ?_
      refine r_istore (ls' := [vr 103, vi x1, vi x2, vi x3, vi 0, vi 0]) f_300_39 (Nat.le_of_ble_eq_true rfl) rfl ?_
      exact (k4 c1 c2)
    · refine r_goto (t := 104) f_300_32 rfl ?_
      refine r_iinc (v := x3) (w := x3 + 1) (ls' := [vr 103, vi x1, vi x2, vi (x3 + 1), j4, j5]) f_300_104 rfl rfl (o5 c1 c2) rfl ?_
      refine r_goto (t := 17) f_300_107 rfl ?_
      exact (k6 c1 c2)

theorem g_M_border_41 {Q : PQ} {h : HP} {x1 : Int} {x2 : Int} {x3 : Int} {x4 : Int} {x5 : Int} 
    (o1 : 4 ≤ x5 → x4 = 0 → -2147483648 ≤ x2 + 0 ∧ x2 + 0 ≤ 2147483647)
    (o2 : 4 ≤ x5 → x4 = 0 → -2147483648 ≤ x3 + 1 ∧ x3 + 1 ≤ 2147483647)
    (k3 : 4 ≤ x5 → x4 = 0 → Wp true i_M_border 17 [vr 103, vi x1, vi (x2 + 0), vi (x3 + 1), vi x4, vi x5] [] h Q)
    (o4 : 4 ≤ x5 → ¬ x4 = 0 → -2147483648 ≤ x2 + 1 ∧ x2 + 1 ≤ 2147483647)
    (o5 : 4 ≤ x5 → ¬ x4 = 0 → -2147483648 ≤ x3 + 1 ∧ x3 + 1 ≤ 2147483647)
    (k6 : 4 ≤ x5 → ¬ x4 = 0 → Wp true i_M_border 17 [vr 103, vi x1, vi (x2 + 1), vi (x3 + 1), vi x4, vi x5] [] h Q)
    (o7 : ¬ 4 ≤ x5 → ¬ x4 = 0 → -2147483648 ≤ x5 + 1 ∧ x5 + 1 ≤ 2147483647)
    (k8 : ¬ 4 ≤ x5 → ¬ x4 = 0 → Wp true i_M_border 41 [vr 103, vi x1, vi x2, vi x3, vi 1, vi (x5 + 1)] [] h Q)
    (o9 : ¬ 4 ≤ x5 → x4 = 0 → 0 ≤ x3 ∧ x3 < 70)
    (o10 : ¬ 4 ≤ x5 → x4 = 0 → 0 ≤ x5 ∧ x5 < 4)
    (o11 : ¬ 4 ≤ x5 → x4 = 0 → mbs (rmM h 0) x3 x5 = -1 → -2147483648 ≤ x5 + 1 ∧ x5 + 1 ≤ 2147483647)
    (k12 : ¬ 4 ≤ x5 → x4 = 0 → mbs (rmM h 0) x3 x5 = -1 → Wp true i_M_border 41 [vr 103, vi x1, vi x2, vi x3, vi 0, vi (x5 + 1)] [] h Q)
    (o13 : ¬ 4 ≤ x5 → x4 = 0 → ¬ mbs (rmM h 0) x3 x5 = -1 → WR (rmM h 0))
    (o14 : ¬ 4 ≤ x5 → x4 = 0 → ¬ mbs (rmM h 0) x3 x5 = -1 → 0 ≤ (mbs (rmM h 0) x3 x5) ∧ (mbs (rmM h 0) x3 x5) < 70)
    (o15 : ¬ 4 ≤ x5 → x4 = 0 → ¬ mbs (rmM h 0) x3 x5 = -1 → ((0 ≤ (mbs (rmM h 0) x3 x5) % 10 ∧ (mbs (rmM h 0) x3 x5) % 10 < h 104 0 ∧ 0 ≤ (mbs (rmM h 0) x3 x5) / 10 ∧ (mbs (rmM h 0) x3 x5) / 10 < h 104 1) ∧ rLand (rmM h 0) ((mbs (rmM h 0) x3 x5) % 10) ((mbs (rmM h 0) x3 x5) / 10) = x1) → -2147483648 ≤ x5 + 1 ∧ x5 + 1 ≤ 2147483647)
    (k16 : ¬ 4 ≤ x5 → x4 = 0 → ¬ mbs (rmM h 0) x3 x5 = -1 → ((0 ≤ (mbs (rmM h 0) x3 x5) % 10 ∧ (mbs (rmM h 0) x3 x5) % 10 < h 104 0 ∧ 0 ≤ (mbs (rmM h 0) x3 x5) / 10 ∧ (mbs (rmM h 0) x3 x5) / 10 < h 104 1) ∧ rLand (rmM h 0) ((mbs (rmM h 0) x3 x5) % 10) ((mbs (rmM h 0) x3 x5) / 10) = x1) → Wp true i_M_border 41 [vr 103, vi x1, vi x2, vi x3, vi 0, vi (x5 + 1)] [] h Q)
    (o17 : ¬ 4 ≤ x5 → x4 = 0 → ¬ mbs (rmM h 0) x3 x5 = -1 → ¬ ((0 ≤ (mbs (rmM h 0) x3 x5) % 10 ∧ (mbs (rmM h 0) x3 x5) % 10 < h 104 0 ∧ 0 ≤ (mbs (rmM h 0) x3 x5) / 10 ∧ (mbs (rmM h 0) x3 x5) / 10 < h 104 1) ∧ rLand (rmM h 0) ((mbs (rmM h 0) x3 x5) % 10) ((mbs (rmM h 0) x3 x5) / 10) = x1) → -2147483648 ≤ x5 + 1 ∧ x5 + 1 ≤ 2147483647)
    (k18 : ¬ 4 ≤ x5 → x4 = 0 → ¬ mbs (rmM h 0) x3 x5 = -1 → ¬ ((0 ≤ (mbs (rmM h 0) x3 x5) % 10 ∧ (mbs (rmM h 0) x3 x5) % 10 < h 104 0 ∧ 0 ≤ (mbs (rmM h 0) x3 x5) / 10 ∧ (mbs (rmM h 0) x3 x5) / 10 < h 104 1) ∧ rLand (rmM h 0) ((mbs (rmM h 0) x3 x5) % 10) ((mbs (rmM h 0) x3 x5) / 10) = x1) → Wp true i_M_border 41 [vr 103, vi x1, vi x2, vi x3, vi 1, vi (x5 + 1)] [] h Q) :
    Wp true i_M_border 41 [vr 103, vi x1, vi x2, vi x3, vi x4, vi x5] [] h Q := by
  refine r_iload (v := x5) f_300_41 rfl ?_
  refine r_iconst f_300_43 (by decide) ?_
  refine r_br2 (t := 91) f_300_44 rfl cb_ge (fun c1 => ?_) (fun c1 => ?_)
  · refine r_iload_n (v := x2) f_300_91 rfl ?_
    refine r_iload (v := x4) f_300_92 rfl ?_
    refine r_br (t := 101) f_300_94 rfl cb_eq (fun c2 => ?_) (fun c2 => ?_)
    · refine r_iconst f_300_101 (by decide) ?_
      refine r_iadd (u := x2 + 0) f_300_102 rfl (o1 c1 c2) ?_
      refine r_istore_n (ls' := [vr 103, vi x1, vi (x2 + 0), vi x3, vi x4, vi x5]) f_300_103 (Nat.le_of_ble_eq_true rfl) rfl ?_
      refine r_iinc (v := x3) (w := x3 + 1) (ls' := [vr 103, vi x1, vi (x2 + 0), vi (x3 + 1), vi x4, vi x5]) f_300_104 rfl rfl (o2 c1 c2) rfl ?_
      refine r_goto (t := 17) f_300_107 rfl ?_
      exact (k3 c1 c2)
    · refine r_iconst f_300_97 (by decide) ?_
      refine r_goto (t := 102) f_300_98 rfl ?_
      refine r_iadd (u := x2 + 1) f_300_102 rfl (o4 c1 c2) ?_
      refine r_istore_n (ls' := [vr 103, vi x1, vi (x2 + 1), vi x3, vi x4, vi x5]) f_300_103 (Nat.le_of_ble_eq_true rfl) rfl ?_
      refine r_iinc (v := x3) (w := x3 + 1) (ls' := [vr 103, vi x1, vi (x2 + 1), vi (x3 + 1), vi x4, vi x5]) f_300_104 rfl rfl (o5 c1 c2) rfl ?_
      refine r_goto (t := 17) f_300_107 rfl ?_
      exact (k6 c1 c2)
  · refine r_iload (v := x4) f_300_47 rfl ?_
    refine r_br (t := 78) f_300_49 rfl cb_ne (fun c2 => ?_) (fun c2 => ?_)
    · refine r_iconst f_300_78 (by decide) ?_
      refine r_goto (t := 83) f_300_79 rfl ?_
      refine r_istore (ls' := [vr 103, vi x1, vi x2, vi x3, vi 1, vi x5]) f_300_83 (Nat.le_of_ble_eq_true rfl) rfl ?_
      refine r_iinc (v := x5) (w := x5 + 1) (ls' := [vr 103, vi x1, vi x2, vi x3, vi 1, vi (x5 + 1)]) f_300_85 rfl rfl (o7 c1 c2) rfl ?_
      refine r_goto (t := 41) f_300_88 rfl ?_
      exact (k8 c1 c2)
    · have c2 := Decidable.not_not.mp c2
      refine r_aload_n (v := 103) f_300_52 rfl (by decide) ?_
      refine r_iload_n (v := x3) f_300_53 rfl ?_
      refine r_iload (v := x5) f_300_54 rfl ?_
      refine r_callv (as := [vr 103, vi x3, vi x5]) (st' := []) (ls0 := [vr 103, vi x3, vi x5, vr 9999, vr 9999]) f_300_56 (by decide) rfl rfl (Nat.le_of_ble_eq_true rfl) (Nat.le_of_ble_eq_true rfl) ⟨_, _, rfl, rfl⟩ rfl ?_
      refine c_M_beside (o9 c1 c2) (o10 c1 c2) ?_
      show Wp true i_M_border 59 [vr 103, vi x1, vi x2, vi x3, vi x4, vi x5] [vi (mbs (rmM h 0) x3 x5)] h Q
      refine r_iconst f_300_59 (by decide) ?_
      refine r_br2 (t := 82) f_300_60 rfl cb_eq (fun c3 => ?_) (fun c3 => ?_)
      · refine r_iconst f_300_82 (by decide) ?_
        refine r_istore (ls' := [vr 103, vi x1, vi x2, vi x3, vi 0, vi x5]) f_300_83 (Nat.le_of_ble_eq_true rfl) rfl ?_
        refine r_iinc (v := x5) (w := x5 + 1) (ls' := [vr 103, vi x1, vi x2, vi x3, vi 0, vi (x5 + 1)]) f_300_85 rfl rfl (o11 c1 c2 c3) rfl ?_
        refine r_goto (t := 41) f_300_88 rfl ?_
        exact (k12 c1 c2 c3)
      · refine r_aload_n (v := 103) f_300_63 rfl (by decide) ?_
        refine r_aload_n (v := 103) f_300_64 rfl (by decide) ?_
        refine r_iload_n (v := x3) f_300_65 rfl ?_
        refine r_iload (v := x5) f_300_66 rfl ?_
        refine r_callv (as := [vr 103, vi x3, vi x5]) (st' := [vr 103]) (ls0 := [vr 103, vi x3, vi x5, vr 9999, vr 9999]) f_300_68 (by decide) rfl rfl (Nat.le_of_ble_eq_true rfl) (Nat.le_of_ble_eq_true rfl) ⟨_, _, rfl, rfl⟩ rfl ?_
        refine c_M_beside (o9 c1 c2) (o10 c1 c2) ?_
        show Wp true i_M_border 71 [vr 103, vi x1, vi x2, vi x3, vi x4, vi x5] [vi (mbs (rmM h 0) x3 x5), vr 103] h Q
        refine r_iload_n (v := x1) f_300_71 rfl ?_
        refine r_callv (as := [vr 103, vi (mbs (rmM h 0) x3 x5), vi x1]) (st' := []) (ls0 := [vr 103, vi (mbs (rmM h 0) x3 x5), vi x1]) f_300_72 (by decide) rfl rfl (Nat.le_of_ble_eq_true rfl) (Nat.le_of_ble_eq_true rfl) ⟨_, _, rfl, rfl⟩ rfl ?_
        refine c_M_isBoardOf (o13 c1 c2 c3) (o14 c1 c2 c3) ?_
        show Wp true i_M_border 75 [vr 103, vi x1, vi x2, vi x3, vi x4, vi x5] [vi (bi ((0 ≤ (mbs (rmM h 0) x3 x5) % 10 ∧ (mbs (rmM h 0) x3 x5) % 10 < h 104 0 ∧ 0 ≤ (mbs (rmM h 0) x3 x5) / 10 ∧ (mbs (rmM h 0) x3 x5) / 10 < h 104 1) ∧ rLand (rmM h 0) ((mbs (rmM h 0) x3 x5) % 10) ((mbs (rmM h 0) x3 x5) / 10) = x1))] h Q
        refine r_br (t := 82) f_300_75 rfl cb_bt (fun c4 => ?_) (fun c4 => ?_)
        · refine r_iconst f_300_82 (by decide) ?_
          refine r_istore (ls' := [vr 103, vi x1, vi x2, vi x3, vi 0, vi x5]) f_300_83 (Nat.le_of_ble_eq_true rfl) rfl ?_
          refine r_iinc (v := x5) (w := x5 + 1) (ls' := [vr 103, vi x1, vi x2, vi x3, vi 0, vi (x5 + 1)]) f_300_85 rfl rfl (o15 c1 c2 c3 c4) rfl ?_
          refine r_goto (t := 41) f_300_88 rfl ?_
          exact (k16 c1 c2 c3 c4)
        · refine r_iconst f_300_78 (by decide) ?_
          refine r_goto (t := 83) f_300_79 rfl ?_
          refine r_istore (ls' := [vr 103, vi x1, vi x2, vi x3, vi 1, vi x5]) f_300_83 (Nat.le_of_ble_eq_true rfl) rfl ?_
          refine r_iinc (v := x5) (w := x5 + 1) (ls' := [vr 103, vi x1, vi x2, vi x3, vi 1, vi (x5 + 1)]) f_300_85 rfl rfl (o17 c1 c2 c3 c4) rfl ?_
          refine r_goto (t := 41) f_300_88 rfl ?_
          exact (k18 c1 c2 c3 c4)

theorem sumF_ones : ∀ (d i : Nat), sumF (fun _ => if True then (1 : Int) else 0) d i = d
  | 0, _ => rfl
  | d + 1, i => by
    show (if True then (1 : Int) else 0) + sumF (fun _ => if True then (1 : Int) else 0) d (i + 1) = _
    rw [sumF_ones d (i + 1), if_pos trivial]
    omega
theorem SM_1 {R : HP} {l : Int} : SM R l (-1) = SL R l := by
  funext c r
  apply propext
  unfold SM
  exact ⟨fun q => q.elim (fun z => z) (fun z => by have := z.2; omega), fun q => Or.inl q⟩
theorem lay_n {R : HP} (W : WR R) {S : Nat → Nat → Prop} {h' : HP} {n : Int} (hS : ∀ c r, S c r → isB R c r) (L : Lay S h' n) : n = cntC R (fstB S) := by
  obtain ⟨L1, L2, L3, L4, L5⟩ := L
  have := n_lab W (S := S) (L := fun c r => h' 112 (10 * r + c)) (n := n.toNat) (X := fun _ => True) hS (fun c r q => by have := L3 c r q; omega) L4 (fun k hk => ⟨fun _ => L5 k (by omega), fun _ => trivial⟩)
  rw [sumF_ones] at this
  omega
theorem svy_n {R h1 : HP} (W : WR R) (V : Svy R h1) (l : Int) : sumF (fun k => if h1 85 k = l then (1 : Int) else 0) (h1 82 4).toNat 0 = cntC R (fstB (SL R l)) := by
  obtain ⟨V1, V2, V3, V4, V5, V6⟩ := V
  refine n_lab W (L := fun c r => h1 84 (9 * r + c)) (fun c r q => q.1) (fun c r q => by have := V3 c r q.1; omega) (fun c r c' r' q1 q2 => ?_) (fun k hk => ⟨fun q => ?_, fun q => ?_⟩)
  · have := V4 c r c' r' q1.1 q2.1
    rw [q1.2, q2.2] at this
    exact this.trans ⟨fun z => z.2, fun z => ⟨rfl, z⟩⟩
  · obtain ⟨c, r, a, b, e⟩ := V5 k (by omega)
    exact ⟨c, r, ⟨a, by rw [← e]; exact q⟩, b⟩
  · obtain ⟨c, r, a, b⟩ := q
    obtain ⟨c', r', a', b', e'⟩ := V5 k (by omega)
    have := (V4 c r c' r' a.1 a').mp (b.trans b'.symm)
    rw [e', this.1]
    exact a.2
theorem svy_sz {R h1 : HP} (V : Svy R h1) {c r : Nat} (hb : isB R c r) : h1 86 (h1 84 (9 * r + c)).toNat = szI R c r := by
  obtain ⟨V1, V2, V3, V4, V5, V6⟩ := V
  have a := V3 c r hb
  rw [V6 _ (by omega)]
  unfold szI
  apply cntC_eq
  intro c' r' hb'
  rw [show (((h1 84 (9 * r + c)).toNat : Nat) : Int) = h1 84 (9 * r + c) by omega]
  exact ((V4 c r c' r' hb hb').symm).trans ⟨fun q => q.symm, fun q => q.symm⟩
theorem lay_sz {R h' : HP} {n : Int} (W : WR R) {c r : Nat} (hb : isB R c r) (L : Lay (SL R (rLand R c r)) h' n) : sumF (fun m => if h' 112 m = h' 112 (10 * r + c) then (1 : Int) else 0) 70 0 = szI R c r := by
  obtain ⟨L1, L2, L3, L4, L5⟩ := L
  have s0 : SL R (rLand R c r) c r := ⟨hb, rfl⟩
  have l0 := L3 c r s0
  have inS : ∀ c' r', c' < 10 → r' < 7 → h' 112 (10 * r' + c') = h' 112 (10 * r + c) → SL R (rLand R c r) c' r' := by
    intro c' r' h1 h2 e
    by_cases q : SL R (rLand R c r) c' r'
    · exact q
    · have := L2 c' r' h1 h2 q
      omega
  rw [cnt70 W (p := fun c' r' => h' 112 (10 * r' + c') = h' 112 (10 * r + c)) _ (fun _ _ _ _ => rfl) (fun c' r' h1 h2 q => (inS c' r' h1 h2 q).1)]
  have w := W.1
  unfold szI
  apply cntC_eq
  intro c' r' hb'
  have b1 := hb'.1
  have b2 := hb'.2
  constructor
  · intro q
    exact ((L4 c r c' r' s0 ⟨hb', q.1⟩).mpr q.2).symm
  · intro q
    have s := inS c' r' (by omega) (by omega) q
    exact ⟨s.2, (L4 c r c' r' s0 s).mp q.symm⟩
theorem A_islands {n : Nat} {h : HP} {x1 : Int} (hR : Rel n h) : Agree n h i_C_islands i_M_islands [vr 0, vi x1] [vr 103, vi x1] := by
  have s := hR.2.2.2.2.2.1
  have W := s.2.1
  by_cases c : x1 = 0 ∨ x1 = 1
  · refine ag_scr (v := vi (cntC (rmC h 10) (fstB (SL (rmC h 10) x1)))) (st := 0) hR (fun Q k => ?_) (fun g Q e gk k => ?_)
    · refine g_C_islands_0 (fun _ => ?_) (fun q => absurd c q)
      refine c_Is_survey isF_10 rfl W (fun h1 f V => ?_)
      have V2 := V.2.1
      refine g_C_islands_24 V2 ?_
      rw [svy_n W V]
      exact k h1 (fun k hk => f k (by omega))
    · refine g_M_islands_0 (fun q => absurd c q) (fun _ => ?_)
      refine c_M_laysIslands e W (Or.inl rfl) (fun h' m f L => ?_)
      rw [SM_1] at L
      refine g_M_islands_14 ?_
      rw [lay_n W (fun c r q => q.1) L]
      exact k h' (ScM_0 (fun k hk => f k (by omega)))
  · refine ag_act0 (v := vi (-1)) (st := 1) hR (fun Q k => ?_) (fun g Q e gk k => ?_)
    · exact g_C_islands_0 (fun q => absurd q c) (fun _ => k)
    · exact g_M_islands_0 (fun _ => k) (fun q => absurd q c)
theorem A_island {n : Nat} {h : HP} {x1 x2 : Int} (hR : Rel n h) : Agree n h i_C_island i_M_island [vr 0, vi x1, vi x2] [vr 103, vi x1, vi x2] := by
  have s := hR.2.2.2.2.2.1
  have W := s.2.1
  have w := W.1
  have dd := cdim (rfl : rmC h 10 = rmC h 10)
  by_cases c : 0 ≤ x1 ∧ x1 < h 10 0 ∧ 0 ≤ x2 ∧ x2 < h 10 1
  · obtain ⟨a, rfl⟩ : ∃ a : Nat, x1 = a := ⟨x1.toNat, by omega⟩
    obtain ⟨b, rfl⟩ : ∃ b : Nat, x2 = b := ⟨x2.toNat, by omega⟩
    have hb : isB (rmC h 10) a b := ⟨by omega, by omega⟩
    refine ag_scr (v := vi (szI (rmC h 10) a b)) (st := 0) hR (fun Q k => ?_) (fun g Q e gk k => ?_)
    · refine g_C_island_0 (fun _ => ?_) (fun q => absurd c q)
      refine c_Is_survey isF_10 rfl W (fun h1 f V => ?_)
      have e9 : ((b : Int) * 9 + (a : Int)).toNat = 9 * b + a := by omega
      have V3 := V.2.2.1 a b hb
      have V2 := V.2.1
      refine g_C_island_29 (by omega) (by omega) (by omega) (by rw [e9]; omega) ?_
      rw [e9, svy_sz V hb]
      exact k h1 (fun k hk => f k (by omega))
    · have d := mdim e
      refine g_M_island_0 (fun _ => by rw [e]; exact W) (fun _ => by omega) (fun _ => ?_) (fun q => by omega)
      rw [e]
      refine c_M_laysIslands e W (Or.inl rfl) (fun h' m f L => ?_)
      rw [SM_1] at L
      have e9 : (10 * (b : Int) + (a : Int)).toNat = 10 * b + a := by omega
      refine g_M_island_26 (by omega) (by omega) (by omega) ?_
      rw [e9, lay_sz W hb L]
      exact k h' (ScM_0 (fun k hk => f k (by omega)))
  · refine ag_act0 (v := vi (-1)) (st := 1) hR (fun Q k => ?_) (fun g Q e gk k => ?_)
    · exact g_C_island_0 (fun q => absurd q c) (fun _ => k)
    · have d := mdim e
      exact g_M_island_0 (fun q => by omega) (fun q => by omega) (fun q => by omega) (fun _ => k)
/-- the greatest of some numbers, counted along -/
theorem fmax {X : Nat → Prop} [DecidablePred X] {E : Nat → Int} : ∀ (d i : Nat) (s : Int), 0 ≤ s → 0 ≤ fld (fun k s => if X k then max s (E k) else s) d i s ∧ s ≤ fld (fun k s => if X k then max s (E k) else s) d i s ∧ (∀ j, i ≤ j → j < i + d → X j → E j ≤ fld (fun k s => if X k then max s (E k) else s) d i s) ∧ (fld (fun k s => if X k then max s (E k) else s) d i s = s ∨ ∃ j, i ≤ j ∧ j < i + d ∧ X j ∧ fld (fun k s => if X k then max s (E k) else s) d i s = E j)
  | 0, i, s, h => ⟨h, Int.le_refl _, fun j h1 h2 => by omega, Or.inl rfl⟩
  | d + 1, i, s, h => by
    by_cases x : X i
    · have e : (if X i then max s (E i) else s) = max s (E i) := if_pos x
      have ih := fmax (X := X) (E := E) d (i + 1) (max s (E i)) (by omega)
      simp only [fld, e]
      refine ⟨ih.1, by omega, fun j h1 h2 xj => ?_, ?_⟩
      · by_cases z : j = i
        · subst z; omega
        · exact ih.2.2.1 j (by omega) (by omega) xj
      · rcases ih.2.2.2 with q | ⟨j, j1, j2, j3, j4⟩
        · by_cases z : E i ≤ s
          · left; exact q.trans (Int.max_eq_left z)
          · right; exact ⟨i, by omega, by omega, x, q.trans (Int.max_eq_right (Int.le_of_lt (Int.not_le.mp z)))⟩
        · right; exact ⟨j, by omega, by omega, j3, j4⟩
    · have e : (if X i then max s (E i) else s) = s := if_neg x
      have ih := fmax (X := X) (E := E) d (i + 1) s h
      simp only [fld, e]
      refine ⟨ih.1, ih.2.1, fun j h1 h2 xj => ?_, ?_⟩
      · by_cases z : j = i
        · subst z; exact absurd xj x
        · exact ih.2.2.1 j (by omega) (by omega) xj
      · rcases ih.2.2.2 with q | ⟨j, j1, j2, j3, j4⟩
        · left; exact q
        · right; exact ⟨j, by omega, by omega, j3, j4⟩
noncomputable def mxI (R : HP) (l : Int) : Int := lastP (fun i => ∃ c r, SL R l c r ∧ szI R c r = (i : Nat)) 64
/-- over labels it is the same -/
theorem mx_lab {R : HP} (W : WR R) {l : Int} {n : Nat} {X : Nat → Prop} [DecidablePred X] {E : Nat → Int} (h1 : ∀ k, k < n → X k → ∃ c r, SL R l c r ∧ szI R c r = E k) (h2 : ∀ c r, SL R l c r → ∃ k, k < n ∧ X k ∧ szI R c r = E k) : fld (fun k s => if X k then max s (E k) else s) n 0 0 = mxI R l := by
  have f := fmax (X := X) (E := E) n 0 0 (Int.le_refl _)
  refine max_u (fun j hj => ?_) ?_ f.1
  · obtain ⟨c, r, a, b⟩ := hj
    obtain ⟨k, k1, k2, k3⟩ := h2 c r a
    have z := szI_rg W c r
    have y := f.2.2.1 k (by omega) (by omega) k2
    omega
  · rcases f.2.2.2 with q | ⟨j, j1, j2, j3, j4⟩
    · exact Or.inl q
    · right
      obtain ⟨c, r, a, b⟩ := h1 j (by omega) j3
      have z := szI_rg W c r
      refine ⟨(szI R c r).toNat, ⟨c, r, a, by omega⟩, ?_⟩
      rw [j4]; omega
theorem A_mainland {n : Nat} {h : HP} {x1 : Int} (hR : Rel n h) : Agree n h i_C_mainland i_M_mainland [vr 0, vi x1] [vr 103, vi x1, vr 9999, vr 9999, vr 9999] := by
  have s := hR.2.2.2.2.2.1
  have W := s.2.1
  by_cases c : x1 = 0 ∨ x1 = 1
  · refine ag_scr (v := vi (mxI (rmC h 10) x1)) (st := 0) hR (fun Q k => ?_) (fun g Q e gk k => ?_)
    · refine g_C_mainland_0 (fun _ => ?_) (fun q => absurd c q)
      refine c_Is_survey isF_10 rfl W (fun h1 f V => ?_)
      have V2 := V.2.1
      refine g_C_mainland_24 V2 ?_
      have em : fld (fun k s => if h1 85 k = x1 then max s (h1 86 k) else s) (h1 82 4).toNat 0 0 = mxI (rmC h 10) x1 := by
        refine mx_lab W (X := fun k => h1 85 k = x1) (E := fun k => h1 86 k) (fun k hk q => ?_) (fun c r q => ?_)
        · obtain ⟨c, r, a, b, d⟩ := V.2.2.2.2.1 k (by omega)
          refine ⟨c, r, ⟨a, by rw [← d]; exact q⟩, ?_⟩
          rw [← svy_sz V a, b, Int.toNat_natCast]
        · have V3 := V.2.2.1 c r q.1
          obtain ⟨c', r', a, b, d⟩ := V.2.2.2.2.1 (h1 84 (9 * r + c)).toNat (by omega)
          refine ⟨(h1 84 (9 * r + c)).toNat, by omega, ?_, (svy_sz V q.1).symm⟩
          have := (V.2.2.2.1 c r c' r' q.1 a).mp (by omega)
          show h1 85 _ = x1
          rw [d, this.1]; exact q.2
      rw [em]
      exact k h1 (fun k hk => f k (by omega))
    · refine g_M_mainland_0 (fun _ => ?_) (fun q => absurd c q)
      refine c_M_laysIslands e W (Or.inl rfl) (fun h' m f L => ?_)
      rw [SM_1] at L
      refine g_M_mainland_21 ?_
      have L1 := L.1
      have em : fld (fun k s => if True then max s (sumF (fun j => if h' 112 j = ((k : Nat) : Int) then (1 : Int) else 0) 70 0) else s) m.toNat 0 0 = mxI (rmC h 10) x1 := by
        have sz : ∀ c r, SL (rmC h 10) x1 c r → sumF (fun j => if h' 112 j = h' 112 (10 * r + c) then (1 : Int) else 0) 70 0 = szI (rmC h 10) c r := fun c r q => lay_sz W q.1 (by rw [q.2]; exact L)
        refine mx_lab W (X := fun _ => True) (E := fun k => sumF (fun j => if h' 112 j = ((k : Nat) : Int) then (1 : Int) else 0) 70 0) (fun k hk _ => ?_) (fun c r q => ?_)
        · obtain ⟨c, r, a, b⟩ := L.2.2.2.2 k (by omega)
          exact ⟨c, r, a, by rw [← sz c r a, b]⟩
        · have := L.2.2.1 c r q
          refine ⟨(h' 112 (10 * r + c)).toNat, by omega, trivial, ?_⟩
          rw [← sz c r q, show (((h' 112 (10 * r + c)).toNat : Nat) : Int) = h' 112 (10 * r + c) by omega]
      have key : ∀ (d i : Nat) (t : Int), (i : Int) + d = m → Q (some (vi (fld (fun k s => if True then max s (sumF (fun j => if h' 112 j = ((k : Nat) : Int) then (1 : Int) else 0) 70 0) else s) d i t))) (hs h' 103 2 0) → Wp true i_M_mainland 25 [vr 103, vi x1, vi t, vi m, vi (i : Int)] [] h' Q := by
        intro d
        induction d with
        | zero =>
          intro i t e1 kk
          refine g_M_mainland_25 ?_ ?_ ?_
          · intro c1; (try simp only [Int.toNat_natCast] at c1); first | (exfalso; omega) | exact absurd trivial ‹¬ True› | (exact kk)
          · intro c1; (try simp only [Int.toNat_natCast] at c1); first | omega | (exfalso; omega) | exact ⟨by omega, by omega⟩ | (omega) | exact absurd trivial ‹¬ True›
          · intro c1; (try simp only [Int.toNat_natCast] at c1); first | (exfalso; omega) | exact absurd trivial ‹¬ True› | (skip)
        | succ d ih =>
          intro i t e1 kk
          simp only [fld, if_true] at kk
          have nx := ih (i + 1) _ (by omega) kk
          refine g_M_mainland_25 ?_ ?_ ?_
          · intro c1; (try simp only [Int.toNat_natCast] at c1); first | (exfalso; omega) | exact absurd trivial ‹¬ True› | (skip)
          · intro c1; (try simp only [Int.toNat_natCast] at c1); first | omega | (exfalso; omega) | exact ⟨by omega, by omega⟩ | (omega) | exact absurd trivial ‹¬ True›
          · intro c1; (try simp only [Int.toNat_natCast] at c1); first | (exfalso; omega) | exact absurd trivial ‹¬ True› | (exact nx)
      refine key m.toNat 0 0 (by omega) ?_
      rw [em]
      exact k h' (ScM_0 (fun k hk => f k (by omega)))
  · refine ag_act0 (v := vi (-1)) (st := 1) hR (fun Q k => ?_) (fun g Q e gk k => ?_)
    · exact g_C_mainland_0 (fun q => absurd q c) (fun _ => k)
    · exact g_M_mainland_0 (fun q => absurd q c) (fun _ => k)
noncomputable def jnd (R : HP) (c r c' r' : Nat) : Int := @ite Int (rLand R c' r' = rLand R c r ∧ Cn (SL R (rLand R c r)) c r c' r') (Classical.propDecidable _) 1 0
theorem lay_jn {R h' : HP} {n : Int} (W : WR R) {c r c' r' : Nat} (hb : isB R c r) (hb' : isB R c' r') (L : Lay (SL R (rLand R c r)) h' n) : (h' 112 (10 * r + c) = h' 112 (10 * r' + c') ↔ (rLand R c' r' = rLand R c r ∧ Cn (SL R (rLand R c r)) c r c' r')) := by
  have w := W.1
  have b1 := hb'.1
  have b2 := hb'.2
  obtain ⟨L1, L2, L3, L4, L5⟩ := L
  have l0 := L3 c r ⟨hb, rfl⟩
  constructor
  · intro q
    by_cases z : SL R (rLand R c r) c' r'
    · exact ⟨z.2, (L4 c r c' r' ⟨hb, rfl⟩ z).mp q⟩
    · have := L2 c' r' (by omega) (by omega) z
      omega
  · intro q
    exact (L4 c r c' r' ⟨hb, rfl⟩ ⟨hb', q.1⟩).mpr q.2
theorem A_joined {n : Nat} {h : HP} {x1 x2 x3 x4 : Int} (hR : Rel n h) : Agree n h i_C_joined i_M_joined [vr 0, vi x1, vi x2, vi x3, vi x4] [vr 103, vi x1, vi x2, vi x3, vi x4] := by
  have s := hR.2.2.2.2.2.1
  have W := s.2.1
  have w := W.1
  have dd := cdim (rfl : rmC h 10 = rmC h 10)
  by_cases c : (0 ≤ x1 ∧ x1 < h 10 0 ∧ 0 ≤ x2 ∧ x2 < h 10 1) ∧ (0 ≤ x3 ∧ x3 < h 10 0 ∧ 0 ≤ x4 ∧ x4 < h 10 1)
  · obtain ⟨c1, c2⟩ := c
    obtain ⟨a, rfl⟩ : ∃ a : Nat, x1 = a := ⟨x1.toNat, by omega⟩
    obtain ⟨b, rfl⟩ : ∃ b : Nat, x2 = b := ⟨x2.toNat, by omega⟩
    obtain ⟨a', rfl⟩ : ∃ b : Nat, x3 = b := ⟨x3.toNat, by omega⟩
    obtain ⟨b', rfl⟩ : ∃ b : Nat, x4 = b := ⟨x4.toNat, by omega⟩
    have hb : isB (rmC h 10) a b := ⟨by omega, by omega⟩
    have hb' : isB (rmC h 10) a' b' := ⟨by omega, by omega⟩
    refine ag_scr (v := vi (jnd (rmC h 10) a b a' b')) (st := 0) hR (fun Q k => ?_) (fun g Q e gk k => ?_)
    · refine g_C_joined_0 (fun q => absurd c1 q) (fun _ _ => ?_) (fun _ q => absurd c2 q)
      refine c_Is_survey isF_10 rfl W (fun h1 f V => ?_)
      have e9 : ((b : Int) * 9 + (a : Int)).toNat = 9 * b + a := by omega
      have e9' : ((b' : Int) * 9 + (a' : Int)).toNat = 9 * b' + a' := by omega
      have V4 := V.2.2.2.1 a b a' b' hb hb'
      have k := k h1 (fun k hk => f k (by omega))
      unfold jnd at k
      refine g_C_joined_42 (by omega) (by omega) (by omega) (by omega) (by omega) (by omega) (fun q => ?_) (fun q => ?_)
      · rw [e9, e9'] at q
        rw [if_neg (fun z => q (V4.mpr z))] at k; exact k
      · rw [e9, e9'] at q
        rw [if_pos (V4.mp q)] at k; exact k
    · have d := mdim e
      refine g_M_joined_0 (fun q => by omega) (fun _ _ => by rw [e]; exact W) (fun _ _ => by omega) (fun _ _ => ?_) (fun _ q => by omega)
      rw [e]
      refine c_M_laysIslands e W (Or.inl rfl) (fun h' m f L => ?_)
      rw [SM_1] at L
      have e9 : (10 * (b : Int) + (a : Int)).toNat = 10 * b + a := by omega
      have e9' : (10 * (b' : Int) + (a' : Int)).toNat = 10 * b' + a' := by omega
      have V4 := lay_jn W hb hb' L
      have k := k h' (ScM_0 (fun k hk => f k (by omega)))
      unfold jnd at k
      refine g_M_joined_36 (by omega) (by omega) (by omega) (by omega) (by omega) (by omega) (fun q => ?_) (fun q => ?_)
      · rw [e9, e9'] at q
        rw [if_neg (fun z => q (V4.mpr z))] at k; exact k
      · rw [e9, e9'] at q
        rw [if_pos (V4.mp q)] at k; exact k
  · refine ag_act0 (v := vi (-1)) (st := 1) hR (fun Q k => ?_) (fun g Q e gk k => ?_)
    · exact g_C_joined_0 (fun _ => k) (fun q1 q2 => absurd ⟨q1, q2⟩ c) (fun _ _ => k)
    · have d := mdim e
      exact g_M_joined_0 (fun _ => k) (fun q1 q2 => by omega) (fun q1 q2 => by omega) (fun q1 q2 => by omega) (fun _ _ => k)

def rchP (R : HP) (t i : Nat) : Prop := rLand R (R 2 i) (R 3 i) = rLand R (R 2 t) (R 3 t) ∧ Cn (SL R (rLand R (R 2 t) (R 3 t))) (R 2 t).toNat (R 3 t).toNat (R 2 i).toNat (R 3 i).toNat
noncomputable def rchG (R : HP) (t i : Nat) (s : Int) : Int := @ite Int (rchP R t i) (Classical.propDecidable _) (o_or s (o_shl 1 i)) s
theorem rchG_t {R : HP} {t i : Nat} {s : Int} (h : rchP R t i) : rchG R t i s = o_or s (o_shl 1 i) := if_pos h
theorem rchG_f {R : HP} {t i : Nat} {s : Int} (h : ¬ rchP R t i) : rchG R t i s = s := if_neg h
noncomputable def rchS (R : HP) (t : Nat) (n : Nat) : Int := fld (rchG R t) n 0 0
theorem A_reach {n : Nat} {h : HP} {x1 : Int} (hR : Rel n h) : Agree n h i_C_reach i_M_reach [vr 0, vi x1] [vr 103, vi x1, vr 9999, vr 9999] := by
  have s := hR.2.2.2.2.2.1
  have W := s.2.1
  have w := W.1
  have dd := cdim (rfl : rmC h 10 = rmC h 10)
  by_cases c : 0 ≤ x1 ∧ x1 < h 10 3
  · obtain ⟨t, rfl⟩ : ∃ a : Nat, x1 = a := ⟨x1.toNat, by omega⟩
    obtain ⟨R, eR⟩ : ∃ R, R = rmC h 10 := ⟨_, rfl⟩
    rw [← eR] at W w dd
    have hbt : ∀ i : Nat, (i : Int) < R 0 3 → ∃ a b : Nat, R 2 i = a ∧ R 3 i = b ∧ isB R a b := by
      intro i hi
      obtain ⟨v1, v2, -⟩ := W.2.2.1 i hi
      exact ⟨(R 2 i).toNat, (R 3 i).toNat, by omega, by omega, by omega, by omega⟩
    obtain ⟨a, b, ea, eb, hb⟩ := hbt t (by omega)
    refine ag_scr (v := vi (rchS R t (R 0 3).toNat)) (st := 0) hR (fun Q k => ?_) (fun g Q e gk k => ?_)
    · refine g_C_reach_0 (fun _ => ?_) (fun q => absurd c q)
      refine c_Is_survey isF_10 eR.symm W (fun h1 f V => ?_)
      have e1 : rmC h1 10 = R := (rC_frame isF_10 (fun k hk => f k (by omega))).trans eR.symm
      have d1 := cdim e1
      refine g_C_reach_28 (by rw [e1]; exact W) (by omega) ?_
      have em : fld (fun i s => if h1 84 (rmC h1 10 3 ((t : Int)).toNat * 9 + rmC h1 10 2 ((t : Int)).toNat).toNat = h1 84 (rmC h1 10 3 i * 9 + rmC h1 10 2 i).toNat then o_or s (o_shl 1 i) else s) (rmC h1 10 0 3).toNat 0 0 = rchS R t (R 0 3).toNat := by
        unfold rchS
        rw [e1, Int.toNat_natCast]
        apply fld_congr
        intro i s _ hi
        obtain ⟨a', b', ea', eb', hb'⟩ := hbt i (by omega)
        have V4 := V.2.2.2.1 a b a' b' hb hb'
        have cnd : rchP R t i ↔ (h1 84 (9 * b + a) = h1 84 (9 * b' + a')) := by
          unfold rchP
          rw [ea, eb, ea', eb', Int.toNat_natCast, Int.toNat_natCast, Int.toNat_natCast, Int.toNat_natCast]
          exact V4.symm
        rw [ea, eb, ea', eb', show ((b : Int) * 9 + (a : Int)).toNat = 9 * b + a by omega, show ((b' : Int) * 9 + (a' : Int)).toNat = 9 * b' + a' by omega]
        by_cases q : h1 84 (9 * b + a) = h1 84 (9 * b' + a')
        · rw [if_pos q, rchG_t (cnd.mpr q)]
        · rw [if_neg q, rchG_f (fun z => q (cnd.mp z))]
      rw [em]
      exact k h1 (fun k hk => f k (by omega))
    · rw [← eR] at e
      have d := mdim e
      refine g_M_reach_0 (fun _ => by rw [e]; exact W) (fun _ => by omega) (fun _ => ?_) (fun q => by omega)
      have el : rHo (rmM g 0) ((t : Int)).toNat = rLand R a b := by
        rw [e, Int.toNat_natCast, ← rLand_self W (by omega), ea, eb]
      rw [el]
      refine c_M_laysIslands e W (Or.inl rfl) (fun h' m f L => ?_)
      rw [SM_1] at L
      have e1 : rmM h' 0 = R := (rmM_congr (f 104 (by decide))).trans e
      have d1 := mdim e1
      refine g_M_reach_24 ?_
      have key : ∀ (d i : Nat) (s : Int), (i : Int) + d = R 0 3 → in32 s → Q (some (vi (fld (rchG R t) d i s))) (hs h' 103 2 0) → Wp true i_M_reach 29 [vr 103, vi (t : Int), vi s, vi (i : Int)] [] h' Q := by
        intro d'
        induction d' with
        | zero =>
          intro i s e2 hs' kk
          refine g_M_reach_29 ?_ ?_ ?_ ?_ ?_ ?_ ?_ ?_ ?_ ?_
          · intro c1; (try simp only [Int.toNat_natCast] at c1); first | (exfalso; omega) | exact absurd trivial ‹¬ True› | (exact kk)
          · intro c1; (try simp only [Int.toNat_natCast] at c1); first | omega | (exfalso; omega) | exact ⟨by omega, by omega⟩ | (omega) | exact absurd trivial ‹¬ True›
          · intro c1; (try simp only [Int.toNat_natCast] at c1); first | omega | (exfalso; omega) | exact ⟨by omega, by omega⟩ | (omega) | exact absurd trivial ‹¬ True›
          · intro c1; (try simp only [Int.toNat_natCast] at c1); first | omega | (exfalso; omega) | exact ⟨by omega, by omega⟩ | (omega) | exact absurd trivial ‹¬ True›
          · intro c1; (try simp only [Int.toNat_natCast] at c1); first | omega | (exfalso; omega) | exact ⟨by omega, by omega⟩ | (omega) | exact absurd trivial ‹¬ True›
          · intro c1; (try simp only [Int.toNat_natCast] at c1); first | omega | (exfalso; omega) | exact ⟨by omega, by omega⟩ | (omega) | exact absurd trivial ‹¬ True›
          · intro c1 c2; (try simp only [Int.toNat_natCast] at c1 c2); first | omega | (exfalso; omega) | exact ⟨by omega, by omega⟩ | (omega) | exact absurd trivial ‹¬ True›
          · intro c1 c2; (try simp only [Int.toNat_natCast] at c1 c2); first | (exfalso; omega) | exact absurd trivial ‹¬ True› | (skip)
          · intro c1 c2; (try simp only [Int.toNat_natCast] at c1 c2); first | omega | (exfalso; omega) | exact ⟨by omega, by omega⟩ | (omega) | exact absurd trivial ‹¬ True›
          · intro c1 c2; (try simp only [Int.toNat_natCast] at c1 c2); first | (exfalso; omega) | exact absurd trivial ‹¬ True› | (skip)
        | succ d' ih =>
          intro i s e2 hs' kk
          obtain ⟨a', b', ea', eb', hb'⟩ := hbt i (by omega)
          have V4 := lay_jn W hb hb' L
          have t1 : rmM h' 0 3 ((i : Int)).toNat = b' ∧ rmM h' 0 2 ((i : Int)).toNat = a' := by rw [e1, Int.toNat_natCast]; exact ⟨eb', ea'⟩
          have t2 : rmM h' 0 3 ((t : Int)).toNat = b ∧ rmM h' 0 2 ((t : Int)).toNat = a := by rw [e1, Int.toNat_natCast]; exact ⟨eb, ea⟩
          have hb1 := hb.1
          have hb2 := hb.2
          have hb3 := hb'.1
          have hb4 := hb'.2
          have m1 : h' 112 (10 * rmM h' 0 3 ((i : Int)).toNat + rmM h' 0 2 ((i : Int)).toNat).toNat = h' 112 (10 * b' + a') := by rw [t1.1, t1.2]; congr 1 <;> omega
          have m2 : h' 112 (10 * rmM h' 0 3 ((t : Int)).toNat + rmM h' 0 2 ((t : Int)).toNat).toNat = h' 112 (10 * b + a) := by rw [t2.1, t2.2]; congr 1 <;> omega
          have cnd : rchP R t i ↔ (h' 112 (10 * b + a) = h' 112 (10 * b' + a')) := by
            unfold rchP
            rw [ea, eb, ea', eb', Int.toNat_natCast, Int.toNat_natCast, Int.toNat_natCast, Int.toNat_natCast]
            exact V4.symm
          simp only [fld] at kk
          refine g_M_reach_29 (fun q => by omega) (fun _ => by rw [e1]; exact W) (fun _ => by omega) (fun _ => by omega) (fun _ => by omega) (fun _ => by omega) (fun _ _ => by omega) (fun _ q => ?_) (fun _ _ => by omega) (fun _ q => ?_)
          · rw [m1, m2] at q
            rw [rchG_f (fun z => q (cnd.mp z).symm)] at kk
            rw [or_0 hs']
            exact ih (i + 1) _ (by omega) hs' kk
          · rw [m1, m2] at q
            rw [rchG_t (cnd.mpr q.symm)] at kk
            exact ih (i + 1) _ (by omega) (in32_toInt _) kk
      exact key (R 0 3).toNat 0 0 (by omega) (by unfold in32; omega) (k h' (ScM_0 (fun k hk => f k (by omega))))
  · refine ag_act0 (v := vi (-1)) (st := 1) hR (fun Q k => ?_) (fun g Q e gk k => ?_)
    · exact g_C_reach_0 (fun q => absurd q c) (fun _ => k)
    · have d := mdim e
      exact g_M_reach_0 (fun q => by omega) (fun q => by omega) (fun q => by omega) (fun _ => k)
