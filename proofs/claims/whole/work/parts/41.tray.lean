def sFit (s v : Int) : Int := if s = 0 then w8 (w32 v) else if s = 1 then w16 (w32 v) else if s = 2 then w32 v else v
/-- what is wrong with a place of a tray: so its sorts (-1: missing), si its sizes -/
def sTr (mi si : Nat → Int) (t p : Int) : Int := if 0 ≤ t ∧ t < 4 then (if mi t.toNat = -1 then 2 else if 0 ≤ p ∧ p < si t.toNat then 0 else 3) else 1

theorem g_Ty_isMissing_0 {Q : PQ} {h : HP} {x1 : Int} 
    (o1 : 0 ≤ x1 ∧ x1 < 4)
    (k2 : ¬ h 3 x1.toNat = -1 → Q (some (vi 0)) h)
    (k3 : h 3 x1.toNat = -1 → Q (some (vi 1)) h) :
    Wp true i_Ty_isMissing 0 [vr 1, vi x1] [] h Q := by
  refine r_aload_n (v := 1) f_133_0 rfl (by decide) ?_
  refine r_getr (q := 3) f_133_1 rfl (by decide) (Or.inl rfl) rfl ?_
  refine r_iload_n (v := x1) f_133_4 rfl ?_
  refine r_iaload (n := 4) (v := h 3 x1.toNat) f_133_5 ⟨rfl, rfl⟩ o1 rfl ?_
  refine r_iconst f_133_6 (by decide) ?_
  refine r_br2 (t := 14) f_133_7 rfl cb_ne (fun c1 => ?_) (fun c1 => ?_)
  · refine r_iconst f_133_14 (by decide) ?_
    exact r_retz f_133_15 rfl (by decide) (k2 c1)
  · have c1 := Decidable.not_not.mp c1
    refine r_iconst f_133_10 (by decide) ?_
    refine r_goto (t := 15) f_133_11 rfl ?_
    exact r_retz f_133_15 rfl (by decide) (k3 c1)

theorem c_Ty_isMissing {Q : PQ} {h : HP} {x1 : Int} (o1 : 0 ≤ x1 ∧ x1 < 4) (k : Q (some (vi (bi (h 3 x1.toNat = -1)))) h) :
    Wp true i_Ty_isMissing 0 [vr 1, vi x1] [] h Q := by
  refine g_Ty_isMissing_0 ?_ ?_ ?_
  · intros; first | omega | exact ⟨by omega, by omega⟩
  · intros; exact kf k (by omega)
  · intros; exact kt k (by omega)

theorem g_Ty_alike_0 {Q : PQ} {h : HP} {x1 : Int} {x2 : Int} 
    (o1 : 0 ≤ x1 ∧ x1 < 4)
    (o2 : 0 ≤ x2 ∧ x2 < 4)
    (k3 : ¬ h 3 x1.toNat = h 3 x2.toNat → Q (some (vi 0)) h)
    (k4 : h 3 x1.toNat = h 3 x2.toNat → Q (some (vi 1)) h) :
    Wp true i_Ty_alike 0 [vr 1, vi x1, vi x2] [] h Q := by
  refine r_aload_n (v := 1) f_134_0 rfl (by decide) ?_
  refine r_getr (q := 3) f_134_1 rfl (by decide) (Or.inl rfl) rfl ?_
  refine r_iload_n (v := x1) f_134_4 rfl ?_
  refine r_iaload (n := 4) (v := h 3 x1.toNat) f_134_5 ⟨rfl, rfl⟩ o1 rfl ?_
  refine r_aload_n (v := 1) f_134_6 rfl (by decide) ?_
  refine r_getr (q := 3) f_134_7 rfl (by decide) (Or.inl rfl) rfl ?_
  refine r_iload_n (v := x2) f_134_10 rfl ?_
  refine r_iaload (n := 4) (v := h 3 x2.toNat) f_134_11 ⟨rfl, rfl⟩ o2 rfl ?_
  refine r_br2 (t := 19) f_134_12 rfl cb_ne (fun c1 => ?_) (fun c1 => ?_)
  · refine r_iconst f_134_19 (by decide) ?_
    exact r_retz f_134_20 rfl (by decide) (k3 c1)
  · have c1 := Decidable.not_not.mp c1
    refine r_iconst f_134_15 (by decide) ?_
    refine r_goto (t := 20) f_134_16 rfl ?_
    exact r_retz f_134_20 rfl (by decide) (k4 c1)

theorem c_Ty_alike {Q : PQ} {h : HP} {x1 : Int} {x2 : Int} (o1 : 0 ≤ x1 ∧ x1 < 4) (o2 : 0 ≤ x2 ∧ x2 < 4) (k : Q (some (vi (bi (h 3 x1.toNat = h 3 x2.toNat)))) h) :
    Wp true i_Ty_alike 0 [vr 1, vi x1, vi x2] [] h Q := by
  refine g_Ty_alike_0 ?_ ?_ ?_ ?_
  · intros; first | omega | exact ⟨by omega, by omega⟩
  · intros; first | omega | exact ⟨by omega, by omega⟩
  · intros; exact kf k (by omega)
  · intros; exact kt k (by omega)

theorem g_Ty_hasRun_0 {Q : PQ} {h : HP} {x1 : Int} {x2 : Int} {x3 : Int} 
    (o1 : -9223372036854775808 ≤ x2 + x3 ∧ x2 + x3 ≤ 9223372036854775807)
    (o2 : 0 ≤ x1 ∧ x1 < 4)
    (k3 : h 4 x1.toNat < x2 + x3 → Q (some (vi 0)) h)
    (k4 : ¬ h 4 x1.toNat < x2 + x3 → Q (some (vi 1)) h) :
    Wp true i_Ty_hasRun 0 [vr 1, vi x1, vi x2, vi x3] [] h Q := by
  refine r_iload_n (v := x2) f_135_0 rfl ?_
  refine r_i2l f_135_1 ?_
  refine r_iload_n (v := x3) f_135_2 rfl ?_
  refine r_i2l f_135_3 ?_
  refine r_ladd (u := x2 + x3) f_135_4 rfl o1 ?_
  refine r_aload_n (v := 1) f_135_5 rfl (by decide) ?_
  refine r_getr (q := 4) f_135_6 rfl (by decide) (Or.inl rfl) rfl ?_
  refine r_iload_n (v := x1) f_135_9 rfl ?_
  refine r_iaload (n := 4) (v := h 4 x1.toNat) f_135_10 ⟨rfl, rfl⟩ o2 rfl ?_
  refine r_i2l f_135_11 ?_
  refine r_lcmp f_135_12 ?_
  refine r_br (t := 20) f_135_13 rfl lc_gt (fun c1 => ?_) (fun c1 => ?_)
  · refine r_iconst f_135_20 (by decide) ?_
    exact r_retz f_135_21 rfl (by decide) (k3 c1)
  · refine r_iconst f_135_16 (by decide) ?_
    refine r_goto (t := 21) f_135_17 rfl ?_
    exact r_retz f_135_21 rfl (by decide) (k4 c1)

theorem c_Ty_hasRun {Q : PQ} {h : HP} {x1 : Int} {x2 : Int} {x3 : Int} (o1 : 0 ≤ x1 ∧ x1 < 4) (o2 : -2147483648 ≤ x2 ∧ x2 ≤ 2147483647) (o3 : -2147483648 ≤ x3 ∧ x3 ≤ 2147483647) (k : Q (some (vi (bi (x2 + x3 ≤ h 4 x1.toNat)))) h) :
    Wp true i_Ty_hasRun 0 [vr 1, vi x1, vi x2, vi x3] [] h Q := by
  refine g_Ty_hasRun_0 ?_ ?_ ?_ ?_
  · intros; first | omega | exact ⟨by omega, by omega⟩
  · intros; first | omega | exact ⟨by omega, by omega⟩
  · intros; exact kf k (by omega)
  · intros; exact kt k (by omega)

theorem g_Ty_at_0 {Q : PQ} {h : HP} {x1 : Int} {x2 : Int} 
    (o1 : -2147483648 ≤ x1 * 60 ∧ x1 * 60 ≤ 2147483647)
    (o2 : -2147483648 ≤ (x1 * 60) + x2 ∧ (x1 * 60) + x2 ≤ 2147483647)
    (o3 : 0 ≤ (x1 * 60) + x2 ∧ (x1 * 60) + x2 < 240)
    (k4 : Q (some (vj (h 2 ((x1 * 60) + x2).toNat))) h) :
    Wp true i_Ty_at 0 [vr 1, vi x1, vi x2] [] h Q := by
  refine r_aload_n (v := 1) f_137_0 rfl (by decide) ?_
  refine r_getr (q := 2) f_137_1 rfl (by decide) (Or.inl rfl) rfl ?_
  refine r_iload_n (v := x1) f_137_4 rfl ?_
  refine r_bipush f_137_5 (by decide) ?_
  refine r_imul (u := x1 * 60) f_137_7 rfl o1 ?_
  refine r_iload_n (v := x2) f_137_8 rfl ?_
  refine r_iadd (u := (x1 * 60) + x2) f_137_9 rfl o2 ?_
  refine r_laload (n := 240) (v := h 2 ((x1 * 60) + x2).toNat) f_137_10 ⟨rfl, rfl⟩ o3 rfl ?_
  exact r_retj f_137_11 rfl k4

theorem c_Ty_at {Q : PQ} {h : HP} {x1 : Int} {x2 : Int} (o1 : 0 ≤ x1 ∧ x1 < 4) (o2 : 0 ≤ x2 ∧ x2 < 60) (k : Q (some (vj (h 2 (x1 * 60 + x2).toNat))) h) :
    Wp true i_Ty_at 0 [vr 1, vi x1, vi x2] [] h Q := by
  refine g_Ty_at_0 ?_ ?_ ?_ ?_
  · intros; first | omega | exact ⟨by omega, by omega⟩
  · intros; first | omega | exact ⟨by omega, by omega⟩
  · intros; first | omega | exact ⟨by omega, by omega⟩
  · intros; first | exact k | (refine kw k ?_; omega) | (refine kw k ?_; simp only [*, if_true, if_false]; try omega) | (refine kw k ?_; split <;> omega)

theorem g_Ty_fit_0 {Q : PQ} {h : HP} {x0 : Int} {y1 : Int} 
    (k1 : x0 = 0 → Q (some (vj (w8 (w32 y1)))) h)
    (k2 : x0 = 1 → Q (some (vj (w16 (w32 y1)))) h)
    (k3 : x0 = 2 → Q (some (vj (w32 y1))) h)
    (k4 : ¬ x0 = 0 → ¬ x0 = 1 → ¬ x0 = 2 → Q (some (vj y1)) h) :
    Wp true i_Ty_fit 0 [vi x0, vj y1, vr 9999] [] h Q := by
  refine r_iload_n (v := x0) f_140_0 rfl ?_
  by_cases c1 : x0 = 0
  · refine r_swi (t := 28) f_140_1 0 c1 (by decide) rfl rfl ?_
    refine r_lload_n (v := y1) f_140_28 rfl ?_
    refine r_l2i f_140_29 ?_
    refine r_i2b f_140_30 ?_
    refine r_i2l f_140_31 ?_
    exact r_retj f_140_32 rfl (k1 c1)
  by_cases c2 : x0 = 1
  · refine r_swi (t := 33) f_140_1 1 c2 (by decide) rfl rfl ?_
    refine r_lload_n (v := y1) f_140_33 rfl ?_
    refine r_l2i f_140_34 ?_
    refine r_i2s f_140_35 ?_
    refine r_i2l f_140_36 ?_
    exact r_retj f_140_37 rfl (k2 c2)
  by_cases c3 : x0 = 2
  · refine r_swi (t := 38) f_140_1 2 c3 (by decide) rfl rfl ?_
    refine r_lload_n (v := y1) f_140_38 rfl ?_
    refine r_l2i f_140_39 ?_
    refine r_i2l f_140_40 ?_
    exact r_retj f_140_41 rfl (k3 c3)
  refine r_swo (t := 42) f_140_1 (by omega) rfl ?_
  refine r_lload_n (v := y1) f_140_42 rfl ?_
  exact r_retj f_140_43 rfl (k4 c1 c2 c3)

theorem c_Ty_fit {Q : PQ} {h : HP} {x0 : Int} {y1 : Int} (k : Q (some (vj (sFit x0 y1))) h) :
    Wp true i_Ty_fit 0 [vi x0, vj y1, vr 9999] [] h Q := by
  refine g_Ty_fit_0 ?_ ?_ ?_ ?_
  · intro c1; (try simp only [Int.toNat_natCast] at c1); first | (exfalso; omega) | exact absurd trivial ‹¬ True› | (subst c1; exact k)
  · intro c2; (try simp only [Int.toNat_natCast] at c2); first | (exfalso; omega) | exact absurd trivial ‹¬ True› | (subst c2; exact k)
  · intro c3; (try simp only [Int.toNat_natCast] at c3); first | (exfalso; omega) | exact absurd trivial ‹¬ True› | (subst c3; exact k)
  · intro c1 c2 c3; (try simp only [Int.toNat_natCast] at c1 c2 c3); first | (exfalso; omega) | exact absurd trivial ‹¬ True› | (unfold sFit at k; rw [if_neg c1, if_neg c2, if_neg c3] at k; exact k)

theorem g_M_cut_0 {Q : PQ} {h : HP} {y0 : Int} {x2 : Int} 
    (k1 : ¬ x2 = 0 → ¬ x2 = 1 → ¬ x2 = 2 → Q (some (vj y0)) h)
    (k2 : ¬ x2 = 0 → ¬ x2 = 1 → x2 = 2 → Q (some (vj (w32 y0))) h)
    (k3 : ¬ x2 = 0 → x2 = 1 → Q (some (vj (w16 (w32 y0)))) h)
    (k4 : x2 = 0 → Q (some (vj (w8 (w32 y0)))) h) :
    Wp true i_M_cut 0 [vj y0, vr 9999, vi x2] [] h Q := by
  refine r_iload_n (v := x2) f_232_0 rfl ?_
  refine r_br (t := 11) f_232_1 rfl cb_ne (fun c1 => ?_) (fun c1 => ?_)
  · refine r_iload_n (v := x2) f_232_11 rfl ?_
    refine r_iconst f_232_12 (by decide) ?_
    refine r_br2 (t := 23) f_232_13 rfl cb_ne (fun c2 => ?_) (fun c2 => ?_)
    · refine r_iload_n (v := x2) f_232_23 rfl ?_
      refine r_iconst f_232_24 (by decide) ?_
      refine r_br2 (t := 34) f_232_25 rfl cb_ne (fun c3 => ?_) (fun c3 => ?_)
      · refine r_lload_n (v := y0) f_232_34 rfl ?_
        exact r_retj f_232_35 rfl (k1 c1 c2 c3)
      · have c3 := Decidable.not_not.mp c3
        refine r_lload_n (v := y0) f_232_28 rfl ?_
        refine r_l2i f_232_29 ?_
        refine r_i2l f_232_30 ?_
        refine r_goto (t := 35) f_232_31 rfl ?_
        exact r_retj f_232_35 rfl (k2 c1 c2 c3)
    · have c2 := Decidable.not_not.mp c2
      refine r_lload_n (v := y0) f_232_16 rfl ?_
      refine r_l2i f_232_17 ?_
      refine r_i2s f_232_18 ?_
      refine r_i2l f_232_19 ?_
      refine r_goto (t := 35) f_232_20 rfl ?_
      exact r_retj f_232_35 rfl (k3 c1 c2)
  · have c1 := Decidable.not_not.mp c1
    refine r_lload_n (v := y0) f_232_4 rfl ?_
    refine r_l2i f_232_5 ?_
    refine r_i2b f_232_6 ?_
    refine r_i2l f_232_7 ?_
    refine r_goto (t := 35) f_232_8 rfl ?_
    exact r_retj f_232_35 rfl (k4 c1)

theorem c_M_cut {Q : PQ} {h : HP} {y0 : Int} {x2 : Int} (k : Q (some (vj (sFit x2 y0))) h) :
    Wp true i_M_cut 0 [vj y0, vr 9999, vi x2] [] h Q := by
  unfold sFit at k
  refine g_M_cut_0 ?_ ?_ ?_ ?_
  · intro c1 c2 c3; (try simp only [Int.toNat_natCast] at c1 c2 c3); first | (exfalso; omega) | exact absurd trivial ‹¬ True› | (rw [if_neg c1, if_neg c2, if_neg c3] at k; exact k)
  · intro c1 c2 c3; (try simp only [Int.toNat_natCast] at c1 c2 c3); first | (exfalso; omega) | exact absurd trivial ‹¬ True› | (rw [if_neg c1, if_neg c2, if_pos c3] at k; exact k)
  · intro c1 c2; (try simp only [Int.toNat_natCast] at c1 c2); first | (exfalso; omega) | exact absurd trivial ‹¬ True› | (rw [if_neg c1, if_pos c2] at k; exact k)
  · intro c1; (try simp only [Int.toNat_natCast] at c1); first | (exfalso; omega) | exact absurd trivial ‹¬ True› | (rw [if_pos c1] at k; exact k)

theorem g_Ty_put_0 {Q : PQ} {h : HP} {x1 : Int} {x2 : Int} {y3 : Int} 
    (o1 : -2147483648 ≤ x1 * 60 ∧ x1 * 60 ≤ 2147483647)
    (o2 : -2147483648 ≤ (x1 * 60) + x2 ∧ (x1 * 60) + x2 ≤ 2147483647)
    (o3 : 0 ≤ x1 ∧ x1 < 4)
    (o4 : 0 ≤ (x1 * 60) + x2 ∧ (x1 * 60) + x2 < 240)
    (k5 : Q none (hs h 2 ((x1 * 60) + x2).toNat (sFit (h 3 x1.toNat) y3))) :
    Wp true i_Ty_put 0 [vr 1, vi x1, vi x2, vj y3, vr 9999] [] h Q := by
  refine r_aload_n (v := 1) f_138_0 rfl (by decide) ?_
  refine r_getr (q := 2) f_138_1 rfl (by decide) (Or.inl rfl) rfl ?_
  refine r_iload_n (v := x1) f_138_4 rfl ?_
  refine r_bipush f_138_5 (by decide) ?_
  refine r_imul (u := x1 * 60) f_138_7 rfl o1 ?_
  refine r_iload_n (v := x2) f_138_8 rfl ?_
  refine r_iadd (u := (x1 * 60) + x2) f_138_9 rfl o2 ?_
  refine r_aload_n (v := 1) f_138_10 rfl (by decide) ?_
  refine r_getr (q := 3) f_138_11 rfl (by decide) (Or.inl rfl) rfl ?_
  refine r_iload_n (v := x1) f_138_14 rfl ?_
  refine r_iaload (n := 4) (v := h 3 x1.toNat) f_138_15 ⟨rfl, rfl⟩ o3 rfl ?_
  refine r_lload_n (v := y3) f_138_16 rfl ?_
  refine r_calls (as := [vi (h 3 x1.toNat), vj y3]) (st' := [vi ((x1 * 60) + x2), vr 2]) (ls0 := [vi (h 3 x1.toNat), vj y3, vr 9999]) f_138_17 (by decide) (by decide) rfl rfl (Nat.le_of_ble_eq_true rfl) (Nat.le_of_ble_eq_true rfl) rfl ?_
  refine c_Ty_fit  ?_
  show Wp true i_Ty_put 20 [vr 1, vi x1, vi x2, vj y3, vr 9999] [vj (sFit (h 3 x1.toNat) y3), vi ((x1 * 60) + x2), vr 2] h Q
  refine r_lastore (n := 240) f_138_20 ⟨rfl, rfl⟩ o4 ?_
  exact r_retv f_138_21 rfl k5

theorem c_Ty_put {Q : PQ} {h : HP} {x1 : Int} {x2 : Int} {y3 : Int} (o1 : 0 ≤ x1 ∧ x1 < 4) (o2 : 0 ≤ x2 ∧ x2 < 60) (k : Q (none) (hs h 2 (x1 * 60 + x2).toNat (sFit (h 3 x1.toNat) y3))) :
    Wp true i_Ty_put 0 [vr 1, vi x1, vi x2, vj y3, vr 9999] [] h Q := by
  refine g_Ty_put_0 ?_ ?_ ?_ ?_ ?_
  · intros; first | omega | exact ⟨by omega, by omega⟩
  · intros; first | omega | exact ⟨by omega, by omega⟩
  · intros; first | omega | exact ⟨by omega, by omega⟩
  · intros; first | omega | exact ⟨by omega, by omega⟩
  · intros; exact k

theorem g_C_trayTrouble_0 {Q : PQ} {h : HP} {x1 : Int} {x2 : Int} 
    (o1 : (0 ≤ x1 ∧ x1 ≤ 3) → 0 ≤ x1 ∧ x1 < 4)
    (k2 : (0 ≤ x1 ∧ x1 ≤ 3) → ¬ (h 3 x1.toNat = -1) → x2 < 0 → Q (some (vi 3)) h)
    (o3 : (0 ≤ x1 ∧ x1 ≤ 3) → ¬ (h 3 x1.toNat = -1) → ¬ x2 < 0 → -2147483648 ≤ x2 ∧ x2 ≤ 2147483647)
    (k4 : (0 ≤ x1 ∧ x1 ≤ 3) → ¬ (h 3 x1.toNat = -1) → ¬ x2 < 0 → ¬ (x2 + 1 ≤ h 4 x1.toNat) → Q (some (vi 3)) h)
    (k5 : (0 ≤ x1 ∧ x1 ≤ 3) → ¬ (h 3 x1.toNat = -1) → ¬ x2 < 0 → (x2 + 1 ≤ h 4 x1.toNat) → Q (some (vi 0)) h)
    (k6 : (0 ≤ x1 ∧ x1 ≤ 3) → (h 3 x1.toNat = -1) → Q (some (vi 2)) h)
    (k7 : ¬ (0 ≤ x1 ∧ x1 ≤ 3) → Q (some (vi 1)) h) :
    Wp true i_C_trayTrouble 0 [vr 0, vi x1, vi x2] [] h Q := by
  refine r_iload_n (v := x1) f_211_0 rfl ?_
  refine r_calls (as := [vi x1]) (st' := []) (ls0 := [vi x1]) f_211_1 (by decide) (by decide) rfl rfl (Nat.le_of_ble_eq_true rfl) (Nat.le_of_ble_eq_true rfl) rfl ?_
  refine c_C_isTray  ?_
  show Wp true i_C_trayTrouble 4 [vr 0, vi x1, vi x2] [vi (bi (0 ≤ x1 ∧ x1 ≤ 3))] h Q
  refine r_br (t := 9) f_211_4 rfl cb_bt (fun c1 => ?_) (fun c1 => ?_)
  · refine r_aload_n (v := 0) f_211_9 rfl (by decide) ?_
    refine r_getr (q := 1) f_211_10 rfl (by decide) (Or.inl rfl) rfl ?_
    refine r_iload_n (v := x1) f_211_13 rfl ?_
    refine r_callv (as := [vr 1, vi x1]) (st' := []) (ls0 := [vr 1, vi x1]) f_211_14 (by decide) rfl rfl (Nat.le_of_ble_eq_true rfl) (Nat.le_of_ble_eq_true rfl) ⟨_, _, rfl, rfl⟩ rfl ?_
    refine c_Ty_isMissing (o1 c1) ?_
    show Wp true i_C_trayTrouble 17 [vr 0, vi x1, vi x2] [vi (bi (h 3 x1.toNat = -1))] h Q
    refine r_br (t := 22) f_211_17 rfl cb_bf (fun c2 => ?_) (fun c2 => ?_)
    · refine r_iload_n (v := x2) f_211_22 rfl ?_
      refine r_br (t := 43) f_211_23 rfl cb_lt (fun c3 => ?_) (fun c3 => ?_)
      · refine r_iconst f_211_43 (by decide) ?_
        exact r_reti f_211_44 rfl (k2 c1 c2 c3)
      · refine r_aload_n (v := 0) f_211_26 rfl (by decide) ?_
        refine r_getr (q := 1) f_211_27 rfl (by decide) (Or.inl rfl) rfl ?_
        refine r_iload_n (v := x1) f_211_30 rfl ?_
        refine r_iload_n (v := x2) f_211_31 rfl ?_
        refine r_iconst f_211_32 (by decide) ?_
        refine r_callv (as := [vr 1, vi x1, vi x2, vi 1]) (st' := []) (ls0 := [vr 1, vi x1, vi x2, vi 1]) f_211_33 (by decide) rfl rfl (Nat.le_of_ble_eq_true rfl) (Nat.le_of_ble_eq_true rfl) ⟨_, _, rfl, rfl⟩ rfl ?_
        refine c_Ty_hasRun (o1 c1) (o3 c1 c2 c3) (by decide) ?_
        show Wp true i_C_trayTrouble 36 [vr 0, vi x1, vi x2] [vi (bi (x2 + 1 ≤ h 4 x1.toNat))] h Q
        refine r_br (t := 43) f_211_36 rfl cb_bf (fun c4 => ?_) (fun c4 => ?_)
        · refine r_iconst f_211_43 (by decide) ?_
          exact r_reti f_211_44 rfl (k4 c1 c2 c3 c4)
        · have c4 := Decidable.not_not.mp c4
          refine r_iconst f_211_39 (by decide) ?_
          refine r_goto (t := 44) f_211_40 rfl ?_
          exact r_reti f_211_44 rfl (k5 c1 c2 c3 c4)
    · have c2 := Decidable.not_not.mp c2
      refine r_iconst f_211_20 (by decide) ?_
      exact r_reti f_211_21 rfl (k6 c1 c2)
  · refine r_iconst f_211_7 (by decide) ?_
    exact r_reti f_211_8 rfl (k7 c1)

theorem c_C_trayTrouble {Q : PQ} {h : HP} {x1 : Int} {x2 : Int} (o1 : -2147483648 ≤ x2 ∧ x2 ≤ 2147483647) (k : Q (some (vi (sTr (h 3) (h 4) x1 x2))) h) :
    Wp true i_C_trayTrouble 0 [vr 0, vi x1, vi x2] [] h Q := by
  unfold sTr at k
  refine g_C_trayTrouble_0 ?_ ?_ ?_ ?_ ?_ ?_ ?_
  · intro c1; (try simp only [Int.toNat_natCast] at c1); first | omega | (exfalso; omega) | exact ⟨by omega, by omega⟩ | (omega) | exact absurd trivial ‹¬ True›
  · intro c1 c2 c3; (try simp only [Int.toNat_natCast] at c1 c2 c3); first | (exfalso; omega) | exact absurd trivial ‹¬ True› | (rw [if_pos (by omega), if_neg c2, if_neg (by omega)] at k; exact k)
  · intro c1 c2 c3; (try simp only [Int.toNat_natCast] at c1 c2 c3); first | omega | (exfalso; omega) | exact ⟨by omega, by omega⟩ | (omega) | exact absurd trivial ‹¬ True›
  · intro c1 c2 c3 c4; (try simp only [Int.toNat_natCast] at c1 c2 c3 c4); first | (exfalso; omega) | exact absurd trivial ‹¬ True› | (rw [if_pos (by omega), if_neg c2, if_neg (by omega)] at k; exact k)
  · intro c1 c2 c3 c4; (try simp only [Int.toNat_natCast] at c1 c2 c3 c4); first | (exfalso; omega) | exact absurd trivial ‹¬ True› | (rw [if_pos (by omega), if_neg c2, if_pos (by omega)] at k; exact k)
  · intro c1 c2; (try simp only [Int.toNat_natCast] at c1 c2); first | (exfalso; omega) | exact absurd trivial ‹¬ True› | (rw [if_pos (by omega), if_pos c2] at k; exact k)
  · intro c1; (try simp only [Int.toNat_natCast] at c1); first | (exfalso; omega) | exact absurd trivial ‹¬ True› | (rw [if_neg (by omega)] at k; exact k)

theorem g_M_wrongPlace_0 {Q : PQ} {h : HP} {x1 : Int} {x2 : Int} 
    (o1 : (0 ≤ x1 ∧ x1 < 4) → 0 ≤ x1 ∧ x1 < 4)
    (k2 : (0 ≤ x1 ∧ x1 < 4) → ¬ h 107 x1.toNat = -1 → x2 < 0 → Q (some (vi 3)) h)
    (k3 : (0 ≤ x1 ∧ x1 < 4) → ¬ h 107 x1.toNat = -1 → ¬ x2 < 0 → x2 < h 107 x1.toNat → Q (some (vi 0)) h)
    (k4 : (0 ≤ x1 ∧ x1 < 4) → ¬ h 107 x1.toNat = -1 → ¬ x2 < 0 → ¬ x2 < h 107 x1.toNat → Q (some (vi 3)) h)
    (k5 : (0 ≤ x1 ∧ x1 < 4) → h 107 x1.toNat = -1 → Q (some (vi 2)) h)
    (k6 : ¬ (0 ≤ x1 ∧ x1 < 4) → Q (some (vi 1)) h) :
    Wp true i_M_wrongPlace 0 [vr 103, vi x1, vi x2] [] h Q := by
  refine r_iload_n (v := x1) f_234_0 rfl ?_
  refine r_calls (as := [vi x1]) (st' := []) (ls0 := [vi x1]) f_234_1 (by decide) (by decide) rfl rfl (Nat.le_of_ble_eq_true rfl) (Nat.le_of_ble_eq_true rfl) rfl ?_
  refine c_M_isTray  ?_
  show Wp true i_M_wrongPlace 4 [vr 103, vi x1, vi x2] [vi (bi (0 ≤ x1 ∧ x1 < 4))] h Q
  refine r_br (t := 11) f_234_4 rfl cb_bt (fun c1 => ?_) (fun c1 => ?_)
  · refine r_aload_n (v := 103) f_234_11 rfl (by decide) ?_
    refine r_getr (q := 107) f_234_12 rfl (by decide) (Or.inl rfl) rfl ?_
    refine r_iload_n (v := x1) f_234_15 rfl ?_
    refine r_iaload (n := 4) (v := h 107 x1.toNat) f_234_16 ⟨rfl, rfl⟩ (o1 c1) rfl ?_
    refine r_iconst f_234_17 (by decide) ?_
    refine r_br2 (t := 25) f_234_18 rfl cb_ne (fun c2 => ?_) (fun c2 => ?_)
    · refine r_iload_n (v := x2) f_234_25 rfl ?_
      refine r_br (t := 39) f_234_26 rfl cb_lt (fun c3 => ?_) (fun c3 => ?_)
      · refine r_iconst f_234_39 (by decide) ?_
        refine r_goto (t := 44) f_234_40 rfl ?_
        exact r_reti f_234_44 rfl (k2 c1 c2 c3)
      · refine r_iload_n (v := x2) f_234_29 rfl ?_
        refine r_aload_n (v := 103) f_234_30 rfl (by decide) ?_
        refine r_getr (q := 107) f_234_31 rfl (by decide) (Or.inl rfl) rfl ?_
        refine r_iload_n (v := x1) f_234_34 rfl ?_
        refine r_iaload (n := 4) (v := h 107 x1.toNat) f_234_35 ⟨rfl, rfl⟩ (o1 c1) rfl ?_
        refine r_br2 (t := 43) f_234_36 rfl cb_lt (fun c4 => ?_) (fun c4 => ?_)
        · refine r_iconst f_234_43 (by decide) ?_
          exact r_reti f_234_44 rfl (k3 c1 c2 c3 c4)
        · refine r_iconst f_234_39 (by decide) ?_
          refine r_goto (t := 44) f_234_40 rfl ?_
          exact r_reti f_234_44 rfl (k4 c1 c2 c3 c4)
    · have c2 := Decidable.not_not.mp c2
      refine r_iconst f_234_21 (by decide) ?_
      refine r_goto (t := 44) f_234_22 rfl ?_
      exact r_reti f_234_44 rfl (k5 c1 c2)
  · refine r_iconst f_234_7 (by decide) ?_
    refine r_goto (t := 44) f_234_8 rfl ?_
    exact r_reti f_234_44 rfl (k6 c1)

theorem c_M_wrongPlace {Q : PQ} {h : HP} {x1 : Int} {x2 : Int} (k : Q (some (vi (sTr (h 107) (h 107) x1 x2))) h) :
    Wp true i_M_wrongPlace 0 [vr 103, vi x1, vi x2] [] h Q := by
  unfold sTr at k
  refine g_M_wrongPlace_0 ?_ ?_ ?_ ?_ ?_ ?_
  · intro c1; (try simp only [Int.toNat_natCast] at c1); first | omega | (exfalso; omega) | exact ⟨by omega, by omega⟩ | (omega) | exact absurd trivial ‹¬ True›
  · intro c1 c2 c3; (try simp only [Int.toNat_natCast] at c1 c2 c3); first | (exfalso; omega) | exact absurd trivial ‹¬ True› | (rw [if_pos c1, if_neg c2, if_neg (by omega)] at k; exact k)
  · intro c1 c2 c3 c4; (try simp only [Int.toNat_natCast] at c1 c2 c3 c4); first | (exfalso; omega) | exact absurd trivial ‹¬ True› | (rw [if_pos c1, if_neg c2, if_pos (by omega)] at k; exact k)
  · intro c1 c2 c3 c4; (try simp only [Int.toNat_natCast] at c1 c2 c3 c4); first | (exfalso; omega) | exact absurd trivial ‹¬ True› | (rw [if_pos c1, if_neg c2, if_neg (by omega)] at k; exact k)
  · intro c1 c2; (try simp only [Int.toNat_natCast] at c1 c2); first | (exfalso; omega) | exact absurd trivial ‹¬ True› | (rw [if_pos c1, if_pos c2] at k; exact k)
  · intro c1; (try simp only [Int.toNat_natCast] at c1); first | (exfalso; omega) | exact absurd trivial ‹¬ True› | (rw [if_neg c1] at k; exact k)

theorem sTr_eq {h : HP} (hT : RTray h) (t p : Int) : sTr (h 107) (h 107) t p = sTr (h 3) (h 4) t p := by
  unfold sTr
  by_cases c : 0 ≤ t ∧ t < 4
  · rw [if_pos c, if_pos c]
    rcases hT t.toNat (by omega) with ⟨a, b⟩ | ⟨a, b, c2, d, -⟩
    · rw [if_pos b, if_pos a]
    · rw [if_neg (show ¬ h 107 t.toNat = -1 by omega), if_neg (show ¬ h 3 t.toNat = -1 by omega), c2]
  · rw [if_neg c, if_neg c]
theorem sTr_0 {h : HP} (hT : RTray h) {t p : Int} (e : sTr (h 3) (h 4) t p = 0) : (0 ≤ t ∧ t < 4) ∧ 0 ≤ p ∧ p < h 4 t.toNat ∧ h 4 t.toNat ≤ 60 ∧ ¬ h 3 t.toNat = -1 := by
  unfold sTr at e
  by_cases c : 0 ≤ t ∧ t < 4
  · rw [if_pos c] at e
    by_cases a : h 3 t.toNat = -1
    · rw [if_pos a] at e; omega
    · rw [if_neg a] at e
      rcases hT t.toNat (by omega) with ⟨b, -⟩ | ⟨-, -, -, d, -⟩
      · exact absurd b a
      · by_cases g : 0 ≤ p ∧ p < h 4 t.toNat
        · exact ⟨c, g.1, g.2, d.2, a⟩
        · rw [if_neg g] at e; omega
  · rw [if_neg c] at e; omega

theorem g_C_read_0 {Q : PQ} {h : HP} {x1 : Int} {x2 : Int} 
    (o1 : -2147483648 ≤ x2 ∧ x2 ≤ 2147483647)
    (o2 : sTr (h 3) (h 4) x1 x2 = 0 → 0 ≤ x1 ∧ x1 < 4)
    (o3 : sTr (h 3) (h 4) x1 x2 = 0 → 0 ≤ x2 ∧ x2 < 60)
    (k4 : sTr (h 3) (h 4) x1 x2 = 0 → Q (some (vj ((hs h 0 0 0) 2 (x1 * 60 + x2).toNat))) (hs h 0 0 0))
    (k5 : ¬ sTr (h 3) (h 4) x1 x2 = 0 → Q (some (vj (-1))) (hs h 0 0 (sTr (h 3) (h 4) x1 x2))) :
    Wp true i_C_read 0 [vr 0, vi x1, vi x2, vr 9999] [] h Q := by
  refine r_aload_n (v := 0) f_147_0 rfl (by decide) ?_
  refine r_iload_n (v := x1) f_147_1 rfl ?_
  refine r_iload_n (v := x2) f_147_2 rfl ?_
  refine r_callv (as := [vr 0, vi x1, vi x2]) (st' := []) (ls0 := [vr 0, vi x1, vi x2]) f_147_3 (by decide) rfl rfl (Nat.le_of_ble_eq_true rfl) (Nat.le_of_ble_eq_true rfl) ⟨_, _, rfl, rfl⟩ rfl ?_
  refine c_C_trayTrouble o1 ?_
  show Wp true i_C_read 6 [vr 0, vi x1, vi x2, vr 9999] [vi (sTr (h 3) (h 4) x1 x2)] h Q
  refine r_istore_n (ls' := [vr 0, vi x1, vi x2, vi (sTr (h 3) (h 4) x1 x2)]) f_147_6 (Nat.le_of_ble_eq_true rfl) rfl ?_
  refine r_iload_n (v := sTr (h 3) (h 4) x1 x2) f_147_7 rfl ?_
  refine r_br (t := 18) f_147_8 rfl cb_eq (fun c1 => ?_) (fun c1 => ?_)
  · refine r_aload_n (v := 0) f_147_18 rfl (by decide) ?_
    refine r_iconst f_147_19 (by decide) ?_
    refine r_puti f_147_20 rfl (by decide) ?_
    refine r_aload_n (v := 0) f_147_23 rfl (by decide) ?_
    refine r_getr (q := 1) f_147_24 rfl (by decide) (Or.inl rfl) rfl ?_
    refine r_iload_n (v := x1) f_147_27 rfl ?_
    refine r_iload_n (v := x2) f_147_28 rfl ?_
    refine r_callv (as := [vr 1, vi x1, vi x2]) (st' := []) (ls0 := [vr 1, vi x1, vi x2]) f_147_29 (by decide) rfl rfl (Nat.le_of_ble_eq_true rfl) (Nat.le_of_ble_eq_true rfl) ⟨_, _, rfl, rfl⟩ rfl ?_
    refine c_Ty_at (o2 c1) (o3 c1) ?_
    show Wp true i_C_read 32 [vr 0, vi x1, vi x2, vi (sTr (h 3) (h 4) x1 x2)] [vj ((hs h 0 0 0) 2 (x1 * 60 + x2).toNat)] (hs h 0 0 0) Q
    exact r_retj f_147_32 rfl (k4 c1)
  · refine r_aload_n (v := 0) f_147_11 rfl (by decide) ?_
    refine r_iload_n (v := sTr (h 3) (h 4) x1 x2) f_147_12 rfl ?_
    refine r_callv (as := [vr 0, vi (sTr (h 3) (h 4) x1 x2)]) (st' := []) (ls0 := [vr 0, vi (sTr (h 3) (h 4) x1 x2)]) f_147_13 (by decide) rfl rfl (Nat.le_of_ble_eq_true rfl) (Nat.le_of_ble_eq_true rfl) ⟨_, _, rfl, rfl⟩ rfl ?_
    refine c_C_refuse  ?_
    show Wp true i_C_read 16 [vr 0, vi x1, vi x2, vi (sTr (h 3) (h 4) x1 x2)] [vi (-1)] (hs h 0 0 (sTr (h 3) (h 4) x1 x2)) Q
    refine r_i2l f_147_16 ?_
    exact r_retj f_147_17 rfl (k5 c1)

theorem g_M_read_0 {Q : PQ} {h : HP} {x1 : Int} {x2 : Int} 
    (o1 : sTr (h 107) (h 107) x1 x2 ≤ 0 → -2147483648 ≤ 60 * x1 ∧ 60 * x1 ≤ 2147483647)
    (o2 : sTr (h 107) (h 107) x1 x2 ≤ 0 → -2147483648 ≤ (60 * x1) + x2 ∧ (60 * x1) + x2 ≤ 2147483647)
    (o3 : sTr (h 107) (h 107) x1 x2 ≤ 0 → 0 ≤ (60 * x1) + x2 ∧ (60 * x1) + x2 < 240)
    (k4 : sTr (h 107) (h 107) x1 x2 ≤ 0 → Q (some (vj (h 108 ((60 * x1) + x2).toNat))) (hs h 103 2 (sTr (h 107) (h 107) x1 x2)))
    (k5 : ¬ sTr (h 107) (h 107) x1 x2 ≤ 0 → Q (some (vj (-1))) (hs h 103 2 (sTr (h 107) (h 107) x1 x2))) :
    Wp true i_M_read 0 [vr 103, vi x1, vi x2] [] h Q := by
  refine r_aload_n (v := 103) f_236_0 rfl (by decide) ?_
  refine r_aload_n (v := 103) f_236_1 rfl (by decide) ?_
  refine r_iload_n (v := x1) f_236_2 rfl ?_
  refine r_iload_n (v := x2) f_236_3 rfl ?_
  refine r_callv (as := [vr 103, vi x1, vi x2]) (st' := [vr 103]) (ls0 := [vr 103, vi x1, vi x2]) f_236_4 (by decide) rfl rfl (Nat.le_of_ble_eq_true rfl) (Nat.le_of_ble_eq_true rfl) ⟨_, _, rfl, rfl⟩ rfl ?_
  refine c_M_wrongPlace  ?_
  show Wp true i_M_read 7 [vr 103, vi x1, vi x2] [vi (sTr (h 107) (h 107) x1 x2), vr 103] h Q
  refine r_puti f_236_7 rfl (by decide) ?_
  refine r_aload_n (v := 103) f_236_10 rfl (by decide) ?_
  refine r_geti (v := sTr (h 107) (h 107) x1 x2) f_236_11 rfl (by decide) (by simp [hs]) ?_
  refine r_br (t := 23) f_236_14 rfl cb_le (fun c1 => ?_) (fun c1 => ?_)
  · refine r_aload_n (v := 103) f_236_23 rfl (by decide) ?_
    refine r_getr (q := 108) f_236_24 rfl (by decide) (Or.inl rfl) rfl ?_
    refine r_bipush f_236_27 (by decide) ?_
    refine r_iload_n (v := x1) f_236_29 rfl ?_
    refine r_imul (u := 60 * x1) f_236_30 rfl (o1 c1) ?_
    refine r_iload_n (v := x2) f_236_31 rfl ?_
    refine r_iadd (u := (60 * x1) + x2) f_236_32 rfl (o2 c1) ?_
    refine r_laload (n := 240) (v := h 108 ((60 * x1) + x2).toNat) f_236_33 ⟨rfl, rfl⟩ (o3 c1) (by simp [hs]) ?_
    exact r_retj f_236_34 rfl (k4 c1)
  · refine r_ldc2_w f_236_17 (by decide) ?_
    refine r_goto (t := 34) f_236_20 rfl ?_
    exact r_retj f_236_34 rfl (k5 c1)

