/-! ===== NIGHT, SWEEP, MOVE, LEG, BENDS ===== -/
def nStep (r : Nat) (s : HP × Int) : HP × Int := if rBend s.1 r ≤ s.1 0 2 then s else (hs s.1 1 r (if s.1 1 r ≤ s.1 1 (r - 1) then s.1 1 (r - 1) - s.1 0 2 else s.1 1 (r - 1) + s.1 0 2), s.2 + 1)
def nAll (R : HP) : HP × Int := fld nStep (R 0 1 - 1).toNat 1 (R, 0)
def aNight (R : HP) : HP := hs (nAll R).1 0 6 ((nAll R).1 0 6 + 1)
theorem nStep_0 {r : Nat} {s : HP × Int} (c : rBend s.1 r ≤ s.1 0 2) : nStep r s = s := if_pos c
theorem nStep_1 {r : Nat} {s : HP × Int} (c : ¬ rBend s.1 r ≤ s.1 0 2) (c2 : s.1 1 r ≤ s.1 1 (r - 1)) : nStep r s = (hs s.1 1 r (s.1 1 (r - 1) - s.1 0 2), s.2 + 1) := by
  unfold nStep; rw [if_neg c, if_pos c2]
theorem nStep_2 {r : Nat} {s : HP × Int} (c : ¬ rBend s.1 r ≤ s.1 0 2) (c2 : ¬ s.1 1 r ≤ s.1 1 (r - 1)) : nStep r s = (hs s.1 1 r (s.1 1 (r - 1) + s.1 0 2), s.2 + 1) := by
  unfold nStep; rw [if_neg c, if_neg c2]
/-- what stays of a ROOM when its LINE alone moves -/
def SameL (R R' : HP) : Prop := WR R' ∧ SameD R R' ∧ R' 0 2 = R 0 2 ∧ R' 0 4 = R 0 4 ∧ R' 0 5 = R 0 5 ∧ R' 0 6 = R 0 6
theorem SameL_tr {R R1 R2 : HP} (a : SameL R R1) (b : SameL R1 R2) : SameL R R2 :=
  ⟨b.1, ⟨b.2.1.1.trans a.2.1.1, b.2.1.2.1.trans a.2.1.2.1, b.2.1.2.2.trans a.2.1.2.2⟩, b.2.2.1.trans a.2.2.1, b.2.2.2.1.trans a.2.2.2.1, b.2.2.2.2.1.trans a.2.2.2.2.1, b.2.2.2.2.2.trans a.2.2.2.2.2⟩
theorem SameL_0 {R : HP} (W : WR R) : SameL R R := ⟨W, ⟨rfl, rfl, rfl⟩, rfl, rfl, rfl, rfl⟩
theorem SameL_cut {R : HP} {r : Nat} {v : Int} (W : WR R) (hv : 0 ≤ v ∧ v ≤ R 0 0) : SameL R (hs R 1 r v) :=
  ⟨WR_cut W hv, ⟨hs_o (by omega), hs_o (by omega), hs_o (by omega)⟩, hs_o (by omega), hs_o (by omega), hs_o (by omega), hs_o (by omega)⟩
theorem nStep_ok {r : Nat} {s : HP × Int} (W : WR s.1) (h1 : 1 ≤ r) (hr : (r : Int) < s.1 0 1) : SameL s.1 (nStep r s).1 ∧ s.2 ≤ (nStep r s).2 ∧ (nStep r s).2 ≤ s.2 + 1 := by
  have w := W.1
  have a := W.2.1 r hr
  have b := W.2.1 (r - 1) (by omega)
  have e : rBend s.1 r = ((s.1 1 r - s.1 1 (r - 1)).natAbs : Int) := rfl
  by_cases c : rBend s.1 r ≤ s.1 0 2
  · rw [nStep_0 c]; exact ⟨SameL_0 W, by omega, by omega⟩
  · by_cases c2 : s.1 1 r ≤ s.1 1 (r - 1)
    · rw [nStep_1 c c2]; exact ⟨SameL_cut W (by omega), by show s.2 ≤ s.2 + 1; omega, by show s.2 + 1 ≤ s.2 + 1; omega⟩
    · rw [nStep_2 c c2]; exact ⟨SameL_cut W (by omega), by show s.2 ≤ s.2 + 1; omega, by show s.2 + 1 ≤ s.2 + 1; omega⟩
theorem nAll_ok {R : HP} (W : WR R) : SameL R (nAll R).1 := by
  have key : ∀ (d i : Nat) (s : HP × Int), SameL R s.1 → 1 ≤ i → (d = 0 ∨ (i : Int) + d ≤ R 0 1) → SameL R (fld nStep d i s).1 := by
    intro d
    induction d with
    | zero => intro i s hs _ _; exact hs
    | succ d ih =>
      intro i s hs h1 h2
      have := nStep_ok (r := i) (s := s) hs.1 h1 (by rw [hs.2.1.2.1]; omega)
      exact ih (i + 1) (nStep i s) (SameL_tr hs this.1) (by omega) (by omega)
  exact key _ 1 (R, 0) (SameL_0 W) (by omega) (by have := W.1; omega)
theorem aNight_WR {R : HP} (W : WR R) : WR (aNight R) := WR_hd (nAll_ok W).1 (by omega) (by omega)
theorem aNight_D {R : HP} (W : WR R) : SameD R (aNight R) := by
  have a := (nAll_ok W).2.1
  unfold aNight
  exact ⟨(hs_o (by omega)).trans a.1, (hs_o (by omega)).trans a.2.1, (hs_o (by omega)).trans a.2.2⟩
theorem aNight_b {R : HP} (W : WR R) : (aNight R) 0 4 = R 0 4 ∧ (aNight R) 0 5 = R 0 5 ∧ (aNight R) 0 6 = R 0 6 + 1 := by
  have a := nAll_ok W
  unfold aNight
  exact ⟨(hs_o (by omega)).trans a.2.2.2.1, (hs_o (by omega)).trans a.2.2.2.2.1, hs_s.trans (by rw [a.2.2.2.2.2])⟩

theorem g_Fl_passNight_0 {Q : PQ} {h : HP}  {f0 : Nat} (h_f0 : isF f0)
    (k1 : Wp true i_Fl_passNight 4 [vr f0, vi 0, vi 1] [] h Q) :
    Wp true i_Fl_passNight 0 [vr f0, vr 9999, vr 9999] [] h Q := by
  refine r_iconst f_56_0 (by decide) ?_
  refine r_istore_n (ls' := [vr f0, vi 0, vr 9999]) f_56_1 (Nat.le_of_ble_eq_true rfl) rfl ?_
  refine r_iconst f_56_2 (by decide) ?_
  refine r_istore_n (ls' := [vr f0, vi 0, vi 1]) f_56_3 (Nat.le_of_ble_eq_true rfl) rfl ?_
  exact k1

theorem g_Fl_passNight_4 {Q : PQ} {h : HP} {x1 : Int} {x2 : Int} {f0 : Nat} (h_f0 : isF f0)
    (o1 : h f0 1 ≤ x2 → -2147483648 ≤ (h f0 4) + 1 ∧ (h f0 4) + 1 ≤ 2147483647)
    (k2 : h f0 1 ≤ x2 → Q (some (vi x1)) (hs h f0 4 ((h f0 4) + 1)))
    (o3 : ¬ h f0 1 ≤ x2 → WR (rmC h f0))
    (o4 : ¬ h f0 1 ≤ x2 → 1 ≤ x2 ∧ x2 < h f0 1)
    (o5 : ¬ h f0 1 ≤ x2 → rBend (rmC h f0) x2.toNat ≤ h f0 2 → -2147483648 ≤ x2 + 1 ∧ x2 + 1 ≤ 2147483647)
    (k6 : ¬ h f0 1 ≤ x2 → rBend (rmC h f0) x2.toNat ≤ h f0 2 → Wp true i_Fl_passNight 4 [vr f0, vi x1, vi (x2 + 1)] [] h Q)
    (o7 : ¬ h f0 1 ≤ x2 → ¬ rBend (rmC h f0) x2.toNat ≤ h f0 2 → 0 ≤ x2 ∧ x2 < 7)
    (o8 : ¬ h f0 1 ≤ x2 → ¬ rBend (rmC h f0) x2.toNat ≤ h f0 2 → -2147483648 ≤ x2 - 1 ∧ x2 - 1 ≤ 2147483647)
    (o9 : ¬ h f0 1 ≤ x2 → ¬ rBend (rmC h f0) x2.toNat ≤ h f0 2 → 0 ≤ x2 - 1 ∧ x2 - 1 < 7)
    (o10 : ¬ h f0 1 ≤ x2 → ¬ rBend (rmC h f0) x2.toNat ≤ h f0 2 → h (f0 + 2) x2.toNat ≤ h (f0 + 2) (x2 - 1).toNat → -2147483648 ≤ (h (f0 + 2) (x2 - 1).toNat) - (h f0 2) ∧ (h (f0 + 2) (x2 - 1).toNat) - (h f0 2) ≤ 2147483647)
    (o11 : ¬ h f0 1 ≤ x2 → ¬ rBend (rmC h f0) x2.toNat ≤ h f0 2 → h (f0 + 2) x2.toNat ≤ h (f0 + 2) (x2 - 1).toNat → -2147483648 ≤ x1 + 1 ∧ x1 + 1 ≤ 2147483647)
    (o12 : ¬ h f0 1 ≤ x2 → ¬ rBend (rmC h f0) x2.toNat ≤ h f0 2 → h (f0 + 2) x2.toNat ≤ h (f0 + 2) (x2 - 1).toNat → -2147483648 ≤ x2 + 1 ∧ x2 + 1 ≤ 2147483647)
    (k13 : ¬ h f0 1 ≤ x2 → ¬ rBend (rmC h f0) x2.toNat ≤ h f0 2 → h (f0 + 2) x2.toNat ≤ h (f0 + 2) (x2 - 1).toNat → Wp true i_Fl_passNight 4 [vr f0, vi (x1 + 1), vi (x2 + 1)] [] (hs h (f0 + 2) x2.toNat ((h (f0 + 2) (x2 - 1).toNat) - (h f0 2))) Q)
    (o14 : ¬ h f0 1 ≤ x2 → ¬ rBend (rmC h f0) x2.toNat ≤ h f0 2 → ¬ h (f0 + 2) x2.toNat ≤ h (f0 + 2) (x2 - 1).toNat → -2147483648 ≤ (h (f0 + 2) (x2 - 1).toNat) + (h f0 2) ∧ (h (f0 + 2) (x2 - 1).toNat) + (h f0 2) ≤ 2147483647)
    (o15 : ¬ h f0 1 ≤ x2 → ¬ rBend (rmC h f0) x2.toNat ≤ h f0 2 → ¬ h (f0 + 2) x2.toNat ≤ h (f0 + 2) (x2 - 1).toNat → -2147483648 ≤ x1 + 1 ∧ x1 + 1 ≤ 2147483647)
    (o16 : ¬ h f0 1 ≤ x2 → ¬ rBend (rmC h f0) x2.toNat ≤ h f0 2 → ¬ h (f0 + 2) x2.toNat ≤ h (f0 + 2) (x2 - 1).toNat → -2147483648 ≤ x2 + 1 ∧ x2 + 1 ≤ 2147483647)
    (k17 : ¬ h f0 1 ≤ x2 → ¬ rBend (rmC h f0) x2.toNat ≤ h f0 2 → ¬ h (f0 + 2) x2.toNat ≤ h (f0 + 2) (x2 - 1).toNat → Wp true i_Fl_passNight 4 [vr f0, vi (x1 + 1), vi (x2 + 1)] [] (hs h (f0 + 2) x2.toNat ((h (f0 + 2) (x2 - 1).toNat) + (h f0 2))) Q) :
    Wp true i_Fl_passNight 4 [vr f0, vi x1, vi x2] [] h Q := by
  refine r_iload_n (v := x2) f_56_4 rfl ?_
  refine r_aload_n (v := f0) f_56_5 rfl (F_n h_f0) ?_
  refine r_geti (v := h f0 1) f_56_6 (F_k h_f0) (by decide) rfl ?_
  refine r_br2 (t := 85) f_56_9 rfl cb_ge (fun c1 => ?_) (fun c1 => ?_)
  · refine r_aload_n (v := f0) f_56_85 rfl (F_n h_f0) ?_
    refine r_dupr f_56_86 ?_
    refine r_geti (v := h f0 4) f_56_87 (F_k h_f0) (by decide) rfl ?_
    refine r_iconst f_56_90 (by decide) ?_
    refine r_iadd (u := (h f0 4) + 1) f_56_91 rfl (o1 c1) ?_
    refine r_puti f_56_92 (F_k h_f0) (by decide) ?_
    refine r_iload_n (v := x1) f_56_95 rfl ?_
    exact r_reti f_56_96 rfl (k2 c1)
  · refine r_aload_n (v := f0) f_56_12 rfl (F_n h_f0) ?_
    refine r_iload_n (v := x2) f_56_13 rfl ?_
    refine r_callv (as := [vr f0, vi x2]) (st' := []) (ls0 := [vr f0, vi x2]) f_56_14 (by decide) rfl rfl (Nat.le_of_ble_eq_true rfl) (Nat.le_of_ble_eq_true rfl) ⟨_, _, rfl, (F_k h_f0)⟩ rfl ?_
    refine c_Fl_bendAt h_f0 (o3 c1) (o4 c1) ?_
    show Wp true i_Fl_passNight 17 [vr f0, vi x1, vi x2] [vi (rBend (rmC h f0) x2.toNat)] h Q
    refine r_aload_n (v := f0) f_56_17 rfl (F_n h_f0) ?_
    refine r_geti (v := h f0 2) f_56_18 (F_k h_f0) (by decide) rfl ?_
    refine r_br2 (t := 79) f_56_21 rfl cb_le (fun c2 => ?_) (fun c2 => ?_)
    · refine r_iinc (v := x2) (w := x2 + 1) (ls' := [vr f0, vi x1, vi (x2 + 1)]) f_56_79 rfl rfl (o5 c1 c2) rfl ?_
      refine r_goto (t := 4) f_56_82 rfl ?_
      exact (k6 c1 c2)
    · refine r_aload_n (v := f0) f_56_24 rfl (F_n h_f0) ?_
      refine r_getr (q := (f0 + 2)) f_56_25 (F_k h_f0) (by decide) (Or.inl rfl) rfl ?_
      refine r_iload_n (v := x2) f_56_28 rfl ?_
      refine r_aload_n (v := f0) f_56_29 rfl (F_n h_f0) ?_
      refine r_getr (q := (f0 + 2)) f_56_30 (F_k h_f0) (by decide) (Or.inl rfl) rfl ?_
      refine r_iload_n (v := x2) f_56_33 rfl ?_
      refine r_iaload (n := 7) (v := h (f0 + 2) x2.toNat) f_56_34 (F_2 h_f0) (o7 c1 c2) rfl ?_
      refine r_aload_n (v := f0) f_56_35 rfl (F_n h_f0) ?_
      refine r_getr (q := (f0 + 2)) f_56_36 (F_k h_f0) (by decide) (Or.inl rfl) rfl ?_
      refine r_iload_n (v := x2) f_56_39 rfl ?_
      refine r_iconst f_56_40 (by decide) ?_
      refine r_isub (u := x2 - 1) f_56_41 rfl (o8 c1 c2) ?_
      refine r_iaload (n := 7) (v := h (f0 + 2) (x2 - 1).toNat) f_56_42 (F_2 h_f0) (o9 c1 c2) rfl ?_
      refine r_br2 (t := 62) f_56_43 rfl cb_le (fun c3 => ?_) (fun c3 => ?_)
      · refine r_aload_n (v := f0) f_56_62 rfl (F_n h_f0) ?_
        refine r_getr (q := (f0 + 2)) f_56_63 (F_k h_f0) (by decide) (Or.inl rfl) rfl ?_
        refine r_iload_n (v := x2) f_56_66 rfl ?_
        refine r_iconst f_56_67 (by decide) ?_
        refine r_isub (u := x2 - 1) f_56_68 rfl (o8 c1 c2) ?_
        refine r_iaload (n := 7) (v := h (f0 + 2) (x2 - 1).toNat) f_56_69 (F_2 h_f0) (o9 c1 c2) rfl ?_
        refine r_aload_n (v := f0) f_56_70 rfl (F_n h_f0) ?_
        refine r_geti (v := h f0 2) f_56_71 (F_k h_f0) (by decide) rfl ?_
        refine r_isub (u := (h (f0 + 2) (x2 - 1).toNat) - (h f0 2)) f_56_74 rfl (o10 c1 c2 c3) ?_
        refine r_iastore (n := 7) f_56_75 (F_2 h_f0) (o7 c1 c2) ?_
        refine r_iinc (v := x1) (w := x1 + 1) (ls' := [vr f0, vi (x1 + 1), vi x2]) f_56_76 rfl rfl (o11 c1 c2 c3) rfl ?_
        refine r_iinc (v := x2) (w := x2 + 1) (ls' := [vr f0, vi (x1 + 1), vi (x2 + 1)]) f_56_79 rfl rfl (o12 c1 c2 c3) rfl ?_
        refine r_goto (t := 4) f_56_82 rfl ?_
        exact (k13 c1 c2 c3)
      · refine r_aload_n (v := f0) f_56_46 rfl (F_n h_f0) ?_
        refine r_getr (q := (f0 + 2)) f_56_47 (F_k h_f0) (by decide) (Or.inl rfl) rfl ?_
        refine r_iload_n (v := x2) f_56_50 rfl ?_
        refine r_iconst f_56_51 (by decide) ?_
        refine r_isub (u := x2 - 1) f_56_52 rfl (o8 c1 c2) ?_
        refine r_iaload (n := 7) (v := h (f0 + 2) (x2 - 1).toNat) f_56_53 (F_2 h_f0) (o9 c1 c2) rfl ?_
        refine r_aload_n (v := f0) f_56_54 rfl (F_n h_f0) ?_
        refine r_geti (v := h f0 2) f_56_55 (F_k h_f0) (by decide) rfl ?_
        refine r_iadd (u := (h (f0 + 2) (x2 - 1).toNat) + (h f0 2)) f_56_58 rfl (o14 c1 c2 c3) ?_
        refine r_goto (t := 75) f_56_59 rfl ?_
        refine r_iastore (n := 7) f_56_75 (F_2 h_f0) (o7 c1 c2) ?_
        refine r_iinc (v := x1) (w := x1 + 1) (ls' := [vr f0, vi (x1 + 1), vi x2]) f_56_76 rfl rfl (o15 c1 c2 c3) rfl ?_
        refine r_iinc (v := x2) (w := x2 + 1) (ls' := [vr f0, vi (x1 + 1), vi (x2 + 1)]) f_56_79 rfl rfl (o16 c1 c2 c3) rfl ?_
        refine r_goto (t := 4) f_56_82 rfl ?_
        exact (k17 c1 c2 c3)

theorem g_M_nights_0 {Q : PQ} {h : HP}  
    (k1 : Wp true i_M_nights 4 [vr 103, vi 0, vi 1, vr 9999] [] h Q) :
    Wp true i_M_nights 0 [vr 103, vr 9999, vr 9999, vr 9999] [] h Q := by
  refine r_iconst f_306_0 (by decide) ?_
  refine r_istore_n (ls' := [vr 103, vi 0, vr 9999, vr 9999]) f_306_1 (Nat.le_of_ble_eq_true rfl) rfl ?_
  refine r_iconst f_306_2 (by decide) ?_
  refine r_istore_n (ls' := [vr 103, vi 0, vi 1, vr 9999]) f_306_3 (Nat.le_of_ble_eq_true rfl) rfl ?_
  exact k1

theorem g_M_nights_4 {Q : PQ} {h : HP} {x1 : Int} {x2 : Int} {j3 : AV} 
    (o1 : h 104 1 ≤ x2 → -2147483648 ≤ (h 104 6) + 1 ∧ (h 104 6) + 1 ≤ 2147483647)
    (k2 : h 104 1 ≤ x2 → Q (some (vi x1)) (hs h 104 6 ((h 104 6) + 1)))
    (o3 : ¬ h 104 1 ≤ x2 → WR (rmM h 0))
    (o4 : ¬ h 104 1 ≤ x2 → 0 ≤ x2 ∧ x2 < h 104 1)
    (o5 : ¬ h 104 1 ≤ x2 → -2147483648 ≤ x2 - 1 ∧ x2 - 1 ≤ 2147483647)
    (o6 : ¬ h 104 1 ≤ x2 → 0 ≤ (x2 - 1) ∧ (x2 - 1) < h 104 1)
    (o7 : ¬ h 104 1 ≤ x2 → -2147483648 ≤ (rmM h 0 1 x2.toNat) - (rmM h 0 1 (x2 - 1).toNat) ∧ (rmM h 0 1 x2.toNat) - (rmM h 0 1 (x2 - 1).toNat) ≤ 2147483647)
    (o8 : ¬ h 104 1 ≤ x2 → -2147483647 ≤ ((rmM h 0 1 x2.toNat) - (rmM h 0 1 (x2 - 1).toNat)) ∧ ((rmM h 0 1 x2.toNat) - (rmM h 0 1 (x2 - 1).toNat)) ≤ 2147483647)
    (o9 : ¬ h 104 1 ≤ x2 → h 104 3 < (((rmM h 0 1 x2.toNat) - (rmM h 0 1 (x2 - 1).toNat)).natAbs : Int) → -2147483648 ≤ 8 + x2 ∧ 8 + x2 ≤ 2147483647)
    (o10 : ¬ h 104 1 ≤ x2 → h 104 3 < (((rmM h 0 1 x2.toNat) - (rmM h 0 1 (x2 - 1).toNat)).natAbs : Int) → (rmM h 0 1 x2.toNat) - (rmM h 0 1 (x2 - 1).toNat) ≤ 0 → -2147483648 ≤ -(h 104 3) ∧ -(h 104 3) ≤ 2147483647)
    (o11 : ¬ h 104 1 ≤ x2 → h 104 3 < (((rmM h 0 1 x2.toNat) - (rmM h 0 1 (x2 - 1).toNat)).natAbs : Int) → (rmM h 0 1 x2.toNat) - (rmM h 0 1 (x2 - 1).toNat) ≤ 0 → -2147483648 ≤ (rmM h 0 1 (x2 - 1).toNat) + (-(h 104 3)) ∧ (rmM h 0 1 (x2 - 1).toNat) + (-(h 104 3)) ≤ 2147483647)
    (o12 : ¬ h 104 1 ≤ x2 → h 104 3 < (((rmM h 0 1 x2.toNat) - (rmM h 0 1 (x2 - 1).toNat)).natAbs : Int) → (rmM h 0 1 x2.toNat) - (rmM h 0 1 (x2 - 1).toNat) ≤ 0 → 0 ≤ 8 + x2 ∧ 8 + x2 < 3000)
    (o13 : ¬ h 104 1 ≤ x2 → h 104 3 < (((rmM h 0 1 x2.toNat) - (rmM h 0 1 (x2 - 1).toNat)).natAbs : Int) → (rmM h 0 1 x2.toNat) - (rmM h 0 1 (x2 - 1).toNat) ≤ 0 → -2147483648 ≤ x1 + 1 ∧ x1 + 1 ≤ 2147483647)
    (o14 : ¬ h 104 1 ≤ x2 → h 104 3 < (((rmM h 0 1 x2.toNat) - (rmM h 0 1 (x2 - 1).toNat)).natAbs : Int) → (rmM h 0 1 x2.toNat) - (rmM h 0 1 (x2 - 1).toNat) ≤ 0 → -2147483648 ≤ x2 + 1 ∧ x2 + 1 ≤ 2147483647)
    (k15 : ¬ h 104 1 ≤ x2 → h 104 3 < (((rmM h 0 1 x2.toNat) - (rmM h 0 1 (x2 - 1).toNat)).natAbs : Int) → (rmM h 0 1 x2.toNat) - (rmM h 0 1 (x2 - 1).toNat) ≤ 0 → Wp true i_M_nights 4 [vr 103, vi (x1 + 1), vi (x2 + 1), vi ((rmM h 0 1 x2.toNat) - (rmM h 0 1 (x2 - 1).toNat))] [] (hs h 104 (8 + x2).toNat ((rmM h 0 1 (x2 - 1).toNat) + (-(h 104 3)))) Q)
    (o16 : ¬ h 104 1 ≤ x2 → h 104 3 < (((rmM h 0 1 x2.toNat) - (rmM h 0 1 (x2 - 1).toNat)).natAbs : Int) → ¬ (rmM h 0 1 x2.toNat) - (rmM h 0 1 (x2 - 1).toNat) ≤ 0 → -2147483648 ≤ (rmM h 0 1 (x2 - 1).toNat) + (h 104 3) ∧ (rmM h 0 1 (x2 - 1).toNat) + (h 104 3) ≤ 2147483647)
    (o17 : ¬ h 104 1 ≤ x2 → h 104 3 < (((rmM h 0 1 x2.toNat) - (rmM h 0 1 (x2 - 1).toNat)).natAbs : Int) → ¬ (rmM h 0 1 x2.toNat) - (rmM h 0 1 (x2 - 1).toNat) ≤ 0 → 0 ≤ 8 + x2 ∧ 8 + x2 < 3000)
    (o18 : ¬ h 104 1 ≤ x2 → h 104 3 < (((rmM h 0 1 x2.toNat) - (rmM h 0 1 (x2 - 1).toNat)).natAbs : Int) → ¬ (rmM h 0 1 x2.toNat) - (rmM h 0 1 (x2 - 1).toNat) ≤ 0 → -2147483648 ≤ x1 + 1 ∧ x1 + 1 ≤ 2147483647)
    (o19 : ¬ h 104 1 ≤ x2 → h 104 3 < (((rmM h 0 1 x2.toNat) - (rmM h 0 1 (x2 - 1).toNat)).natAbs : Int) → ¬ (rmM h 0 1 x2.toNat) - (rmM h 0 1 (x2 - 1).toNat) ≤ 0 → -2147483648 ≤ x2 + 1 ∧ x2 + 1 ≤ 2147483647)
    (k20 : ¬ h 104 1 ≤ x2 → h 104 3 < (((rmM h 0 1 x2.toNat) - (rmM h 0 1 (x2 - 1).toNat)).natAbs : Int) → ¬ (rmM h 0 1 x2.toNat) - (rmM h 0 1 (x2 - 1).toNat) ≤ 0 → Wp true i_M_nights 4 [vr 103, vi (x1 + 1), vi (x2 + 1), vi ((rmM h 0 1 x2.toNat) - (rmM h 0 1 (x2 - 1).toNat))] [] (hs h 104 (8 + x2).toNat ((rmM h 0 1 (x2 - 1).toNat) + (h 104 3))) Q)
    (o21 : ¬ h 104 1 ≤ x2 → ¬ h 104 3 < (((rmM h 0 1 x2.toNat) - (rmM h 0 1 (x2 - 1).toNat)).natAbs : Int) → -2147483648 ≤ x2 + 1 ∧ x2 + 1 ≤ 2147483647)
    (k22 : ¬ h 104 1 ≤ x2 → ¬ h 104 3 < (((rmM h 0 1 x2.toNat) - (rmM h 0 1 (x2 - 1).toNat)).natAbs : Int) → Wp true i_M_nights 4 [vr 103, vi x1, vi (x2 + 1), vi ((rmM h 0 1 x2.toNat) - (rmM h 0 1 (x2 - 1).toNat))] [] h Q) :
    Wp true i_M_nights 4 [vr 103, vi x1, vi x2, j3] [] h Q := by
  refine r_iload_n (v := x2) f_306_4 rfl ?_
  refine r_aload_n (v := 103) f_306_5 rfl (by decide) ?_
  refine r_getr (q := 104) f_306_6 rfl (by decide) (Or.inl rfl) rfl ?_
  refine r_iconst f_306_9 (by decide) ?_
  refine r_iaload (n := 3000) (v := h 104 1) f_306_10 ⟨rfl, rfl⟩ (by decide) rfl ?_
  refine r_br2 (t := 90) f_306_11 rfl cb_ge (fun c1 => ?_) (fun c1 => ?_)
  · refine r_aload_n (v := 103) f_306_90 rfl (by decide) ?_
    refine r_getr (q := 104) f_306_91 rfl (by decide) (Or.inl rfl) rfl ?_
    refine r_bipush f_306_94 (by decide) ?_
    refine r_dup2ir f_306_96 ?_
    refine r_iaload (n := 3000) (v := h 104 6) f_306_97 ⟨rfl, rfl⟩ (by decide) rfl ?_
    refine r_iconst f_306_98 (by decide) ?_
    refine r_iadd (u := (h 104 6) + 1) f_306_99 rfl (o1 c1) ?_
    refine r_iastore (n := 3000) f_306_100 ⟨rfl, rfl⟩ (by decide) ?_
    refine r_iload_n (v := x1) f_306_101 rfl ?_
    exact r_reti f_306_102 rfl (k2 c1)
  · refine r_aload_n (v := 103) f_306_14 rfl (by decide) ?_
    refine r_iload_n (v := x2) f_306_15 rfl ?_
    refine r_callv (as := [vr 103, vi x2]) (st' := []) (ls0 := [vr 103, vi x2]) f_306_16 (by decide) rfl rfl (Nat.le_of_ble_eq_true rfl) (Nat.le_of_ble_eq_true rfl) ⟨_, _, rfl, rfl⟩ rfl ?_
    refine c_M_lineOf (o3 c1) (o4 c1) ?_
    show Wp true i_M_nights 19 [vr 103, vi x1, vi x2, j3] [vi (rmM h 0 1 x2.toNat)] h Q
    refine r_aload_n (v := 103) f_306_19 rfl (by decide) ?_
    refine r_iload_n (v := x2) f_306_20 rfl ?_
    refine r_iconst f_306_21 (by decide) ?_
    refine r_isub (u := x2 - 1) f_306_22 rfl (o5 c1) ?_
    refine r_callv (as := [vr 103, vi (x2 - 1)]) (st' := [vi (rmM h 0 1 x2.toNat)]) (ls0 := [vr 103, vi (x2 - 1)]) f_306_23 (by decide) rfl rfl (Nat.le_of_ble_eq_true rfl) (Nat.le_of_ble_eq_true rfl) ⟨_, _, rfl, rfl⟩ rfl ?_
    refine c_M_lineOf (o3 c1) (o6 c1) ?_
    show Wp true i_M_nights 26 [vr 103, vi x1, vi x2, j3] [vi (rmM h 0 1 (x2 - 1).toNat), vi (rmM h 0 1 x2.toNat)] h Q
    refine r_isub (u := (rmM h 0 1 x2.toNat) - (rmM h 0 1 (x2 - 1).toNat)) f_306_26 rfl (o7 c1) ?_
    refine r_istore_n (ls' := [vr 103, vi x1, vi x2, vi ((rmM h 0 1 x2.toNat) - (rmM h 0 1 (x2 - 1).toNat))]) f_306_27 (Nat.le_of_ble_eq_true rfl) rfl ?_
    refine r_iload_n (v := (rmM h 0 1 x2.toNat) - (rmM h 0 1 (x2 - 1).toNat)) f_306_28 rfl ?_
    refine r_calls (as := [vi ((rmM h 0 1 x2.toNat) - (rmM h 0 1 (x2 - 1).toNat))]) (st' := []) (ls0 := [vi ((rmM h 0 1 x2.toNat) - (rmM h 0 1 (x2 - 1).toNat))]) f_306_29 (by decide) (by decide) rfl rfl (Nat.le_of_ble_eq_true rfl) (Nat.le_of_ble_eq_true rfl) rfl ?_
    refine c_Ma_abs (o8 c1) ?_
    show Wp true i_M_nights 32 [vr 103, vi x1, vi x2, vi ((rmM h 0 1 x2.toNat) - (rmM h 0 1 (x2 - 1).toNat))] [vi (((rmM h 0 1 x2.toNat) - (rmM h 0 1 (x2 - 1).toNat)).natAbs : Int)] h Q
    refine r_aload_n (v := 103) f_306_32 rfl (by decide) ?_
    refine r_getr (q := 104) f_306_33 rfl (by decide) (Or.inl rfl) rfl ?_
    refine r_iconst f_306_36 (by decide) ?_
    refine r_iaload (n := 3000) (v := h 104 3) f_306_37 ⟨rfl, rfl⟩ (by decide) rfl ?_
    refine r_br2 (t := 44) f_306_38 rfl cb_gt (fun c2 => ?_) (fun c2 => ?_)
    · refine r_aload_n (v := 103) f_306_44 rfl (by decide) ?_
      refine r_getr (q := 104) f_306_45 rfl (by decide) (Or.inl rfl) rfl ?_
      refine r_bipush f_306_48 (by decide) ?_
      refine r_iload_n (v := x2) f_306_50 rfl ?_
      refine r_iadd (u := 8 + x2) f_306_51 rfl (o9 c1 c2) ?_
      refine r_aload_n (v := 103) f_306_52 rfl (by decide) ?_
      refine r_iload_n (v := x2) f_306_53 rfl ?_
      refine r_iconst f_306_54 (by decide) ?_
      refine r_isub (u := x2 - 1) f_306_55 rfl (o5 c1) ?_
      refine r_callv (as := [vr 103, vi (x2 - 1)]) (st' := [vi (8 + x2), vr 104]) (ls0 := [vr 103, vi (x2 - 1)]) f_306_56 (by decide) rfl rfl (Nat.le_of_ble_eq_true rfl) (Nat.le_of_ble_eq_true rfl) ⟨_, _, rfl, rfl⟩ rfl ?_
      refine c_M_lineOf (o3 c1) (o6 c1) ?_
      show Wp true i_M_nights 59 [vr 103, vi x1, vi x2, vi ((rmM h 0 1 x2.toNat) - (rmM h 0 1 (x2 - 1).toNat))] [vi (rmM h 0 1 (x2 - 1).toNat), vi (8 + x2), vr 104] h Q
      refine r_iload_n (v := (rmM h 0 1 x2.toNat) - (rmM h 0 1 (x2 - 1).toNat)) f_306_59 rfl ?_
      refine r_br (t := 72) f_306_60 rfl cb_le (fun c3 => ?_) (fun c3 => ?_)
      · refine r_aload_n (v := 103) f_306_72 rfl (by decide) ?_
        refine r_getr (q := 104) f_306_73 rfl (by decide) (Or.inl rfl) rfl ?_
        refine r_iconst f_306_76 (by decide) ?_
        refine r_iaload (n := 3000) (v := h 104 3) f_306_77 ⟨rfl, rfl⟩ (by decide) rfl ?_
        refine r_ineg (u := -(h 104 3)) f_306_78 rfl (o10 c1 c2 c3) ?_
        refine r_iadd (u := (rmM h 0 1 (x2 - 1).toNat) + (-(h 104 3))) f_306_79 rfl (o11 c1 c2 c3) ?_
        refine r_iastore (n := 3000) f_306_80 ⟨rfl, rfl⟩ (o12 c1 c2 c3) ?_
        refine r_iinc (v := x1) (w := x1 + 1) (ls' := [vr 103, vi (x1 + 1), vi x2, vi ((rmM h 0 1 x2.toNat) - (rmM h 0 1 (x2 - 1).toNat))]) f_306_81 rfl rfl (o13 c1 c2 c3) rfl ?_
        refine r_iinc (v := x2) (w := x2 + 1) (ls' := [vr 103, vi (x1 + 1), vi (x2 + 1), vi ((rmM h 0 1 x2.toNat) - (rmM h 0 1 (x2 - 1).toNat))]) f_306_84 rfl rfl (o14 c1 c2 c3) rfl ?_
        refine r_goto (t := 4) f_306_87 rfl ?_
        exact (k15 c1 c2 c3)
      · refine r_aload_n (v := 103) f_306_63 rfl (by decide) ?_
        refine r_getr (q := 104) f_306_64 rfl (by decide) (Or.inl rfl) rfl ?_
        refine r_iconst f_306_67 (by decide) ?_
        refine r_iaload (n := 3000) (v := h 104 3) f_306_68 ⟨rfl, rfl⟩ (by decide) rfl ?_
        refine r_goto (t := 79) f_306_69 rfl ?_
        refine r_iadd (u := (rmM h 0 1 (x2 - 1).toNat) + (h 104 3)) f_306_79 rfl (o16 c1 c2 c3) ?_
        refine r_iastore (n := 3000) f_306_80 ⟨rfl, rfl⟩ (o17 c1 c2 c3) ?_
        refine r_iinc (v := x1) (w := x1 + 1) (ls' := [vr 103, vi (x1 + 1), vi x2, vi ((rmM h 0 1 x2.toNat) - (rmM h 0 1 (x2 - 1).toNat))]) f_306_81 rfl rfl (o18 c1 c2 c3) rfl ?_
        refine r_iinc (v := x2) (w := x2 + 1) (ls' := [vr 103, vi (x1 + 1), vi (x2 + 1), vi ((rmM h 0 1 x2.toNat) - (rmM h 0 1 (x2 - 1).toNat))]) f_306_84 rfl rfl (o19 c1 c2 c3) rfl ?_
        refine r_goto (t := 4) f_306_87 rfl ?_
        exact (k20 c1 c2 c3)
    · refine r_goto (t := 84) f_306_41 rfl ?_
      refine r_iinc (v := x2) (w := x2 + 1) (ls' := [vr 103, vi x1, vi (x2 + 1), vi ((rmM h 0 1 x2.toNat) - (rmM h 0 1 (x2 - 1).toNat))]) f_306_84 rfl rfl (o21 c1 c2) rfl ?_
      refine r_goto (t := 4) f_306_87 rfl ?_
      exact (k22 c1 c2)

theorem g_C_night_0 {Q : PQ} {h : HP}  
    (k1 : Wp true i_Fl_passNight 0 [vr 10, vr 9999, vr 9999] [] h (fun r h' => Wp true i_C_night 8 [vr 0] (r.toList ++ [vr 0]) h' Q)) :
    Wp true i_C_night 0 [vr 0] [] h Q := by
  refine r_aload_n (v := 0) f_171_0 rfl (by decide) ?_
  refine r_aload_n (v := 0) f_171_1 rfl (by decide) ?_
  refine r_getr (q := 10) f_171_2 rfl (by decide) (Or.inl rfl) rfl ?_
  exact r_callv (as := [vr 10]) (st' := [vr 0]) (ls0 := [vr 10, vr 9999, vr 9999]) f_171_5 (by decide) rfl rfl (Nat.le_of_ble_eq_true rfl) (Nat.le_of_ble_eq_true rfl) ⟨_, _, rfl, rfl⟩ rfl k1

theorem g_C_night_8 {Q : PQ} {h : HP} {s1 : Int} 
    (k1 : Q (some (vi s1)) (hs h 0 0 0)) :
    Wp true i_C_night 8 [vr 0] [vi s1, vr 0] h Q := by
  refine r_callv (as := [vr 0, vi s1]) (st' := []) (ls0 := [vr 0, vi s1]) f_171_8 (by decide) rfl rfl (Nat.le_of_ble_eq_true rfl) (Nat.le_of_ble_eq_true rfl) ⟨_, _, rfl, rfl⟩ rfl ?_
  refine c_C_answer  ?_
  show Wp true i_C_night 11 [vr 0] [vi s1] (hs h 0 0 0) Q
  exact r_reti f_171_11 rfl k1

theorem g_M_night_0 {Q : PQ} {h : HP}  
    (k1 : Wp true i_M_nights 0 [vr 103, vr 9999, vr 9999, vr 9999] [] h (fun r h' => Wp true i_M_night 5 [vr 103] (r.toList ++ [vr 103]) h' Q)) :
    Wp true i_M_night 0 [vr 103] [] h Q := by
  refine r_aload_n (v := 103) f_307_0 rfl (by decide) ?_
  refine r_aload_n (v := 103) f_307_1 rfl (by decide) ?_
  exact r_callv (as := [vr 103]) (st' := [vr 103]) (ls0 := [vr 103, vr 9999, vr 9999, vr 9999]) f_307_2 (by decide) rfl rfl (Nat.le_of_ble_eq_true rfl) (Nat.le_of_ble_eq_true rfl) ⟨_, _, rfl, rfl⟩ rfl k1

theorem g_M_night_5 {Q : PQ} {h : HP} {s1 : Int} 
    (k1 : Q (some (vi s1)) (hs h 103 2 0)) :
    Wp true i_M_night 5 [vr 103] [vi s1, vr 103] h Q := by
  refine r_callv (as := [vr 103, vi s1]) (st' := []) (ls0 := [vr 103, vi s1]) f_307_5 (by decide) rfl rfl (Nat.le_of_ble_eq_true rfl) (Nat.le_of_ble_eq_true rfl) ⟨_, _, rfl, rfl⟩ rfl ?_
  refine c_M_gives  ?_
  show Wp true i_M_night 8 [vr 103] [vi s1] (hs h 103 2 0) Q
  exact r_reti f_307_8 rfl k1

theorem c_Fl_passNight {Q : PQ} {h R : HP} {f0 : Nat} (h_f0 : isF f0) (eR : rmC h f0 = R) (W : WR R) (hb : 0 ≤ R 0 6 ∧ R 0 6 ≤ 2000000000)
    (k : ∀ h', ActC f0 h h' (aNight R) → Q (some (vi (nAll R).2)) h') : Wp true i_Fl_passNight 0 [vr f0, vr 9999, vr 9999] [] h Q := by
  have key : ∀ (d i : Nat) (h1 : HP) (m : Int), ActC f0 h h1 (rmC h1 f0) → WR (rmC h1 f0) → ((i : Int) + d = rmC h1 f0 0 1 ∨ (d = 0 ∧ rmC h1 f0 0 1 ≤ i)) → 1 ≤ i → i ≤ 100 → (0 ≤ m ∧ m ≤ i) → (0 ≤ rmC h1 f0 0 6 ∧ rmC h1 f0 0 6 ≤ 2000000000) →
      (∀ h', ActC f0 h h' (hs (fld nStep d i (rmC h1 f0, m)).1 0 6 ((fld nStep d i (rmC h1 f0, m)).1 0 6 + 1)) → Q (some (vi (fld nStep d i (rmC h1 f0, m)).2)) h') → Wp true i_Fl_passNight 4 [vr f0, vi m, vi (i : Int)] [] h1 Q := by
    intro d
    induction d with
    | zero =>
      intro i h1 m a W1 e i1 i2 hm hb kk
      have d1 := cdim (rfl : rmC h1 f0 = rmC h1 f0)
      have kk : ∀ h', ActC f0 h h' (hs (rmC h1 f0) 0 6 (rmC h1 f0 0 6 + 1)) → Q (some (vi m)) h' := kk
      refine g_Fl_passNight_4 h_f0 ?_ ?_ ?_ ?_ ?_ ?_ ?_ ?_ ?_ ?_ ?_ ?_ ?_ ?_ ?_ ?_ ?_
      · intro c1; (try simp only [Int.toNat_natCast] at c1); first | omega | (exfalso; omega) | exact ⟨by omega, by omega⟩ | (exact W1) | exact absurd trivial ‹¬ True›
      · intro c1; (try simp only [Int.toNat_natCast] at c1); first | (exfalso; omega) | exact absurd trivial ‹¬ True› | (exact kk _ (ActC_tr a (ActC_ngt rfl)))
      · intro c1; (try simp only [Int.toNat_natCast] at c1); first | omega | (exfalso; omega) | exact ⟨by omega, by omega⟩ | (exact W1) | exact absurd trivial ‹¬ True›
      · intro c1; (try simp only [Int.toNat_natCast] at c1); first | omega | (exfalso; omega) | exact ⟨by omega, by omega⟩ | (exact W1) | exact absurd trivial ‹¬ True›
      · intro c1 c2; (try simp only [Int.toNat_natCast] at c1 c2); first | omega | (exfalso; omega) | exact ⟨by omega, by omega⟩ | (exact W1) | exact absurd trivial ‹¬ True›
      · intro c1 c2; (try simp only [Int.toNat_natCast] at c1 c2); first | (exfalso; omega) | exact absurd trivial ‹¬ True› | (skip)
      · intro c1 c2; (try simp only [Int.toNat_natCast] at c1 c2); first | omega | (exfalso; omega) | exact ⟨by omega, by omega⟩ | (exact W1) | exact absurd trivial ‹¬ True›
      · intro c1 c2; (try simp only [Int.toNat_natCast] at c1 c2); first | omega | (exfalso; omega) | exact ⟨by omega, by omega⟩ | (exact W1) | exact absurd trivial ‹¬ True›
      · intro c1 c2; (try simp only [Int.toNat_natCast] at c1 c2); first | omega | (exfalso; omega) | exact ⟨by omega, by omega⟩ | (exact W1) | exact absurd trivial ‹¬ True›
      · intro c1 c2 c3; (try simp only [Int.toNat_natCast] at c1 c2 c3); first | omega | (exfalso; omega) | exact ⟨by omega, by omega⟩ | (exact W1) | exact absurd trivial ‹¬ True›
      · intro c1 c2 c3; (try simp only [Int.toNat_natCast] at c1 c2 c3); first | omega | (exfalso; omega) | exact ⟨by omega, by omega⟩ | (exact W1) | exact absurd trivial ‹¬ True›
      · intro c1 c2 c3; (try simp only [Int.toNat_natCast] at c1 c2 c3); first | omega | (exfalso; omega) | exact ⟨by omega, by omega⟩ | (exact W1) | exact absurd trivial ‹¬ True›
      · intro c1 c2 c3; (try simp only [Int.toNat_natCast] at c1 c2 c3); first | (exfalso; omega) | exact absurd trivial ‹¬ True› | (skip)
      · intro c1 c2 c3; (try simp only [Int.toNat_natCast] at c1 c2 c3); first | omega | (exfalso; omega) | exact ⟨by omega, by omega⟩ | (exact W1) | exact absurd trivial ‹¬ True›
      · intro c1 c2 c3; (try simp only [Int.toNat_natCast] at c1 c2 c3); first | omega | (exfalso; omega) | exact ⟨by omega, by omega⟩ | (exact W1) | exact absurd trivial ‹¬ True›
      · intro c1 c2 c3; (try simp only [Int.toNat_natCast] at c1 c2 c3); first | omega | (exfalso; omega) | exact ⟨by omega, by omega⟩ | (exact W1) | exact absurd trivial ‹¬ True›
      · intro c1 c2 c3; (try simp only [Int.toNat_natCast] at c1 c2 c3); first | (exfalso; omega) | exact absurd trivial ‹¬ True› | (skip)
    | succ d ih =>
      intro i h1 m a W1 e i1 i2 hm hb kk
      have d1 := cdim (rfl : rmC h1 f0 = rmC h1 f0)
      have w := W1.1
      have v1 := WC_1 W1 (r := (i : Int)) (by omega) (by omega)
      have v2 := WC_1 W1 (r := (i : Int) - 1) (by omega) (by omega)
      have ei : ((i : Int) - 1).toNat = i - 1 := by omega
      rw [Int.toNat_natCast] at v1
      have n1 := nStep_ok (r := i) (s := (rmC h1 f0, m)) W1 i1 (by show (i : Int) < rmC h1 f0 0 1; omega)
      refine g_Fl_passNight_4 h_f0 ?_ ?_ ?_ ?_ ?_ ?_ ?_ ?_ ?_ ?_ ?_ ?_ ?_ ?_ ?_ ?_ ?_
      · intro c1; (try simp only [Int.toNat_natCast] at c1); first | omega | (exfalso; omega) | exact ⟨by omega, by omega⟩ | (exact W1) | exact absurd trivial ‹¬ True›
      · intro c1; (try simp only [Int.toNat_natCast] at c1); first | (exfalso; omega) | exact absurd trivial ‹¬ True› | (skip)
      · intro c1; (try simp only [Int.toNat_natCast] at c1); first | omega | (exfalso; omega) | exact ⟨by omega, by omega⟩ | (exact W1) | exact absurd trivial ‹¬ True›
      · intro c1; (try simp only [Int.toNat_natCast] at c1); first | omega | (exfalso; omega) | exact ⟨by omega, by omega⟩ | (exact W1) | exact absurd trivial ‹¬ True›
      · intro c1 c2; (try simp only [Int.toNat_natCast] at c1 c2); first | omega | (exfalso; omega) | exact ⟨by omega, by omega⟩ | (exact W1) | exact absurd trivial ‹¬ True›
      · intro c1 c2; (try simp only [Int.toNat_natCast] at c1 c2)
        have c2' : rBend (rmC h1 f0) i ≤ rmC h1 f0 0 2 := c2
        have e0 := nStep_0 (r := i) (s := (rmC h1 f0, m)) c2'
        have kk := kk
        simp only [fld, e0] at kk
        exact ih (i + 1) h1 m a W1 (by omega) (by omega) (by omega) (by omega) hb kk
      · intro c1 c2; (try simp only [Int.toNat_natCast] at c1 c2); first | omega | (exfalso; omega) | exact ⟨by omega, by omega⟩ | (exact W1) | exact absurd trivial ‹¬ True›
      · intro c1 c2; (try simp only [Int.toNat_natCast] at c1 c2); first | omega | (exfalso; omega) | exact ⟨by omega, by omega⟩ | (exact W1) | exact absurd trivial ‹¬ True›
      · intro c1 c2; (try simp only [Int.toNat_natCast] at c1 c2); first | omega | (exfalso; omega) | exact ⟨by omega, by omega⟩ | (exact W1) | exact absurd trivial ‹¬ True›
      · intro c1 c2 c3; (try simp only [Int.toNat_natCast] at c1 c2 c3); first | omega | (exfalso; omega) | exact ⟨by omega, by omega⟩ | (exact W1) | exact absurd trivial ‹¬ True›
      · intro c1 c2 c3; (try simp only [Int.toNat_natCast] at c1 c2 c3); first | omega | (exfalso; omega) | exact ⟨by omega, by omega⟩ | (exact W1) | exact absurd trivial ‹¬ True›
      · intro c1 c2 c3; (try simp only [Int.toNat_natCast] at c1 c2 c3); first | omega | (exfalso; omega) | exact ⟨by omega, by omega⟩ | (exact W1) | exact absurd trivial ‹¬ True›
      · intro c1 c2 c3; (try simp only [Int.toNat_natCast] at c1 c2 c3)
        have c2' : ¬ rBend (rmC h1 f0) i ≤ rmC h1 f0 0 2 := c2
        have e0 := nStep_1 (r := i) (s := (rmC h1 f0, m)) c2' (by show rmC h1 f0 1 i ≤ rmC h1 f0 1 (i - 1); rw [v1.2.2, ← ei, v2.2.2]; exact c3)
        have kk := kk
        simp only [fld, e0] at kk
        rw [e0] at n1
        have n0 : SameL (rmC h1 f0) (hs (rmC h1 f0) 1 i (rmC h1 f0 1 (i - 1) - rmC h1 f0 0 2)) := n1.1
        have q := ActC_cut (f := f0) (h := h1) (r := i) (v := rmC h1 f0 1 (i - 1) - rmC h1 f0 0 2) rfl (by omega)
        have ih' := ih (i + 1) _ (m + 1) (by rw [q.1]; exact ActC_tr a q)
        rw [q.1] at ih'
        rw [Int.toNat_natCast, ← v2.2.2, ei, d1.2.2.1]
        exact ih' n0.1 (by rw [n0.2.1.2.1]; omega) (by omega) (by omega) (by omega) (by rw [n0.2.2.2.2.2]; exact hb) kk
      · intro c1 c2 c3; (try simp only [Int.toNat_natCast] at c1 c2 c3); first | omega | (exfalso; omega) | exact ⟨by omega, by omega⟩ | (exact W1) | exact absurd trivial ‹¬ True›
      · intro c1 c2 c3; (try simp only [Int.toNat_natCast] at c1 c2 c3); first | omega | (exfalso; omega) | exact ⟨by omega, by omega⟩ | (exact W1) | exact absurd trivial ‹¬ True›
      · intro c1 c2 c3; (try simp only [Int.toNat_natCast] at c1 c2 c3); first | omega | (exfalso; omega) | exact ⟨by omega, by omega⟩ | (exact W1) | exact absurd trivial ‹¬ True›
      · intro c1 c2 c3; (try simp only [Int.toNat_natCast] at c1 c2 c3)
        have c2' : ¬ rBend (rmC h1 f0) i ≤ rmC h1 f0 0 2 := c2
        have e0 := nStep_2 (r := i) (s := (rmC h1 f0, m)) c2' (by show ¬ rmC h1 f0 1 i ≤ rmC h1 f0 1 (i - 1); rw [v1.2.2, ← ei, v2.2.2]; exact c3)
        have kk := kk
        simp only [fld, e0] at kk
        rw [e0] at n1
        have n0 : SameL (rmC h1 f0) (hs (rmC h1 f0) 1 i (rmC h1 f0 1 (i - 1) + rmC h1 f0 0 2)) := n1.1
        have q := ActC_cut (f := f0) (h := h1) (r := i) (v := rmC h1 f0 1 (i - 1) + rmC h1 f0 0 2) rfl (by omega)
        have ih' := ih (i + 1) _ (m + 1) (by rw [q.1]; exact ActC_tr a q)
        rw [q.1] at ih'
        rw [Int.toNat_natCast, ← v2.2.2, ei, d1.2.2.1]
        exact ih' n0.1 (by rw [n0.2.1.2.1]; omega) (by omega) (by omega) (by omega) (by rw [n0.2.2.2.2.2]; exact hb) kk
  have w := W.1
  subst eR
  exact g_Fl_passNight_0 h_f0 (key (rmC h f0 0 1 - 1).toNat 1 h 0 (ActC_0 f0 h) W (by omega) (by omega) (by omega) (by omega) hb k)
theorem c_M_nights {Q : PQ} {h R : HP} (eR : rmM h 0 = R) (W : WR R) (hb : 0 ≤ R 0 6 ∧ R 0 6 ≤ 2000000000)
    (k : ∀ h', ActM h h' (aNight R) → Q (some (vi (nAll R).2)) h') : Wp true i_M_nights 0 [vr 103, vr 9999, vr 9999, vr 9999] [] h Q := by
  have key : ∀ (d i : Nat) (h1 : HP) (m : Int) (j3 : AV), ActM h h1 (rmM h1 0) → WR (rmM h1 0) → ((i : Int) + d = rmM h1 0 0 1 ∨ (d = 0 ∧ rmM h1 0 0 1 ≤ i)) → 1 ≤ i → i ≤ 100 → (0 ≤ m ∧ m ≤ i) → (0 ≤ rmM h1 0 0 6 ∧ rmM h1 0 0 6 ≤ 2000000000) →
      (∀ h', ActM h h' (hs (fld nStep d i (rmM h1 0, m)).1 0 6 ((fld nStep d i (rmM h1 0, m)).1 0 6 + 1)) → Q (some (vi (fld nStep d i (rmM h1 0, m)).2)) h') → Wp true i_M_nights 4 [vr 103, vi m, vi (i : Int), j3] [] h1 Q := by
    intro d
    induction d with
    | zero =>
      intro i h1 m j3 a W1 e i1 i2 hm hb kk
      have d1 := mdim (rfl : rmM h1 0 = rmM h1 0)
      have kk : ∀ h', ActM h h' (hs (rmM h1 0) 0 6 (rmM h1 0 0 6 + 1)) → Q (some (vi m)) h' := kk
      refine g_M_nights_4 ?_ ?_ ?_ ?_ ?_ ?_ ?_ ?_ ?_ ?_ ?_ ?_ ?_ ?_ ?_ ?_ ?_ ?_ ?_ ?_ ?_ ?_
      · intro c1; (try simp only [Int.toNat_natCast] at c1); first | omega | (exfalso; omega) | exact ⟨by omega, by omega⟩ | (exact W1) | exact absurd trivial ‹¬ True›
      · intro c1; (try simp only [Int.toNat_natCast] at c1); first | (exfalso; omega) | exact absurd trivial ‹¬ True› | (exact kk _ (ActM_tr a (ActM_ngt rfl W1)))
      · intro c1; (try simp only [Int.toNat_natCast] at c1); first | omega | (exfalso; omega) | exact ⟨by omega, by omega⟩ | (exact W1) | exact absurd trivial ‹¬ True›
      · intro c1; (try simp only [Int.toNat_natCast] at c1); first | omega | (exfalso; omega) | exact ⟨by omega, by omega⟩ | (exact W1) | exact absurd trivial ‹¬ True›
      · intro c1; (try simp only [Int.toNat_natCast] at c1); first | omega | (exfalso; omega) | exact ⟨by omega, by omega⟩ | (exact W1) | exact absurd trivial ‹¬ True›
      · intro c1; (try simp only [Int.toNat_natCast] at c1); first | omega | (exfalso; omega) | exact ⟨by omega, by omega⟩ | (exact W1) | exact absurd trivial ‹¬ True›
      · intro c1; (try simp only [Int.toNat_natCast] at c1); first | omega | (exfalso; omega) | exact ⟨by omega, by omega⟩ | (exact W1) | exact absurd trivial ‹¬ True›
      · intro c1; (try simp only [Int.toNat_natCast] at c1); first | omega | (exfalso; omega) | exact ⟨by omega, by omega⟩ | (exact W1) | exact absurd trivial ‹¬ True›
      · intro c1 c2; (try simp only [Int.toNat_natCast] at c1 c2); first | omega | (exfalso; omega) | exact ⟨by omega, by omega⟩ | (exact W1) | exact absurd trivial ‹¬ True›
      · intro c1 c2 c3; (try simp only [Int.toNat_natCast] at c1 c2 c3); first | omega | (exfalso; omega) | exact ⟨by omega, by omega⟩ | (exact W1) | exact absurd trivial ‹¬ True›
      · intro c1 c2 c3; (try simp only [Int.toNat_natCast] at c1 c2 c3); first | omega | (exfalso; omega) | exact ⟨by omega, by omega⟩ | (exact W1) | exact absurd trivial ‹¬ True›
      · intro c1 c2 c3; (try simp only [Int.toNat_natCast] at c1 c2 c3); first | omega | (exfalso; omega) | exact ⟨by omega, by omega⟩ | (exact W1) | exact absurd trivial ‹¬ True›
      · intro c1 c2 c3; (try simp only [Int.toNat_natCast] at c1 c2 c3); first | omega | (exfalso; omega) | exact ⟨by omega, by omega⟩ | (exact W1) | exact absurd trivial ‹¬ True›
      · intro c1 c2 c3; (try simp only [Int.toNat_natCast] at c1 c2 c3); first | omega | (exfalso; omega) | exact ⟨by omega, by omega⟩ | (exact W1) | exact absurd trivial ‹¬ True›
      · intro c1 c2 c3; (try simp only [Int.toNat_natCast] at c1 c2 c3); first | (exfalso; omega) | exact absurd trivial ‹¬ True› | (skip)
      · intro c1 c2 c3; (try simp only [Int.toNat_natCast] at c1 c2 c3); first | omega | (exfalso; omega) | exact ⟨by omega, by omega⟩ | (exact W1) | exact absurd trivial ‹¬ True›
      · intro c1 c2 c3; (try simp only [Int.toNat_natCast] at c1 c2 c3); first | omega | (exfalso; omega) | exact ⟨by omega, by omega⟩ | (exact W1) | exact absurd trivial ‹¬ True›
      · intro c1 c2 c3; (try simp only [Int.toNat_natCast] at c1 c2 c3); first | omega | (exfalso; omega) | exact ⟨by omega, by omega⟩ | (exact W1) | exact absurd trivial ‹¬ True›
      · intro c1 c2 c3; (try simp only [Int.toNat_natCast] at c1 c2 c3); first | omega | (exfalso; omega) | exact ⟨by omega, by omega⟩ | (exact W1) | exact absurd trivial ‹¬ True›
      · intro c1 c2 c3; (try simp only [Int.toNat_natCast] at c1 c2 c3); first | (exfalso; omega) | exact absurd trivial ‹¬ True› | (skip)
      · intro c1 c2; (try simp only [Int.toNat_natCast] at c1 c2); first | omega | (exfalso; omega) | exact ⟨by omega, by omega⟩ | (exact W1) | exact absurd trivial ‹¬ True›
      · intro c1 c2; (try simp only [Int.toNat_natCast] at c1 c2); first | (exfalso; omega) | exact absurd trivial ‹¬ True› | (skip)
    | succ d ih =>
      intro i h1 m j3 a W1 e i1 i2 hm hb kk
      have d1 := mdim (rfl : rmM h1 0 = rmM h1 0)
      have w := W1.1
      have v1 := W1.2.1 i (by omega)
      have v2 := W1.2.1 (i - 1) (by omega)
      have ei : ((i : Int) - 1).toNat = i - 1 := by omega
      have e8 : (8 + (i : Int)).toNat = 8 + i := by omega
      have eb : rBend (rmM h1 0) i = ((rmM h1 0 1 i - rmM h1 0 1 (i - 1)).natAbs : Int) := rfl
      have n1 := nStep_ok (r := i) (s := (rmM h1 0, m)) W1 i1 (by show (i : Int) < rmM h1 0 0 1; omega)
      refine g_M_nights_4 ?_ ?_ ?_ ?_ ?_ ?_ ?_ ?_ ?_ ?_ ?_ ?_ ?_ ?_ ?_ ?_ ?_ ?_ ?_ ?_ ?_ ?_
      · intro c1; (try simp only [Int.toNat_natCast] at c1); first | omega | (exfalso; omega) | exact ⟨by omega, by omega⟩ | (first | exact W1 | (simp only [Int.toNat_natCast, ei]; omega) | (simp only [Int.toNat_natCast, ei] at *; omega)) | exact absurd trivial ‹¬ True›
      · intro c1; (try simp only [Int.toNat_natCast] at c1); first | (exfalso; omega) | exact absurd trivial ‹¬ True› | (skip)
      · intro c1; (try simp only [Int.toNat_natCast] at c1); first | omega | (exfalso; omega) | exact ⟨by omega, by omega⟩ | (first | exact W1 | (simp only [Int.toNat_natCast, ei]; omega) | (simp only [Int.toNat_natCast, ei] at *; omega)) | exact absurd trivial ‹¬ True›
      · intro c1; (try simp only [Int.toNat_natCast] at c1); first | omega | (exfalso; omega) | exact ⟨by omega, by omega⟩ | (first | exact W1 | (simp only [Int.toNat_natCast, ei]; omega) | (simp only [Int.toNat_natCast, ei] at *; omega)) | exact absurd trivial ‹¬ True›
      · intro c1; (try simp only [Int.toNat_natCast] at c1); first | omega | (exfalso; omega) | exact ⟨by omega, by omega⟩ | (first | exact W1 | (simp only [Int.toNat_natCast, ei]; omega) | (simp only [Int.toNat_natCast, ei] at *; omega)) | exact absurd trivial ‹¬ True›
      · intro c1; (try simp only [Int.toNat_natCast] at c1); first | omega | (exfalso; omega) | exact ⟨by omega, by omega⟩ | (first | exact W1 | (simp only [Int.toNat_natCast, ei]; omega) | (simp only [Int.toNat_natCast, ei] at *; omega)) | exact absurd trivial ‹¬ True›
      · intro c1; (try simp only [Int.toNat_natCast] at c1); first | omega | (exfalso; omega) | exact ⟨by omega, by omega⟩ | (first | exact W1 | (simp only [Int.toNat_natCast, ei]; omega) | (simp only [Int.toNat_natCast, ei] at *; omega)) | exact absurd trivial ‹¬ True›
      · intro c1; (try simp only [Int.toNat_natCast] at c1); first | omega | (exfalso; omega) | exact ⟨by omega, by omega⟩ | (first | exact W1 | (simp only [Int.toNat_natCast, ei]; omega) | (simp only [Int.toNat_natCast, ei] at *; omega)) | exact absurd trivial ‹¬ True›
      · intro c1 c2; (try simp only [Int.toNat_natCast] at c1 c2); first | omega | (exfalso; omega) | exact ⟨by omega, by omega⟩ | (first | exact W1 | (simp only [Int.toNat_natCast, ei]; omega) | (simp only [Int.toNat_natCast, ei] at *; omega)) | exact absurd trivial ‹¬ True›
      · intro c1 c2 c3; (try simp only [Int.toNat_natCast] at c1 c2 c3); first | omega | (exfalso; omega) | exact ⟨by omega, by omega⟩ | (first | exact W1 | (simp only [Int.toNat_natCast, ei]; omega) | (simp only [Int.toNat_natCast, ei] at *; omega)) | exact absurd trivial ‹¬ True›
      · intro c1 c2 c3; (try simp only [Int.toNat_natCast] at c1 c2 c3); first | omega | (exfalso; omega) | exact ⟨by omega, by omega⟩ | (first | exact W1 | (simp only [Int.toNat_natCast, ei]; omega) | (simp only [Int.toNat_natCast, ei] at *; omega)) | exact absurd trivial ‹¬ True›
      · intro c1 c2 c3; (try simp only [Int.toNat_natCast] at c1 c2 c3); first | omega | (exfalso; omega) | exact ⟨by omega, by omega⟩ | (first | exact W1 | (simp only [Int.toNat_natCast, ei]; omega) | (simp only [Int.toNat_natCast, ei] at *; omega)) | exact absurd trivial ‹¬ True›
      · intro c1 c2 c3; (try simp only [Int.toNat_natCast] at c1 c2 c3); first | omega | (exfalso; omega) | exact ⟨by omega, by omega⟩ | (first | exact W1 | (simp only [Int.toNat_natCast, ei]; omega) | (simp only [Int.toNat_natCast, ei] at *; omega)) | exact absurd trivial ‹¬ True›
      · intro c1 c2 c3; (try simp only [Int.toNat_natCast] at c1 c2 c3); first | omega | (exfalso; omega) | exact ⟨by omega, by omega⟩ | (first | exact W1 | (simp only [Int.toNat_natCast, ei]; omega) | (simp only [Int.toNat_natCast, ei] at *; omega)) | exact absurd trivial ‹¬ True›
      · intro c1 c2 c3; (try simp only [Int.toNat_natCast] at c1 c2 c3)
        rw [ei] at c2 c3
        have e0 := nStep_1 (r := i) (s := (rmM h1 0, m)) (by show ¬ rBend (rmM h1 0) i ≤ rmM h1 0 0 2; omega) (by show rmM h1 0 1 i ≤ rmM h1 0 1 (i - 1); omega)
        have kk := kk
        simp only [fld, e0] at kk
        rw [e0] at n1
        have n0 : SameL (rmM h1 0) (hs (rmM h1 0) 1 i (rmM h1 0 1 (i - 1) - rmM h1 0 0 2)) := n1.1
        have q := ActM_cut (h := h1) (r := i) (v := rmM h1 0 1 (i - 1) - rmM h1 0 0 2) rfl W1 (by omega)
        have ih' := ih (i + 1) _ (m + 1) (vi (rmM h1 0 1 i - rmM h1 0 1 (i - 1))) (by rw [q.1]; exact ActM_tr a q)
        rw [q.1] at ih'
        rw [Int.toNat_natCast, ei, e8, d1.2.2.1, ← Int.sub_eq_add_neg]
        exact ih' n0.1 (by rw [n0.2.1.2.1]; omega) (by omega) (by omega) (by omega) (by rw [n0.2.2.2.2.2]; exact hb) kk
      · intro c1 c2 c3; (try simp only [Int.toNat_natCast] at c1 c2 c3); first | omega | (exfalso; omega) | exact ⟨by omega, by omega⟩ | (first | exact W1 | (simp only [Int.toNat_natCast, ei]; omega) | (simp only [Int.toNat_natCast, ei] at *; omega)) | exact absurd trivial ‹¬ True›
      · intro c1 c2 c3; (try simp only [Int.toNat_natCast] at c1 c2 c3); first | omega | (exfalso; omega) | exact ⟨by omega, by omega⟩ | (first | exact W1 | (simp only [Int.toNat_natCast, ei]; omega) | (simp only [Int.toNat_natCast, ei] at *; omega)) | exact absurd trivial ‹¬ True›
      · intro c1 c2 c3; (try simp only [Int.toNat_natCast] at c1 c2 c3); first | omega | (exfalso; omega) | exact ⟨by omega, by omega⟩ | (first | exact W1 | (simp only [Int.toNat_natCast, ei]; omega) | (simp only [Int.toNat_natCast, ei] at *; omega)) | exact absurd trivial ‹¬ True›
      · intro c1 c2 c3; (try simp only [Int.toNat_natCast] at c1 c2 c3); first | omega | (exfalso; omega) | exact ⟨by omega, by omega⟩ | (first | exact W1 | (simp only [Int.toNat_natCast, ei]; omega) | (simp only [Int.toNat_natCast, ei] at *; omega)) | exact absurd trivial ‹¬ True›
      · intro c1 c2 c3; (try simp only [Int.toNat_natCast] at c1 c2 c3)
        rw [ei] at c2 c3
        have e0 := nStep_2 (r := i) (s := (rmM h1 0, m)) (by show ¬ rBend (rmM h1 0) i ≤ rmM h1 0 0 2; omega) (by show ¬ rmM h1 0 1 i ≤ rmM h1 0 1 (i - 1); omega)
        have kk := kk
        simp only [fld, e0] at kk
        rw [e0] at n1
        have n0 : SameL (rmM h1 0) (hs (rmM h1 0) 1 i (rmM h1 0 1 (i - 1) + rmM h1 0 0 2)) := n1.1
        have q := ActM_cut (h := h1) (r := i) (v := rmM h1 0 1 (i - 1) + rmM h1 0 0 2) rfl W1 (by omega)
        have ih' := ih (i + 1) _ (m + 1) (vi (rmM h1 0 1 i - rmM h1 0 1 (i - 1))) (by rw [q.1]; exact ActM_tr a q)
        rw [q.1] at ih'
        rw [Int.toNat_natCast, ei, e8, d1.2.2.1]
        exact ih' n0.1 (by rw [n0.2.1.2.1]; omega) (by omega) (by omega) (by omega) (by rw [n0.2.2.2.2.2]; exact hb) kk
      · intro c1 c2; (try simp only [Int.toNat_natCast] at c1 c2); first | omega | (exfalso; omega) | exact ⟨by omega, by omega⟩ | (first | exact W1 | (simp only [Int.toNat_natCast, ei]; omega) | (simp only [Int.toNat_natCast, ei] at *; omega)) | exact absurd trivial ‹¬ True›
      · intro c1 c2; (try simp only [Int.toNat_natCast] at c1 c2)
        rw [ei] at c2
        have e0 := nStep_0 (r := i) (s := (rmM h1 0, m)) (by show rBend (rmM h1 0) i ≤ rmM h1 0 0 2; omega)
        have kk := kk
        simp only [fld, e0] at kk
        exact ih (i + 1) h1 m _ a W1 (by omega) (by omega) (by omega) (by omega) hb kk
  have w := W.1
  subst eR
  exact g_M_nights_0 (key (rmM h 0 0 1 - 1).toNat 1 h 0 _ (ActM_0 h) W (by omega) (by omega) (by omega) (by omega) hb k)
theorem A_night {n : Nat} {h : HP} (hR : Rel n h) (hn : n ≤ 600) : Agree n h i_C_night i_M_night [vr 0] [vr 103] := by
  have s := hR.2.2.2.2.2.1
  have W := s.2.1
  have b := bnd hR
  have ab := aNight_b W
  refine ag_act (v := vi (nAll (rmC h 10)).2) (st := 0) (R' := aNight (rmC h 10)) hR (aNight_WR W) (aNight_D W) ?_ (fun Q k => ?_) (fun g Q e gk k => ?_)
  · rw [ab.1, ab.2.1, ab.2.2]; omega
  · exact g_C_night_0 (c_Fl_passNight isF_10 rfl W (by omega) (fun h' q => g_C_night_8 (k h' q)))
  · exact g_M_night_0 (c_M_nights e W (by omega) (fun h' q => g_M_night_5 (k h' q)))

theorem g_Fl_sweepRow_0 {Q : PQ} {h : HP} {x1 : Int} {f0 : Nat} (h_f0 : isF f0)
    (o1 : 0 ≤ x1 ∧ x1 < 7)
    (k2 : x1 ≤ 0 → Wp true i_Fl_sweepRow 49 [vr f0, vi x1, vi (h (f0 + 2) x1.toNat)] [] h Q)
    (o3 : ¬ x1 ≤ 0 → -2147483648 ≤ (h f0 1) - 1 ∧ (h f0 1) - 1 ≤ 2147483647)
    (k4 : ¬ x1 ≤ 0 → (h f0 1) - 1 ≤ x1 → Wp true i_Fl_sweepRow 49 [vr f0, vi x1, vi (h (f0 + 2) x1.toNat)] [] h Q)
    (o5 : ¬ x1 ≤ 0 → ¬ (h f0 1) - 1 ≤ x1 → -2147483648 ≤ x1 - 1 ∧ x1 - 1 ≤ 2147483647)
    (o6 : ¬ x1 ≤ 0 → ¬ (h f0 1) - 1 ≤ x1 → 0 ≤ x1 - 1 ∧ x1 - 1 < 7)
    (o7 : ¬ x1 ≤ 0 → ¬ (h f0 1) - 1 ≤ x1 → -2147483648 ≤ x1 + 1 ∧ x1 + 1 ≤ 2147483647)
    (o8 : ¬ x1 ≤ 0 → ¬ (h f0 1) - 1 ≤ x1 → 0 ≤ x1 + 1 ∧ x1 + 1 < 7)
    (o9 : ¬ x1 ≤ 0 → ¬ (h f0 1) - 1 ≤ x1 → -2147483648 ≤ (h (f0 + 2) (x1 - 1).toNat) + (h (f0 + 2) (x1 + 1).toNat) ∧ (h (f0 + 2) (x1 - 1).toNat) + (h (f0 + 2) (x1 + 1).toNat) ≤ 2147483647)
    (o10 : ¬ x1 ≤ 0 → ¬ (h f0 1) - 1 ≤ x1 → 0 ≤ (h (f0 + 2) (x1 - 1).toNat) + (h (f0 + 2) (x1 + 1).toNat) ∧ (h (f0 + 2) (x1 - 1).toNat) + (h (f0 + 2) (x1 + 1).toNat) ≤ 2147483647)
    (k11 : ¬ x1 ≤ 0 → ¬ (h f0 1) - 1 ≤ x1 → Wp true i_Fl_sweepRow 94 [vr f0, vi x1, vi (h (f0 + 2) x1.toNat)] [] (hs h (f0 + 2) x1.toNat (((h (f0 + 2) (x1 - 1).toNat) + (h (f0 + 2) (x1 + 1).toNat)) / 2)) Q) :
    Wp true i_Fl_sweepRow 0 [vr f0, vi x1, vr 9999] [] h Q := by
  refine r_aload_n (v := f0) f_57_0 rfl (F_n h_f0) ?_
  refine r_getr (q := (f0 + 2)) f_57_1 (F_k h_f0) (by decide) (Or.inl rfl) rfl ?_
  refine r_iload_n (v := x1) f_57_4 rfl ?_
  refine r_iaload (n := 7) (v := h (f0 + 2) x1.toNat) f_57_5 (F_2 h_f0) o1 rfl ?_
  refine r_istore_n (ls' := [vr f0, vi x1, vi (h (f0 + 2) x1.toNat)]) f_57_6 (Nat.le_of_ble_eq_true rfl) rfl ?_
  refine r_iload_n (v := x1) f_57_7 rfl ?_
  refine r_br (t := 49) f_57_8 rfl cb_le (fun c1 => ?_) (fun c1 => ?_)
  · exact (k2 c1)
  · refine r_iload_n (v := x1) f_57_11 rfl ?_
    refine r_aload_n (v := f0) f_57_12 rfl (F_n h_f0) ?_
    refine r_geti (v := h f0 1) f_57_13 (F_k h_f0) (by decide) rfl ?_
    refine r_iconst f_57_16 (by decide) ?_
    refine r_isub (u := (h f0 1) - 1) f_57_17 rfl (o3 c1) ?_
    refine r_br2 (t := 49) f_57_18 rfl cb_ge (fun c2 => ?_) (fun c2 => ?_)
    · exact (k4 c1 c2)
    · refine r_aload_n (v := f0) f_57_21 rfl (F_n h_f0) ?_
      refine r_getr (q := (f0 + 2)) f_57_22 (F_k h_f0) (by decide) (Or.inl rfl) rfl ?_
      refine r_iload_n (v := x1) f_57_25 rfl ?_
      refine r_aload_n (v := f0) f_57_26 rfl (F_n h_f0) ?_
      refine r_getr (q := (f0 + 2)) f_57_27 (F_k h_f0) (by decide) (Or.inl rfl) rfl ?_
      refine r_iload_n (v := x1) f_57_30 rfl ?_
      refine r_iconst f_57_31 (by decide) ?_
      refine r_isub (u := x1 - 1) f_57_32 rfl (o5 c1 c2) ?_
      refine r_iaload (n := 7) (v := h (f0 + 2) (x1 - 1).toNat) f_57_33 (F_2 h_f0) (o6 c1 c2) rfl ?_
      refine r_aload_n (v := f0) f_57_34 rfl (F_n h_f0) ?_
      refine r_getr (q := (f0 + 2)) f_57_35 (F_k h_f0) (by decide) (Or.inl rfl) rfl ?_
      refine r_iload_n (v := x1) f_57_38 rfl ?_
      refine r_iconst f_57_39 (by decide) ?_
      refine r_iadd (u := x1 + 1) f_57_40 rfl (o7 c1 c2) ?_
      refine r_iaload (n := 7) (v := h (f0 + 2) (x1 + 1).toNat) f_57_41 (F_2 h_f0) (o8 c1 c2) rfl ?_
      refine r_iadd (u := (h (f0 + 2) (x1 - 1).toNat) + (h (f0 + 2) (x1 + 1).toNat)) f_57_42 rfl (o9 c1 c2) ?_
      refine r_iconst f_57_43 (by decide) ?_
      refine r_idiv f_57_44 (o10 c1 c2) (by decide) ?_
      refine r_iastore (n := 7) f_57_45 (F_2 h_f0) o1 ?_
      refine r_goto (t := 94) f_57_46 rfl ?_
      exact (k11 c1 c2)

theorem g_Fl_sweepRow_49 {Q : PQ} {h : HP} {x1 : Int} {x2 : Int} {f0 : Nat} (h_f0 : isF f0)
    (o1 : x1 ≤ 0 → -2147483648 ≤ (h f0 1) - 1 ∧ (h f0 1) - 1 ≤ 2147483647)
    (k2 : x1 ≤ 0 → (h f0 1) - 1 ≤ x1 → Wp true i_Fl_sweepRow 94 [vr f0, vi x1, vi x2] [] h Q)
    (o3 : x1 ≤ 0 → ¬ (h f0 1) - 1 ≤ x1 → -2147483648 ≤ x1 + 1 ∧ x1 + 1 ≤ 2147483647)
    (o4 : x1 ≤ 0 → ¬ (h f0 1) - 1 ≤ x1 → 0 ≤ x1 + 1 ∧ x1 + 1 < 7)
    (o5 : x1 ≤ 0 → ¬ (h f0 1) - 1 ≤ x1 → 0 ≤ x1 ∧ x1 < 7)
    (k6 : x1 ≤ 0 → ¬ (h f0 1) - 1 ≤ x1 → Wp true i_Fl_sweepRow 94 [vr f0, vi x1, vi x2] [] (hs h (f0 + 2) x1.toNat (h (f0 + 2) (x1 + 1).toNat)) Q)
    (o7 : ¬ x1 ≤ 0 → -2147483648 ≤ x1 - 1 ∧ x1 - 1 ≤ 2147483647)
    (o8 : ¬ x1 ≤ 0 → 0 ≤ x1 - 1 ∧ x1 - 1 < 7)
    (o9 : ¬ x1 ≤ 0 → 0 ≤ x1 ∧ x1 < 7)
    (k10 : ¬ x1 ≤ 0 → Wp true i_Fl_sweepRow 94 [vr f0, vi x1, vi x2] [] (hs h (f0 + 2) x1.toNat (h (f0 + 2) (x1 - 1).toNat)) Q) :
    Wp true i_Fl_sweepRow 49 [vr f0, vi x1, vi x2] [] h Q := by
  refine r_iload_n (v := x1) f_57_49 rfl ?_
  refine r_br (t := 70) f_57_50 rfl cb_le (fun c1 => ?_) (fun c1 => ?_)
  · refine r_iload_n (v := x1) f_57_70 rfl ?_
    refine r_aload_n (v := f0) f_57_71 rfl (F_n h_f0) ?_
    refine r_geti (v := h f0 1) f_57_72 (F_k h_f0) (by decide) rfl ?_
    refine r_iconst f_57_75 (by decide) ?_
    refine r_isub (u := (h f0 1) - 1) f_57_76 rfl (o1 c1) ?_
    refine r_br2 (t := 94) f_57_77 rfl cb_ge (fun c2 => ?_) (fun c2 => ?_)
    · exact (k2 c1 c2)
    · refine r_aload_n (v := f0) f_57_80 rfl (F_n h_f0) ?_
      refine r_getr (q := (f0 + 2)) f_57_81 (F_k h_f0) (by decide) (Or.inl rfl) rfl ?_
      refine r_iload_n (v := x1) f_57_84 rfl ?_
      refine r_aload_n (v := f0) f_57_85 rfl (F_n h_f0) ?_
      refine r_getr (q := (f0 + 2)) f_57_86 (F_k h_f0) (by decide) (Or.inl rfl) rfl ?_
      refine r_iload_n (v := x1) f_57_89 rfl ?_
      refine r_iconst f_57_90 (by decide) ?_
      refine r_iadd (u := x1 + 1) f_57_91 rfl (o3 c1 c2) ?_
      refine r_iaload (n := 7) (v := h (f0 + 2) (x1 + 1).toNat) f_57_92 (F_2 h_f0) (o4 c1 c2) rfl ?_
      refine r_iastore (n := 7) f_57_93 (F_2 h_f0) (o5 c1 c2) ?_
      exact (k6 c1 c2)
  · refine r_aload_n (v := f0) f_57_53 rfl (F_n h_f0) ?_
    refine r_getr (q := (f0 + 2)) f_57_54 (F_k h_f0) (by decide) (Or.inl rfl) rfl ?_
    refine r_iload_n (v := x1) f_57_57 rfl ?_
    refine r_aload_n (v := f0) f_57_58 rfl (F_n h_f0) ?_
    refine r_getr (q := (f0 + 2)) f_57_59 (F_k h_f0) (by decide) (Or.inl rfl) rfl ?_
    refine r_iload_n (v := x1) f_57_62 rfl ?_
    refine r_iconst f_57_63 (by decide) ?_
    refine r_isub (u := x1 - 1) f_57_64 rfl (o7 c1) ?_
    refine r_iaload (n := 7) (v := h (f0 + 2) (x1 - 1).toNat) f_57_65 (F_2 h_f0) (o8 c1) rfl ?_
    refine r_iastore (n := 7) f_57_66 (F_2 h_f0) (o9 c1) ?_
    refine r_goto (t := 94) f_57_67 rfl ?_
    exact (k10 c1)

theorem g_Fl_sweepRow_94 {Q : PQ} {h : HP} {x1 : Int} {x2 : Int} {f0 : Nat} (h_f0 : isF f0)
    (o1 : 0 ≤ x1 ∧ x1 < 7)
    (k2 : h (f0 + 2) x1.toNat = x2 → Q (some (vi 0)) h)
    (k3 : ¬ h (f0 + 2) x1.toNat = x2 → Q (some (vi 1)) h) :
    Wp true i_Fl_sweepRow 94 [vr f0, vi x1, vi x2] [] h Q := by
  refine r_aload_n (v := f0) f_57_94 rfl (F_n h_f0) ?_
  refine r_getr (q := (f0 + 2)) f_57_95 (F_k h_f0) (by decide) (Or.inl rfl) rfl ?_
  refine r_iload_n (v := x1) f_57_98 rfl ?_
  refine r_iaload (n := 7) (v := h (f0 + 2) x1.toNat) f_57_99 (F_2 h_f0) o1 rfl ?_
  refine r_iload_n (v := x2) f_57_100 rfl ?_
  refine r_br2 (t := 108) f_57_101 rfl cb_eq (fun c1 => ?_) (fun c1 => ?_)
  · refine r_iconst f_57_108 (by decide) ?_
    exact r_retz f_57_109 rfl (by decide) (k2 c1)
  · refine r_iconst f_57_104 (by decide) ?_
    refine r_goto (t := 109) f_57_105 rfl ?_
    exact r_retz f_57_109 rfl (by decide) (k3 c1)

theorem g_M_sweeps_0 {Q : PQ} {h : HP} {x1 : Int} 
    (o1 : WR (rmM h 0))
    (o2 : 0 ≤ x1 ∧ x1 < h 104 1)
    (o3 : -2147483648 ≤ x1 - 1 ∧ x1 - 1 ≤ 2147483647)
    (o4 : -2147483648 ≤ x1 + 1 ∧ x1 + 1 ≤ 2147483647)
    (k5 : bi (0 ≤ (x1 - 1) ∧ (x1 - 1) < h 104 1) = 0 → Wp true i_M_sweeps 61 [vr 103, vi x1, vi (rmM h 0 1 x1.toNat), vi (bi (0 ≤ (x1 - 1) ∧ (x1 - 1) < h 104 1)), vi (bi (0 ≤ (x1 + 1) ∧ (x1 + 1) < h 104 1))] [] h Q)
    (k6 : ¬ bi (0 ≤ (x1 - 1) ∧ (x1 - 1) < h 104 1) = 0 → bi (0 ≤ (x1 + 1) ∧ (x1 + 1) < h 104 1) = 0 → Wp true i_M_sweeps 61 [vr 103, vi x1, vi (rmM h 0 1 x1.toNat), vi (bi (0 ≤ (x1 - 1) ∧ (x1 - 1) < h 104 1)), vi (bi (0 ≤ (x1 + 1) ∧ (x1 + 1) < h 104 1))] [] h Q)
    (o7 : ¬ bi (0 ≤ (x1 - 1) ∧ (x1 - 1) < h 104 1) = 0 → ¬ bi (0 ≤ (x1 + 1) ∧ (x1 + 1) < h 104 1) = 0 → -2147483648 ≤ 8 + x1 ∧ 8 + x1 ≤ 2147483647)
    (o8 : ¬ bi (0 ≤ (x1 - 1) ∧ (x1 - 1) < h 104 1) = 0 → ¬ bi (0 ≤ (x1 + 1) ∧ (x1 + 1) < h 104 1) = 0 → 0 ≤ (x1 - 1) ∧ (x1 - 1) < h 104 1)
    (o9 : ¬ bi (0 ≤ (x1 - 1) ∧ (x1 - 1) < h 104 1) = 0 → ¬ bi (0 ≤ (x1 + 1) ∧ (x1 + 1) < h 104 1) = 0 → 0 ≤ (x1 + 1) ∧ (x1 + 1) < h 104 1)
    (o10 : ¬ bi (0 ≤ (x1 - 1) ∧ (x1 - 1) < h 104 1) = 0 → ¬ bi (0 ≤ (x1 + 1) ∧ (x1 + 1) < h 104 1) = 0 → -2147483648 ≤ (rmM h 0 1 (x1 - 1).toNat) + (rmM h 0 1 (x1 + 1).toNat) ∧ (rmM h 0 1 (x1 - 1).toNat) + (rmM h 0 1 (x1 + 1).toNat) ≤ 2147483647)
    (o11 : ¬ bi (0 ≤ (x1 - 1) ∧ (x1 - 1) < h 104 1) = 0 → ¬ bi (0 ≤ (x1 + 1) ∧ (x1 + 1) < h 104 1) = 0 → 0 ≤ (rmM h 0 1 (x1 - 1).toNat) + (rmM h 0 1 (x1 + 1).toNat) ∧ (rmM h 0 1 (x1 - 1).toNat) + (rmM h 0 1 (x1 + 1).toNat) ≤ 2147483647)
    (o12 : ¬ bi (0 ≤ (x1 - 1) ∧ (x1 - 1) < h 104 1) = 0 → ¬ bi (0 ≤ (x1 + 1) ∧ (x1 + 1) < h 104 1) = 0 → 0 ≤ 8 + x1 ∧ 8 + x1 < 3000)
    (o13 : ¬ bi (0 ≤ (x1 - 1) ∧ (x1 - 1) < h 104 1) = 0 → ¬ bi (0 ≤ (x1 + 1) ∧ (x1 + 1) < h 104 1) = 0 → WR (rmM (hs h 104 (8 + x1).toNat (((rmM h 0 1 (x1 - 1).toNat) + (rmM h 0 1 (x1 + 1).toNat)) / 2)) 0))
    (o14 : ¬ bi (0 ≤ (x1 - 1) ∧ (x1 - 1) < h 104 1) = 0 → ¬ bi (0 ≤ (x1 + 1) ∧ (x1 + 1) < h 104 1) = 0 → 0 ≤ x1 ∧ x1 < (hs h 104 (8 + x1).toNat (((rmM h 0 1 (x1 - 1).toNat) + (rmM h 0 1 (x1 + 1).toNat)) / 2)) 104 1)
    (o15 : ¬ bi (0 ≤ (x1 - 1) ∧ (x1 - 1) < h 104 1) = 0 → ¬ bi (0 ≤ (x1 + 1) ∧ (x1 + 1) < h 104 1) = 0 → -2147483648 ≤ (rmM (hs h 104 (8 + x1).toNat (((rmM h 0 1 (x1 - 1).toNat) + (rmM h 0 1 (x1 + 1).toNat)) / 2)) 0 1 x1.toNat) - (rmM h 0 1 x1.toNat) ∧ (rmM (hs h 104 (8 + x1).toNat (((rmM h 0 1 (x1 - 1).toNat) + (rmM h 0 1 (x1 + 1).toNat)) / 2)) 0 1 x1.toNat) - (rmM h 0 1 x1.toNat) ≤ 2147483647)
    (o16 : ¬ bi (0 ≤ (x1 - 1) ∧ (x1 - 1) < h 104 1) = 0 → ¬ bi (0 ≤ (x1 + 1) ∧ (x1 + 1) < h 104 1) = 0 → -2147483647 ≤ ((rmM (hs h 104 (8 + x1).toNat (((rmM h 0 1 (x1 - 1).toNat) + (rmM h 0 1 (x1 + 1).toNat)) / 2)) 0 1 x1.toNat) - (rmM h 0 1 x1.toNat)) ∧ ((rmM (hs h 104 (8 + x1).toNat (((rmM h 0 1 (x1 - 1).toNat) + (rmM h 0 1 (x1 + 1).toNat)) / 2)) 0 1 x1.toNat) - (rmM h 0 1 x1.toNat)) ≤ 2147483647)
    (k17 : ¬ bi (0 ≤ (x1 - 1) ∧ (x1 - 1) < h 104 1) = 0 → ¬ bi (0 ≤ (x1 + 1) ∧ (x1 + 1) < h 104 1) = 0 → Q (some (vi (((rmM (hs h 104 (8 + x1).toNat (((rmM h 0 1 (x1 - 1).toNat) + (rmM h 0 1 (x1 + 1).toNat)) / 2)) 0 1 x1.toNat) - (rmM h 0 1 x1.toNat)).natAbs : Int))) (hs h 104 (8 + x1).toNat (((rmM h 0 1 (x1 - 1).toNat) + (rmM h 0 1 (x1 + 1).toNat)) / 2))) :
    Wp true i_M_sweeps 0 [vr 103, vi x1, vr 9999, vr 9999, vr 9999] [] h Q := by
  refine r_aload_n (v := 103) f_308_0 rfl (by decide) ?_
  refine r_iload_n (v := x1) f_308_1 rfl ?_
  refine r_callv (as := [vr 103, vi x1]) (st' := []) (ls0 := [vr 103, vi x1]) f_308_2 (by decide) rfl rfl (Nat.le_of_ble_eq_true rfl) (Nat.le_of_ble_eq_true rfl) ⟨_, _, rfl, rfl⟩ rfl ?_
  refine c_M_lineOf o1 o2 ?_
  show Wp true i_M_sweeps 5 [vr 103, vi x1, vr 9999, vr 9999, vr 9999] [vi (rmM h 0 1 x1.toNat)] h Q
  refine r_istore_n (ls' := [vr 103, vi x1, vi (rmM h 0 1 x1.toNat), vr 9999, vr 9999]) f_308_5 (Nat.le_of_ble_eq_true rfl) rfl ?_
  refine r_aload_n (v := 103) f_308_6 rfl (by decide) ?_
  refine r_iload_n (v := x1) f_308_7 rfl ?_
  refine r_iconst f_308_8 (by decide) ?_
  refine r_isub (u := x1 - 1) f_308_9 rfl o3 ?_
  refine r_callv (as := [vr 103, vi (x1 - 1)]) (st' := []) (ls0 := [vr 103, vi (x1 - 1)]) f_308_10 (by decide) rfl rfl (Nat.le_of_ble_eq_true rfl) (Nat.le_of_ble_eq_true rfl) ⟨_, _, rfl, rfl⟩ rfl ?_
  refine c_M_isRow  ?_
  show Wp true i_M_sweeps 13 [vr 103, vi x1, vi (rmM h 0 1 x1.toNat), vr 9999, vr 9999] [vi (bi (0 ≤ (x1 - 1) ∧ (x1 - 1) < h 104 1))] h Q
  refine r_istore_n (ls' := [vr 103, vi x1, vi (rmM h 0 1 x1.toNat), vi (bi (0 ≤ (x1 - 1) ∧ (x1 - 1) < h 104 1)), vr 9999]) f_308_13 (Nat.le_of_ble_eq_true rfl) rfl ?_
  refine r_aload_n (v := 103) f_308_14 rfl (by decide) ?_
  refine r_iload_n (v := x1) f_308_15 rfl ?_
  refine r_iconst f_308_16 (by decide) ?_
  refine r_iadd (u := x1 + 1) f_308_17 rfl o4 ?_
  refine r_callv (as := [vr 103, vi (x1 + 1)]) (st' := []) (ls0 := [vr 103, vi (x1 + 1)]) f_308_18 (by decide) rfl rfl (Nat.le_of_ble_eq_true rfl) (Nat.le_of_ble_eq_true rfl) ⟨_, _, rfl, rfl⟩ rfl ?_
  refine c_M_isRow  ?_
  show Wp true i_M_sweeps 21 [vr 103, vi x1, vi (rmM h 0 1 x1.toNat), vi (bi (0 ≤ (x1 - 1) ∧ (x1 - 1) < h 104 1)), vr 9999] [vi (bi (0 ≤ (x1 + 1) ∧ (x1 + 1) < h 104 1))] h Q
  refine r_istore (ls' := [vr 103, vi x1, vi (rmM h 0 1 x1.toNat), vi (bi (0 ≤ (x1 - 1) ∧ (x1 - 1) < h 104 1)), vi (bi (0 ≤ (x1 + 1) ∧ (x1 + 1) < h 104 1))]) f_308_21 (Nat.le_of_ble_eq_true rfl) rfl ?_
  refine r_iload_n (v := bi (0 ≤ (x1 - 1) ∧ (x1 - 1) < h 104 1)) f_308_23 rfl ?_
  refine r_br (t := 61) f_308_24 rfl cb_eq (fun c1 => ?_) (fun c1 => ?_)
  · exact (k5 c1)
  · refine r_iload (v := bi (0 ≤ (x1 + 1) ∧ (x1 + 1) < h 104 1)) f_308_27 rfl ?_
    refine r_br (t := 61) f_308_29 rfl cb_eq (fun c2 => ?_) (fun c2 => ?_)
    · exact (k6 c1 c2)
    · refine r_aload_n (v := 103) f_308_32 rfl (by decide) ?_
      refine r_getr (q := 104) f_308_33 rfl (by decide) (Or.inl rfl) rfl ?_
      refine r_bipush f_308_36 (by decide) ?_
      refine r_iload_n (v := x1) f_308_38 rfl ?_
      refine r_iadd (u := 8 + x1) f_308_39 rfl (o7 c1 c2) ?_
      refine r_aload_n (v := 103) f_308_40 rfl (by decide) ?_
      refine r_iload_n (v := x1) f_308_41 rfl ?_
      refine r_iconst f_308_42 (by decide) ?_
      refine r_isub (u := x1 - 1) f_308_43 rfl o3 ?_
      refine r_callv (as := [vr 103, vi (x1 - 1)]) (st' := [vi (8 + x1), vr 104]) (ls0 := [vr 103, vi (x1 - 1)]) f_308_44 (by decide) rfl rfl (Nat.le_of_ble_eq_true rfl) (Nat.le_of_ble_eq_true rfl) ⟨_, _, rfl, rfl⟩ rfl ?_
      refine c_M_lineOf o1 (o8 c1 c2) ?_
      show Wp true i_M_sweeps 47 [vr 103, vi x1, vi (rmM h 0 1 x1.toNat), vi (bi (0 ≤ (x1 - 1) ∧ (x1 - 1) < h 104 1)), vi (bi (0 ≤ (x1 + 1) ∧ (x1 + 1) < h 104 1))] [vi (rmM h 0 1 (x1 - 1).toNat), vi (8 + x1), vr 104] h Q
      refine r_aload_n (v := 103) f_308_47 rfl (by decide) ?_
      refine r_iload_n (v := x1) f_308_48 rfl ?_
      refine r_iconst f_308_49 (by decide) ?_
      refine r_iadd (u := x1 + 1) f_308_50 rfl o4 ?_
      refine r_callv (as := [vr 103, vi (x1 + 1)]) (st' := [vi (rmM h 0 1 (x1 - 1).toNat), vi (8 + x1), vr 104]) (ls0 := [vr 103, vi (x1 + 1)]) f_308_51 (by decide) rfl rfl (Nat.le_of_ble_eq_true rfl) (Nat.le_of_ble_eq_true rfl) ⟨_, _, rfl, rfl⟩ rfl ?_
      refine c_M_lineOf o1 (o9 c1 c2) ?_
      show Wp true i_M_sweeps 54 [vr 103, vi x1, vi (rmM h 0 1 x1.toNat), vi (bi (0 ≤ (x1 - 1) ∧ (x1 - 1) < h 104 1)), vi (bi (0 ≤ (x1 + 1) ∧ (x1 + 1) < h 104 1))] [vi (rmM h 0 1 (x1 + 1).toNat), vi (rmM h 0 1 (x1 - 1).toNat), vi (8 + x1), vr 104] h Q
      refine r_iadd (u := (rmM h 0 1 (x1 - 1).toNat) + (rmM h 0 1 (x1 + 1).toNat)) f_308_54 rfl (o10 c1 c2) ?_
      refine r_iconst f_308_55 (by decide) ?_
      refine r_idiv f_308_56 (o11 c1 c2) (by decide) ?_
      refine r_iastore (n := 3000) f_308_57 ⟨rfl, rfl⟩ (o12 c1 c2) ?_
      refine r_goto (t := 96) f_308_58 rfl ?_
      refine r_aload_n (v := 103) f_308_96 rfl (by decide) ?_
      refine r_iload_n (v := x1) f_308_97 rfl ?_
      refine r_callv (as := [vr 103, vi x1]) (st' := []) (ls0 := [vr 103, vi x1]) f_308_98 (by decide) rfl rfl (Nat.le_of_ble_eq_true rfl) (Nat.le_of_ble_eq_true rfl) ⟨_, _, rfl, rfl⟩ rfl ?_
      refine c_M_lineOf (o13 c1 c2) (o14 c1 c2) ?_
      show Wp true i_M_sweeps 101 [vr 103, vi x1, vi (rmM h 0 1 x1.toNat), vi (bi (0 ≤ (x1 - 1) ∧ (x1 - 1) < h 104 1)), vi (bi (0 ≤ (x1 + 1) ∧ (x1 + 1) < h 104 1))] [vi (rmM (hs h 104 (8 + x1).toNat (((rmM h 0 1 (x1 - 1).toNat) + (rmM h 0 1 (x1 + 1).toNat)) / 2)) 0 1 x1.toNat)] (hs h 104 (8 + x1).toNat (((rmM h 0 1 (x1 - 1).toNat) + (rmM h 0 1 (x1 + 1).toNat)) / 2)) Q
      refine r_iload_n (v := rmM h 0 1 x1.toNat) f_308_101 rfl ?_
      refine r_isub (u := (rmM (hs h 104 (8 + x1).toNat (((rmM h 0 1 (x1 - 1).toNat) + (rmM h 0 1 (x1 + 1).toNat)) / 2)) 0 1 x1.toNat) - (rmM h 0 1 x1.toNat)) f_308_102 rfl (o15 c1 c2) ?_
      refine r_calls (as := [vi ((rmM (hs h 104 (8 + x1).toNat (((rmM h 0 1 (x1 - 1).toNat) + (rmM h 0 1 (x1 + 1).toNat)) / 2)) 0 1 x1.toNat) - (rmM h 0 1 x1.toNat))]) (st' := []) (ls0 := [vi ((rmM (hs h 104 (8 + x1).toNat (((rmM h 0 1 (x1 - 1).toNat) + (rmM h 0 1 (x1 + 1).toNat)) / 2)) 0 1 x1.toNat) - (rmM h 0 1 x1.toNat))]) f_308_103 (by decide) (by decide) rfl rfl (Nat.le_of_ble_eq_true rfl) (Nat.le_of_ble_eq_true rfl) rfl ?_
      refine c_Ma_abs (o16 c1 c2) ?_
      show Wp true i_M_sweeps 106 [vr 103, vi x1, vi (rmM h 0 1 x1.toNat), vi (bi (0 ≤ (x1 - 1) ∧ (x1 - 1) < h 104 1)), vi (bi (0 ≤ (x1 + 1) ∧ (x1 + 1) < h 104 1))] [vi (((rmM (hs h 104 (8 + x1).toNat (((rmM h 0 1 (x1 - 1).toNat) + (rmM h 0 1 (x1 + 1).toNat)) / 2)) 0 1 x1.toNat) - (rmM h 0 1 x1.toNat)).natAbs : Int)] (hs h 104 (8 + x1).toNat (((rmM h 0 1 (x1 - 1).toNat) + (rmM h 0 1 (x1 + 1).toNat)) / 2)) Q
      exact r_reti f_308_106 rfl (k17 c1 c2)

theorem g_M_sweeps_61 {Q : PQ} {h : HP} {x1 : Int} {x2 : Int} {x3 : Int} {x4 : Int} 
    (k1 : ¬ x3 = 0 → Wp true i_M_sweeps 70 [vr 103, vi x1, vi x2, vi x3, vi x4] [] h Q)
    (o2 : x3 = 0 → x4 = 0 → WR (rmM h 0))
    (o3 : x3 = 0 → x4 = 0 → 0 ≤ x1 ∧ x1 < h 104 1)
    (o4 : x3 = 0 → x4 = 0 → -2147483648 ≤ (rmM h 0 1 x1.toNat) - x2 ∧ (rmM h 0 1 x1.toNat) - x2 ≤ 2147483647)
    (o5 : x3 = 0 → x4 = 0 → -2147483647 ≤ ((rmM h 0 1 x1.toNat) - x2) ∧ ((rmM h 0 1 x1.toNat) - x2) ≤ 2147483647)
    (k6 : x3 = 0 → x4 = 0 → Q (some (vi (((rmM h 0 1 x1.toNat) - x2).natAbs : Int))) h)
    (k7 : x3 = 0 → ¬ x4 = 0 → Wp true i_M_sweeps 70 [vr 103, vi x1, vi x2, vi x3, vi x4] [] h Q) :
    Wp true i_M_sweeps 61 [vr 103, vi x1, vi x2, vi x3, vi x4] [] h Q := by
  refine r_iload_n (v := x3) f_308_61 rfl ?_
  refine r_br (t := 70) f_308_62 rfl cb_ne (fun c1 => ?_) (fun c1 => ?_)
  · exact (k1 c1)
  · have c1 := Decidable.not_not.mp c1
    refine r_iload (v := x4) f_308_65 rfl ?_
    refine r_br (t := 96) f_308_67 rfl cb_eq (fun c2 => ?_) (fun c2 => ?_)
    · refine r_aload_n (v := 103) f_308_96 rfl (by decide) ?_
      refine r_iload_n (v := x1) f_308_97 rfl ?_
      refine r_callv (as := [vr 103, vi x1]) (st' := []) (ls0 := [vr 103, vi x1]) f_308_98 (by decide) rfl rfl (Nat.le_of_ble_eq_true rfl) (Nat.le_of_ble_eq_true rfl) ⟨_, _, rfl, rfl⟩ rfl ?_
      refine c_M_lineOf (o2 c1 c2) (o3 c1 c2) ?_
      show Wp true i_M_sweeps 101 [vr 103, vi x1, vi x2, vi x3, vi x4] [vi (rmM h 0 1 x1.toNat)] h Q
      refine r_iload_n (v := x2) f_308_101 rfl ?_
      refine r_isub (u := (rmM h 0 1 x1.toNat) - x2) f_308_102 rfl (o4 c1 c2) ?_
      refine r_calls (as := [vi ((rmM h 0 1 x1.toNat) - x2)]) (st' := []) (ls0 := [vi ((rmM h 0 1 x1.toNat) - x2)]) f_308_103 (by decide) (by decide) rfl rfl (Nat.le_of_ble_eq_true rfl) (Nat.le_of_ble_eq_true rfl) rfl ?_
      refine c_Ma_abs (o5 c1 c2) ?_
      show Wp true i_M_sweeps 106 [vr 103, vi x1, vi x2, vi x3, vi x4] [vi (((rmM h 0 1 x1.toNat) - x2).natAbs : Int)] h Q
      exact r_reti f_308_106 rfl (k6 c1 c2)
    · exact (k7 c1 c2)

theorem g_M_sweeps_70 {Q : PQ} {h : HP} {x1 : Int} {x2 : Int} {x3 : Int} {x4 : Int} 
    (o1 : -2147483648 ≤ 8 + x1 ∧ 8 + x1 ≤ 2147483647)
    (o2 : x3 = 0 → -2147483648 ≤ x1 + 1 ∧ x1 + 1 ≤ 2147483647)
    (k3 : x3 = 0 → Wp true i_M_sweeps 92 [vr 103, vi x1, vi x2, vi x3, vi x4] [vi (x1 + 1), vr 103, vi (8 + x1), vr 104] h Q)
    (o4 : ¬ x3 = 0 → -2147483648 ≤ x1 - 1 ∧ x1 - 1 ≤ 2147483647)
    (k5 : ¬ x3 = 0 → Wp true i_M_sweeps 92 [vr 103, vi x1, vi x2, vi x3, vi x4] [vi (x1 - 1), vr 103, vi (8 + x1), vr 104] h Q) :
    Wp true i_M_sweeps 70 [vr 103, vi x1, vi x2, vi x3, vi x4] [] h Q := by
  refine r_aload_n (v := 103) f_308_70 rfl (by decide) ?_
  refine r_getr (q := 104) f_308_71 rfl (by decide) (Or.inl rfl) rfl ?_
  refine r_bipush f_308_74 (by decide) ?_
  refine r_iload_n (v := x1) f_308_76 rfl ?_
  refine r_iadd (u := 8 + x1) f_308_77 rfl o1 ?_
  refine r_aload_n (v := 103) f_308_78 rfl (by decide) ?_
  refine r_iload_n (v := x3) f_308_79 rfl ?_
  refine r_br (t := 89) f_308_80 rfl cb_eq (fun c1 => ?_) (fun c1 => ?_)
  · refine r_iload_n (v := x1) f_308_89 rfl ?_
    refine r_iconst f_308_90 (by decide) ?_
    refine r_iadd (u := x1 + 1) f_308_91 rfl (o2 c1) ?_
    exact (k3 c1)
  · refine r_iload_n (v := x1) f_308_83 rfl ?_
    refine r_iconst f_308_84 (by decide) ?_
    refine r_isub (u := x1 - 1) f_308_85 rfl (o4 c1) ?_
    refine r_goto (t := 92) f_308_86 rfl ?_
    exact (k5 c1)

theorem g_M_sweeps_92 {Q : PQ} {h : HP} {x1 : Int} {x2 : Int} {x3 : Int} {x4 : Int} {s1 : Int} {s3 : Int} 
    (o1 : WR (rmM h 0))
    (o2 : 0 ≤ s3 ∧ s3 < h 104 1)
    (o3 : 0 ≤ s1 ∧ s1 < 3000)
    (o4 : WR (rmM (hs h 104 s1.toNat (rmM h 0 1 s3.toNat)) 0))
    (o5 : 0 ≤ x1 ∧ x1 < (hs h 104 s1.toNat (rmM h 0 1 s3.toNat)) 104 1)
    (o6 : -2147483648 ≤ (rmM (hs h 104 s1.toNat (rmM h 0 1 s3.toNat)) 0 1 x1.toNat) - x2 ∧ (rmM (hs h 104 s1.toNat (rmM h 0 1 s3.toNat)) 0 1 x1.toNat) - x2 ≤ 2147483647)
    (o7 : -2147483647 ≤ ((rmM (hs h 104 s1.toNat (rmM h 0 1 s3.toNat)) 0 1 x1.toNat) - x2) ∧ ((rmM (hs h 104 s1.toNat (rmM h 0 1 s3.toNat)) 0 1 x1.toNat) - x2) ≤ 2147483647)
    (k8 : Q (some (vi (((rmM (hs h 104 s1.toNat (rmM h 0 1 s3.toNat)) 0 1 x1.toNat) - x2).natAbs : Int))) (hs h 104 s1.toNat (rmM h 0 1 s3.toNat))) :
    Wp true i_M_sweeps 92 [vr 103, vi x1, vi x2, vi x3, vi x4] [vi s3, vr 103, vi s1, vr 104] h Q := by
  refine r_callv (as := [vr 103, vi s3]) (st' := [vi s1, vr 104]) (ls0 := [vr 103, vi s3]) f_308_92 (by decide) rfl rfl (Nat.le_of_ble_eq_true rfl) (Nat.le_of_ble_eq_true rfl) ⟨_, _, rfl, rfl⟩ rfl ?_
  refine c_M_lineOf o1 o2 ?_
  show Wp true i_M_sweeps 95 [vr 103, vi x1, vi x2, vi x3, vi x4] [vi (rmM h 0 1 s3.toNat), vi s1, vr 104] h Q
  refine r_iastore (n := 3000) f_308_95 ⟨rfl, rfl⟩ o3 ?_
  refine r_aload_n (v := 103) f_308_96 rfl (by decide) ?_
  refine r_iload_n (v := x1) f_308_97 rfl ?_
  refine r_callv (as := [vr 103, vi x1]) (st' := []) (ls0 := [vr 103, vi x1]) f_308_98 (by decide) rfl rfl (Nat.le_of_ble_eq_true rfl) (Nat.le_of_ble_eq_true rfl) ⟨_, _, rfl, rfl⟩ rfl ?_
  refine c_M_lineOf o4 o5 ?_
  show Wp true i_M_sweeps 101 [vr 103, vi x1, vi x2, vi x3, vi x4] [vi (rmM (hs h 104 s1.toNat (rmM h 0 1 s3.toNat)) 0 1 x1.toNat)] (hs h 104 s1.toNat (rmM h 0 1 s3.toNat)) Q
  refine r_iload_n (v := x2) f_308_101 rfl ?_
  refine r_isub (u := (rmM (hs h 104 s1.toNat (rmM h 0 1 s3.toNat)) 0 1 x1.toNat) - x2) f_308_102 rfl o6 ?_
  refine r_calls (as := [vi ((rmM (hs h 104 s1.toNat (rmM h 0 1 s3.toNat)) 0 1 x1.toNat) - x2)]) (st' := []) (ls0 := [vi ((rmM (hs h 104 s1.toNat (rmM h 0 1 s3.toNat)) 0 1 x1.toNat) - x2)]) f_308_103 (by decide) (by decide) rfl rfl (Nat.le_of_ble_eq_true rfl) (Nat.le_of_ble_eq_true rfl) rfl ?_
  refine c_Ma_abs o7 ?_
  show Wp true i_M_sweeps 106 [vr 103, vi x1, vi x2, vi x3, vi x4] [vi (((rmM (hs h 104 s1.toNat (rmM h 0 1 s3.toNat)) 0 1 x1.toNat) - x2).natAbs : Int)] (hs h 104 s1.toNat (rmM h 0 1 s3.toNat)) Q
  exact r_reti f_308_106 rfl k8

theorem g_C_sweep_0 {Q : PQ} {h : HP} {x1 : Int} 
    (k1 : (0 ≤ x1 ∧ x1 < h 10 1) → Wp true i_Fl_sweepRow 0 [vr 10, vi x1, vr 9999] [] h (fun r h' => Wp true i_C_sweep 25 [vr 0, vi x1] (r.toList ++ []) h' Q))
    (k2 : ¬ (0 ≤ x1 ∧ x1 < h 10 1) → Q (some (vi (-1))) (hs h 0 0 1)) :
    Wp true i_C_sweep 0 [vr 0, vi x1] [] h Q := by
  refine r_aload_n (v := 0) f_172_0 rfl (by decide) ?_
  refine r_getr (q := 10) f_172_1 rfl (by decide) (Or.inl rfl) rfl ?_
  refine r_iload_n (v := x1) f_172_4 rfl ?_
  refine r_callv (as := [vr 10, vi x1]) (st' := []) (ls0 := [vr 10, vi x1]) f_172_5 (by decide) rfl rfl (Nat.le_of_ble_eq_true rfl) (Nat.le_of_ble_eq_true rfl) ⟨_, _, rfl, rfl⟩ rfl ?_
  refine c_Fl_hasRow isF_10 ?_
  show Wp true i_C_sweep 8 [vr 0, vi x1] [vi (bi (0 ≤ x1 ∧ x1 < h 10 1))] h Q
  refine r_br (t := 17) f_172_8 rfl cb_bt (fun c1 => ?_) (fun c1 => ?_)
  · refine r_aload_n (v := 0) f_172_17 rfl (by decide) ?_
    refine r_getr (q := 10) f_172_18 rfl (by decide) (Or.inl rfl) rfl ?_
    refine r_iload_n (v := x1) f_172_21 rfl ?_
    exact r_callv (as := [vr 10, vi x1]) (st' := []) (ls0 := [vr 10, vi x1, vr 9999]) f_172_22 (by decide) rfl rfl (Nat.le_of_ble_eq_true rfl) (Nat.le_of_ble_eq_true rfl) ⟨_, _, rfl, rfl⟩ rfl (k1 c1)
  · refine r_aload_n (v := 0) f_172_11 rfl (by decide) ?_
    refine r_iconst f_172_12 (by decide) ?_
    refine r_callv (as := [vr 0, vi 1]) (st' := []) (ls0 := [vr 0, vi 1]) f_172_13 (by decide) rfl rfl (Nat.le_of_ble_eq_true rfl) (Nat.le_of_ble_eq_true rfl) ⟨_, _, rfl, rfl⟩ rfl ?_
    refine c_C_refuse  ?_
    show Wp true i_C_sweep 16 [vr 0, vi x1] [vi (-1)] (hs h 0 0 1) Q
    exact r_reti f_172_16 rfl (k2 c1)

theorem g_C_sweep_25 {Q : PQ} {h : HP} {x1 : Int} {s0 : Int} 
    (o1 : 0 ≤ x1 ∧ x1 < 7)
    (k2 : Q (some (vi (h 12 x1.toNat))) (hs h 0 0 0)) :
    Wp true i_C_sweep 25 [vr 0, vi x1] [vi s0] h Q := by
  refine r_popi f_172_25 ?_
  refine r_aload_n (v := 0) f_172_26 rfl (by decide) ?_
  refine r_aload_n (v := 0) f_172_27 rfl (by decide) ?_
  refine r_getr (q := 10) f_172_28 rfl (by decide) (Or.inl rfl) rfl ?_
  refine r_getr (q := 12) f_172_31 rfl (by decide) (Or.inl rfl) rfl ?_
  refine r_iload_n (v := x1) f_172_34 rfl ?_
  refine r_iaload (n := 7) (v := h 12 x1.toNat) f_172_35 ⟨rfl, rfl⟩ o1 rfl ?_
  refine r_callv (as := [vr 0, vi (h 12 x1.toNat)]) (st' := []) (ls0 := [vr 0, vi (h 12 x1.toNat)]) f_172_36 (by decide) rfl rfl (Nat.le_of_ble_eq_true rfl) (Nat.le_of_ble_eq_true rfl) ⟨_, _, rfl, rfl⟩ rfl ?_
  refine c_C_answer  ?_
  show Wp true i_C_sweep 39 [vr 0, vi x1] [vi (h 12 x1.toNat)] (hs h 0 0 0) Q
  exact r_reti f_172_39 rfl k2

theorem g_M_sweep_0 {Q : PQ} {h : HP} {x1 : Int} 
    (k1 : (0 ≤ x1 ∧ x1 < h 104 1) → Wp true i_M_sweeps 0 [vr 103, vi x1, vr 9999, vr 9999, vr 9999] [] h (fun r h' => Wp true i_M_sweep 19 [vr 103, vi x1] (r.toList ++ []) h' Q))
    (k2 : ¬ (0 ≤ x1 ∧ x1 < h 104 1) → Q (some (vi (-1))) (hs h 103 2 1)) :
    Wp true i_M_sweep 0 [vr 103, vi x1] [] h Q := by
  refine r_aload_n (v := 103) f_309_0 rfl (by decide) ?_
  refine r_iload_n (v := x1) f_309_1 rfl ?_
  refine r_callv (as := [vr 103, vi x1]) (st' := []) (ls0 := [vr 103, vi x1]) f_309_2 (by decide) rfl rfl (Nat.le_of_ble_eq_true rfl) (Nat.le_of_ble_eq_true rfl) ⟨_, _, rfl, rfl⟩ rfl ?_
  refine c_M_isRow  ?_
  show Wp true i_M_sweep 5 [vr 103, vi x1] [vi (bi (0 ≤ x1 ∧ x1 < h 104 1))] h Q
  refine r_br (t := 14) f_309_5 rfl cb_bt (fun c1 => ?_) (fun c1 => ?_)
  · refine r_aload_n (v := 103) f_309_14 rfl (by decide) ?_
    refine r_iload_n (v := x1) f_309_15 rfl ?_
    exact r_callv (as := [vr 103, vi x1]) (st' := []) (ls0 := [vr 103, vi x1, vr 9999, vr 9999, vr 9999]) f_309_16 (by decide) rfl rfl (Nat.le_of_ble_eq_true rfl) (Nat.le_of_ble_eq_true rfl) ⟨_, _, rfl, rfl⟩ rfl (k1 c1)
  · refine r_aload_n (v := 103) f_309_8 rfl (by decide) ?_
    refine r_iconst f_309_9 (by decide) ?_
    refine r_callv (as := [vr 103, vi 1]) (st' := []) (ls0 := [vr 103, vi 1]) f_309_10 (by decide) rfl rfl (Nat.le_of_ble_eq_true rfl) (Nat.le_of_ble_eq_true rfl) ⟨_, _, rfl, rfl⟩ rfl ?_
    refine c_M_refuse  ?_
    show Wp true i_M_sweep 13 [vr 103, vi x1] [vi (-1)] (hs h 103 2 1) Q
    exact r_reti f_309_13 rfl (k2 c1)

theorem g_M_sweep_19 {Q : PQ} {h : HP} {x1 : Int} {s0 : Int} 
    (o1 : WR (rmM h 0))
    (o2 : 0 ≤ x1 ∧ x1 < h 104 1)
    (k3 : Q (some (vi (rmM h 0 1 x1.toNat))) (hs h 103 2 0)) :
    Wp true i_M_sweep 19 [vr 103, vi x1] [vi s0] h Q := by
  refine r_popi f_309_19 ?_
  refine r_aload_n (v := 103) f_309_20 rfl (by decide) ?_
  refine r_aload_n (v := 103) f_309_21 rfl (by decide) ?_
  refine r_iload_n (v := x1) f_309_22 rfl ?_
  refine r_callv (as := [vr 103, vi x1]) (st' := [vr 103]) (ls0 := [vr 103, vi x1]) f_309_23 (by decide) rfl rfl (Nat.le_of_ble_eq_true rfl) (Nat.le_of_ble_eq_true rfl) ⟨_, _, rfl, rfl⟩ rfl ?_
  refine c_M_lineOf o1 o2 ?_
  show Wp true i_M_sweep 26 [vr 103, vi x1] [vi (rmM h 0 1 x1.toNat), vr 103] h Q
  refine r_callv (as := [vr 103, vi (rmM h 0 1 x1.toNat)]) (st' := []) (ls0 := [vr 103, vi (rmM h 0 1 x1.toNat)]) f_309_26 (by decide) rfl rfl (Nat.le_of_ble_eq_true rfl) (Nat.le_of_ble_eq_true rfl) ⟨_, _, rfl, rfl⟩ rfl ?_
  refine c_M_gives  ?_
  show Wp true i_M_sweep 29 [vr 103, vi x1] [vi (rmM h 0 1 x1.toNat)] (hs h 103 2 0) Q
  exact r_reti f_309_29 rfl k3

def swp (R : HP) (r : Nat) : Int := if 0 < r then (if (r : Int) < R 0 1 - 1 then (R 1 (r - 1) + R 1 (r + 1)) / 2 else R 1 (r - 1)) else if (r : Int) < R 0 1 - 1 then R 1 (r + 1) else R 1 r
def aSweep (R : HP) (r : Nat) : HP := hs R 1 r (swp R r)
theorem swp_rg {R : HP} (W : WR R) {r : Nat} (hr : (r : Int) < R 0 1) : 0 ≤ swp R r ∧ swp R r ≤ R 0 0 := by
  have a := W.2.1 r hr
  have b := W.2.1 (r - 1) (by omega)
  unfold swp
  by_cases c1 : 0 < r
  · rw [if_pos c1]
    by_cases c2 : (r : Int) < R 0 1 - 1
    · rw [if_pos c2]
      have c := W.2.1 (r + 1) (by omega)
      omega
    · rw [if_neg c2]; exact b
  · rw [if_neg c1]
    by_cases c2 : (r : Int) < R 0 1 - 1
    · rw [if_pos c2]
      have c := W.2.1 (r + 1) (by omega)
      omega
    · rw [if_neg c2]; exact a
theorem aSweep_ok {R : HP} (W : WR R) {r : Nat} (hr : (r : Int) < R 0 1) : SameL R (aSweep R r) := SameL_cut W (swp_rg W hr)
theorem hs_id {R : HP} {k i : Nat} : hs R k i (R k i) = R := by
  funext a b
  simp only [hs]
  split
  · rename_i q; rw [q.1, q.2]
  · rfl
theorem c_Fl_sweepRow {Q : PQ} {h R : HP} {x1 : Int} {f0 : Nat} (h_f0 : isF f0) (eR : rmC h f0 = R) (W : WR R) (hr : 0 ≤ x1 ∧ x1 < R 0 1)
    (k : ∀ h', ActC f0 h h' (aSweep R x1.toNat) → Q (some (vi (bi (¬ swp R x1.toNat = R 1 x1.toNat)))) h') : Wp true i_Fl_sweepRow 0 [vr f0, vi x1, vr 9999] [] h Q := by
  have d := cdim eR
  have w := W.1
  subst eR
  have v0 := WC_1 W (r := x1) (by omega) (by omega)
  have fin : ∀ h1, ActC f0 h h1 (aSweep (rmC h f0) x1.toNat) → Wp true i_Fl_sweepRow 94 [vr f0, vi x1, vi (h (f0 + 2) x1.toNat)] [] h1 Q := by
    intro h1 a
    have e1 : h1 (f0 + 2) x1.toNat = swp (rmC h f0) x1.toNat := by
      have d2 := cdim a.1
      have dd := (aSweep_ok W (r := x1.toNat) (by omega)).2.1
      have := cR_1 (h := h1) (f := f0) (r := x1.toNat) (by rw [d2.2.1, dd.2.1]; omega)
      rw [← this, a.1]
      exact hs_s
    refine g_Fl_sweepRow_94 h_f0 (by omega) (fun c => ?_) (fun c => ?_)
    · have k := k h1 a
      rw [bi_f (by rw [← e1, v0.2.2]; exact fun q => q c)] at k; exact k
    · have k := k h1 a
      rw [bi_t (by rw [← e1, v0.2.2]; exact c)] at k; exact k
  have cutA : ∀ v : Int, v = swp (rmC h f0) x1.toNat → ActC f0 h (hs h (f0 + 2) x1.toNat v) (aSweep (rmC h f0) x1.toNat) := by
    intro v e
    subst e
    exact ActC_cut rfl (by omega)
  have p49 : (x1 ≤ 0 ∨ rmC h f0 0 1 - 1 ≤ x1) → Wp true i_Fl_sweepRow 49 [vr f0, vi x1, vi (h (f0 + 2) x1.toNat)] [] h Q := by
    intro c
    refine g_Fl_sweepRow_49 h_f0 (fun _ => by omega) (fun c1 c2 => ?_) (fun _ _ => by omega) (fun _ _ => by omega) (fun _ _ => by omega) (fun c1 c2 => ?_) (fun _ => by omega) (fun _ => by omega) (fun _ => by omega) (fun c1 => ?_)
    · refine fin h ?_
      have e : swp (rmC h f0) x1.toNat = rmC h f0 1 x1.toNat := by
        unfold swp; rw [if_neg (by omega), if_neg (by omega)]
      unfold aSweep
      rw [e, hs_id]
      exact ActC_0 f0 h
    · refine fin _ (cutA _ ?_)
      have v1 := WC_1 W (r := x1 + 1) (by omega) (by omega)
      unfold swp
      rw [if_neg (by omega), if_pos (by omega), ← v1.2.2]
      congr 1
      omega
    · refine fin _ (cutA _ ?_)
      have v1 := WC_1 W (r := x1 - 1) (by omega) (by omega)
      unfold swp
      rw [if_pos (by omega), if_neg (by omega), ← v1.2.2]
      congr 1
      omega
  refine g_Fl_sweepRow_0 h_f0 (by omega) (fun c => p49 (Or.inl c)) (fun _ => by omega) (fun _ c => p49 (Or.inr (by omega))) (fun _ _ => by omega) (fun _ _ => by omega) (fun _ _ => by omega) (fun _ _ => by omega) (fun _ _ => ?_) (fun _ _ => ?_) (fun c1 c2 => ?_)
  · have v1 := WC_1 W (r := x1 + 1) (by omega) (by omega)
    have v2 := WC_1 W (r := x1 - 1) (by omega) (by omega)
    omega
  · have v1 := WC_1 W (r := x1 + 1) (by omega) (by omega)
    have v2 := WC_1 W (r := x1 - 1) (by omega) (by omega)
    omega
  · refine fin _ (cutA _ ?_)
    have v1 := WC_1 W (r := x1 + 1) (by omega) (by omega)
    have v2 := WC_1 W (r := x1 - 1) (by omega) (by omega)
    have e1 : x1.toNat + 1 = (x1 + 1).toNat := by omega
    have e2 : x1.toNat - 1 = (x1 - 1).toNat := by omega
    unfold swp
    rw [if_pos (by omega), if_pos (by omega), e1, e2, v1.2.2, v2.2.2]
theorem c_M_sweeps {Q : PQ} {h R : HP} {x1 : Int} (eR : rmM h 0 = R) (W : WR R) (hr : 0 ≤ x1 ∧ x1 < R 0 1)
    (k : ∀ h', ActM h h' (aSweep R x1.toNat) → Q (some (vi ((swp R x1.toNat - R 1 x1.toNat).natAbs : Int))) h') : Wp true i_M_sweeps 0 [vr 103, vi x1, vr 9999, vr 9999, vr 9999] [] h Q := by
  have d := mdim eR
  have w := W.1
  subst eR
  have v0 := W.2.1 x1.toNat (by omega)
  have hsw := swp_rg W (r := x1.toNat) (by omega)
  have e8 : (8 + x1).toNat = 8 + x1.toNat := by omega
  have cutA : ∀ v : Int, v = swp (rmM h 0) x1.toNat → ActM h (hs h 104 (8 + x1).toNat v) (aSweep (rmM h 0) x1.toNat) := by
    intro v e
    subst e
    rw [e8]
    exact ActM_cut rfl W (by omega)
  have aft : ∀ v : Int, v = swp (rmM h 0) x1.toNat → WR (rmM (hs h 104 (8 + x1).toNat v) 0) ∧ (hs h 104 (8 + x1).toNat v) 104 1 = h 104 1 ∧ rmM (hs h 104 (8 + x1).toNat v) 0 1 x1.toNat = swp (rmM h 0) x1.toNat := by
    intro v e
    have a := cutA v e
    refine ⟨by rw [a.1]; exact (aSweep_ok W (r := x1.toNat) (by omega)).1, hs_o (by omega), ?_⟩
    rw [a.1]; exact hs_s
  have p92 : ∀ s3 : Int, (0 ≤ s3 ∧ s3 < rmM h 0 0 1) → rmM h 0 1 s3.toNat = swp (rmM h 0) x1.toNat → ∀ x3 x4 : Int, Wp true i_M_sweeps 92 [vr 103, vi x1, vi (rmM h 0 1 x1.toNat), vi x3, vi x4] [vi s3, vr 103, vi (8 + x1), vr 104] h Q := by
    intro s3 hs3 e x3 x4
    obtain ⟨a1, a2, a3⟩ := aft _ e
    refine g_M_sweeps_92 W (by omega) (by omega) a1 (by rw [a2]; omega) (by rw [a3]; omega) (by rw [a3]; omega) ?_
    rw [a3]
    exact k _ (cutA _ e)
  have p70 : ∀ x3 x4 : Int, (x3 = bi (0 ≤ x1 - 1 ∧ x1 - 1 < h 104 1)) → (x4 = bi (0 ≤ x1 + 1 ∧ x1 + 1 < h 104 1)) → (x3 = 0 ∨ x4 = 0) → ¬ (x3 = 0 ∧ x4 = 0) → Wp true i_M_sweeps 70 [vr 103, vi x1, vi (rmM h 0 1 x1.toNat), vi x3, vi x4] [] h Q := by
    intro x3 x4 e3 e4 c1 c2
    refine g_M_sweeps_70 (by omega) (fun _ => by omega) (fun c => ?_) (fun _ => by omega) (fun c => ?_)
    · have q1 : ¬ (0 ≤ x1 - 1 ∧ x1 - 1 < h 104 1) := fun q => by rw [bi_t q] at e3; omega
      have q2 : 0 ≤ x1 + 1 ∧ x1 + 1 < h 104 1 := Decidable.byContradiction (fun q => by rw [bi_f q] at e4; omega)
      refine p92 (x1 + 1) (by omega) ?_ _ _
      unfold swp
      rw [if_neg (by omega), if_pos (by omega)]
      congr 1; omega
    · have q1 : 0 ≤ x1 - 1 ∧ x1 - 1 < h 104 1 := Decidable.byContradiction (fun q => by rw [bi_f q] at e3; omega)
      have q2 : ¬ (0 ≤ x1 + 1 ∧ x1 + 1 < h 104 1) := fun q => by rw [bi_t q] at e4; omega
      refine p92 (x1 - 1) (by omega) ?_ _ _
      unfold swp
      rw [if_pos (by omega), if_neg (by omega)]
      congr 1; omega
  have p61 : ∀ x3 x4 : Int, (x3 = bi (0 ≤ x1 - 1 ∧ x1 - 1 < h 104 1)) → (x4 = bi (0 ≤ x1 + 1 ∧ x1 + 1 < h 104 1)) → (x3 = 0 ∨ x4 = 0) → Wp true i_M_sweeps 61 [vr 103, vi x1, vi (rmM h 0 1 x1.toNat), vi x3, vi x4] [] h Q := by
    intro x3 x4 e3 e4 c1
    refine g_M_sweeps_61 (fun c => p70 x3 x4 e3 e4 c1 (by omega)) (fun _ _ => W) (fun _ _ => by omega) (fun _ _ => by omega) (fun _ _ => by omega) (fun c c2 => ?_) (fun c c2 => p70 x3 x4 e3 e4 c1 (by omega))
    have q1 : ¬ (0 ≤ x1 - 1 ∧ x1 - 1 < h 104 1) := fun q => by rw [bi_t q] at e3; omega
    have q2 : ¬ (0 ≤ x1 + 1 ∧ x1 + 1 < h 104 1) := fun q => by rw [bi_t q] at e4; omega
    have e : swp (rmM h 0) x1.toNat = rmM h 0 1 x1.toNat := by
      unfold swp; rw [if_neg (by omega), if_neg (by omega)]
    have k := k h (by unfold aSweep; rw [e, hs_id]; exact ActM_0 h)
    rw [e] at k
    exact k
  have b1 := bi_01 (0 ≤ x1 - 1 ∧ x1 - 1 < h 104 1)
  have b2 := bi_01 (0 ≤ x1 + 1 ∧ x1 + 1 < h 104 1)
  have both : ¬ bi (0 ≤ x1 - 1 ∧ x1 - 1 < h 104 1) = 0 → ¬ bi (0 ≤ x1 + 1 ∧ x1 + 1 < h 104 1) = 0 → (0 ≤ x1 - 1 ∧ x1 + 1 < h 104 1) ∧ (rmM h 0 1 (x1 - 1).toNat + rmM h 0 1 (x1 + 1).toNat) / 2 = swp (rmM h 0) x1.toNat ∧ (0 ≤ rmM h 0 1 (x1 - 1).toNat + rmM h 0 1 (x1 + 1).toNat ∧ rmM h 0 1 (x1 - 1).toNat + rmM h 0 1 (x1 + 1).toNat ≤ 18) := by
    intro c1 c2
    have q1 : 0 ≤ x1 - 1 ∧ x1 - 1 < h 104 1 := Decidable.byContradiction (fun q => c1 (bi_f q))
    have q2 : 0 ≤ x1 + 1 ∧ x1 + 1 < h 104 1 := Decidable.byContradiction (fun q => c2 (bi_f q))
    have u1 := W.2.1 (x1 - 1).toNat (by omega)
    have u2 := W.2.1 (x1 + 1).toNat (by omega)
    refine ⟨by omega, ?_, by omega⟩
    have e1 : x1.toNat + 1 = (x1 + 1).toNat := by omega
    have e2 : x1.toNat - 1 = (x1 - 1).toNat := by omega
    unfold swp
    rw [if_pos (by omega), if_pos (by omega), e1, e2]
  refine g_M_sweeps_0 W (by omega) (by omega) (by omega) (fun c => p61 _ _ rfl rfl (Or.inl c)) (fun _ c => p61 _ _ rfl rfl (Or.inr c)) (fun _ _ => by omega) (fun c1 c2 => ?_) (fun c1 c2 => ?_) (fun c1 c2 => ?_) (fun c1 c2 => ?_) (fun _ _ => by omega) (fun c1 c2 => ?_) (fun c1 c2 => ?_) (fun c1 c2 => ?_) (fun c1 c2 => ?_) (fun c1 c2 => ?_)
  · have q := both c1 c2; omega
  · have q := both c1 c2; omega
  · have q := both c1 c2; omega
  · have q := both c1 c2; omega
  · exact (aft _ (both c1 c2).2.1).1
  · rw [(aft _ (both c1 c2).2.1).2.1]; omega
  · rw [(aft _ (both c1 c2).2.1).2.2]; omega
  · rw [(aft _ (both c1 c2).2.1).2.2]; omega
  · rw [(aft _ (both c1 c2).2.1).2.2]
    exact k _ (cutA _ (both c1 c2).2.1)
theorem A_sweep {n : Nat} {h : HP} {x1 : Int} (hR : Rel n h) : Agree n h i_C_sweep i_M_sweep [vr 0, vi x1] [vr 103, vi x1] := by
  have s := hR.2.2.2.2.2.1
  have W := s.2.1
  have b := bnd hR
  by_cases c1 : 0 ≤ x1 ∧ x1 < h 10 1
  · have c1' : 0 ≤ x1 ∧ x1 < rmC h 10 0 1 := c1
    have ok := aSweep_ok W (r := x1.toNat) (by omega)
    refine ag_act (v := vi (swp (rmC h 10) x1.toNat)) (st := 0) (R' := aSweep (rmC h 10) x1.toNat) hR ok.1 ok.2.1 ?_ (fun Q k => ?_) (fun g Q e gk k => ?_)
    · rw [ok.2.2.2.1, ok.2.2.2.2.1, ok.2.2.2.2.2]; omega
    · refine g_C_sweep_0 (fun _ => ?_) (fun c => absurd c1 c)
      refine c_Fl_sweepRow isF_10 rfl W c1' (fun h' q => ?_)
      have w := W.1
      refine g_C_sweep_25 (by omega) ?_
      have e1 : h' 12 x1.toNat = swp (rmC h 10) x1.toNat := by
        have d2 := cdim q.1
        have := cR_1 (h := h') (f := 10) (r := x1.toNat) (by rw [d2.2.1, ok.2.1.2.1]; omega)
        rw [← this, q.1]
        exact hs_s
      rw [e1]
      exact k h' q
    · have d := mdim e
      refine g_M_sweep_0 (fun _ => ?_) (fun c => by omega)
      refine c_M_sweeps e W c1' (fun h' q => ?_)
      have d2 := mdim q.1
      refine g_M_sweep_19 (by rw [q.1]; exact ok.1) (by rw [d2.2.1, ok.2.1.2.1]; exact c1') ?_
      rw [q.1]
      have e1 : aSweep (rmC h 10) x1.toNat 1 x1.toNat = swp (rmC h 10) x1.toNat := hs_s
      rw [e1]
      exact k h' q
  · refine ag_act0 (v := vi (-1)) (st := 1) hR (fun Q k => ?_) (fun g Q e gk k => ?_)
    · exact g_C_sweep_0 (fun c => absurd c c1) (fun _ => k)
    · have d := mdim e
      have e1 : rmC h 10 0 1 = h 10 1 := rfl
      exact g_M_sweep_0 (fun c => by omega) (fun _ => k)
