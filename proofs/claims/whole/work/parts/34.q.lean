theorem fld_inv {σ : Type} {g : Nat → σ → σ} (I : σ → Prop) : ∀ (d i : Nat) (s : σ), (∀ j s, i ≤ j → j < i + d → I s → I (g j s)) → I s → I (fld g d i s)
  | 0, _, _, _, hi => hi
  | d + 1, i, s, h, hi => fld_inv I d (i + 1) (g i s) (fun j s h1 h2 => h j s (by omega) (by omega)) (h i s (by omega) (by omega) hi)
theorem rStrong_lo (R : HP) (l : Int) : -1 ≤ rStrong R l := by
  unfold rStrong
  apply fld_inv (fun s : Int => -1 ≤ s)
  · intro j s _ _ hs
    split <;> (try split) <;> (try split) <;> omega
  · decide
theorem rLeast_lo (R : HP) (l : Int) : -1 ≤ rLeast R l := by
  unfold rLeast
  apply fld_inv (fun s : Int => -1 ≤ s)
  · intro j s _ _ hs
    split <;> (try split) <;> (try split) <;> omega
  · decide
theorem rWant_lo (R : HP) (l : Int) : -1 ≤ rWant R l := by
  unfold rWant
  apply fld_inv (fun s : Int => -1 ≤ s)
  · intro j s _ _ hs
    split <;> (try split) <;> (try split) <;> omega
  · decide
theorem st6 {s : Int} (h : -1 ≤ s) : (if s = -1 then (6 : Int) else 0) = if s < 0 then 6 else 0 := by split <;> split <;> omega

theorem g_C_answerOrNone_0 {Q : PQ} {h : HP} {x1 : Int} 
    (k1 : 0 ≤ x1 → Q (some (vi x1)) (hs h 0 0 0))
    (k2 : ¬ 0 ≤ x1 → Q (some (vi (-1))) (hs h 0 0 6)) :
    Wp true i_C_answerOrNone 0 [vr 0, vi x1] [] h Q := by
  refine r_iload_n (v := x1) f_205_0 rfl ?_
  refine r_br (t := 13) f_205_1 rfl cb_ge (fun c1 => ?_) (fun c1 => ?_)
  · refine r_aload_n (v := 0) f_205_13 rfl (by decide) ?_
    refine r_iload_n (v := x1) f_205_14 rfl ?_
    refine r_callv (as := [vr 0, vi x1]) (st' := []) (ls0 := [vr 0, vi x1]) f_205_15 (by decide) rfl rfl (Nat.le_of_ble_eq_true rfl) (Nat.le_of_ble_eq_true rfl) ⟨_, _, rfl, rfl⟩ rfl ?_
    refine c_C_answer  ?_
    show Wp true i_C_answerOrNone 18 [vr 0, vi x1] [vi x1] (hs h 0 0 0) Q
    exact r_reti f_205_18 rfl (k1 c1)
  · refine r_aload_n (v := 0) f_205_4 rfl (by decide) ?_
    refine r_bipush f_205_5 (by decide) ?_
    refine r_callv (as := [vr 0, vi 6]) (st' := []) (ls0 := [vr 0, vi 6]) f_205_7 (by decide) rfl rfl (Nat.le_of_ble_eq_true rfl) (Nat.le_of_ble_eq_true rfl) ⟨_, _, rfl, rfl⟩ rfl ?_
    refine c_C_refuse  ?_
    show Wp true i_C_answerOrNone 10 [vr 0, vi x1] [vi (-1)] (hs h 0 0 6) Q
    refine r_goto (t := 18) f_205_10 rfl ?_
    exact r_reti f_205_18 rfl (k2 c1)

theorem c_C_answerOrNone {Q : PQ} {h : HP} {x1 : Int} (o1 : -1 ≤ x1) (k : Q (some (vi x1)) (hs h 0 0 (if x1 < 0 then 6 else 0))) :
    Wp true i_C_answerOrNone 0 [vr 0, vi x1] [] h Q := by
  refine g_C_answerOrNone_0 ?_ ?_
  · intro c1; (try simp only [Int.toNat_natCast] at c1); first | (exfalso; omega) | (rw [if_neg (by omega)] at k; exact k)
  · intro c1; (try simp only [Int.toNat_natCast] at c1)
    obtain rfl : x1 = -1 := by omega
    exact k

theorem g_M_orNone_0 {Q : PQ} {h : HP} {x1 : Int} 
    (k1 : ¬ x1 = -1 → Q (some (vi x1)) (hs h 103 2 0))
    (k2 : x1 = -1 → Q (some (vi (-1))) (hs h 103 2 6)) :
    Wp true i_M_orNone 0 [vr 103, vi x1] [] h Q := by
  refine r_iload_n (v := x1) f_229_0 rfl ?_
  refine r_iconst f_229_1 (by decide) ?_
  refine r_br2 (t := 14) f_229_2 rfl cb_ne (fun c1 => ?_) (fun c1 => ?_)
  · refine r_aload_n (v := 103) f_229_14 rfl (by decide) ?_
    refine r_iload_n (v := x1) f_229_15 rfl ?_
    refine r_callv (as := [vr 103, vi x1]) (st' := []) (ls0 := [vr 103, vi x1]) f_229_16 (by decide) rfl rfl (Nat.le_of_ble_eq_true rfl) (Nat.le_of_ble_eq_true rfl) ⟨_, _, rfl, rfl⟩ rfl ?_
    refine c_M_gives  ?_
    show Wp true i_M_orNone 19 [vr 103, vi x1] [vi x1] (hs h 103 2 0) Q
    exact r_reti f_229_19 rfl (k1 c1)
  · have c1 := Decidable.not_not.mp c1
    refine r_aload_n (v := 103) f_229_5 rfl (by decide) ?_
    refine r_bipush f_229_6 (by decide) ?_
    refine r_callv (as := [vr 103, vi 6]) (st' := []) (ls0 := [vr 103, vi 6]) f_229_8 (by decide) rfl rfl (Nat.le_of_ble_eq_true rfl) (Nat.le_of_ble_eq_true rfl) ⟨_, _, rfl, rfl⟩ rfl ?_
    refine c_M_refuse  ?_
    show Wp true i_M_orNone 11 [vr 103, vi x1] [vi (-1)] (hs h 103 2 6) Q
    refine r_goto (t := 19) f_229_11 rfl ?_
    exact r_reti f_229_19 rfl (k2 c1)

theorem c_M_orNone {Q : PQ} {h : HP} {x1 : Int} (k : Q (some (vi x1)) (hs h 103 2 (if x1 = -1 then 6 else 0))) :
    Wp true i_M_orNone 0 [vr 103, vi x1] [] h Q := by
  refine g_M_orNone_0 ?_ ?_
  · intro c1; (try simp only [Int.toNat_natCast] at c1); first | (exfalso; omega) | (rw [if_neg c1] at k; exact k)
  · intro c1; (try simp only [Int.toNat_natCast] at c1); first | (exfalso; omega) | (rw [if_pos c1] at k; subst c1; exact k)

theorem g_C_deny_0 {Q : PQ} {h : HP} {x1 : Int} 
    (k1 : Q (some (vi 0)) (hs h 0 0 x1)) :
    Wp true i_C_deny 0 [vr 0, vi x1] [] h Q := by
  refine r_aload_n (v := 0) f_208_0 rfl (by decide) ?_
  refine r_iload_n (v := x1) f_208_1 rfl ?_
  refine r_puti f_208_2 rfl (by decide) ?_
  refine r_iconst f_208_5 (by decide) ?_
  exact r_retz f_208_6 rfl (by decide) k1

theorem c_C_deny {Q : PQ} {h : HP} {x1 : Int} (k : Q (some (vi (bi (False)))) (hs h 0 0 x1)) :
    Wp true i_C_deny 0 [vr 0, vi x1] [] h Q := by
  refine g_C_deny_0 ?_
  · exact kf k (fun q => q)

theorem g_C_grant_0 {Q : PQ} {h : HP}  
    (k1 : Q (some (vi 1)) (hs h 0 0 0)) :
    Wp true i_C_grant 0 [vr 0] [] h Q := by
  refine r_aload_n (v := 0) f_207_0 rfl (by decide) ?_
  refine r_iconst f_207_1 (by decide) ?_
  refine r_puti f_207_2 rfl (by decide) ?_
  refine r_iconst f_207_5 (by decide) ?_
  exact r_retz f_207_6 rfl (by decide) k1

theorem c_C_grant {Q : PQ} {h : HP} (k : Q (some (vi (bi (True)))) (hs h 0 0 0)) :
    Wp true i_C_grant 0 [vr 0] [] h Q := by
  refine g_C_grant_0 ?_
  · exact kt k trivial

theorem Rel_up {n : Nat} {h : HP} (hR : Rel n h) : Rel (n + 1) h := Rel_keep hR hR.1 (fun _ _ => rfl) (fun _ _ => rfl) (fun _ _ _ _ _ => rfl)

theorem or_0 {x : Int} (hx : in32 x) : o_or x 0 = x := by
  unfold o_or
  rw [i32_0, Int32.or_zero, i32_t hx]

def qLine (R : HP) (x : Int) : Int × Int := if 0 ≤ x ∧ x < R 0 1 then (R 1 x.toNat, 0) else (-1, 1)

theorem g_C_line_0 {Q : PQ} {h : HP} {x1 : Int} 
    (o1 : (0 ≤ x1 ∧ x1 < h 10 1) → 0 ≤ x1 ∧ x1 < 7)
    (k2 : (0 ≤ x1 ∧ x1 < h 10 1) → Q (some (vi (h 12 x1.toNat))) (hs h 0 0 0))
    (k3 : ¬ (0 ≤ x1 ∧ x1 < h 10 1) → Q (some (vi (-1))) (hs h 0 0 1)) :
    Wp true i_C_line 0 [vr 0, vi x1] [] h Q := by
  refine r_aload_n (v := 0) f_154_0 rfl (by decide) ?_
  refine r_getr (q := 10) f_154_1 rfl (by decide) (Or.inl rfl) rfl ?_
  refine r_iload_n (v := x1) f_154_4 rfl ?_
  refine r_callv (as := [vr 10, vi x1]) (st' := []) (ls0 := [vr 10, vi x1]) f_154_5 (by decide) rfl rfl (Nat.le_of_ble_eq_true rfl) (Nat.le_of_ble_eq_true rfl) ⟨_, _, rfl, rfl⟩ rfl ?_
  refine c_Fl_hasRow isF_10 ?_
  show Wp true i_C_line 8 [vr 0, vi x1] [vi (bi (0 ≤ x1 ∧ x1 < h 10 1))] h Q
  refine r_br (t := 17) f_154_8 rfl cb_bt (fun c1 => ?_) (fun c1 => ?_)
  · refine r_aload_n (v := 0) f_154_17 rfl (by decide) ?_
    refine r_aload_n (v := 0) f_154_18 rfl (by decide) ?_
    refine r_getr (q := 10) f_154_19 rfl (by decide) (Or.inl rfl) rfl ?_
    refine r_getr (q := 12) f_154_22 rfl (by decide) (Or.inl rfl) rfl ?_
    refine r_iload_n (v := x1) f_154_25 rfl ?_
    refine r_iaload (n := 7) (v := h 12 x1.toNat) f_154_26 ⟨rfl, rfl⟩ (o1 c1) rfl ?_
    refine r_callv (as := [vr 0, vi (h 12 x1.toNat)]) (st' := []) (ls0 := [vr 0, vi (h 12 x1.toNat)]) f_154_27 (by decide) rfl rfl (Nat.le_of_ble_eq_true rfl) (Nat.le_of_ble_eq_true rfl) ⟨_, _, rfl, rfl⟩ rfl ?_
    refine c_C_answer  ?_
    show Wp true i_C_line 30 [vr 0, vi x1] [vi (h 12 x1.toNat)] (hs h 0 0 0) Q
    exact r_reti f_154_30 rfl (k2 c1)
  · refine r_aload_n (v := 0) f_154_11 rfl (by decide) ?_
    refine r_iconst f_154_12 (by decide) ?_
    refine r_callv (as := [vr 0, vi 1]) (st' := []) (ls0 := [vr 0, vi 1]) f_154_13 (by decide) rfl rfl (Nat.le_of_ble_eq_true rfl) (Nat.le_of_ble_eq_true rfl) ⟨_, _, rfl, rfl⟩ rfl ?_
    refine c_C_refuse  ?_
    show Wp true i_C_line 16 [vr 0, vi x1] [vi (-1)] (hs h 0 0 1) Q
    exact r_reti f_154_16 rfl (k3 c1)

theorem c_C_line {Q : PQ} {h : HP} {x1 : Int} (o1 : WR (rmC h 10)) (k : Q (some (vi ((qLine (rmC h 10) x1).1))) (hs h 0 0 ((qLine (rmC h 10) x1).2))) :
    Wp true i_C_line 0 [vr 0, vi x1] [] h Q := by
  have w := WC_0 o1
  refine g_C_line_0 ?_ ?_ ?_
  · intro c1; (try simp only [Int.toNat_natCast] at c1); first | omega | (exfalso; omega) | exact ⟨by omega, by omega⟩ | (first | exact o1 | exact c1 | exact rStrong_lo _ _ | exact rLeast_lo _ _ | exact rWant_lo _ _)
  · intro c1; (try simp only [Int.toNat_natCast] at c1); first | (exfalso; omega) | (exact kq k (by unfold qLine; rw [← cR_1 (show (x1.toNat : Int) < h 10 1 by omega)]; exact if_pos c1))
  · intro c1; (try simp only [Int.toNat_natCast] at c1); first | (exfalso; omega) | (exact kq k (if_neg c1))

theorem g_M_line_0 {Q : PQ} {h : HP} {x1 : Int} 
    (k1 : ¬ (0 ≤ x1 ∧ x1 < h 104 1) → Q (some (vi (-1))) (hs h 103 2 1))
    (o2 : (0 ≤ x1 ∧ x1 < h 104 1) → WR (rmM h 0))
    (o3 : (0 ≤ x1 ∧ x1 < h 104 1) → 0 ≤ x1 ∧ x1 < h 104 1)
    (k4 : (0 ≤ x1 ∧ x1 < h 104 1) → Q (some (vi (rmM h 0 1 x1.toNat))) (hs h 103 2 0)) :
    Wp true i_M_line 0 [vr 103, vi x1] [] h Q := by
  refine r_aload_n (v := 103) f_286_0 rfl (by decide) ?_
  refine r_iload_n (v := x1) f_286_1 rfl ?_
  refine r_callv (as := [vr 103, vi x1]) (st' := []) (ls0 := [vr 103, vi x1]) f_286_2 (by decide) rfl rfl (Nat.le_of_ble_eq_true rfl) (Nat.le_of_ble_eq_true rfl) ⟨_, _, rfl, rfl⟩ rfl ?_
  refine c_M_isRow  ?_
  show Wp true i_M_line 5 [vr 103, vi x1] [vi (bi (0 ≤ x1 ∧ x1 < h 104 1))] h Q
  refine r_br (t := 20) f_286_5 rfl cb_bf (fun c1 => ?_) (fun c1 => ?_)
  · refine r_aload_n (v := 103) f_286_20 rfl (by decide) ?_
    refine r_iconst f_286_21 (by decide) ?_
    refine r_callv (as := [vr 103, vi 1]) (st' := []) (ls0 := [vr 103, vi 1]) f_286_22 (by decide) rfl rfl (Nat.le_of_ble_eq_true rfl) (Nat.le_of_ble_eq_true rfl) ⟨_, _, rfl, rfl⟩ rfl ?_
    refine c_M_refuse  ?_
    show Wp true i_M_line 25 [vr 103, vi x1] [vi (-1)] (hs h 103 2 1) Q
    exact r_reti f_286_25 rfl (k1 c1)
  · have c1 := Decidable.not_not.mp c1
    refine r_aload_n (v := 103) f_286_8 rfl (by decide) ?_
    refine r_aload_n (v := 103) f_286_9 rfl (by decide) ?_
    refine r_iload_n (v := x1) f_286_10 rfl ?_
    refine r_callv (as := [vr 103, vi x1]) (st' := [vr 103]) (ls0 := [vr 103, vi x1]) f_286_11 (by decide) rfl rfl (Nat.le_of_ble_eq_true rfl) (Nat.le_of_ble_eq_true rfl) ⟨_, _, rfl, rfl⟩ rfl ?_
    refine c_M_lineOf (o2 c1) (o3 c1) ?_
    show Wp true i_M_line 14 [vr 103, vi x1] [vi (rmM h 0 1 x1.toNat), vr 103] h Q
    refine r_callv (as := [vr 103, vi (rmM h 0 1 x1.toNat)]) (st' := []) (ls0 := [vr 103, vi (rmM h 0 1 x1.toNat)]) f_286_14 (by decide) rfl rfl (Nat.le_of_ble_eq_true rfl) (Nat.le_of_ble_eq_true rfl) ⟨_, _, rfl, rfl⟩ rfl ?_
    refine c_M_gives  ?_
    show Wp true i_M_line 17 [vr 103, vi x1] [vi (rmM h 0 1 x1.toNat)] (hs h 103 2 0) Q
    refine r_goto (t := 25) f_286_17 rfl ?_
    exact r_reti f_286_25 rfl (k4 c1)

theorem c_M_line {Q : PQ} {h : HP} {x1 : Int} (o1 : WR (rmM h 0)) (k : Q (some (vi ((qLine (rmM h 0) x1).1))) (hs h 103 2 ((qLine (rmM h 0) x1).2))) :
    Wp true i_M_line 0 [vr 103, vi x1] [] h Q := by
  have w := WM_0 o1
  refine g_M_line_0 ?_ ?_ ?_ ?_
  · intro c1; (try simp only [Int.toNat_natCast] at c1); first | (exfalso; omega) | (exact kq k (if_neg c1))
  · intro c1; (try simp only [Int.toNat_natCast] at c1); first | omega | (exfalso; omega) | exact ⟨by omega, by omega⟩ | (exact o1)
  · intro c1; (try simp only [Int.toNat_natCast] at c1); first | omega | (exfalso; omega) | exact ⟨by omega, by omega⟩ | (exact o1)
  · intro c1; (try simp only [Int.toNat_natCast] at c1); first | (exfalso; omega) | (exact kq k (if_pos c1))

theorem A_line {n : Nat} {h : HP} {x1 : Int} (hR : Rel n h) : Agree n h i_C_line i_M_line [vr 0, vi x1] [vr 103, vi x1] := by
  have s := hR.2.2.2.2.2.1
  have hW := s.2.1
  rw [s.1] at hW
  refine ag_q (v := vi (qLine (rmC h 10) x1).1) (st := (qLine (rmC h 10) x1).2) hR (fun Q k => c_C_line s.2.1 k) (fun Q k => c_M_line (by rw [rm_q]; exact hW) ?_)
  rw [rm_q, ← s.1]
  exact k

def qLand (R : HP) (x y : Int) : Int × Int := if 0 ≤ x ∧ x < R 0 0 ∧ 0 ≤ y ∧ y < R 0 1 then (rLand R x y, 0) else (-1, 1)

theorem g_C_land_0 {Q : PQ} {h : HP} {x1 : Int} {x2 : Int} 
    (o1 : (0 ≤ x1 ∧ x1 < h 10 0 ∧ 0 ≤ x2 ∧ x2 < h 10 1) → WR (rmC h 10))
    (o2 : (0 ≤ x1 ∧ x1 < h 10 0 ∧ 0 ≤ x2 ∧ x2 < h 10 1) → 0 ≤ x2 ∧ x2 < h 10 1)
    (k3 : (0 ≤ x1 ∧ x1 < h 10 0 ∧ 0 ≤ x2 ∧ x2 < h 10 1) → Q (some (vi (rLand (rmC h 10) x1 x2))) (hs h 0 0 0))
    (k4 : ¬ (0 ≤ x1 ∧ x1 < h 10 0 ∧ 0 ≤ x2 ∧ x2 < h 10 1) → Q (some (vi (-1))) (hs h 0 0 1)) :
    Wp true i_C_land 0 [vr 0, vi x1, vi x2] [] h Q := by
  refine r_aload_n (v := 0) f_157_0 rfl (by decide) ?_
  refine r_getr (q := 10) f_157_1 rfl (by decide) (Or.inl rfl) rfl ?_
  refine r_iload_n (v := x1) f_157_4 rfl ?_
  refine r_iload_n (v := x2) f_157_5 rfl ?_
  refine r_callv (as := [vr 10, vi x1, vi x2]) (st' := []) (ls0 := [vr 10, vi x1, vi x2]) f_157_6 (by decide) rfl rfl (Nat.le_of_ble_eq_true rfl) (Nat.le_of_ble_eq_true rfl) ⟨_, _, rfl, rfl⟩ rfl ?_
  refine c_Fl_hasBoard isF_10 ?_
  show Wp true i_C_land 9 [vr 0, vi x1, vi x2] [vi (bi (0 ≤ x1 ∧ x1 < h 10 0 ∧ 0 ≤ x2 ∧ x2 < h 10 1))] h Q
  refine r_br (t := 18) f_157_9 rfl cb_bt (fun c1 => ?_) (fun c1 => ?_)
  · refine r_aload_n (v := 0) f_157_18 rfl (by decide) ?_
    refine r_aload_n (v := 0) f_157_19 rfl (by decide) ?_
    refine r_getr (q := 10) f_157_20 rfl (by decide) (Or.inl rfl) rfl ?_
    refine r_iload_n (v := x1) f_157_23 rfl ?_
    refine r_iload_n (v := x2) f_157_24 rfl ?_
    refine r_callv (as := [vr 10, vi x1, vi x2]) (st' := [vr 0]) (ls0 := [vr 10, vi x1, vi x2, vr 9999]) f_157_25 (by decide) rfl rfl (Nat.le_of_ble_eq_true rfl) (Nat.le_of_ble_eq_true rfl) ⟨_, _, rfl, rfl⟩ rfl ?_
    refine c_Fl_holder isF_10 (o1 c1) (o2 c1) ?_
    show Wp true i_C_land 28 [vr 0, vi x1, vi x2] [vi (rLand (rmC h 10) x1 x2), vr 0] h Q
    refine r_callv (as := [vr 0, vi (rLand (rmC h 10) x1 x2)]) (st' := []) (ls0 := [vr 0, vi (rLand (rmC h 10) x1 x2)]) f_157_28 (by decide) rfl rfl (Nat.le_of_ble_eq_true rfl) (Nat.le_of_ble_eq_true rfl) ⟨_, _, rfl, rfl⟩ rfl ?_
    refine c_C_answer  ?_
    show Wp true i_C_land 31 [vr 0, vi x1, vi x2] [vi (rLand (rmC h 10) x1 x2)] (hs h 0 0 0) Q
    exact r_reti f_157_31 rfl (k3 c1)
  · refine r_aload_n (v := 0) f_157_12 rfl (by decide) ?_
    refine r_iconst f_157_13 (by decide) ?_
    refine r_callv (as := [vr 0, vi 1]) (st' := []) (ls0 := [vr 0, vi 1]) f_157_14 (by decide) rfl rfl (Nat.le_of_ble_eq_true rfl) (Nat.le_of_ble_eq_true rfl) ⟨_, _, rfl, rfl⟩ rfl ?_
    refine c_C_refuse  ?_
    show Wp true i_C_land 17 [vr 0, vi x1, vi x2] [vi (-1)] (hs h 0 0 1) Q
    exact r_reti f_157_17 rfl (k4 c1)

theorem c_C_land {Q : PQ} {h : HP} {x1 : Int} {x2 : Int} (o1 : WR (rmC h 10)) (k : Q (some (vi ((qLand (rmC h 10) x1 x2).1))) (hs h 0 0 ((qLand (rmC h 10) x1 x2).2))) :
    Wp true i_C_land 0 [vr 0, vi x1, vi x2] [] h Q := by
  have w := WC_0 o1
  refine g_C_land_0 ?_ ?_ ?_ ?_
  · intro c1; (try simp only [Int.toNat_natCast] at c1); first | omega | (exfalso; omega) | exact ⟨by omega, by omega⟩ | (first | exact o1 | exact c1 | exact rStrong_lo _ _ | exact rLeast_lo _ _ | exact rWant_lo _ _)
  · intro c1; (try simp only [Int.toNat_natCast] at c1); first | omega | (exfalso; omega) | exact ⟨by omega, by omega⟩ | (first | exact o1 | exact c1 | exact rStrong_lo _ _ | exact rLeast_lo _ _ | exact rWant_lo _ _)
  · intro c1; (try simp only [Int.toNat_natCast] at c1); first | (exfalso; omega) | (exact kq k (if_pos c1))
  · intro c1; (try simp only [Int.toNat_natCast] at c1); first | (exfalso; omega) | (exact kq k (if_neg c1))

theorem g_M_land_0 {Q : PQ} {h : HP} {x1 : Int} {x2 : Int} 
    (k1 : ¬ (0 ≤ x1 ∧ x1 < h 104 0 ∧ 0 ≤ x2 ∧ x2 < h 104 1) → Q (some (vi (-1))) (hs h 103 2 1))
    (o2 : (0 ≤ x1 ∧ x1 < h 104 0 ∧ 0 ≤ x2 ∧ x2 < h 104 1) → WR (rmM h 0))
    (o3 : (0 ≤ x1 ∧ x1 < h 104 0 ∧ 0 ≤ x2 ∧ x2 < h 104 1) → 0 ≤ x2 ∧ x2 < h 104 1)
    (k4 : (0 ≤ x1 ∧ x1 < h 104 0 ∧ 0 ≤ x2 ∧ x2 < h 104 1) → Q (some (vi (rLand (rmM h 0) x1 x2))) (hs h 103 2 0)) :
    Wp true i_M_land 0 [vr 103, vi x1, vi x2] [] h Q := by
  refine r_aload_n (v := 103) f_289_0 rfl (by decide) ?_
  refine r_iload_n (v := x1) f_289_1 rfl ?_
  refine r_iload_n (v := x2) f_289_2 rfl ?_
  refine r_callv (as := [vr 103, vi x1, vi x2]) (st' := []) (ls0 := [vr 103, vi x1, vi x2]) f_289_3 (by decide) rfl rfl (Nat.le_of_ble_eq_true rfl) (Nat.le_of_ble_eq_true rfl) ⟨_, _, rfl, rfl⟩ rfl ?_
  refine c_M_isBoard  ?_
  show Wp true i_M_land 6 [vr 103, vi x1, vi x2] [vi (bi (0 ≤ x1 ∧ x1 < h 104 0 ∧ 0 ≤ x2 ∧ x2 < h 104 1))] h Q
  refine r_br (t := 22) f_289_6 rfl cb_bf (fun c1 => ?_) (fun c1 => ?_)
  · refine r_aload_n (v := 103) f_289_22 rfl (by decide) ?_
    refine r_iconst f_289_23 (by decide) ?_
    refine r_callv (as := [vr 103, vi 1]) (st' := []) (ls0 := [vr 103, vi 1]) f_289_24 (by decide) rfl rfl (Nat.le_of_ble_eq_true rfl) (Nat.le_of_ble_eq_true rfl) ⟨_, _, rfl, rfl⟩ rfl ?_
    refine c_M_refuse  ?_
    show Wp true i_M_land 27 [vr 103, vi x1, vi x2] [vi (-1)] (hs h 103 2 1) Q
    exact r_reti f_289_27 rfl (k1 c1)
  · have c1 := Decidable.not_not.mp c1
    refine r_aload_n (v := 103) f_289_9 rfl (by decide) ?_
    refine r_aload_n (v := 103) f_289_10 rfl (by decide) ?_
    refine r_iload_n (v := x1) f_289_11 rfl ?_
    refine r_iload_n (v := x2) f_289_12 rfl ?_
    refine r_callv (as := [vr 103, vi x1, vi x2]) (st' := [vr 103]) (ls0 := [vr 103, vi x1, vi x2, vr 9999]) f_289_13 (by decide) rfl rfl (Nat.le_of_ble_eq_true rfl) (Nat.le_of_ble_eq_true rfl) ⟨_, _, rfl, rfl⟩ rfl ?_
    refine c_M_landOf (o2 c1) (o3 c1) ?_
    show Wp true i_M_land 16 [vr 103, vi x1, vi x2] [vi (rLand (rmM h 0) x1 x2), vr 103] h Q
    refine r_callv (as := [vr 103, vi (rLand (rmM h 0) x1 x2)]) (st' := []) (ls0 := [vr 103, vi (rLand (rmM h 0) x1 x2)]) f_289_16 (by decide) rfl rfl (Nat.le_of_ble_eq_true rfl) (Nat.le_of_ble_eq_true rfl) ⟨_, _, rfl, rfl⟩ rfl ?_
    refine c_M_gives  ?_
    show Wp true i_M_land 19 [vr 103, vi x1, vi x2] [vi (rLand (rmM h 0) x1 x2)] (hs h 103 2 0) Q
    refine r_goto (t := 27) f_289_19 rfl ?_
    exact r_reti f_289_27 rfl (k4 c1)

theorem c_M_land {Q : PQ} {h : HP} {x1 : Int} {x2 : Int} (o1 : WR (rmM h 0)) (k : Q (some (vi ((qLand (rmM h 0) x1 x2).1))) (hs h 103 2 ((qLand (rmM h 0) x1 x2).2))) :
    Wp true i_M_land 0 [vr 103, vi x1, vi x2] [] h Q := by
  have w := WM_0 o1
  refine g_M_land_0 ?_ ?_ ?_ ?_
  · intro c1; (try simp only [Int.toNat_natCast] at c1); first | (exfalso; omega) | (exact kq k (if_neg c1))
  · intro c1; (try simp only [Int.toNat_natCast] at c1); first | omega | (exfalso; omega) | exact ⟨by omega, by omega⟩ | (exact o1)
  · intro c1; (try simp only [Int.toNat_natCast] at c1); first | omega | (exfalso; omega) | exact ⟨by omega, by omega⟩ | (exact o1)
  · intro c1; (try simp only [Int.toNat_natCast] at c1); first | (exfalso; omega) | (exact kq k (if_pos c1))

theorem A_land {n : Nat} {h : HP} {x1 x2 : Int} (hR : Rel n h) : Agree n h i_C_land i_M_land [vr 0, vi x1, vi x2] [vr 103, vi x1, vi x2] := by
  have s := hR.2.2.2.2.2.1
  have hW := s.2.1
  rw [s.1] at hW
  refine ag_q (v := vi (qLand (rmC h 10) x1 x2).1) (st := (qLand (rmC h 10) x1 x2).2) hR (fun Q k => c_C_land s.2.1 k) (fun Q k => c_M_land (by rw [rm_q]; exact hW) ?_)
  rw [rm_q, ← s.1]
  exact k

def qOn (R : HP) (x y : Int) : Int × Int := if 0 ≤ x ∧ x < R 0 0 ∧ 0 ≤ y ∧ y < R 0 1 then (rOn R x y, if rOn R x y < 0 then 6 else 0) else (-1, 1)

theorem g_C_on_0 {Q : PQ} {h : HP} {x1 : Int} {x2 : Int} 
    (o1 : (0 ≤ x1 ∧ x1 < h 10 0 ∧ 0 ≤ x2 ∧ x2 < h 10 1) → WR (rmC h 10))
    (o2 : (0 ≤ x1 ∧ x1 < h 10 0 ∧ 0 ≤ x2 ∧ x2 < h 10 1) → -1 ≤ (rOn (rmC h 10) x1 x2))
    (k3 : (0 ≤ x1 ∧ x1 < h 10 0 ∧ 0 ≤ x2 ∧ x2 < h 10 1) → Q (some (vi (rOn (rmC h 10) x1 x2))) (hs h 0 0 (if (rOn (rmC h 10) x1 x2) < 0 then 6 else 0)))
    (k4 : ¬ (0 ≤ x1 ∧ x1 < h 10 0 ∧ 0 ≤ x2 ∧ x2 < h 10 1) → Q (some (vi (-1))) (hs h 0 0 1)) :
    Wp true i_C_on 0 [vr 0, vi x1, vi x2] [] h Q := by
  refine r_aload_n (v := 0) f_156_0 rfl (by decide) ?_
  refine r_getr (q := 10) f_156_1 rfl (by decide) (Or.inl rfl) rfl ?_
  refine r_iload_n (v := x1) f_156_4 rfl ?_
  refine r_iload_n (v := x2) f_156_5 rfl ?_
  refine r_callv (as := [vr 10, vi x1, vi x2]) (st' := []) (ls0 := [vr 10, vi x1, vi x2]) f_156_6 (by decide) rfl rfl (Nat.le_of_ble_eq_true rfl) (Nat.le_of_ble_eq_true rfl) ⟨_, _, rfl, rfl⟩ rfl ?_
  refine c_Fl_hasBoard isF_10 ?_
  show Wp true i_C_on 9 [vr 0, vi x1, vi x2] [vi (bi (0 ≤ x1 ∧ x1 < h 10 0 ∧ 0 ≤ x2 ∧ x2 < h 10 1))] h Q
  refine r_br (t := 18) f_156_9 rfl cb_bt (fun c1 => ?_) (fun c1 => ?_)
  · refine r_aload_n (v := 0) f_156_18 rfl (by decide) ?_
    refine r_aload_n (v := 0) f_156_19 rfl (by decide) ?_
    refine r_getr (q := 10) f_156_20 rfl (by decide) (Or.inl rfl) rfl ?_
    refine r_iload_n (v := x1) f_156_23 rfl ?_
    refine r_iload_n (v := x2) f_156_24 rfl ?_
    refine r_callv (as := [vr 10, vi x1, vi x2]) (st' := [vr 0]) (ls0 := [vr 10, vi x1, vi x2, vr 9999]) f_156_25 (by decide) rfl rfl (Nat.le_of_ble_eq_true rfl) (Nat.le_of_ble_eq_true rfl) ⟨_, _, rfl, rfl⟩ rfl ?_
    refine c_Fl_thingAt isF_10 (o1 c1) ?_
    show Wp true i_C_on 28 [vr 0, vi x1, vi x2] [vi (rOn (rmC h 10) x1 x2), vr 0] h Q
    refine r_callv (as := [vr 0, vi (rOn (rmC h 10) x1 x2)]) (st' := []) (ls0 := [vr 0, vi (rOn (rmC h 10) x1 x2)]) f_156_28 (by decide) rfl rfl (Nat.le_of_ble_eq_true rfl) (Nat.le_of_ble_eq_true rfl) ⟨_, _, rfl, rfl⟩ rfl ?_
    refine c_C_answerOrNone (o2 c1) ?_
    show Wp true i_C_on 31 [vr 0, vi x1, vi x2] [vi (rOn (rmC h 10) x1 x2)] (hs h 0 0 (if (rOn (rmC h 10) x1 x2) < 0 then 6 else 0)) Q
    exact r_reti f_156_31 rfl (k3 c1)
  · refine r_aload_n (v := 0) f_156_12 rfl (by decide) ?_
    refine r_iconst f_156_13 (by decide) ?_
    refine r_callv (as := [vr 0, vi 1]) (st' := []) (ls0 := [vr 0, vi 1]) f_156_14 (by decide) rfl rfl (Nat.le_of_ble_eq_true rfl) (Nat.le_of_ble_eq_true rfl) ⟨_, _, rfl, rfl⟩ rfl ?_
    refine c_C_refuse  ?_
    show Wp true i_C_on 17 [vr 0, vi x1, vi x2] [vi (-1)] (hs h 0 0 1) Q
    exact r_reti f_156_17 rfl (k4 c1)

theorem c_C_on {Q : PQ} {h : HP} {x1 : Int} {x2 : Int} (o1 : WR (rmC h 10)) (k : Q (some (vi ((qOn (rmC h 10) x1 x2).1))) (hs h 0 0 ((qOn (rmC h 10) x1 x2).2))) :
    Wp true i_C_on 0 [vr 0, vi x1, vi x2] [] h Q := by
  have w := WC_0 o1
  have w1 := rOn_rg (rmC h 10) x1 x2
  refine g_C_on_0 ?_ ?_ ?_ ?_
  · intro c1; (try simp only [Int.toNat_natCast] at c1); first | omega | (exfalso; omega) | exact ⟨by omega, by omega⟩ | (first | exact o1 | exact c1 | exact rStrong_lo _ _ | exact rLeast_lo _ _ | exact rWant_lo _ _)
  · intro c1; (try simp only [Int.toNat_natCast] at c1); first | omega | (exfalso; omega) | exact ⟨by omega, by omega⟩ | (first | exact o1 | exact c1 | exact rStrong_lo _ _ | exact rLeast_lo _ _ | exact rWant_lo _ _)
  · intro c1; (try simp only [Int.toNat_natCast] at c1); first | (exfalso; omega) | (exact kq k (if_pos c1))
  · intro c1; (try simp only [Int.toNat_natCast] at c1); first | (exfalso; omega) | (exact kq k (if_neg c1))

theorem g_M_on_0 {Q : PQ} {h : HP} {x1 : Int} {x2 : Int} 
    (k1 : ¬ (0 ≤ x1 ∧ x1 < h 104 0 ∧ 0 ≤ x2 ∧ x2 < h 104 1) → Q (some (vi (-1))) (hs h 103 2 1))
    (o2 : (0 ≤ x1 ∧ x1 < h 104 0 ∧ 0 ≤ x2 ∧ x2 < h 104 1) → WR (rmM h 0))
    (k3 : (0 ≤ x1 ∧ x1 < h 104 0 ∧ 0 ≤ x2 ∧ x2 < h 104 1) → Q (some (vi (rOn (rmM h 0) x1 x2))) (hs h 103 2 (if (rOn (rmM h 0) x1 x2) = -1 then 6 else 0))) :
    Wp true i_M_on 0 [vr 103, vi x1, vi x2] [] h Q := by
  refine r_aload_n (v := 103) f_288_0 rfl (by decide) ?_
  refine r_iload_n (v := x1) f_288_1 rfl ?_
  refine r_iload_n (v := x2) f_288_2 rfl ?_
  refine r_callv (as := [vr 103, vi x1, vi x2]) (st' := []) (ls0 := [vr 103, vi x1, vi x2]) f_288_3 (by decide) rfl rfl (Nat.le_of_ble_eq_true rfl) (Nat.le_of_ble_eq_true rfl) ⟨_, _, rfl, rfl⟩ rfl ?_
  refine c_M_isBoard  ?_
  show Wp true i_M_on 6 [vr 103, vi x1, vi x2] [vi (bi (0 ≤ x1 ∧ x1 < h 104 0 ∧ 0 ≤ x2 ∧ x2 < h 104 1))] h Q
  refine r_br (t := 22) f_288_6 rfl cb_bf (fun c1 => ?_) (fun c1 => ?_)
  · refine r_aload_n (v := 103) f_288_22 rfl (by decide) ?_
    refine r_iconst f_288_23 (by decide) ?_
    refine r_callv (as := [vr 103, vi 1]) (st' := []) (ls0 := [vr 103, vi 1]) f_288_24 (by decide) rfl rfl (Nat.le_of_ble_eq_true rfl) (Nat.le_of_ble_eq_true rfl) ⟨_, _, rfl, rfl⟩ rfl ?_
    refine c_M_refuse  ?_
    show Wp true i_M_on 27 [vr 103, vi x1, vi x2] [vi (-1)] (hs h 103 2 1) Q
    exact r_reti f_288_27 rfl (k1 c1)
  · have c1 := Decidable.not_not.mp c1
    refine r_aload_n (v := 103) f_288_9 rfl (by decide) ?_
    refine r_aload_n (v := 103) f_288_10 rfl (by decide) ?_
    refine r_iload_n (v := x1) f_288_11 rfl ?_
    refine r_iload_n (v := x2) f_288_12 rfl ?_
    refine r_callv (as := [vr 103, vi x1, vi x2]) (st' := [vr 103]) (ls0 := [vr 103, vi x1, vi x2, vr 9999]) f_288_13 (by decide) rfl rfl (Nat.le_of_ble_eq_true rfl) (Nat.le_of_ble_eq_true rfl) ⟨_, _, rfl, rfl⟩ rfl ?_
    refine c_M_thingOn (o2 c1) ?_
    show Wp true i_M_on 16 [vr 103, vi x1, vi x2] [vi (rOn (rmM h 0) x1 x2), vr 103] h Q
    refine r_callv (as := [vr 103, vi (rOn (rmM h 0) x1 x2)]) (st' := []) (ls0 := [vr 103, vi (rOn (rmM h 0) x1 x2)]) f_288_16 (by decide) rfl rfl (Nat.le_of_ble_eq_true rfl) (Nat.le_of_ble_eq_true rfl) ⟨_, _, rfl, rfl⟩ rfl ?_
    refine c_M_orNone  ?_
    show Wp true i_M_on 19 [vr 103, vi x1, vi x2] [vi (rOn (rmM h 0) x1 x2)] (hs h 103 2 (if (rOn (rmM h 0) x1 x2) = -1 then 6 else 0)) Q
    refine r_goto (t := 27) f_288_19 rfl ?_
    exact r_reti f_288_27 rfl (k3 c1)

theorem c_M_on {Q : PQ} {h : HP} {x1 : Int} {x2 : Int} (o1 : WR (rmM h 0)) (k : Q (some (vi ((qOn (rmM h 0) x1 x2).1))) (hs h 103 2 ((qOn (rmM h 0) x1 x2).2))) :
    Wp true i_M_on 0 [vr 103, vi x1, vi x2] [] h Q := by
  have w := WM_0 o1
  have w1 := rOn_rg (rmM h 0) x1 x2
  refine g_M_on_0 ?_ ?_ ?_
  · intro c1; (try simp only [Int.toNat_natCast] at c1); first | (exfalso; omega) | (exact kq k (if_neg c1))
  · intro c1; (try simp only [Int.toNat_natCast] at c1); first | omega | (exfalso; omega) | exact ⟨by omega, by omega⟩ | (exact o1)
  · intro c1; (try simp only [Int.toNat_natCast] at c1); first | (exfalso; omega) | (refine kq k ((if_pos c1).trans ?_); congr 2; exact propext ⟨fun q => by omega, fun q => by omega⟩)

theorem A_on {n : Nat} {h : HP} {x1 x2 : Int} (hR : Rel n h) : Agree n h i_C_on i_M_on [vr 0, vi x1, vi x2] [vr 103, vi x1, vi x2] := by
  have s := hR.2.2.2.2.2.1
  have hW := s.2.1
  rw [s.1] at hW
  refine ag_q (v := vi (qOn (rmC h 10) x1 x2).1) (st := (qOn (rmC h 10) x1 x2).2) hR (fun Q k => c_C_on s.2.1 k) (fun Q k => c_M_on (by rw [rm_q]; exact hW) ?_)
  rw [rm_q, ← s.1]
  exact k

def qValue (R : HP) (x : Int) : Int × Int := if x = 0 ∨ x = 1 then (rVal R x x, 0) else (-1, 1)

theorem g_C_value_0 {Q : PQ} {h : HP} {x1 : Int} 
    (k1 : ¬ (x1 = 0 ∨ x1 = 1) → Q (some (vi (-1))) (hs h 0 0 1))
    (o2 : (x1 = 0 ∨ x1 = 1) → WR (rmC h 10))
    (o3 : (x1 = 0 ∨ x1 = 1) → x1 = 0 ∨ x1 = 1)
    (k4 : (x1 = 0 ∨ x1 = 1) → Q (some (vi (rVal (rmC h 10) x1 x1))) (hs h 0 0 0)) :
    Wp true i_C_value 0 [vr 0, vi x1] [] h Q := by
  refine r_iload_n (v := x1) f_159_0 rfl ?_
  refine r_calls (as := [vi x1]) (st' := []) (ls0 := [vi x1]) f_159_1 (by decide) (by decide) rfl rfl (Nat.le_of_ble_eq_true rfl) (Nat.le_of_ble_eq_true rfl) rfl ?_
  refine c_C_isLand  ?_
  show Wp true i_C_value 4 [vr 0, vi x1] [vi (bi (x1 = 0 ∨ x1 = 1))] h Q
  refine r_br (t := 22) f_159_4 rfl cb_bf (fun c1 => ?_) (fun c1 => ?_)
  · refine r_aload_n (v := 0) f_159_22 rfl (by decide) ?_
    refine r_iconst f_159_23 (by decide) ?_
    refine r_callv (as := [vr 0, vi 1]) (st' := []) (ls0 := [vr 0, vi 1]) f_159_24 (by decide) rfl rfl (Nat.le_of_ble_eq_true rfl) (Nat.le_of_ble_eq_true rfl) ⟨_, _, rfl, rfl⟩ rfl ?_
    refine c_C_refuse  ?_
    show Wp true i_C_value 27 [vr 0, vi x1] [vi (-1)] (hs h 0 0 1) Q
    exact r_reti f_159_27 rfl (k1 c1)
  · have c1 := Decidable.not_not.mp c1
    refine r_aload_n (v := 0) f_159_7 rfl (by decide) ?_
    refine r_aload_n (v := 0) f_159_8 rfl (by decide) ?_
    refine r_getr (q := 10) f_159_9 rfl (by decide) (Or.inl rfl) rfl ?_
    refine r_iload_n (v := x1) f_159_12 rfl ?_
    refine r_callv (as := [vr 10, vi x1]) (st' := [vr 0]) (ls0 := [vr 10, vi x1]) f_159_13 (by decide) rfl rfl (Nat.le_of_ble_eq_true rfl) (Nat.le_of_ble_eq_true rfl) ⟨_, _, rfl, rfl⟩ rfl ?_
    refine c_Fl_valueOf isF_10 (o2 c1) (o3 c1) ?_
    show Wp true i_C_value 16 [vr 0, vi x1] [vi (rVal (rmC h 10) x1 x1), vr 0] h Q
    refine r_callv (as := [vr 0, vi (rVal (rmC h 10) x1 x1)]) (st' := []) (ls0 := [vr 0, vi (rVal (rmC h 10) x1 x1)]) f_159_16 (by decide) rfl rfl (Nat.le_of_ble_eq_true rfl) (Nat.le_of_ble_eq_true rfl) ⟨_, _, rfl, rfl⟩ rfl ?_
    refine c_C_answer  ?_
    show Wp true i_C_value 19 [vr 0, vi x1] [vi (rVal (rmC h 10) x1 x1)] (hs h 0 0 0) Q
    refine r_goto (t := 27) f_159_19 rfl ?_
    exact r_reti f_159_27 rfl (k4 c1)

theorem c_C_value {Q : PQ} {h : HP} {x1 : Int} (o1 : WR (rmC h 10)) (k : Q (some (vi ((qValue (rmC h 10) x1).1))) (hs h 0 0 ((qValue (rmC h 10) x1).2))) :
    Wp true i_C_value 0 [vr 0, vi x1] [] h Q := by
  have w := WC_0 o1
  refine g_C_value_0 ?_ ?_ ?_ ?_
  · intro c1; (try simp only [Int.toNat_natCast] at c1); first | (exfalso; omega) | (exact kq k (if_neg c1))
  · intro c1; (try simp only [Int.toNat_natCast] at c1); first | omega | (exfalso; omega) | exact ⟨by omega, by omega⟩ | (first | exact o1 | exact c1 | exact rStrong_lo _ _ | exact rLeast_lo _ _ | exact rWant_lo _ _)
  · intro c1; (try simp only [Int.toNat_natCast] at c1); first | omega | (exfalso; omega) | exact ⟨by omega, by omega⟩ | (first | exact o1 | exact c1 | exact rStrong_lo _ _ | exact rLeast_lo _ _ | exact rWant_lo _ _)
  · intro c1; (try simp only [Int.toNat_natCast] at c1); first | (exfalso; omega) | (exact kq k (if_pos c1))

theorem g_M_value_0 {Q : PQ} {h : HP} {x1 : Int} 
    (k1 : ¬ (x1 = 0 ∨ x1 = 1) → Q (some (vi (-1))) (hs h 103 2 1))
    (o2 : (x1 = 0 ∨ x1 = 1) → WR (rmM h 0))
    (o3 : (x1 = 0 ∨ x1 = 1) → x1 = 0 ∨ x1 = 1)
    (k4 : (x1 = 0 ∨ x1 = 1) → Q (some (vi (rVal (rmM h 0) x1 x1))) (hs h 103 2 0)) :
    Wp true i_M_value 0 [vr 103, vi x1] [] h Q := by
  refine r_iload_n (v := x1) f_291_0 rfl ?_
  refine r_calls (as := [vi x1]) (st' := []) (ls0 := [vi x1]) f_291_1 (by decide) (by decide) rfl rfl (Nat.le_of_ble_eq_true rfl) (Nat.le_of_ble_eq_true rfl) rfl ?_
  refine c_M_isLand  ?_
  show Wp true i_M_value 4 [vr 103, vi x1] [vi (bi (x1 = 0 ∨ x1 = 1))] h Q
  refine r_br (t := 19) f_291_4 rfl cb_bf (fun c1 => ?_) (fun c1 => ?_)
  · refine r_aload_n (v := 103) f_291_19 rfl (by decide) ?_
    refine r_iconst f_291_20 (by decide) ?_
    refine r_callv (as := [vr 103, vi 1]) (st' := []) (ls0 := [vr 103, vi 1]) f_291_21 (by decide) rfl rfl (Nat.le_of_ble_eq_true rfl) (Nat.le_of_ble_eq_true rfl) ⟨_, _, rfl, rfl⟩ rfl ?_
    refine c_M_refuse  ?_
    show Wp true i_M_value 24 [vr 103, vi x1] [vi (-1)] (hs h 103 2 1) Q
    exact r_reti f_291_24 rfl (k1 c1)
  · have c1 := Decidable.not_not.mp c1
    refine r_aload_n (v := 103) f_291_7 rfl (by decide) ?_
    refine r_aload_n (v := 103) f_291_8 rfl (by decide) ?_
    refine r_iload_n (v := x1) f_291_9 rfl ?_
    refine r_callv (as := [vr 103, vi x1]) (st' := [vr 103]) (ls0 := [vr 103, vi x1, vr 9999, vr 9999]) f_291_10 (by decide) rfl rfl (Nat.le_of_ble_eq_true rfl) (Nat.le_of_ble_eq_true rfl) ⟨_, _, rfl, rfl⟩ rfl ?_
    refine c_M_valueOf (o2 c1) (o3 c1) ?_
    show Wp true i_M_value 13 [vr 103, vi x1] [vi (rVal (rmM h 0) x1 x1), vr 103] h Q
    refine r_callv (as := [vr 103, vi (rVal (rmM h 0) x1 x1)]) (st' := []) (ls0 := [vr 103, vi (rVal (rmM h 0) x1 x1)]) f_291_13 (by decide) rfl rfl (Nat.le_of_ble_eq_true rfl) (Nat.le_of_ble_eq_true rfl) ⟨_, _, rfl, rfl⟩ rfl ?_
    refine c_M_gives  ?_
    show Wp true i_M_value 16 [vr 103, vi x1] [vi (rVal (rmM h 0) x1 x1)] (hs h 103 2 0) Q
    refine r_goto (t := 24) f_291_16 rfl ?_
    exact r_reti f_291_24 rfl (k4 c1)

theorem c_M_value {Q : PQ} {h : HP} {x1 : Int} (o1 : WR (rmM h 0)) (k : Q (some (vi ((qValue (rmM h 0) x1).1))) (hs h 103 2 ((qValue (rmM h 0) x1).2))) :
    Wp true i_M_value 0 [vr 103, vi x1] [] h Q := by
  have w := WM_0 o1
  refine g_M_value_0 ?_ ?_ ?_ ?_
  · intro c1; (try simp only [Int.toNat_natCast] at c1); first | (exfalso; omega) | (exact kq k (if_neg c1))
  · intro c1; (try simp only [Int.toNat_natCast] at c1); first | omega | (exfalso; omega) | exact ⟨by omega, by omega⟩ | (exact o1)
  · intro c1; (try simp only [Int.toNat_natCast] at c1); first | omega | (exfalso; omega) | exact ⟨by omega, by omega⟩ | (exact o1)
  · intro c1; (try simp only [Int.toNat_natCast] at c1); first | (exfalso; omega) | (exact kq k (if_pos c1))

theorem A_value {n : Nat} {h : HP} {x1 : Int} (hR : Rel n h) : Agree n h i_C_value i_M_value [vr 0, vi x1] [vr 103, vi x1] := by
  have s := hR.2.2.2.2.2.1
  have hW := s.2.1
  rw [s.1] at hW
  refine ag_q (v := vi (qValue (rmC h 10) x1).1) (st := (qValue (rmC h 10) x1).2) hR (fun Q k => c_C_value s.2.1 k) (fun Q k => c_M_value (by rw [rm_q]; exact hW) ?_)
  rw [rm_q, ← s.1]
  exact k

def qEnvy (R : HP) (x : Int) : Int × Int := if x = 0 ∨ x = 1 then (rVal R (1 - x) x - rVal R x x, 0) else (-1, 1)

theorem g_C_envy_0 {Q : PQ} {h : HP} {x1 : Int} 
    (k1 : ¬ (x1 = 0 ∨ x1 = 1) → Q (some (vi (-1))) (hs h 0 0 1))
    (o2 : (x1 = 0 ∨ x1 = 1) → WR (rmC h 10))
    (o3 : (x1 = 0 ∨ x1 = 1) → x1 = 0 ∨ x1 = 1)
    (k4 : (x1 = 0 ∨ x1 = 1) → Q (some (vi (rVal (rmC h 10) (1 - x1) x1 - rVal (rmC h 10) x1 x1))) (hs h 0 0 0)) :
    Wp true i_C_envy 0 [vr 0, vi x1] [] h Q := by
  refine r_iload_n (v := x1) f_162_0 rfl ?_
  refine r_calls (as := [vi x1]) (st' := []) (ls0 := [vi x1]) f_162_1 (by decide) (by decide) rfl rfl (Nat.le_of_ble_eq_true rfl) (Nat.le_of_ble_eq_true rfl) rfl ?_
  refine c_C_isLand  ?_
  show Wp true i_C_envy 4 [vr 0, vi x1] [vi (bi (x1 = 0 ∨ x1 = 1))] h Q
  refine r_br (t := 22) f_162_4 rfl cb_bf (fun c1 => ?_) (fun c1 => ?_)
  · refine r_aload_n (v := 0) f_162_22 rfl (by decide) ?_
    refine r_iconst f_162_23 (by decide) ?_
    refine r_callv (as := [vr 0, vi 1]) (st' := []) (ls0 := [vr 0, vi 1]) f_162_24 (by decide) rfl rfl (Nat.le_of_ble_eq_true rfl) (Nat.le_of_ble_eq_true rfl) ⟨_, _, rfl, rfl⟩ rfl ?_
    refine c_C_refuse  ?_
    show Wp true i_C_envy 27 [vr 0, vi x1] [vi (-1)] (hs h 0 0 1) Q
    exact r_reti f_162_27 rfl (k1 c1)
  · have c1 := Decidable.not_not.mp c1
    refine r_aload_n (v := 0) f_162_7 rfl (by decide) ?_
    refine r_aload_n (v := 0) f_162_8 rfl (by decide) ?_
    refine r_getr (q := 10) f_162_9 rfl (by decide) (Or.inl rfl) rfl ?_
    refine r_iload_n (v := x1) f_162_12 rfl ?_
    refine r_callv (as := [vr 10, vi x1]) (st' := [vr 0]) (ls0 := [vr 10, vi x1]) f_162_13 (by decide) rfl rfl (Nat.le_of_ble_eq_true rfl) (Nat.le_of_ble_eq_true rfl) ⟨_, _, rfl, rfl⟩ rfl ?_
    refine c_Fl_envyOf isF_10 (o2 c1) (o3 c1) ?_
    show Wp true i_C_envy 16 [vr 0, vi x1] [vi (rVal (rmC h 10) (1 - x1) x1 - rVal (rmC h 10) x1 x1), vr 0] h Q
    refine r_callv (as := [vr 0, vi (rVal (rmC h 10) (1 - x1) x1 - rVal (rmC h 10) x1 x1)]) (st' := []) (ls0 := [vr 0, vi (rVal (rmC h 10) (1 - x1) x1 - rVal (rmC h 10) x1 x1)]) f_162_16 (by decide) rfl rfl (Nat.le_of_ble_eq_true rfl) (Nat.le_of_ble_eq_true rfl) ⟨_, _, rfl, rfl⟩ rfl ?_
    refine c_C_answer  ?_
    show Wp true i_C_envy 19 [vr 0, vi x1] [vi (rVal (rmC h 10) (1 - x1) x1 - rVal (rmC h 10) x1 x1)] (hs h 0 0 0) Q
    refine r_goto (t := 27) f_162_19 rfl ?_
    exact r_reti f_162_27 rfl (k4 c1)

theorem c_C_envy {Q : PQ} {h : HP} {x1 : Int} (o1 : WR (rmC h 10)) (k : Q (some (vi ((qEnvy (rmC h 10) x1).1))) (hs h 0 0 ((qEnvy (rmC h 10) x1).2))) :
    Wp true i_C_envy 0 [vr 0, vi x1] [] h Q := by
  have w := WC_0 o1
  refine g_C_envy_0 ?_ ?_ ?_ ?_
  · intro c1; (try simp only [Int.toNat_natCast] at c1); first | (exfalso; omega) | (exact kq k (if_neg c1))
  · intro c1; (try simp only [Int.toNat_natCast] at c1); first | omega | (exfalso; omega) | exact ⟨by omega, by omega⟩ | (first | exact o1 | exact c1 | exact rStrong_lo _ _ | exact rLeast_lo _ _ | exact rWant_lo _ _)
  · intro c1; (try simp only [Int.toNat_natCast] at c1); first | omega | (exfalso; omega) | exact ⟨by omega, by omega⟩ | (first | exact o1 | exact c1 | exact rStrong_lo _ _ | exact rLeast_lo _ _ | exact rWant_lo _ _)
  · intro c1; (try simp only [Int.toNat_natCast] at c1); first | (exfalso; omega) | (exact kq k (if_pos c1))

theorem g_M_envy_0 {Q : PQ} {h : HP} {x1 : Int} 
    (k1 : ¬ (x1 = 0 ∨ x1 = 1) → Q (some (vi (-1))) (hs h 103 2 1))
    (o2 : (x1 = 0 ∨ x1 = 1) → WR (rmM h 0))
    (o3 : (x1 = 0 ∨ x1 = 1) → x1 = 0 ∨ x1 = 1)
    (k4 : (x1 = 0 ∨ x1 = 1) → Q (some (vi (rVal (rmM h 0) (1 - x1) x1 - rVal (rmM h 0) x1 x1))) (hs h 103 2 0)) :
    Wp true i_M_envy 0 [vr 103, vi x1] [] h Q := by
  refine r_iload_n (v := x1) f_294_0 rfl ?_
  refine r_calls (as := [vi x1]) (st' := []) (ls0 := [vi x1]) f_294_1 (by decide) (by decide) rfl rfl (Nat.le_of_ble_eq_true rfl) (Nat.le_of_ble_eq_true rfl) rfl ?_
  refine c_M_isLand  ?_
  show Wp true i_M_envy 4 [vr 103, vi x1] [vi (bi (x1 = 0 ∨ x1 = 1))] h Q
  refine r_br (t := 19) f_294_4 rfl cb_bf (fun c1 => ?_) (fun c1 => ?_)
  · refine r_aload_n (v := 103) f_294_19 rfl (by decide) ?_
    refine r_iconst f_294_20 (by decide) ?_
    refine r_callv (as := [vr 103, vi 1]) (st' := []) (ls0 := [vr 103, vi 1]) f_294_21 (by decide) rfl rfl (Nat.le_of_ble_eq_true rfl) (Nat.le_of_ble_eq_true rfl) ⟨_, _, rfl, rfl⟩ rfl ?_
    refine c_M_refuse  ?_
    show Wp true i_M_envy 24 [vr 103, vi x1] [vi (-1)] (hs h 103 2 1) Q
    exact r_reti f_294_24 rfl (k1 c1)
  · have c1 := Decidable.not_not.mp c1
    refine r_aload_n (v := 103) f_294_7 rfl (by decide) ?_
    refine r_aload_n (v := 103) f_294_8 rfl (by decide) ?_
    refine r_iload_n (v := x1) f_294_9 rfl ?_
    refine r_callv (as := [vr 103, vi x1]) (st' := [vr 103]) (ls0 := [vr 103, vi x1]) f_294_10 (by decide) rfl rfl (Nat.le_of_ble_eq_true rfl) (Nat.le_of_ble_eq_true rfl) ⟨_, _, rfl, rfl⟩ rfl ?_
    refine c_M_envyOf (o2 c1) (o3 c1) ?_
    show Wp true i_M_envy 13 [vr 103, vi x1] [vi (rVal (rmM h 0) (1 - x1) x1 - rVal (rmM h 0) x1 x1), vr 103] h Q
    refine r_callv (as := [vr 103, vi (rVal (rmM h 0) (1 - x1) x1 - rVal (rmM h 0) x1 x1)]) (st' := []) (ls0 := [vr 103, vi (rVal (rmM h 0) (1 - x1) x1 - rVal (rmM h 0) x1 x1)]) f_294_13 (by decide) rfl rfl (Nat.le_of_ble_eq_true rfl) (Nat.le_of_ble_eq_true rfl) ⟨_, _, rfl, rfl⟩ rfl ?_
    refine c_M_gives  ?_
    show Wp true i_M_envy 16 [vr 103, vi x1] [vi (rVal (rmM h 0) (1 - x1) x1 - rVal (rmM h 0) x1 x1)] (hs h 103 2 0) Q
    refine r_goto (t := 24) f_294_16 rfl ?_
    exact r_reti f_294_24 rfl (k4 c1)

theorem c_M_envy {Q : PQ} {h : HP} {x1 : Int} (o1 : WR (rmM h 0)) (k : Q (some (vi ((qEnvy (rmM h 0) x1).1))) (hs h 103 2 ((qEnvy (rmM h 0) x1).2))) :
    Wp true i_M_envy 0 [vr 103, vi x1] [] h Q := by
  have w := WM_0 o1
  refine g_M_envy_0 ?_ ?_ ?_ ?_
  · intro c1; (try simp only [Int.toNat_natCast] at c1); first | (exfalso; omega) | (exact kq k (if_neg c1))
  · intro c1; (try simp only [Int.toNat_natCast] at c1); first | omega | (exfalso; omega) | exact ⟨by omega, by omega⟩ | (exact o1)
  · intro c1; (try simp only [Int.toNat_natCast] at c1); first | omega | (exfalso; omega) | exact ⟨by omega, by omega⟩ | (exact o1)
  · intro c1; (try simp only [Int.toNat_natCast] at c1); first | (exfalso; omega) | (exact kq k (if_pos c1))

theorem A_envy {n : Nat} {h : HP} {x1 : Int} (hR : Rel n h) : Agree n h i_C_envy i_M_envy [vr 0, vi x1] [vr 103, vi x1] := by
  have s := hR.2.2.2.2.2.1
  have hW := s.2.1
  rw [s.1] at hW
  refine ag_q (v := vi (qEnvy (rmC h 10) x1).1) (st := (qEnvy (rmC h 10) x1).2) hR (fun Q k => c_C_envy s.2.1 k) (fun Q k => c_M_envy (by rw [rm_q]; exact hW) ?_)
  rw [rm_q, ← s.1]
  exact k

def qFair (R : HP) : Int × Int := (if 0 < rVal R (1 - 0) 0 - rVal R 0 0 then 0 else if 0 < rVal R (1 - 1) 1 - rVal R 1 1 then 0 else 1, 0)

theorem g_C_fair_0 {Q : PQ} {h : HP}  
    (o1 : WR (rmC h 10))
    (k2 : 0 < rVal (rmC h 10) (1 - 0) 0 - rVal (rmC h 10) 0 0 → Q (some (vi 0)) (hs h 0 0 0))
    (k3 : ¬ 0 < rVal (rmC h 10) (1 - 0) 0 - rVal (rmC h 10) 0 0 → 0 < rVal (rmC h 10) (1 - 1) 1 - rVal (rmC h 10) 1 1 → Q (some (vi 0)) (hs h 0 0 0))
    (k4 : ¬ 0 < rVal (rmC h 10) (1 - 0) 0 - rVal (rmC h 10) 0 0 → ¬ 0 < rVal (rmC h 10) (1 - 1) 1 - rVal (rmC h 10) 1 1 → Q (some (vi 1)) (hs h 0 0 0)) :
    Wp true i_C_fair 0 [vr 0] [] h Q := by
  refine r_aload_n (v := 0) f_163_0 rfl (by decide) ?_
  refine r_aload_n (v := 0) f_163_1 rfl (by decide) ?_
  refine r_getr (q := 10) f_163_2 rfl (by decide) (Or.inl rfl) rfl ?_
  refine r_iconst f_163_5 (by decide) ?_
  refine r_callv (as := [vr 10, vi 0]) (st' := [vr 0]) (ls0 := [vr 10, vi 0]) f_163_6 (by decide) rfl rfl (Nat.le_of_ble_eq_true rfl) (Nat.le_of_ble_eq_true rfl) ⟨_, _, rfl, rfl⟩ rfl ?_
  refine c_Fl_envyOf isF_10 o1 (by decide) ?_
  show Wp true i_C_fair 9 [vr 0] [vi (rVal (rmC h 10) (1 - 0) 0 - rVal (rmC h 10) 0 0), vr 0] h Q
  refine r_br (t := 27) f_163_9 rfl cb_gt (fun c1 => ?_) (fun c1 => ?_)
  · refine r_iconst f_163_27 (by decide) ?_
    refine r_callv (as := [vr 0, vi 0]) (st' := []) (ls0 := [vr 0, vi 0]) f_163_28 (by decide) rfl rfl (Nat.le_of_ble_eq_true rfl) (Nat.le_of_ble_eq_true rfl) ⟨_, _, rfl, rfl⟩ rfl ?_
    refine c_C_answer  ?_
    show Wp true i_C_fair 31 [vr 0] [vi 0] (hs h 0 0 0) Q
    exact r_reti f_163_31 rfl (k2 c1)
  · refine r_aload_n (v := 0) f_163_12 rfl (by decide) ?_
    refine r_getr (q := 10) f_163_13 rfl (by decide) (Or.inl rfl) rfl ?_
    refine r_iconst f_163_16 (by decide) ?_
    refine r_callv (as := [vr 10, vi 1]) (st' := [vr 0]) (ls0 := [vr 10, vi 1]) f_163_17 (by decide) rfl rfl (Nat.le_of_ble_eq_true rfl) (Nat.le_of_ble_eq_true rfl) ⟨_, _, rfl, rfl⟩ rfl ?_
    refine c_Fl_envyOf isF_10 o1 (by decide) ?_
    show Wp true i_C_fair 20 [vr 0] [vi (rVal (rmC h 10) (1 - 1) 1 - rVal (rmC h 10) 1 1), vr 0] h Q
    refine r_br (t := 27) f_163_20 rfl cb_gt (fun c2 => ?_) (fun c2 => ?_)
    · refine r_iconst f_163_27 (by decide) ?_
      refine r_callv (as := [vr 0, vi 0]) (st' := []) (ls0 := [vr 0, vi 0]) f_163_28 (by decide) rfl rfl (Nat.le_of_ble_eq_true rfl) (Nat.le_of_ble_eq_true rfl) ⟨_, _, rfl, rfl⟩ rfl ?_
      refine c_C_answer  ?_
      show Wp true i_C_fair 31 [vr 0] [vi 0] (hs h 0 0 0) Q
      exact r_reti f_163_31 rfl (k3 c1 c2)
    · refine r_iconst f_163_23 (by decide) ?_
      refine r_goto (t := 28) f_163_24 rfl ?_
      refine r_callv (as := [vr 0, vi 1]) (st' := []) (ls0 := [vr 0, vi 1]) f_163_28 (by decide) rfl rfl (Nat.le_of_ble_eq_true rfl) (Nat.le_of_ble_eq_true rfl) ⟨_, _, rfl, rfl⟩ rfl ?_
      refine c_C_answer  ?_
      show Wp true i_C_fair 31 [vr 0] [vi 1] (hs h 0 0 0) Q
      exact r_reti f_163_31 rfl (k4 c1 c2)

theorem c_C_fair {Q : PQ} {h : HP} (o1 : WR (rmC h 10)) (k : Q (some (vi ((qFair (rmC h 10)).1))) (hs h 0 0 ((qFair (rmC h 10)).2))) :
    Wp true i_C_fair 0 [vr 0] [] h Q := by
  have w := WC_0 o1
  refine g_C_fair_0 ?_ ?_ ?_ ?_
  · first | omega | (exfalso; omega) | exact ⟨by omega, by omega⟩ | (first | exact o1 | exact c1 | exact rStrong_lo _ _ | exact rLeast_lo _ _ | exact rWant_lo _ _)
  · intro c1; (try simp only [Int.toNat_natCast] at c1); first | (exfalso; omega) | (exact kq k (by unfold qFair; rw [if_pos c1]))
  · intro c1 c2; (try simp only [Int.toNat_natCast] at c1 c2); first | (exfalso; omega) | (exact kq k (by unfold qFair; rw [if_neg c1, if_pos c2]))
  · intro c1 c2; (try simp only [Int.toNat_natCast] at c1 c2); first | (exfalso; omega) | (exact kq k (by unfold qFair; rw [if_neg c1, if_neg c2]))

theorem g_M_fair_0 {Q : PQ} {h : HP}  
    (o1 : WR (rmM h 0))
    (k2 : 0 < rVal (rmM h 0) (1 - 0) 0 - rVal (rmM h 0) 0 0 → Q (some (vi 0)) (hs h 103 2 0))
    (k3 : ¬ 0 < rVal (rmM h 0) (1 - 0) 0 - rVal (rmM h 0) 0 0 → 0 < rVal (rmM h 0) (1 - 1) 1 - rVal (rmM h 0) 1 1 → Q (some (vi 0)) (hs h 103 2 0))
    (k4 : ¬ 0 < rVal (rmM h 0) (1 - 0) 0 - rVal (rmM h 0) 0 0 → ¬ 0 < rVal (rmM h 0) (1 - 1) 1 - rVal (rmM h 0) 1 1 → Q (some (vi 1)) (hs h 103 2 0)) :
    Wp true i_M_fair 0 [vr 103] [] h Q := by
  refine r_aload_n (v := 103) f_295_0 rfl (by decide) ?_
  refine r_aload_n (v := 103) f_295_1 rfl (by decide) ?_
  refine r_iconst f_295_2 (by decide) ?_
  refine r_callv (as := [vr 103, vi 0]) (st' := [vr 103]) (ls0 := [vr 103, vi 0]) f_295_3 (by decide) rfl rfl (Nat.le_of_ble_eq_true rfl) (Nat.le_of_ble_eq_true rfl) ⟨_, _, rfl, rfl⟩ rfl ?_
  refine c_M_envyOf o1 (by decide) ?_
  show Wp true i_M_fair 6 [vr 103] [vi (rVal (rmM h 0) (1 - 0) 0 - rVal (rmM h 0) 0 0), vr 103] h Q
  refine r_br (t := 21) f_295_6 rfl cb_gt (fun c1 => ?_) (fun c1 => ?_)
  · refine r_iconst f_295_21 (by decide) ?_
    refine r_callv (as := [vr 103, vi 0]) (st' := []) (ls0 := [vr 103, vi 0]) f_295_22 (by decide) rfl rfl (Nat.le_of_ble_eq_true rfl) (Nat.le_of_ble_eq_true rfl) ⟨_, _, rfl, rfl⟩ rfl ?_
    refine c_M_gives  ?_
    show Wp true i_M_fair 25 [vr 103] [vi 0] (hs h 103 2 0) Q
    exact r_reti f_295_25 rfl (k2 c1)
  · refine r_aload_n (v := 103) f_295_9 rfl (by decide) ?_
    refine r_iconst f_295_10 (by decide) ?_
    refine r_callv (as := [vr 103, vi 1]) (st' := [vr 103]) (ls0 := [vr 103, vi 1]) f_295_11 (by decide) rfl rfl (Nat.le_of_ble_eq_true rfl) (Nat.le_of_ble_eq_true rfl) ⟨_, _, rfl, rfl⟩ rfl ?_
    refine c_M_envyOf o1 (by decide) ?_
    show Wp true i_M_fair 14 [vr 103] [vi (rVal (rmM h 0) (1 - 1) 1 - rVal (rmM h 0) 1 1), vr 103] h Q
    refine r_br (t := 21) f_295_14 rfl cb_gt (fun c2 => ?_) (fun c2 => ?_)
    · refine r_iconst f_295_21 (by decide) ?_
      refine r_callv (as := [vr 103, vi 0]) (st' := []) (ls0 := [vr 103, vi 0]) f_295_22 (by decide) rfl rfl (Nat.le_of_ble_eq_true rfl) (Nat.le_of_ble_eq_true rfl) ⟨_, _, rfl, rfl⟩ rfl ?_
      refine c_M_gives  ?_
      show Wp true i_M_fair 25 [vr 103] [vi 0] (hs h 103 2 0) Q
      exact r_reti f_295_25 rfl (k3 c1 c2)
    · refine r_iconst f_295_17 (by decide) ?_
      refine r_goto (t := 22) f_295_18 rfl ?_
      refine r_callv (as := [vr 103, vi 1]) (st' := []) (ls0 := [vr 103, vi 1]) f_295_22 (by decide) rfl rfl (Nat.le_of_ble_eq_true rfl) (Nat.le_of_ble_eq_true rfl) ⟨_, _, rfl, rfl⟩ rfl ?_
      refine c_M_gives  ?_
      show Wp true i_M_fair 25 [vr 103] [vi 1] (hs h 103 2 0) Q
      exact r_reti f_295_25 rfl (k4 c1 c2)

theorem c_M_fair {Q : PQ} {h : HP} (o1 : WR (rmM h 0)) (k : Q (some (vi ((qFair (rmM h 0)).1))) (hs h 103 2 ((qFair (rmM h 0)).2))) :
    Wp true i_M_fair 0 [vr 103] [] h Q := by
  have w := WM_0 o1
  refine g_M_fair_0 ?_ ?_ ?_ ?_
  · first | omega | (exfalso; omega) | exact ⟨by omega, by omega⟩ | (exact o1)
  · intro c1; (try simp only [Int.toNat_natCast] at c1); first | (exfalso; omega) | (exact kq k (by unfold qFair; rw [if_pos c1]))
  · intro c1 c2; (try simp only [Int.toNat_natCast] at c1 c2); first | (exfalso; omega) | (exact kq k (by unfold qFair; rw [if_neg c1, if_pos c2]))
  · intro c1 c2; (try simp only [Int.toNat_natCast] at c1 c2); first | (exfalso; omega) | (exact kq k (by unfold qFair; rw [if_neg c1, if_neg c2]))

theorem A_fair {n : Nat} {h : HP} (hR : Rel n h) : Agree n h i_C_fair i_M_fair [vr 0] [vr 103] := by
  have s := hR.2.2.2.2.2.1
  have hW := s.2.1
  rw [s.1] at hW
  refine ag_q (v := vi (qFair (rmC h 10) ).1) (st := (qFair (rmC h 10) ).2) hR (fun Q k => c_C_fair s.2.1 k) (fun Q k => c_M_fair (by rw [rm_q]; exact hW) ?_)
  rw [rm_q, ← s.1]
  exact k

def qChalk (R : HP) : Int × Int := (rChalk R, 0)

theorem g_C_chalk_0 {Q : PQ} {h : HP}  
    (o1 : WR (rmC h 10))
    (k2 : Q (some (vi (rChalk (rmC h 10)))) (hs h 0 0 0)) :
    Wp true i_C_chalk 0 [vr 0] [] h Q := by
  refine r_aload_n (v := 0) f_164_0 rfl (by decide) ?_
  refine r_aload_n (v := 0) f_164_1 rfl (by decide) ?_
  refine r_getr (q := 10) f_164_2 rfl (by decide) (Or.inl rfl) rfl ?_
  refine r_callv (as := [vr 10]) (st' := [vr 0]) (ls0 := [vr 10, vr 9999, vr 9999]) f_164_5 (by decide) rfl rfl (Nat.le_of_ble_eq_true rfl) (Nat.le_of_ble_eq_true rfl) ⟨_, _, rfl, rfl⟩ rfl ?_
  refine c_Fl_chalkDrawn isF_10 o1 ?_
  show Wp true i_C_chalk 8 [vr 0] [vi (rChalk (rmC h 10)), vr 0] h Q
  refine r_callv (as := [vr 0, vi (rChalk (rmC h 10))]) (st' := []) (ls0 := [vr 0, vi (rChalk (rmC h 10))]) f_164_8 (by decide) rfl rfl (Nat.le_of_ble_eq_true rfl) (Nat.le_of_ble_eq_true rfl) ⟨_, _, rfl, rfl⟩ rfl ?_
  refine c_C_answer  ?_
  show Wp true i_C_chalk 11 [vr 0] [vi (rChalk (rmC h 10))] (hs h 0 0 0) Q
  exact r_reti f_164_11 rfl k2

theorem c_C_chalk {Q : PQ} {h : HP} (o1 : WR (rmC h 10)) (k : Q (some (vi ((qChalk (rmC h 10)).1))) (hs h 0 0 ((qChalk (rmC h 10)).2))) :
    Wp true i_C_chalk 0 [vr 0] [] h Q := by
  have w := WC_0 o1
  refine g_C_chalk_0 ?_ ?_
  · first | omega | (exfalso; omega) | exact ⟨by omega, by omega⟩ | (first | exact o1 | exact c1 | exact rStrong_lo _ _ | exact rLeast_lo _ _ | exact rWant_lo _ _)
  · exact k

theorem g_M_chalk_0 {Q : PQ} {h : HP}  
    (k1 : Wp true i_M_chalk 9 [vr 103, vi (h 104 1), vi 1] [] h Q) :
    Wp true i_M_chalk 0 [vr 103, vr 9999, vr 9999] [] h Q := by
  refine r_aload_n (v := 103) f_296_0 rfl (by decide) ?_
  refine r_getr (q := 104) f_296_1 rfl (by decide) (Or.inl rfl) rfl ?_
  refine r_iconst f_296_4 (by decide) ?_
  refine r_iaload (n := 3000) (v := h 104 1) f_296_5 ⟨rfl, rfl⟩ (by decide) rfl ?_
  refine r_istore_n (ls' := [vr 103, vi (h 104 1), vr 9999]) f_296_6 (Nat.le_of_ble_eq_true rfl) rfl ?_
  refine r_iconst f_296_7 (by decide) ?_
  refine r_istore_n (ls' := [vr 103, vi (h 104 1), vi 1]) f_296_8 (Nat.le_of_ble_eq_true rfl) rfl ?_
  exact k1

theorem g_M_chalk_9 {Q : PQ} {h : HP} {x1 : Int} {x2 : Int} 
    (k1 : h 104 1 ≤ x2 → Q (some (vi x1)) (hs h 103 2 0))
    (o2 : ¬ h 104 1 ≤ x2 → WR (rmM h 0))
    (o3 : ¬ h 104 1 ≤ x2 → 0 ≤ x2 ∧ x2 < h 104 1)
    (o4 : ¬ h 104 1 ≤ x2 → -2147483648 ≤ x2 - 1 ∧ x2 - 1 ≤ 2147483647)
    (o5 : ¬ h 104 1 ≤ x2 → 0 ≤ (x2 - 1) ∧ (x2 - 1) < h 104 1)
    (o6 : ¬ h 104 1 ≤ x2 → -2147483648 ≤ (rmM h 0 1 x2.toNat) - (rmM h 0 1 (x2 - 1).toNat) ∧ (rmM h 0 1 x2.toNat) - (rmM h 0 1 (x2 - 1).toNat) ≤ 2147483647)
    (o7 : ¬ h 104 1 ≤ x2 → -2147483647 ≤ ((rmM h 0 1 x2.toNat) - (rmM h 0 1 (x2 - 1).toNat)) ∧ ((rmM h 0 1 x2.toNat) - (rmM h 0 1 (x2 - 1).toNat)) ≤ 2147483647)
    (o8 : ¬ h 104 1 ≤ x2 → -2147483648 ≤ x1 + (((rmM h 0 1 x2.toNat) - (rmM h 0 1 (x2 - 1).toNat)).natAbs : Int) ∧ x1 + (((rmM h 0 1 x2.toNat) - (rmM h 0 1 (x2 - 1).toNat)).natAbs : Int) ≤ 2147483647)
    (o9 : ¬ h 104 1 ≤ x2 → -2147483648 ≤ x2 + 1 ∧ x2 + 1 ≤ 2147483647)
    (k10 : ¬ h 104 1 ≤ x2 → Wp true i_M_chalk 9 [vr 103, vi (x1 + (((rmM h 0 1 x2.toNat) - (rmM h 0 1 (x2 - 1).toNat)).natAbs : Int)), vi (x2 + 1)] [] h Q) :
    Wp true i_M_chalk 9 [vr 103, vi x1, vi x2] [] h Q := by
  refine r_iload_n (v := x2) f_296_9 rfl ?_
  refine r_aload_n (v := 103) f_296_10 rfl (by decide) ?_
  refine r_getr (q := 104) f_296_11 rfl (by decide) (Or.inl rfl) rfl ?_
  refine r_iconst f_296_14 (by decide) ?_
  refine r_iaload (n := 3000) (v := h 104 1) f_296_15 ⟨rfl, rfl⟩ (by decide) rfl ?_
  refine r_br2 (t := 44) f_296_16 rfl cb_ge (fun c1 => ?_) (fun c1 => ?_)
  · refine r_aload_n (v := 103) f_296_44 rfl (by decide) ?_
    refine r_iload_n (v := x1) f_296_45 rfl ?_
    refine r_callv (as := [vr 103, vi x1]) (st' := []) (ls0 := [vr 103, vi x1]) f_296_46 (by decide) rfl rfl (Nat.le_of_ble_eq_true rfl) (Nat.le_of_ble_eq_true rfl) ⟨_, _, rfl, rfl⟩ rfl ?_
    refine c_M_gives  ?_
    show Wp true i_M_chalk 49 [vr 103, vi x1, vi x2] [vi x1] (hs h 103 2 0) Q
    exact r_reti f_296_49 rfl (k1 c1)
  · refine r_iload_n (v := x1) f_296_19 rfl ?_
    refine r_aload_n (v := 103) f_296_20 rfl (by decide) ?_
    refine r_iload_n (v := x2) f_296_21 rfl ?_
    refine r_callv (as := [vr 103, vi x2]) (st' := [vi x1]) (ls0 := [vr 103, vi x2]) f_296_22 (by decide) rfl rfl (Nat.le_of_ble_eq_true rfl) (Nat.le_of_ble_eq_true rfl) ⟨_, _, rfl, rfl⟩ rfl ?_
    refine c_M_lineOf (o2 c1) (o3 c1) ?_
    show Wp true i_M_chalk 25 [vr 103, vi x1, vi x2] [vi (rmM h 0 1 x2.toNat), vi x1] h Q
    refine r_aload_n (v := 103) f_296_25 rfl (by decide) ?_
    refine r_iload_n (v := x2) f_296_26 rfl ?_
    refine r_iconst f_296_27 (by decide) ?_
    refine r_isub (u := x2 - 1) f_296_28 rfl (o4 c1) ?_
    refine r_callv (as := [vr 103, vi (x2 - 1)]) (st' := [vi (rmM h 0 1 x2.toNat), vi x1]) (ls0 := [vr 103, vi (x2 - 1)]) f_296_29 (by decide) rfl rfl (Nat.le_of_ble_eq_true rfl) (Nat.le_of_ble_eq_true rfl) ⟨_, _, rfl, rfl⟩ rfl ?_
    refine c_M_lineOf (o2 c1) (o5 c1) ?_
    show Wp true i_M_chalk 32 [vr 103, vi x1, vi x2] [vi (rmM h 0 1 (x2 - 1).toNat), vi (rmM h 0 1 x2.toNat), vi x1] h Q
    refine r_isub (u := (rmM h 0 1 x2.toNat) - (rmM h 0 1 (x2 - 1).toNat)) f_296_32 rfl (o6 c1) ?_
    refine r_calls (as := [vi ((rmM h 0 1 x2.toNat) - (rmM h 0 1 (x2 - 1).toNat))]) (st' := [vi x1]) (ls0 := [vi ((rmM h 0 1 x2.toNat) - (rmM h 0 1 (x2 - 1).toNat))]) f_296_33 (by decide) (by decide) rfl rfl (Nat.le_of_ble_eq_true rfl) (Nat.le_of_ble_eq_true rfl) rfl ?_
    refine c_Ma_abs (o7 c1) ?_
    show Wp true i_M_chalk 36 [vr 103, vi x1, vi x2] [vi (((rmM h 0 1 x2.toNat) - (rmM h 0 1 (x2 - 1).toNat)).natAbs : Int), vi x1] h Q
    refine r_iadd (u := x1 + (((rmM h 0 1 x2.toNat) - (rmM h 0 1 (x2 - 1).toNat)).natAbs : Int)) f_296_36 rfl (o8 c1) ?_
    refine r_istore_n (ls' := [vr 103, vi (x1 + (((rmM h 0 1 x2.toNat) - (rmM h 0 1 (x2 - 1).toNat)).natAbs : Int)), vi x2]) f_296_37 (Nat.le_of_ble_eq_true rfl) rfl ?_
    refine r_iinc (v := x2) (w := x2 + 1) (ls' := [vr 103, vi (x1 + (((rmM h 0 1 x2.toNat) - (rmM h 0 1 (x2 - 1).toNat)).natAbs : Int)), vi (x2 + 1)]) f_296_38 rfl rfl (o9 c1) rfl ?_
    refine r_goto (t := 9) f_296_41 rfl ?_
    exact (k10 c1)

theorem c_M_chalk {Q : PQ} {h : HP} (o1 : WR (rmM h 0)) (k : Q (some (vi ((qChalk (rmM h 0)).1))) (hs h 103 2 ((qChalk (rmM h 0)).2))) :
    Wp true i_M_chalk 0 [vr 103, vr 9999, vr 9999] [] h Q := by
  have w := WM_0 o1
  refine g_M_chalk_0 ?_
  have key : ∀ (d i : Nat) (s : Int), ((i : Int) + d = h 104 1 ∨ (d = 0 ∧ h 104 1 ≤ i)) → (1 ≤ i ∧ 0 ≤ s ∧ s ≤ 7 + 9 * i) → Q (some (vi (s + sumF (fun r => rBend (rmM h 0) r) d i))) (hs h 103 2 0) → Wp true i_M_chalk 9 [vr 103, vi s, vi (i : Int)] [] h Q := by
    intro d
    induction d with
    | zero =>
      intro i s e hi kk
      simp only [fld, sumF, Int.add_zero] at kk
      refine g_M_chalk_9 ?_ ?_ ?_ ?_ ?_ ?_ ?_ ?_ ?_ ?_
      · intro c1; (try simp only [Int.toNat_natCast] at c1); first | (exfalso; omega) | (exact kk)
      · intro c1; (try simp only [Int.toNat_natCast] at c1); first | omega | (exfalso; omega) | exact ⟨by omega, by omega⟩ | (first | exact o1 | (simp only [Int.toNat_natCast, e2]; omega))
      · intro c1; (try simp only [Int.toNat_natCast] at c1); first | omega | (exfalso; omega) | exact ⟨by omega, by omega⟩ | (first | exact o1 | (simp only [Int.toNat_natCast, e2]; omega))
      · intro c1; (try simp only [Int.toNat_natCast] at c1); first | omega | (exfalso; omega) | exact ⟨by omega, by omega⟩ | (first | exact o1 | (simp only [Int.toNat_natCast, e2]; omega))
      · intro c1; (try simp only [Int.toNat_natCast] at c1); first | omega | (exfalso; omega) | exact ⟨by omega, by omega⟩ | (first | exact o1 | (simp only [Int.toNat_natCast, e2]; omega))
      · intro c1; (try simp only [Int.toNat_natCast] at c1); first | omega | (exfalso; omega) | exact ⟨by omega, by omega⟩ | (first | exact o1 | (simp only [Int.toNat_natCast, e2]; omega))
      · intro c1; (try simp only [Int.toNat_natCast] at c1); first | omega | (exfalso; omega) | exact ⟨by omega, by omega⟩ | (first | exact o1 | (simp only [Int.toNat_natCast, e2]; omega))
      · intro c1; (try simp only [Int.toNat_natCast] at c1); first | omega | (exfalso; omega) | exact ⟨by omega, by omega⟩ | (first | exact o1 | (simp only [Int.toNat_natCast, e2]; omega))
      · intro c1; (try simp only [Int.toNat_natCast] at c1); first | omega | (exfalso; omega) | exact ⟨by omega, by omega⟩ | (first | exact o1 | (simp only [Int.toNat_natCast, e2]; omega))
      · intro c1; (try simp only [Int.toNat_natCast] at c1); first | (exfalso; omega) | (skip)
    | succ d ih =>
      intro i s e hi kk
      have r1 := rBend_rg o1 (r := i) (show (i : Int) < h 104 1 by omega)
      have e2 : ((i : Int) - 1).toNat = i - 1 := by omega
      have a1 := o1.2.1 i (show (i : Int) < h 104 1 by omega)
      have a2 := o1.2.1 (i - 1) (show ((i - 1 : Nat) : Int) < h 104 1 by omega)
      have a3 : rmM h 0 0 0 = h 104 0 := rfl
      refine g_M_chalk_9 ?_ ?_ ?_ ?_ ?_ ?_ ?_ ?_ ?_ ?_
      · intro c1; (try simp only [Int.toNat_natCast] at c1); first | (exfalso; omega) | (skip)
      · intro c1; (try simp only [Int.toNat_natCast] at c1); first | omega | (exfalso; omega) | exact ⟨by omega, by omega⟩ | (first | exact o1 | (simp only [Int.toNat_natCast, e2]; omega))
      · intro c1; (try simp only [Int.toNat_natCast] at c1); first | omega | (exfalso; omega) | exact ⟨by omega, by omega⟩ | (first | exact o1 | (simp only [Int.toNat_natCast, e2]; omega))
      · intro c1; (try simp only [Int.toNat_natCast] at c1); first | omega | (exfalso; omega) | exact ⟨by omega, by omega⟩ | (first | exact o1 | (simp only [Int.toNat_natCast, e2]; omega))
      · intro c1; (try simp only [Int.toNat_natCast] at c1); first | omega | (exfalso; omega) | exact ⟨by omega, by omega⟩ | (first | exact o1 | (simp only [Int.toNat_natCast, e2]; omega))
      · intro c1; (try simp only [Int.toNat_natCast] at c1); first | omega | (exfalso; omega) | exact ⟨by omega, by omega⟩ | (first | exact o1 | (simp only [Int.toNat_natCast, e2]; omega))
      · intro c1; (try simp only [Int.toNat_natCast] at c1); first | omega | (exfalso; omega) | exact ⟨by omega, by omega⟩ | (first | exact o1 | (simp only [Int.toNat_natCast, e2]; omega))
      · intro c1; (try simp only [Int.toNat_natCast] at c1); first | omega | (exfalso; omega) | exact ⟨by omega, by omega⟩ | (first | exact o1 | (simp only [Int.toNat_natCast, e2]; omega))
      · intro c1; (try simp only [Int.toNat_natCast] at c1); first | omega | (exfalso; omega) | exact ⟨by omega, by omega⟩ | (first | exact o1 | (simp only [Int.toNat_natCast, e2]; omega))
      · intro c1; (try simp only [Int.toNat_natCast] at c1); first | (exfalso; omega) | (refine ih (i + 1) _ (by omega) (by simp only [Int.toNat_natCast, e2]; omega) (kv kk ?_); simp only [sumF, Int.toNat_natCast, rBend, e2] <;> omega)
  refine key (h 104 1 - 1).toNat 1 _ (by omega) (by omega) ?_
  exact k

theorem A_chalk {n : Nat} {h : HP} (hR : Rel n h) : Agree n h i_C_chalk i_M_chalk [vr 0] [vr 103, vr 9999, vr 9999] := by
  have s := hR.2.2.2.2.2.1
  have hW := s.2.1
  rw [s.1] at hW
  refine ag_q (v := vi (qChalk (rmC h 10) ).1) (st := (qChalk (rmC h 10) ).2) hR (fun Q k => c_C_chalk s.2.1 k) (fun Q k => c_M_chalk (by rw [rm_q]; exact hW) ?_)
  rw [rm_q, ← s.1]
  exact k

def qBulge (R : HP) : Int × Int := (rBulge R, 0)

theorem g_C_bulges_0 {Q : PQ} {h : HP}  
    (o1 : WR (rmC h 10))
    (k2 : Q (some (vi (rBulge (rmC h 10)))) (hs h 0 0 0)) :
    Wp true i_C_bulges 0 [vr 0] [] h Q := by
  refine r_aload_n (v := 0) f_165_0 rfl (by decide) ?_
  refine r_aload_n (v := 0) f_165_1 rfl (by decide) ?_
  refine r_getr (q := 10) f_165_2 rfl (by decide) (Or.inl rfl) rfl ?_
  refine r_callv (as := [vr 10]) (st' := [vr 0]) (ls0 := [vr 10, vr 9999, vr 9999]) f_165_5 (by decide) rfl rfl (Nat.le_of_ble_eq_true rfl) (Nat.le_of_ble_eq_true rfl) ⟨_, _, rfl, rfl⟩ rfl ?_
  refine c_Fl_bulgingRows isF_10 o1 ?_
  show Wp true i_C_bulges 8 [vr 0] [vi (rBulge (rmC h 10)), vr 0] h Q
  refine r_callv (as := [vr 0, vi (rBulge (rmC h 10))]) (st' := []) (ls0 := [vr 0, vi (rBulge (rmC h 10))]) f_165_8 (by decide) rfl rfl (Nat.le_of_ble_eq_true rfl) (Nat.le_of_ble_eq_true rfl) ⟨_, _, rfl, rfl⟩ rfl ?_
  refine c_C_answer  ?_
  show Wp true i_C_bulges 11 [vr 0] [vi (rBulge (rmC h 10))] (hs h 0 0 0) Q
  exact r_reti f_165_11 rfl k2

theorem c_C_bulges {Q : PQ} {h : HP} (o1 : WR (rmC h 10)) (k : Q (some (vi ((qBulge (rmC h 10)).1))) (hs h 0 0 ((qBulge (rmC h 10)).2))) :
    Wp true i_C_bulges 0 [vr 0] [] h Q := by
  have w := WC_0 o1
  refine g_C_bulges_0 ?_ ?_
  · first | omega | (exfalso; omega) | exact ⟨by omega, by omega⟩ | (first | exact o1 | exact c1 | exact rStrong_lo _ _ | exact rLeast_lo _ _ | exact rWant_lo _ _)
  · exact k

theorem g_M_bulges_0 {Q : PQ} {h : HP}  
    (k1 : Wp true i_M_bulges 4 [vr 103, vi 0, vi 1] [] h Q) :
    Wp true i_M_bulges 0 [vr 103, vr 9999, vr 9999] [] h Q := by
  refine r_iconst f_297_0 (by decide) ?_
  refine r_istore_n (ls' := [vr 103, vi 0, vr 9999]) f_297_1 (Nat.le_of_ble_eq_true rfl) rfl ?_
  refine r_iconst f_297_2 (by decide) ?_
  refine r_istore_n (ls' := [vr 103, vi 0, vi 1]) f_297_3 (Nat.le_of_ble_eq_true rfl) rfl ?_
  exact k1

theorem g_M_bulges_4 {Q : PQ} {h : HP} {x1 : Int} {x2 : Int} 
    (k1 : h 104 1 ≤ x2 → Q (some (vi x1)) (hs h 103 2 0))
    (o2 : ¬ h 104 1 ≤ x2 → WR (rmM h 0))
    (o3 : ¬ h 104 1 ≤ x2 → 0 ≤ x2 ∧ x2 < h 104 1)
    (o4 : ¬ h 104 1 ≤ x2 → -2147483648 ≤ x2 - 1 ∧ x2 - 1 ≤ 2147483647)
    (o5 : ¬ h 104 1 ≤ x2 → 0 ≤ (x2 - 1) ∧ (x2 - 1) < h 104 1)
    (o6 : ¬ h 104 1 ≤ x2 → -2147483648 ≤ (rmM h 0 1 x2.toNat) - (rmM h 0 1 (x2 - 1).toNat) ∧ (rmM h 0 1 x2.toNat) - (rmM h 0 1 (x2 - 1).toNat) ≤ 2147483647)
    (o7 : ¬ h 104 1 ≤ x2 → -2147483647 ≤ ((rmM h 0 1 x2.toNat) - (rmM h 0 1 (x2 - 1).toNat)) ∧ ((rmM h 0 1 x2.toNat) - (rmM h 0 1 (x2 - 1).toNat)) ≤ 2147483647)
    (o8 : ¬ h 104 1 ≤ x2 → (((rmM h 0 1 x2.toNat) - (rmM h 0 1 (x2 - 1).toNat)).natAbs : Int) ≤ h 104 3 → -2147483648 ≤ x1 + 0 ∧ x1 + 0 ≤ 2147483647)
    (o9 : ¬ h 104 1 ≤ x2 → (((rmM h 0 1 x2.toNat) - (rmM h 0 1 (x2 - 1).toNat)).natAbs : Int) ≤ h 104 3 → -2147483648 ≤ x2 + 1 ∧ x2 + 1 ≤ 2147483647)
    (k10 : ¬ h 104 1 ≤ x2 → (((rmM h 0 1 x2.toNat) - (rmM h 0 1 (x2 - 1).toNat)).natAbs : Int) ≤ h 104 3 → Wp true i_M_bulges 4 [vr 103, vi (x1 + 0), vi (x2 + 1)] [] h Q)
    (o11 : ¬ h 104 1 ≤ x2 → ¬ (((rmM h 0 1 x2.toNat) - (rmM h 0 1 (x2 - 1).toNat)).natAbs : Int) ≤ h 104 3 → -2147483648 ≤ x1 + 1 ∧ x1 + 1 ≤ 2147483647)
    (o12 : ¬ h 104 1 ≤ x2 → ¬ (((rmM h 0 1 x2.toNat) - (rmM h 0 1 (x2 - 1).toNat)).natAbs : Int) ≤ h 104 3 → -2147483648 ≤ x2 + 1 ∧ x2 + 1 ≤ 2147483647)
    (k13 : ¬ h 104 1 ≤ x2 → ¬ (((rmM h 0 1 x2.toNat) - (rmM h 0 1 (x2 - 1).toNat)).natAbs : Int) ≤ h 104 3 → Wp true i_M_bulges 4 [vr 103, vi (x1 + 1), vi (x2 + 1)] [] h Q) :
    Wp true i_M_bulges 4 [vr 103, vi x1, vi x2] [] h Q := by
  refine r_iload_n (v := x2) f_297_4 rfl ?_
  refine r_aload_n (v := 103) f_297_5 rfl (by decide) ?_
  refine r_getr (q := 104) f_297_6 rfl (by decide) (Or.inl rfl) rfl ?_
  refine r_iconst f_297_9 (by decide) ?_
  refine r_iaload (n := 3000) (v := h 104 1) f_297_10 ⟨rfl, rfl⟩ (by decide) rfl ?_
  refine r_br2 (t := 53) f_297_11 rfl cb_ge (fun c1 => ?_) (fun c1 => ?_)
  · refine r_aload_n (v := 103) f_297_53 rfl (by decide) ?_
    refine r_iload_n (v := x1) f_297_54 rfl ?_
    refine r_callv (as := [vr 103, vi x1]) (st' := []) (ls0 := [vr 103, vi x1]) f_297_55 (by decide) rfl rfl (Nat.le_of_ble_eq_true rfl) (Nat.le_of_ble_eq_true rfl) ⟨_, _, rfl, rfl⟩ rfl ?_
    refine c_M_gives  ?_
    show Wp true i_M_bulges 58 [vr 103, vi x1, vi x2] [vi x1] (hs h 103 2 0) Q
    exact r_reti f_297_58 rfl (k1 c1)
  · refine r_iload_n (v := x1) f_297_14 rfl ?_
    refine r_aload_n (v := 103) f_297_15 rfl (by decide) ?_
    refine r_iload_n (v := x2) f_297_16 rfl ?_
    refine r_callv (as := [vr 103, vi x2]) (st' := [vi x1]) (ls0 := [vr 103, vi x2]) f_297_17 (by decide) rfl rfl (Nat.le_of_ble_eq_true rfl) (Nat.le_of_ble_eq_true rfl) ⟨_, _, rfl, rfl⟩ rfl ?_
    refine c_M_lineOf (o2 c1) (o3 c1) ?_
    show Wp true i_M_bulges 20 [vr 103, vi x1, vi x2] [vi (rmM h 0 1 x2.toNat), vi x1] h Q
    refine r_aload_n (v := 103) f_297_20 rfl (by decide) ?_
    refine r_iload_n (v := x2) f_297_21 rfl ?_
    refine r_iconst f_297_22 (by decide) ?_
    refine r_isub (u := x2 - 1) f_297_23 rfl (o4 c1) ?_
    refine r_callv (as := [vr 103, vi (x2 - 1)]) (st' := [vi (rmM h 0 1 x2.toNat), vi x1]) (ls0 := [vr 103, vi (x2 - 1)]) f_297_24 (by decide) rfl rfl (Nat.le_of_ble_eq_true rfl) (Nat.le_of_ble_eq_true rfl) ⟨_, _, rfl, rfl⟩ rfl ?_
    refine c_M_lineOf (o2 c1) (o5 c1) ?_
    show Wp true i_M_bulges 27 [vr 103, vi x1, vi x2] [vi (rmM h 0 1 (x2 - 1).toNat), vi (rmM h 0 1 x2.toNat), vi x1] h Q
    refine r_isub (u := (rmM h 0 1 x2.toNat) - (rmM h 0 1 (x2 - 1).toNat)) f_297_27 rfl (o6 c1) ?_
    refine r_calls (as := [vi ((rmM h 0 1 x2.toNat) - (rmM h 0 1 (x2 - 1).toNat))]) (st' := [vi x1]) (ls0 := [vi ((rmM h 0 1 x2.toNat) - (rmM h 0 1 (x2 - 1).toNat))]) f_297_28 (by decide) (by decide) rfl rfl (Nat.le_of_ble_eq_true rfl) (Nat.le_of_ble_eq_true rfl) rfl ?_
    refine c_Ma_abs (o7 c1) ?_
    show Wp true i_M_bulges 31 [vr 103, vi x1, vi x2] [vi (((rmM h 0 1 x2.toNat) - (rmM h 0 1 (x2 - 1).toNat)).natAbs : Int), vi x1] h Q
    refine r_aload_n (v := 103) f_297_31 rfl (by decide) ?_
    refine r_getr (q := 104) f_297_32 rfl (by decide) (Or.inl rfl) rfl ?_
    refine r_iconst f_297_35 (by decide) ?_
    refine r_iaload (n := 3000) (v := h 104 3) f_297_36 ⟨rfl, rfl⟩ (by decide) rfl ?_
    refine r_br2 (t := 44) f_297_37 rfl cb_le (fun c2 => ?_) (fun c2 => ?_)
    · refine r_iconst f_297_44 (by decide) ?_
      refine r_iadd (u := x1 + 0) f_297_45 rfl (o8 c1 c2) ?_
      refine r_istore_n (ls' := [vr 103, vi (x1 + 0), vi x2]) f_297_46 (Nat.le_of_ble_eq_true rfl) rfl ?_
      refine r_iinc (v := x2) (w := x2 + 1) (ls' := [vr 103, vi (x1 + 0), vi (x2 + 1)]) f_297_47 rfl rfl (o9 c1 c2) rfl ?_
      refine r_goto (t := 4) f_297_50 rfl ?_
      exact (k10 c1 c2)
    · refine r_iconst f_297_40 (by decide) ?_
      refine r_goto (t := 45) f_297_41 rfl ?_
      refine r_iadd (u := x1 + 1) f_297_45 rfl (o11 c1 c2) ?_
      refine r_istore_n (ls' := [vr 103, vi (x1 + 1), vi x2]) f_297_46 (Nat.le_of_ble_eq_true rfl) rfl ?_
      refine r_iinc (v := x2) (w := x2 + 1) (ls' := [vr 103, vi (x1 + 1), vi (x2 + 1)]) f_297_47 rfl rfl (o12 c1 c2) rfl ?_
      refine r_goto (t := 4) f_297_50 rfl ?_
      exact (k13 c1 c2)

theorem c_M_bulges {Q : PQ} {h : HP} (o1 : WR (rmM h 0)) (k : Q (some (vi ((qBulge (rmM h 0)).1))) (hs h 103 2 ((qBulge (rmM h 0)).2))) :
    Wp true i_M_bulges 0 [vr 103, vr 9999, vr 9999] [] h Q := by
  have w := WM_0 o1
  refine g_M_bulges_0 ?_
  have key : ∀ (d i : Nat) (s : Int), ((i : Int) + d = h 104 1 ∨ (d = 0 ∧ h 104 1 ≤ i)) → (1 ≤ i ∧ 0 ≤ s ∧ s ≤ i) → Q (some (vi (s + sumF (fun r => if rBend (rmM h 0) r ≤ rmM h 0 0 2 then 0 else 1) d i))) (hs h 103 2 0) → Wp true i_M_bulges 4 [vr 103, vi s, vi (i : Int)] [] h Q := by
    intro d
    induction d with
    | zero =>
      intro i s e hi kk
      simp only [fld, sumF, Int.add_zero] at kk
      refine g_M_bulges_4 ?_ ?_ ?_ ?_ ?_ ?_ ?_ ?_ ?_ ?_ ?_ ?_ ?_
      · intro c1; (try simp only [Int.toNat_natCast] at c1); first | (exfalso; omega) | (exact kk)
      · intro c1; (try simp only [Int.toNat_natCast] at c1); first | omega | (exfalso; omega) | exact ⟨by omega, by omega⟩ | (first | exact o1 | (simp only [Int.toNat_natCast, e2]; omega))
      · intro c1; (try simp only [Int.toNat_natCast] at c1); first | omega | (exfalso; omega) | exact ⟨by omega, by omega⟩ | (first | exact o1 | (simp only [Int.toNat_natCast, e2]; omega))
      · intro c1; (try simp only [Int.toNat_natCast] at c1); first | omega | (exfalso; omega) | exact ⟨by omega, by omega⟩ | (first | exact o1 | (simp only [Int.toNat_natCast, e2]; omega))
      · intro c1; (try simp only [Int.toNat_natCast] at c1); first | omega | (exfalso; omega) | exact ⟨by omega, by omega⟩ | (first | exact o1 | (simp only [Int.toNat_natCast, e2]; omega))
      · intro c1; (try simp only [Int.toNat_natCast] at c1); first | omega | (exfalso; omega) | exact ⟨by omega, by omega⟩ | (first | exact o1 | (simp only [Int.toNat_natCast, e2]; omega))
      · intro c1; (try simp only [Int.toNat_natCast] at c1); first | omega | (exfalso; omega) | exact ⟨by omega, by omega⟩ | (first | exact o1 | (simp only [Int.toNat_natCast, e2]; omega))
      · intro c1 c2; (try simp only [Int.toNat_natCast] at c1 c2); first | omega | (exfalso; omega) | exact ⟨by omega, by omega⟩ | (first | exact o1 | (simp only [Int.toNat_natCast, e2]; omega))
      · intro c1 c2; (try simp only [Int.toNat_natCast] at c1 c2); first | omega | (exfalso; omega) | exact ⟨by omega, by omega⟩ | (first | exact o1 | (simp only [Int.toNat_natCast, e2]; omega))
      · intro c1 c2; (try simp only [Int.toNat_natCast] at c1 c2); first | (exfalso; omega) | (skip)
      · intro c1 c2; (try simp only [Int.toNat_natCast] at c1 c2); first | omega | (exfalso; omega) | exact ⟨by omega, by omega⟩ | (first | exact o1 | (simp only [Int.toNat_natCast, e2]; omega))
      · intro c1 c2; (try simp only [Int.toNat_natCast] at c1 c2); first | omega | (exfalso; omega) | exact ⟨by omega, by omega⟩ | (first | exact o1 | (simp only [Int.toNat_natCast, e2]; omega))
      · intro c1 c2; (try simp only [Int.toNat_natCast] at c1 c2); first | (exfalso; omega) | (skip)
    | succ d ih =>
      intro i s e hi kk
      have e2 : ((i : Int) - 1).toNat = i - 1 := by omega
      have a1 := o1.2.1 i (show (i : Int) < h 104 1 by omega)
      have a2 := o1.2.1 (i - 1) (show ((i - 1 : Nat) : Int) < h 104 1 by omega)
      have a3 : rmM h 0 0 0 = h 104 0 := rfl
      refine g_M_bulges_4 ?_ ?_ ?_ ?_ ?_ ?_ ?_ ?_ ?_ ?_ ?_ ?_ ?_
      · intro c1; (try simp only [Int.toNat_natCast] at c1); first | (exfalso; omega) | (skip)
      · intro c1; (try simp only [Int.toNat_natCast] at c1); first | omega | (exfalso; omega) | exact ⟨by omega, by omega⟩ | (first | exact o1 | (simp only [Int.toNat_natCast, e2]; omega))
      · intro c1; (try simp only [Int.toNat_natCast] at c1); first | omega | (exfalso; omega) | exact ⟨by omega, by omega⟩ | (first | exact o1 | (simp only [Int.toNat_natCast, e2]; omega))
      · intro c1; (try simp only [Int.toNat_natCast] at c1); first | omega | (exfalso; omega) | exact ⟨by omega, by omega⟩ | (first | exact o1 | (simp only [Int.toNat_natCast, e2]; omega))
      · intro c1; (try simp only [Int.toNat_natCast] at c1); first | omega | (exfalso; omega) | exact ⟨by omega, by omega⟩ | (first | exact o1 | (simp only [Int.toNat_natCast, e2]; omega))
      · intro c1; (try simp only [Int.toNat_natCast] at c1); first | omega | (exfalso; omega) | exact ⟨by omega, by omega⟩ | (first | exact o1 | (simp only [Int.toNat_natCast, e2]; omega))
      · intro c1; (try simp only [Int.toNat_natCast] at c1); first | omega | (exfalso; omega) | exact ⟨by omega, by omega⟩ | (first | exact o1 | (simp only [Int.toNat_natCast, e2]; omega))
      · intro c1 c2; (try simp only [Int.toNat_natCast] at c1 c2); first | omega | (exfalso; omega) | exact ⟨by omega, by omega⟩ | (first | exact o1 | (simp only [Int.toNat_natCast, e2]; omega))
      · intro c1 c2; (try simp only [Int.toNat_natCast] at c1 c2); first | omega | (exfalso; omega) | exact ⟨by omega, by omega⟩ | (first | exact o1 | (simp only [Int.toNat_natCast, e2]; omega))
      · intro c1 c2; (try simp only [Int.toNat_natCast] at c1 c2); first | (exfalso; omega) | (rw [e2] at c2; refine ih (i + 1) _ (by omega) (by (try simp only [Int.toNat_natCast]); omega) (kv kk ?_); simp only [sumF, Int.toNat_natCast, (mR_0 h).2.2.1, rBend, e2, if_pos c2] <;> omega)
      · intro c1 c2; (try simp only [Int.toNat_natCast] at c1 c2); first | omega | (exfalso; omega) | exact ⟨by omega, by omega⟩ | (first | exact o1 | (simp only [Int.toNat_natCast, e2]; omega))
      · intro c1 c2; (try simp only [Int.toNat_natCast] at c1 c2); first | omega | (exfalso; omega) | exact ⟨by omega, by omega⟩ | (first | exact o1 | (simp only [Int.toNat_natCast, e2]; omega))
      · intro c1 c2; (try simp only [Int.toNat_natCast] at c1 c2); first | (exfalso; omega) | (rw [e2] at c2; refine ih (i + 1) _ (by omega) (by (try simp only [Int.toNat_natCast]); omega) (kv kk ?_); simp only [sumF, Int.toNat_natCast, (mR_0 h).2.2.1, rBend, e2, if_neg c2] <;> omega)
  refine key (h 104 1 - 1).toNat 1 0 (by omega) (by omega) ?_
  rw [Int.zero_add]; exact k

theorem A_bulges {n : Nat} {h : HP} (hR : Rel n h) : Agree n h i_C_bulges i_M_bulges [vr 0] [vr 103, vr 9999, vr 9999] := by
  have s := hR.2.2.2.2.2.1
  have hW := s.2.1
  rw [s.1] at hW
  refine ag_q (v := vi (qBulge (rmC h 10) ).1) (st := (qBulge (rmC h 10) ).2) hR (fun Q k => c_C_bulges s.2.1 k) (fun Q k => c_M_bulges (by rw [rm_q]; exact hW) ?_)
  rw [rm_q, ← s.1]
  exact k

def qThings (R : HP) (x : Int) : Int × Int := if x = 0 ∨ x = 1 then (rSet R x, 0) else (-1, 1)

theorem g_C_things_0 {Q : PQ} {h : HP} {x1 : Int} 
    (k1 : ¬ (x1 = 0 ∨ x1 = 1) → Q (some (vi (-1))) (hs h 0 0 1))
    (o2 : (x1 = 0 ∨ x1 = 1) → WR (rmC h 10))
    (k3 : (x1 = 0 ∨ x1 = 1) → Q (some (vi (rSet (rmC h 10) x1))) (hs h 0 0 0)) :
    Wp true i_C_things 0 [vr 0, vi x1] [] h Q := by
  refine r_iload_n (v := x1) f_160_0 rfl ?_
  refine r_calls (as := [vi x1]) (st' := []) (ls0 := [vi x1]) f_160_1 (by decide) (by decide) rfl rfl (Nat.le_of_ble_eq_true rfl) (Nat.le_of_ble_eq_true rfl) rfl ?_
  refine c_C_isLand  ?_
  show Wp true i_C_things 4 [vr 0, vi x1] [vi (bi (x1 = 0 ∨ x1 = 1))] h Q
  refine r_br (t := 22) f_160_4 rfl cb_bf (fun c1 => ?_) (fun c1 => ?_)
  · refine r_aload_n (v := 0) f_160_22 rfl (by decide) ?_
    refine r_iconst f_160_23 (by decide) ?_
    refine r_callv (as := [vr 0, vi 1]) (st' := []) (ls0 := [vr 0, vi 1]) f_160_24 (by decide) rfl rfl (Nat.le_of_ble_eq_true rfl) (Nat.le_of_ble_eq_true rfl) ⟨_, _, rfl, rfl⟩ rfl ?_
    refine c_C_refuse  ?_
    show Wp true i_C_things 27 [vr 0, vi x1] [vi (-1)] (hs h 0 0 1) Q
    exact r_reti f_160_27 rfl (k1 c1)
  · have c1 := Decidable.not_not.mp c1
    refine r_aload_n (v := 0) f_160_7 rfl (by decide) ?_
    refine r_aload_n (v := 0) f_160_8 rfl (by decide) ?_
    refine r_getr (q := 10) f_160_9 rfl (by decide) (Or.inl rfl) rfl ?_
    refine r_iload_n (v := x1) f_160_12 rfl ?_
    refine r_callv (as := [vr 10, vi x1]) (st' := [vr 0]) (ls0 := [vr 10, vi x1, vr 9999, vr 9999]) f_160_13 (by decide) rfl rfl (Nat.le_of_ble_eq_true rfl) (Nat.le_of_ble_eq_true rfl) ⟨_, _, rfl, rfl⟩ rfl ?_
    refine c_Fl_thingsOf isF_10 (o2 c1) ?_
    show Wp true i_C_things 16 [vr 0, vi x1] [vi (rSet (rmC h 10) x1), vr 0] h Q
    refine r_callv (as := [vr 0, vi (rSet (rmC h 10) x1)]) (st' := []) (ls0 := [vr 0, vi (rSet (rmC h 10) x1)]) f_160_16 (by decide) rfl rfl (Nat.le_of_ble_eq_true rfl) (Nat.le_of_ble_eq_true rfl) ⟨_, _, rfl, rfl⟩ rfl ?_
    refine c_C_answer  ?_
    show Wp true i_C_things 19 [vr 0, vi x1] [vi (rSet (rmC h 10) x1)] (hs h 0 0 0) Q
    refine r_goto (t := 27) f_160_19 rfl ?_
    exact r_reti f_160_27 rfl (k3 c1)

theorem c_C_things {Q : PQ} {h : HP} {x1 : Int} (o1 : WR (rmC h 10)) (k : Q (some (vi ((qThings (rmC h 10) x1).1))) (hs h 0 0 ((qThings (rmC h 10) x1).2))) :
    Wp true i_C_things 0 [vr 0, vi x1] [] h Q := by
  have w := WC_0 o1
  refine g_C_things_0 ?_ ?_ ?_
  · intro c1; (try simp only [Int.toNat_natCast] at c1); first | (exfalso; omega) | (exact kq k (if_neg c1))
  · intro c1; (try simp only [Int.toNat_natCast] at c1); first | omega | (exfalso; omega) | exact ⟨by omega, by omega⟩ | (first | exact o1 | exact c1 | exact rStrong_lo _ _ | exact rLeast_lo _ _ | exact rWant_lo _ _)
  · intro c1; (try simp only [Int.toNat_natCast] at c1); first | (exfalso; omega) | (exact kq k (if_pos c1))

theorem g_M_things_0 {Q : PQ} {h : HP} {x1 : Int} 
    (k1 : (x1 = 0 ∨ x1 = 1) → Wp true i_M_things 17 [vr 103, vi x1, vi 0, vi 0] [] h Q)
    (k2 : ¬ (x1 = 0 ∨ x1 = 1) → Q (some (vi (-1))) (hs h 103 2 1)) :
    Wp true i_M_things 0 [vr 103, vi x1, vr 9999, vr 9999] [] h Q := by
  refine r_iload_n (v := x1) f_292_0 rfl ?_
  refine r_calls (as := [vi x1]) (st' := []) (ls0 := [vi x1]) f_292_1 (by decide) (by decide) rfl rfl (Nat.le_of_ble_eq_true rfl) (Nat.le_of_ble_eq_true rfl) rfl ?_
  refine c_M_isLand  ?_
  show Wp true i_M_things 4 [vr 103, vi x1, vr 9999, vr 9999] [vi (bi (x1 = 0 ∨ x1 = 1))] h Q
  refine r_br (t := 13) f_292_4 rfl cb_bt (fun c1 => ?_) (fun c1 => ?_)
  · refine r_iconst f_292_13 (by decide) ?_
    refine r_istore_n (ls' := [vr 103, vi x1, vi 0, vr 9999]) f_292_14 (Nat.le_of_ble_eq_true rfl) rfl ?_
    refine r_iconst f_292_15 (by decide) ?_
    refine r_istore_n (ls' := [vr 103, vi x1, vi 0, vi 0]) f_292_16 (Nat.le_of_ble_eq_true rfl) rfl ?_
    exact (k1 c1)
  · refine r_aload_n (v := 103) f_292_7 rfl (by decide) ?_
    refine r_iconst f_292_8 (by decide) ?_
    refine r_callv (as := [vr 103, vi 1]) (st' := []) (ls0 := [vr 103, vi 1]) f_292_9 (by decide) rfl rfl (Nat.le_of_ble_eq_true rfl) (Nat.le_of_ble_eq_true rfl) ⟨_, _, rfl, rfl⟩ rfl ?_
    refine c_M_refuse  ?_
    show Wp true i_M_things 12 [vr 103, vi x1, vr 9999, vr 9999] [vi (-1)] (hs h 103 2 1) Q
    exact r_reti f_292_12 rfl (k2 c1)

theorem g_M_things_17 {Q : PQ} {h : HP} {x1 : Int} {x2 : Int} {x3 : Int} 
    (k1 : h 104 2 ≤ x3 → Q (some (vi x2)) (hs h 103 2 0))
    (o2 : ¬ h 104 2 ≤ x3 → WR (rmM h 0))
    (o3 : ¬ h 104 2 ≤ x3 → 0 ≤ x3 ∧ x3 < h 104 2)
    (o4 : ¬ h 104 2 ≤ x3 → ¬ rHo (rmM h 0) x3.toNat = x1 → -2147483648 ≤ x3 + 1 ∧ x3 + 1 ≤ 2147483647)
    (k5 : ¬ h 104 2 ≤ x3 → ¬ rHo (rmM h 0) x3.toNat = x1 → Wp true i_M_things 17 [vr 103, vi x1, vi (o_or x2 0), vi (x3 + 1)] [] h Q)
    (o6 : ¬ h 104 2 ≤ x3 → rHo (rmM h 0) x3.toNat = x1 → -2147483648 ≤ x3 + 1 ∧ x3 + 1 ≤ 2147483647)
    (k7 : ¬ h 104 2 ≤ x3 → rHo (rmM h 0) x3.toNat = x1 → Wp true i_M_things 17 [vr 103, vi x1, vi (o_or x2 (o_shl 1 x3)), vi (x3 + 1)] [] h Q) :
    Wp true i_M_things 17 [vr 103, vi x1, vi x2, vi x3] [] h Q := by
  refine r_iload_n (v := x3) f_292_17 rfl ?_
  refine r_aload_n (v := 103) f_292_18 rfl (by decide) ?_
  refine r_getr (q := 104) f_292_19 rfl (by decide) (Or.inl rfl) rfl ?_
  refine r_iconst f_292_22 (by decide) ?_
  refine r_iaload (n := 3000) (v := h 104 2) f_292_23 ⟨rfl, rfl⟩ (by decide) rfl ?_
  refine r_br2 (t := 52) f_292_24 rfl cb_ge (fun c1 => ?_) (fun c1 => ?_)
  · refine r_aload_n (v := 103) f_292_52 rfl (by decide) ?_
    refine r_iload_n (v := x2) f_292_53 rfl ?_
    refine r_callv (as := [vr 103, vi x2]) (st' := []) (ls0 := [vr 103, vi x2]) f_292_54 (by decide) rfl rfl (Nat.le_of_ble_eq_true rfl) (Nat.le_of_ble_eq_true rfl) ⟨_, _, rfl, rfl⟩ rfl ?_
    refine c_M_gives  ?_
    show Wp true i_M_things 57 [vr 103, vi x1, vi x2, vi x3] [vi x2] (hs h 103 2 0) Q
    exact r_reti f_292_57 rfl (k1 c1)
  · refine r_iload_n (v := x2) f_292_27 rfl ?_
    refine r_aload_n (v := 103) f_292_28 rfl (by decide) ?_
    refine r_iload_n (v := x3) f_292_29 rfl ?_
    refine r_callv (as := [vr 103, vi x3]) (st' := [vi x2]) (ls0 := [vr 103, vi x3]) f_292_30 (by decide) rfl rfl (Nat.le_of_ble_eq_true rfl) (Nat.le_of_ble_eq_true rfl) ⟨_, _, rfl, rfl⟩ rfl ?_
    refine c_M_holderOf (o2 c1) (o3 c1) ?_
    show Wp true i_M_things 33 [vr 103, vi x1, vi x2, vi x3] [vi (rHo (rmM h 0) x3.toNat), vi x2] h Q
    refine r_iload_n (v := x1) f_292_33 rfl ?_
    refine r_br2 (t := 43) f_292_34 rfl cb_ne (fun c2 => ?_) (fun c2 => ?_)
    · refine r_iconst f_292_43 (by decide) ?_
      refine r_ior f_292_44 ?_
      refine r_istore_n (ls' := [vr 103, vi x1, vi (o_or x2 0), vi x3]) f_292_45 (Nat.le_of_ble_eq_true rfl) rfl ?_
      refine r_iinc (v := x3) (w := x3 + 1) (ls' := [vr 103, vi x1, vi (o_or x2 0), vi (x3 + 1)]) f_292_46 rfl rfl (o4 c1 c2) rfl ?_
      refine r_goto (t := 17) f_292_49 rfl ?_
      exact (k5 c1 c2)
    · have c2 := Decidable.not_not.mp c2
      refine r_iconst f_292_37 (by decide) ?_
      refine r_iload_n (v := x3) f_292_38 rfl ?_
      refine r_ishl f_292_39 ?_
      refine r_goto (t := 44) f_292_40 rfl ?_
      refine r_ior f_292_44 ?_
      refine r_istore_n (ls' := [vr 103, vi x1, vi (o_or x2 (o_shl 1 x3)), vi x3]) f_292_45 (Nat.le_of_ble_eq_true rfl) rfl ?_
      refine r_iinc (v := x3) (w := x3 + 1) (ls' := [vr 103, vi x1, vi (o_or x2 (o_shl 1 x3)), vi (x3 + 1)]) f_292_46 rfl rfl (o6 c1 c2) rfl ?_
      refine r_goto (t := 17) f_292_49 rfl ?_
      exact (k7 c1 c2)

theorem c_M_things {Q : PQ} {h : HP} {x1 : Int} (o1 : WR (rmM h 0)) (k : Q (some (vi ((qThings (rmM h 0) x1).1))) (hs h 103 2 ((qThings (rmM h 0) x1).2))) :
    Wp true i_M_things 0 [vr 103, vi x1, vr 9999, vr 9999] [] h Q := by
  have w := WM_0 o1
  have hk : (x1 = 0 ∨ x1 = 1) → Wp true i_M_things 17 [vr 103, vi x1, vi 0, vi 0] [] h Q := by
    intro c1
    unfold qThings at k
    rw [if_pos c1] at k
    have key : ∀ (d i : Nat) (s : Int), ((i : Int) + d = h 104 2 ∨ (d = 0 ∧ h 104 2 ≤ i)) → (in32 s) → Q (some (vi (fld (fun i s => if rHo (rmM h 0) i = x1 then o_or s (o_shl 1 i) else s) d i s))) (hs h 103 2 (0)) → Wp true i_M_things 17 [vr 103, vi x1, vi s, vi (i : Int)] [] h Q := by
      intro d
      induction d with
      | zero =>
        intro i s e hi kk
        simp only [fld, sumF, Int.add_zero] at kk
        refine g_M_things_17 ?_ ?_ ?_ ?_ ?_ ?_ ?_
        · intro c1; (try simp only [Int.toNat_natCast] at c1); first | (exfalso; omega) | (exact kk)
        · intro c1; (try simp only [Int.toNat_natCast] at c1); first | omega | (exfalso; omega) | exact ⟨by omega, by omega⟩ | (first | exact o1 | assumption)
        · intro c1; (try simp only [Int.toNat_natCast] at c1); first | omega | (exfalso; omega) | exact ⟨by omega, by omega⟩ | (first | exact o1 | assumption)
        · intro c1 c2; (try simp only [Int.toNat_natCast] at c1 c2); first | omega | (exfalso; omega) | exact ⟨by omega, by omega⟩ | (first | exact o1 | assumption)
        · intro c1 c2; (try simp only [Int.toNat_natCast] at c1 c2); first | (exfalso; omega) | (skip)
        · intro c1 c2; (try simp only [Int.toNat_natCast] at c1 c2); first | omega | (exfalso; omega) | exact ⟨by omega, by omega⟩ | (first | exact o1 | assumption)
        · intro c1 c2; (try simp only [Int.toNat_natCast] at c1 c2); first | (exfalso; omega) | (skip)
      | succ d ih =>
        intro i s e hi kk
        refine g_M_things_17 ?_ ?_ ?_ ?_ ?_ ?_ ?_
        · intro c1; (try simp only [Int.toNat_natCast] at c1); first | (exfalso; omega) | (skip)
        · intro c1; (try simp only [Int.toNat_natCast] at c1); first | omega | (exfalso; omega) | exact ⟨by omega, by omega⟩ | (first | exact o1 | assumption)
        · intro c1; (try simp only [Int.toNat_natCast] at c1); first | omega | (exfalso; omega) | exact ⟨by omega, by omega⟩ | (first | exact o1 | assumption)
        · intro c1 c2; (try simp only [Int.toNat_natCast] at c1 c2); first | omega | (exfalso; omega) | exact ⟨by omega, by omega⟩ | (first | exact o1 | assumption)
        · intro c1 c2; (try simp only [Int.toNat_natCast] at c1 c2); first | (exfalso; omega) | (simp only [fld, if_neg c2] at kk; rw [or_0 hi]; exact ih (i + 1) _ (by omega) hi kk)
        · intro c1 c2; (try simp only [Int.toNat_natCast] at c1 c2); first | omega | (exfalso; omega) | exact ⟨by omega, by omega⟩ | (first | exact o1 | assumption)
        · intro c1 c2; (try simp only [Int.toNat_natCast] at c1 c2); first | (exfalso; omega) | (simp only [fld, if_pos c2] at kk; exact ih (i + 1) _ (by omega) (in32_toInt _) kk)
    refine key (h 104 2).toNat 0 0 (by omega) (by unfold in32; omega) ?_
    exact k
  refine g_M_things_0 ?_ ?_
  · intro c1; (try simp only [Int.toNat_natCast] at c1); first | (exfalso; omega) | (exact hk c1)
  · intro c1; (try simp only [Int.toNat_natCast] at c1); first | (exfalso; omega) | (exact kq k (if_neg c1))

theorem A_things {n : Nat} {h : HP} {x1 : Int} (hR : Rel n h) : Agree n h i_C_things i_M_things [vr 0, vi x1] [vr 103, vi x1, vr 9999, vr 9999] := by
  have s := hR.2.2.2.2.2.1
  have hW := s.2.1
  rw [s.1] at hW
  refine ag_q (v := vi (qThings (rmC h 10) x1).1) (st := (qThings (rmC h 10) x1).2) hR (fun Q k => c_C_things s.2.1 k) (fun Q k => c_M_things (by rw [rm_q]; exact hW) ?_)
  rw [rm_q, ← s.1]
  exact k

def qStrong (R : HP) (x : Int) : Int × Int := if x = 0 ∨ x = 1 then (rStrong R x, if rStrong R x < 0 then 6 else 0) else (-1, 1)

theorem g_C_strongest_0 {Q : PQ} {h : HP} {x1 : Int} 
    (k1 : ¬ (x1 = 0 ∨ x1 = 1) → Q (some (vi (-1))) (hs h 0 0 1))
    (o2 : (x1 = 0 ∨ x1 = 1) → WR (rmC h 10))
    (o3 : (x1 = 0 ∨ x1 = 1) → -1 ≤ (rStrong (rmC h 10) x1))
    (k4 : (x1 = 0 ∨ x1 = 1) → Q (some (vi (rStrong (rmC h 10) x1))) (hs h 0 0 (if (rStrong (rmC h 10) x1) < 0 then 6 else 0))) :
    Wp true i_C_strongest 0 [vr 0, vi x1] [] h Q := by
  refine r_iload_n (v := x1) f_167_0 rfl ?_
  refine r_calls (as := [vi x1]) (st' := []) (ls0 := [vi x1]) f_167_1 (by decide) (by decide) rfl rfl (Nat.le_of_ble_eq_true rfl) (Nat.le_of_ble_eq_true rfl) rfl ?_
  refine c_C_isLand  ?_
  show Wp true i_C_strongest 4 [vr 0, vi x1] [vi (bi (x1 = 0 ∨ x1 = 1))] h Q
  refine r_br (t := 22) f_167_4 rfl cb_bf (fun c1 => ?_) (fun c1 => ?_)
  · refine r_aload_n (v := 0) f_167_22 rfl (by decide) ?_
    refine r_iconst f_167_23 (by decide) ?_
    refine r_callv (as := [vr 0, vi 1]) (st' := []) (ls0 := [vr 0, vi 1]) f_167_24 (by decide) rfl rfl (Nat.le_of_ble_eq_true rfl) (Nat.le_of_ble_eq_true rfl) ⟨_, _, rfl, rfl⟩ rfl ?_
    refine c_C_refuse  ?_
    show Wp true i_C_strongest 27 [vr 0, vi x1] [vi (-1)] (hs h 0 0 1) Q
    exact r_reti f_167_27 rfl (k1 c1)
  · have c1 := Decidable.not_not.mp c1
    refine r_aload_n (v := 0) f_167_7 rfl (by decide) ?_
    refine r_aload_n (v := 0) f_167_8 rfl (by decide) ?_
    refine r_getr (q := 10) f_167_9 rfl (by decide) (Or.inl rfl) rfl ?_
    refine r_iload_n (v := x1) f_167_12 rfl ?_
    refine r_callv (as := [vr 10, vi x1]) (st' := [vr 0]) (ls0 := [vr 10, vi x1, vr 9999, vr 9999]) f_167_13 (by decide) rfl rfl (Nat.le_of_ble_eq_true rfl) (Nat.le_of_ble_eq_true rfl) ⟨_, _, rfl, rfl⟩ rfl ?_
    refine c_Fl_strongestRow isF_10 (o2 c1) ?_
    show Wp true i_C_strongest 16 [vr 0, vi x1] [vi (rStrong (rmC h 10) x1), vr 0] h Q
    refine r_callv (as := [vr 0, vi (rStrong (rmC h 10) x1)]) (st' := []) (ls0 := [vr 0, vi (rStrong (rmC h 10) x1)]) f_167_16 (by decide) rfl rfl (Nat.le_of_ble_eq_true rfl) (Nat.le_of_ble_eq_true rfl) ⟨_, _, rfl, rfl⟩ rfl ?_
    refine c_C_answerOrNone (o3 c1) ?_
    show Wp true i_C_strongest 19 [vr 0, vi x1] [vi (rStrong (rmC h 10) x1)] (hs h 0 0 (if (rStrong (rmC h 10) x1) < 0 then 6 else 0)) Q
    refine r_goto (t := 27) f_167_19 rfl ?_
    exact r_reti f_167_27 rfl (k4 c1)

theorem c_C_strongest {Q : PQ} {h : HP} {x1 : Int} (o1 : WR (rmC h 10)) (k : Q (some (vi ((qStrong (rmC h 10) x1).1))) (hs h 0 0 ((qStrong (rmC h 10) x1).2))) :
    Wp true i_C_strongest 0 [vr 0, vi x1] [] h Q := by
  have w := WC_0 o1
  refine g_C_strongest_0 ?_ ?_ ?_ ?_
  · intro c1; (try simp only [Int.toNat_natCast] at c1); first | (exfalso; omega) | (exact kq k (if_neg c1))
  · intro c1; (try simp only [Int.toNat_natCast] at c1); first | omega | (exfalso; omega) | exact ⟨by omega, by omega⟩ | (first | exact o1 | exact c1 | exact rStrong_lo _ _ | exact rLeast_lo _ _ | exact rWant_lo _ _)
  · intro c1; (try simp only [Int.toNat_natCast] at c1); first | omega | (exfalso; omega) | exact ⟨by omega, by omega⟩ | (first | exact o1 | exact c1 | exact rStrong_lo _ _ | exact rLeast_lo _ _ | exact rWant_lo _ _)
  · intro c1; (try simp only [Int.toNat_natCast] at c1); first | (exfalso; omega) | (exact kq k (if_pos c1))

theorem g_M_strongest_0 {Q : PQ} {h : HP} {x1 : Int} 
    (k1 : (x1 = 0 ∨ x1 = 1) → Wp true i_M_strongest 17 [vr 103, vi x1, vi (-1), vi 0] [] h Q)
    (k2 : ¬ (x1 = 0 ∨ x1 = 1) → Q (some (vi (-1))) (hs h 103 2 1)) :
    Wp true i_M_strongest 0 [vr 103, vi x1, vr 9999, vr 9999] [] h Q := by
  refine r_iload_n (v := x1) f_301_0 rfl ?_
  refine r_calls (as := [vi x1]) (st' := []) (ls0 := [vi x1]) f_301_1 (by decide) (by decide) rfl rfl (Nat.le_of_ble_eq_true rfl) (Nat.le_of_ble_eq_true rfl) rfl ?_
  refine c_M_isLand  ?_
  show Wp true i_M_strongest 4 [vr 103, vi x1, vr 9999, vr 9999] [vi (bi (x1 = 0 ∨ x1 = 1))] h Q
  refine r_br (t := 13) f_301_4 rfl cb_bt (fun c1 => ?_) (fun c1 => ?_)
  · refine r_iconst f_301_13 (by decide) ?_
    refine r_istore_n (ls' := [vr 103, vi x1, vi (-1), vr 9999]) f_301_14 (Nat.le_of_ble_eq_true rfl) rfl ?_
    refine r_iconst f_301_15 (by decide) ?_
    refine r_istore_n (ls' := [vr 103, vi x1, vi (-1), vi 0]) f_301_16 (Nat.le_of_ble_eq_true rfl) rfl ?_
    exact (k1 c1)
  · refine r_aload_n (v := 103) f_301_7 rfl (by decide) ?_
    refine r_iconst f_301_8 (by decide) ?_
    refine r_callv (as := [vr 103, vi 1]) (st' := []) (ls0 := [vr 103, vi 1]) f_301_9 (by decide) rfl rfl (Nat.le_of_ble_eq_true rfl) (Nat.le_of_ble_eq_true rfl) ⟨_, _, rfl, rfl⟩ rfl ?_
    refine c_M_refuse  ?_
    show Wp true i_M_strongest 12 [vr 103, vi x1, vr 9999, vr 9999] [vi (-1)] (hs h 103 2 1) Q
    exact r_reti f_301_12 rfl (k2 c1)

theorem g_M_strongest_17 {Q : PQ} {h : HP} {x1 : Int} {x2 : Int} {x3 : Int} 
    (k1 : h 104 1 ≤ x3 → Q (some (vi x2)) (hs h 103 2 (if x2 = -1 then 6 else 0)))
    (o2 : ¬ h 104 1 ≤ x3 → x2 = -1 → -2147483648 ≤ x3 + 1 ∧ x3 + 1 ≤ 2147483647)
    (k3 : ¬ h 104 1 ≤ x3 → x2 = -1 → Wp true i_M_strongest 17 [vr 103, vi x1, vi x3, vi (x3 + 1)] [] h Q)
    (o4 : ¬ h 104 1 ≤ x3 → ¬ x2 = -1 → WR (rmM h 0))
    (o5 : ¬ h 104 1 ≤ x3 → ¬ x2 = -1 → 0 ≤ x3 ∧ x3 < h 104 1)
    (o6 : ¬ h 104 1 ≤ x3 → ¬ x2 = -1 → 0 ≤ x2 ∧ x2 < h 104 1)
    (o7 : ¬ h 104 1 ≤ x3 → ¬ x2 = -1 → rIn (rmM h 0) x1 x3.toNat ≤ rIn (rmM h 0) x1 x2.toNat → -2147483648 ≤ x3 + 1 ∧ x3 + 1 ≤ 2147483647)
    (k8 : ¬ h 104 1 ≤ x3 → ¬ x2 = -1 → rIn (rmM h 0) x1 x3.toNat ≤ rIn (rmM h 0) x1 x2.toNat → Wp true i_M_strongest 17 [vr 103, vi x1, vi x2, vi (x3 + 1)] [] h Q)
    (o9 : ¬ h 104 1 ≤ x3 → ¬ x2 = -1 → ¬ rIn (rmM h 0) x1 x3.toNat ≤ rIn (rmM h 0) x1 x2.toNat → -2147483648 ≤ x3 + 1 ∧ x3 + 1 ≤ 2147483647)
    (k10 : ¬ h 104 1 ≤ x3 → ¬ x2 = -1 → ¬ rIn (rmM h 0) x1 x3.toNat ≤ rIn (rmM h 0) x1 x2.toNat → Wp true i_M_strongest 17 [vr 103, vi x1, vi x3, vi (x3 + 1)] [] h Q) :
    Wp true i_M_strongest 17 [vr 103, vi x1, vi x2, vi x3] [] h Q := by
  refine r_iload_n (v := x3) f_301_17 rfl ?_
  refine r_aload_n (v := 103) f_301_18 rfl (by decide) ?_
  refine r_getr (q := 104) f_301_19 rfl (by decide) (Or.inl rfl) rfl ?_
  refine r_iconst f_301_22 (by decide) ?_
  refine r_iaload (n := 3000) (v := h 104 1) f_301_23 ⟨rfl, rfl⟩ (by decide) rfl ?_
  refine r_br2 (t := 55) f_301_24 rfl cb_ge (fun c1 => ?_) (fun c1 => ?_)
  · refine r_aload_n (v := 103) f_301_55 rfl (by decide) ?_
    refine r_iload_n (v := x2) f_301_56 rfl ?_
    refine r_callv (as := [vr 103, vi x2]) (st' := []) (ls0 := [vr 103, vi x2]) f_301_57 (by decide) rfl rfl (Nat.le_of_ble_eq_true rfl) (Nat.le_of_ble_eq_true rfl) ⟨_, _, rfl, rfl⟩ rfl ?_
    refine c_M_orNone  ?_
    show Wp true i_M_strongest 60 [vr 103, vi x1, vi x2, vi x3] [vi x2] (hs h 103 2 (if x2 = -1 then 6 else 0)) Q
    exact r_reti f_301_60 rfl (k1 c1)
  · refine r_iload_n (v := x2) f_301_27 rfl ?_
    refine r_iconst f_301_28 (by decide) ?_
    refine r_br2 (t := 47) f_301_29 rfl cb_eq (fun c2 => ?_) (fun c2 => ?_)
    · refine r_iload_n (v := x3) f_301_47 rfl ?_
      refine r_istore_n (ls' := [vr 103, vi x1, vi x3, vi x3]) f_301_48 (Nat.le_of_ble_eq_true rfl) rfl ?_
      refine r_iinc (v := x3) (w := x3 + 1) (ls' := [vr 103, vi x1, vi x3, vi (x3 + 1)]) f_301_49 rfl rfl (o2 c1 c2) rfl ?_
      refine r_goto (t := 17) f_301_52 rfl ?_
      exact (k3 c1 c2)
    · refine r_aload_n (v := 103) f_301_32 rfl (by decide) ?_
      refine r_iload_n (v := x1) f_301_33 rfl ?_
      refine r_iload_n (v := x3) f_301_34 rfl ?_
      refine r_callv (as := [vr 103, vi x1, vi x3]) (st' := []) (ls0 := [vr 103, vi x1, vi x3]) f_301_35 (by decide) rfl rfl (Nat.le_of_ble_eq_true rfl) (Nat.le_of_ble_eq_true rfl) ⟨_, _, rfl, rfl⟩ rfl ?_
      refine c_M_hasIn (o4 c1 c2) (o5 c1 c2) ?_
      show Wp true i_M_strongest 38 [vr 103, vi x1, vi x2, vi x3] [vi (rIn (rmM h 0) x1 x3.toNat)] h Q
      refine r_aload_n (v := 103) f_301_38 rfl (by decide) ?_
      refine r_iload_n (v := x1) f_301_39 rfl ?_
      refine r_iload_n (v := x2) f_301_40 rfl ?_
      refine r_callv (as := [vr 103, vi x1, vi x2]) (st' := [vi (rIn (rmM h 0) x1 x3.toNat)]) (ls0 := [vr 103, vi x1, vi x2]) f_301_41 (by decide) rfl rfl (Nat.le_of_ble_eq_true rfl) (Nat.le_of_ble_eq_true rfl) ⟨_, _, rfl, rfl⟩ rfl ?_
      refine c_M_hasIn (o4 c1 c2) (o6 c1 c2) ?_
      show Wp true i_M_strongest 44 [vr 103, vi x1, vi x2, vi x3] [vi (rIn (rmM h 0) x1 x2.toNat), vi (rIn (rmM h 0) x1 x3.toNat)] h Q
      refine r_br2 (t := 49) f_301_44 rfl cb_le (fun c3 => ?_) (fun c3 => ?_)
      · refine r_iinc (v := x3) (w := x3 + 1) (ls' := [vr 103, vi x1, vi x2, vi (x3 + 1)]) f_301_49 rfl rfl (o7 c1 c2 c3) rfl ?_
        refine r_goto (t := 17) f_301_52 rfl ?_
        exact (k8 c1 c2 c3)
      · refine r_iload_n (v := x3) f_301_47 rfl ?_
        refine r_istore_n (ls' := [vr 103, vi x1, vi x3, vi x3]) f_301_48 (Nat.le_of_ble_eq_true rfl) rfl ?_
        refine r_iinc (v := x3) (w := x3 + 1) (ls' := [vr 103, vi x1, vi x3, vi (x3 + 1)]) f_301_49 rfl rfl (o9 c1 c2 c3) rfl ?_
        refine r_goto (t := 17) f_301_52 rfl ?_
        exact (k10 c1 c2 c3)

theorem c_M_strongest {Q : PQ} {h : HP} {x1 : Int} (o1 : WR (rmM h 0)) (k : Q (some (vi ((qStrong (rmM h 0) x1).1))) (hs h 103 2 ((qStrong (rmM h 0) x1).2))) :
    Wp true i_M_strongest 0 [vr 103, vi x1, vr 9999, vr 9999] [] h Q := by
  have w := WM_0 o1
  have hk : (x1 = 0 ∨ x1 = 1) → Wp true i_M_strongest 17 [vr 103, vi x1, vi (-1), vi 0] [] h Q := by
    intro c1
    unfold qStrong at k
    rw [if_pos c1] at k
    have key : ∀ (d i : Nat) (s : Int), ((i : Int) + d = h 104 1 ∨ (d = 0 ∧ h 104 1 ≤ i)) → (-1 ≤ s ∧ s < i ∨ s = -1) → Q (some (vi (fld (fun r s => if s < 0 then (r : Int) else if rIn (rmM h 0) x1 r ≤ rIn (rmM h 0) x1 s.toNat then s else r) d i s))) (hs h 103 2 (if fld (fun r s => if s < 0 then (r : Int) else if rIn (rmM h 0) x1 r ≤ rIn (rmM h 0) x1 s.toNat then s else r) d i s < 0 then 6 else 0)) → Wp true i_M_strongest 17 [vr 103, vi x1, vi s, vi (i : Int)] [] h Q := by
      intro d
      induction d with
      | zero =>
        intro i s e hi kk
        simp only [fld, sumF, Int.add_zero] at kk
        refine g_M_strongest_17 ?_ ?_ ?_ ?_ ?_ ?_ ?_ ?_ ?_ ?_
        · intro c1; (try simp only [Int.toNat_natCast] at c1); first | (exfalso; omega) | (rw [st6 (by omega)]; exact kk)
        · intro c1 c2; (try simp only [Int.toNat_natCast] at c1 c2); first | omega | (exfalso; omega) | exact ⟨by omega, by omega⟩ | (first | exact o1 | exact o2 | exact c1x | exact rStrong_lo _ _ | assumption)
        · intro c1 c2; (try simp only [Int.toNat_natCast] at c1 c2); first | (exfalso; omega) | (skip)
        · intro c1 c2; (try simp only [Int.toNat_natCast] at c1 c2); first | omega | (exfalso; omega) | exact ⟨by omega, by omega⟩ | (first | exact o1 | exact o2 | exact c1x | exact rStrong_lo _ _ | assumption)
        · intro c1 c2; (try simp only [Int.toNat_natCast] at c1 c2); first | omega | (exfalso; omega) | exact ⟨by omega, by omega⟩ | (first | exact o1 | exact o2 | exact c1x | exact rStrong_lo _ _ | assumption)
        · intro c1 c2; (try simp only [Int.toNat_natCast] at c1 c2); first | omega | (exfalso; omega) | exact ⟨by omega, by omega⟩ | (first | exact o1 | exact o2 | exact c1x | exact rStrong_lo _ _ | assumption)
        · intro c1 c2 c3; (try simp only [Int.toNat_natCast] at c1 c2 c3); first | omega | (exfalso; omega) | exact ⟨by omega, by omega⟩ | (first | exact o1 | exact o2 | exact c1x | exact rStrong_lo _ _ | assumption)
        · intro c1 c2 c3; (try simp only [Int.toNat_natCast] at c1 c2 c3); first | (exfalso; omega) | (skip)
        · intro c1 c2 c3; (try simp only [Int.toNat_natCast] at c1 c2 c3); first | omega | (exfalso; omega) | exact ⟨by omega, by omega⟩ | (first | exact o1 | exact o2 | exact c1x | exact rStrong_lo _ _ | assumption)
        · intro c1 c2 c3; (try simp only [Int.toNat_natCast] at c1 c2 c3); first | (exfalso; omega) | (skip)
      | succ d ih =>
        intro i s e hi kk
        refine g_M_strongest_17 ?_ ?_ ?_ ?_ ?_ ?_ ?_ ?_ ?_ ?_
        · intro c1; (try simp only [Int.toNat_natCast] at c1); first | (exfalso; omega) | (skip)
        · intro c1 c2; (try simp only [Int.toNat_natCast] at c1 c2); first | omega | (exfalso; omega) | exact ⟨by omega, by omega⟩ | (first | exact o1 | exact o2 | exact c1x | exact rStrong_lo _ _ | assumption)
        · intro c1 c2; (try simp only [Int.toNat_natCast] at c1 c2); first | (exfalso; omega) | (simp only [fld, if_pos (show s < 0 by omega)] at kk; exact ih (i + 1) _ (by omega) (by (try simp only [Int.toNat_natCast]); omega) kk)
        · intro c1 c2; (try simp only [Int.toNat_natCast] at c1 c2); first | omega | (exfalso; omega) | exact ⟨by omega, by omega⟩ | (first | exact o1 | exact o2 | exact c1x | exact rStrong_lo _ _ | assumption)
        · intro c1 c2; (try simp only [Int.toNat_natCast] at c1 c2); first | omega | (exfalso; omega) | exact ⟨by omega, by omega⟩ | (first | exact o1 | exact o2 | exact c1x | exact rStrong_lo _ _ | assumption)
        · intro c1 c2; (try simp only [Int.toNat_natCast] at c1 c2); first | omega | (exfalso; omega) | exact ⟨by omega, by omega⟩ | (first | exact o1 | exact o2 | exact c1x | exact rStrong_lo _ _ | assumption)
        · intro c1 c2 c3; (try simp only [Int.toNat_natCast] at c1 c2 c3); first | omega | (exfalso; omega) | exact ⟨by omega, by omega⟩ | (first | exact o1 | exact o2 | exact c1x | exact rStrong_lo _ _ | assumption)
        · intro c1 c2 c3; (try simp only [Int.toNat_natCast] at c1 c2 c3); first | (exfalso; omega) | (simp only [fld, if_neg (show ¬ s < 0 by omega), if_pos c3] at kk; exact ih (i + 1) _ (by omega) (by (try simp only [Int.toNat_natCast]); omega) kk)
        · intro c1 c2 c3; (try simp only [Int.toNat_natCast] at c1 c2 c3); first | omega | (exfalso; omega) | exact ⟨by omega, by omega⟩ | (first | exact o1 | exact o2 | exact c1x | exact rStrong_lo _ _ | assumption)
        · intro c1 c2 c3; (try simp only [Int.toNat_natCast] at c1 c2 c3); first | (exfalso; omega) | (simp only [fld, if_neg (show ¬ s < 0 by omega), if_neg c3] at kk; exact ih (i + 1) _ (by omega) (by (try simp only [Int.toNat_natCast]); omega) kk)
    refine key (h 104 1).toNat 0 (-1) (by omega) (by omega) ?_
    exact k
  refine g_M_strongest_0 ?_ ?_
  · intro c1; (try simp only [Int.toNat_natCast] at c1); first | (exfalso; omega) | (exact hk c1)
  · intro c1; (try simp only [Int.toNat_natCast] at c1); first | (exfalso; omega) | (exact kq k (if_neg c1))

theorem A_strongest {n : Nat} {h : HP} {x1 : Int} (hR : Rel n h) : Agree n h i_C_strongest i_M_strongest [vr 0, vi x1] [vr 103, vi x1, vr 9999, vr 9999] := by
  have s := hR.2.2.2.2.2.1
  have hW := s.2.1
  rw [s.1] at hW
  refine ag_q (v := vi (qStrong (rmC h 10) x1).1) (st := (qStrong (rmC h 10) x1).2) hR (fun Q k => c_C_strongest s.2.1 k) (fun Q k => c_M_strongest (by rw [rm_q]; exact hW) ?_)
  rw [rm_q, ← s.1]
  exact k

def qLeast (R : HP) (x : Int) : Int × Int := if x = 0 ∨ x = 1 then (rLeast R x, if rLeast R x < 0 then 6 else 0) else (-1, 1)

theorem g_C_least_0 {Q : PQ} {h : HP} {x1 : Int} 
    (k1 : ¬ (x1 = 0 ∨ x1 = 1) → Q (some (vi (-1))) (hs h 0 0 1))
    (o2 : (x1 = 0 ∨ x1 = 1) → WR (rmC h 10))
    (o3 : (x1 = 0 ∨ x1 = 1) → x1 = 0 ∨ x1 = 1)
    (o4 : (x1 = 0 ∨ x1 = 1) → -1 ≤ (rLeast (rmC h 10) x1))
    (k5 : (x1 = 0 ∨ x1 = 1) → Q (some (vi (rLeast (rmC h 10) x1))) (hs h 0 0 (if (rLeast (rmC h 10) x1) < 0 then 6 else 0))) :
    Wp true i_C_least 0 [vr 0, vi x1] [] h Q := by
  refine r_iload_n (v := x1) f_168_0 rfl ?_
  refine r_calls (as := [vi x1]) (st' := []) (ls0 := [vi x1]) f_168_1 (by decide) (by decide) rfl rfl (Nat.le_of_ble_eq_true rfl) (Nat.le_of_ble_eq_true rfl) rfl ?_
  refine c_C_isLand  ?_
  show Wp true i_C_least 4 [vr 0, vi x1] [vi (bi (x1 = 0 ∨ x1 = 1))] h Q
  refine r_br (t := 22) f_168_4 rfl cb_bf (fun c1 => ?_) (fun c1 => ?_)
  · refine r_aload_n (v := 0) f_168_22 rfl (by decide) ?_
    refine r_iconst f_168_23 (by decide) ?_
    refine r_callv (as := [vr 0, vi 1]) (st' := []) (ls0 := [vr 0, vi 1]) f_168_24 (by decide) rfl rfl (Nat.le_of_ble_eq_true rfl) (Nat.le_of_ble_eq_true rfl) ⟨_, _, rfl, rfl⟩ rfl ?_
    refine c_C_refuse  ?_
    show Wp true i_C_least 27 [vr 0, vi x1] [vi (-1)] (hs h 0 0 1) Q
    exact r_reti f_168_27 rfl (k1 c1)
  · have c1 := Decidable.not_not.mp c1
    refine r_aload_n (v := 0) f_168_7 rfl (by decide) ?_
    refine r_aload_n (v := 0) f_168_8 rfl (by decide) ?_
    refine r_getr (q := 10) f_168_9 rfl (by decide) (Or.inl rfl) rfl ?_
    refine r_iload_n (v := x1) f_168_12 rfl ?_
    refine r_callv (as := [vr 10, vi x1]) (st' := [vr 0]) (ls0 := [vr 10, vi x1, vr 9999, vr 9999]) f_168_13 (by decide) rfl rfl (Nat.le_of_ble_eq_true rfl) (Nat.le_of_ble_eq_true rfl) ⟨_, _, rfl, rfl⟩ rfl ?_
    refine c_Fl_leastThing isF_10 (o2 c1) (o3 c1) ?_
    show Wp true i_C_least 16 [vr 0, vi x1] [vi (rLeast (rmC h 10) x1), vr 0] h Q
    refine r_callv (as := [vr 0, vi (rLeast (rmC h 10) x1)]) (st' := []) (ls0 := [vr 0, vi (rLeast (rmC h 10) x1)]) f_168_16 (by decide) rfl rfl (Nat.le_of_ble_eq_true rfl) (Nat.le_of_ble_eq_true rfl) ⟨_, _, rfl, rfl⟩ rfl ?_
    refine c_C_answerOrNone (o4 c1) ?_
    show Wp true i_C_least 19 [vr 0, vi x1] [vi (rLeast (rmC h 10) x1)] (hs h 0 0 (if (rLeast (rmC h 10) x1) < 0 then 6 else 0)) Q
    refine r_goto (t := 27) f_168_19 rfl ?_
    exact r_reti f_168_27 rfl (k5 c1)

theorem c_C_least {Q : PQ} {h : HP} {x1 : Int} (o1 : WR (rmC h 10)) (k : Q (some (vi ((qLeast (rmC h 10) x1).1))) (hs h 0 0 ((qLeast (rmC h 10) x1).2))) :
    Wp true i_C_least 0 [vr 0, vi x1] [] h Q := by
  have w := WC_0 o1
  refine g_C_least_0 ?_ ?_ ?_ ?_ ?_
  · intro c1; (try simp only [Int.toNat_natCast] at c1); first | (exfalso; omega) | (exact kq k (if_neg c1))
  · intro c1; (try simp only [Int.toNat_natCast] at c1); first | omega | (exfalso; omega) | exact ⟨by omega, by omega⟩ | (first | exact o1 | exact c1 | exact rStrong_lo _ _ | exact rLeast_lo _ _ | exact rWant_lo _ _)
  · intro c1; (try simp only [Int.toNat_natCast] at c1); first | omega | (exfalso; omega) | exact ⟨by omega, by omega⟩ | (first | exact o1 | exact c1 | exact rStrong_lo _ _ | exact rLeast_lo _ _ | exact rWant_lo _ _)
  · intro c1; (try simp only [Int.toNat_natCast] at c1); first | omega | (exfalso; omega) | exact ⟨by omega, by omega⟩ | (first | exact o1 | exact c1 | exact rStrong_lo _ _ | exact rLeast_lo _ _ | exact rWant_lo _ _)
  · intro c1; (try simp only [Int.toNat_natCast] at c1); first | (exfalso; omega) | (exact kq k (if_pos c1))

theorem g_M_least_0 {Q : PQ} {h : HP} {x1 : Int} 
    (k1 : (x1 = 0 ∨ x1 = 1) → Wp true i_M_least 17 [vr 103, vi x1, vi (-1), vi 0] [] h Q)
    (k2 : ¬ (x1 = 0 ∨ x1 = 1) → Q (some (vi (-1))) (hs h 103 2 1)) :
    Wp true i_M_least 0 [vr 103, vi x1, vr 9999, vr 9999] [] h Q := by
  refine r_iload_n (v := x1) f_302_0 rfl ?_
  refine r_calls (as := [vi x1]) (st' := []) (ls0 := [vi x1]) f_302_1 (by decide) (by decide) rfl rfl (Nat.le_of_ble_eq_true rfl) (Nat.le_of_ble_eq_true rfl) rfl ?_
  refine c_M_isLand  ?_
  show Wp true i_M_least 4 [vr 103, vi x1, vr 9999, vr 9999] [vi (bi (x1 = 0 ∨ x1 = 1))] h Q
  refine r_br (t := 13) f_302_4 rfl cb_bt (fun c1 => ?_) (fun c1 => ?_)
  · refine r_iconst f_302_13 (by decide) ?_
    refine r_istore_n (ls' := [vr 103, vi x1, vi (-1), vr 9999]) f_302_14 (Nat.le_of_ble_eq_true rfl) rfl ?_
    refine r_iconst f_302_15 (by decide) ?_
    refine r_istore_n (ls' := [vr 103, vi x1, vi (-1), vi 0]) f_302_16 (Nat.le_of_ble_eq_true rfl) rfl ?_
    exact (k1 c1)
  · refine r_aload_n (v := 103) f_302_7 rfl (by decide) ?_
    refine r_iconst f_302_8 (by decide) ?_
    refine r_callv (as := [vr 103, vi 1]) (st' := []) (ls0 := [vr 103, vi 1]) f_302_9 (by decide) rfl rfl (Nat.le_of_ble_eq_true rfl) (Nat.le_of_ble_eq_true rfl) ⟨_, _, rfl, rfl⟩ rfl ?_
    refine c_M_refuse  ?_
    show Wp true i_M_least 12 [vr 103, vi x1, vr 9999, vr 9999] [vi (-1)] (hs h 103 2 1) Q
    exact r_reti f_302_12 rfl (k2 c1)

theorem g_M_least_17 {Q : PQ} {h : HP} {x1 : Int} {x2 : Int} {x3 : Int} 
    (k1 : h 104 2 ≤ x3 → Q (some (vi x2)) (hs h 103 2 (if x2 = -1 then 6 else 0)))
    (o2 : ¬ h 104 2 ≤ x3 → WR (rmM h 0))
    (o3 : ¬ h 104 2 ≤ x3 → 0 ≤ x3 ∧ x3 < h 104 2)
    (o4 : ¬ h 104 2 ≤ x3 → ¬ rHo (rmM h 0) x3.toNat = x1 → -2147483648 ≤ x3 + 1 ∧ x3 + 1 ≤ 2147483647)
    (k5 : ¬ h 104 2 ≤ x3 → ¬ rHo (rmM h 0) x3.toNat = x1 → Wp true i_M_least 17 [vr 103, vi x1, vi x2, vi (x3 + 1)] [] h Q)
    (o6 : ¬ h 104 2 ≤ x3 → rHo (rmM h 0) x3.toNat = x1 → x2 = -1 → -2147483648 ≤ x3 + 1 ∧ x3 + 1 ≤ 2147483647)
    (k7 : ¬ h 104 2 ≤ x3 → rHo (rmM h 0) x3.toNat = x1 → x2 = -1 → Wp true i_M_least 17 [vr 103, vi x1, vi x3, vi (x3 + 1)] [] h Q)
    (o8 : ¬ h 104 2 ≤ x3 → rHo (rmM h 0) x3.toNat = x1 → ¬ x2 = -1 → x1 = 0 ∨ x1 = 1)
    (o9 : ¬ h 104 2 ≤ x3 → rHo (rmM h 0) x3.toNat = x1 → ¬ x2 = -1 → 0 ≤ x2 ∧ x2 < h 104 2)
    (o10 : ¬ h 104 2 ≤ x3 → rHo (rmM h 0) x3.toNat = x1 → ¬ x2 = -1 → rWo (rmM h 0) x1 x2.toNat ≤ rWo (rmM h 0) x1 x3.toNat → -2147483648 ≤ x3 + 1 ∧ x3 + 1 ≤ 2147483647)
    (k11 : ¬ h 104 2 ≤ x3 → rHo (rmM h 0) x3.toNat = x1 → ¬ x2 = -1 → rWo (rmM h 0) x1 x2.toNat ≤ rWo (rmM h 0) x1 x3.toNat → Wp true i_M_least 17 [vr 103, vi x1, vi x2, vi (x3 + 1)] [] h Q)
    (o12 : ¬ h 104 2 ≤ x3 → rHo (rmM h 0) x3.toNat = x1 → ¬ x2 = -1 → ¬ rWo (rmM h 0) x1 x2.toNat ≤ rWo (rmM h 0) x1 x3.toNat → -2147483648 ≤ x3 + 1 ∧ x3 + 1 ≤ 2147483647)
    (k13 : ¬ h 104 2 ≤ x3 → rHo (rmM h 0) x3.toNat = x1 → ¬ x2 = -1 → ¬ rWo (rmM h 0) x1 x2.toNat ≤ rWo (rmM h 0) x1 x3.toNat → Wp true i_M_least 17 [vr 103, vi x1, vi x3, vi (x3 + 1)] [] h Q) :
    Wp true i_M_least 17 [vr 103, vi x1, vi x2, vi x3] [] h Q := by
  refine r_iload_n (v := x3) f_302_17 rfl ?_
  refine r_aload_n (v := 103) f_302_18 rfl (by decide) ?_
  refine r_getr (q := 104) f_302_19 rfl (by decide) (Or.inl rfl) rfl ?_
  refine r_iconst f_302_22 (by decide) ?_
  refine r_iaload (n := 3000) (v := h 104 2) f_302_23 ⟨rfl, rfl⟩ (by decide) rfl ?_
  refine r_br2 (t := 64) f_302_24 rfl cb_ge (fun c1 => ?_) (fun c1 => ?_)
  · refine r_aload_n (v := 103) f_302_64 rfl (by decide) ?_
    refine r_iload_n (v := x2) f_302_65 rfl ?_
    refine r_callv (as := [vr 103, vi x2]) (st' := []) (ls0 := [vr 103, vi x2]) f_302_66 (by decide) rfl rfl (Nat.le_of_ble_eq_true rfl) (Nat.le_of_ble_eq_true rfl) ⟨_, _, rfl, rfl⟩ rfl ?_
    refine c_M_orNone  ?_
    show Wp true i_M_least 69 [vr 103, vi x1, vi x2, vi x3] [vi x2] (hs h 103 2 (if x2 = -1 then 6 else 0)) Q
    exact r_reti f_302_69 rfl (k1 c1)
  · refine r_aload_n (v := 103) f_302_27 rfl (by decide) ?_
    refine r_iload_n (v := x3) f_302_28 rfl ?_
    refine r_callv (as := [vr 103, vi x3]) (st' := []) (ls0 := [vr 103, vi x3]) f_302_29 (by decide) rfl rfl (Nat.le_of_ble_eq_true rfl) (Nat.le_of_ble_eq_true rfl) ⟨_, _, rfl, rfl⟩ rfl ?_
    refine c_M_holderOf (o2 c1) (o3 c1) ?_
    show Wp true i_M_least 32 [vr 103, vi x1, vi x2, vi x3] [vi (rHo (rmM h 0) x3.toNat)] h Q
    refine r_iload_n (v := x1) f_302_32 rfl ?_
    refine r_br2 (t := 58) f_302_33 rfl cb_ne (fun c2 => ?_) (fun c2 => ?_)
    · refine r_iinc (v := x3) (w := x3 + 1) (ls' := [vr 103, vi x1, vi x2, vi (x3 + 1)]) f_302_58 rfl rfl (o4 c1 c2) rfl ?_
      refine r_goto (t := 17) f_302_61 rfl ?_
      exact (k5 c1 c2)
    · have c2 := Decidable.not_not.mp c2
      refine r_iload_n (v := x2) f_302_36 rfl ?_
      refine r_iconst f_302_37 (by decide) ?_
      refine r_br2 (t := 56) f_302_38 rfl cb_eq (fun c3 => ?_) (fun c3 => ?_)
      · refine r_iload_n (v := x3) f_302_56 rfl ?_
        refine r_istore_n (ls' := [vr 103, vi x1, vi x3, vi x3]) f_302_57 (Nat.le_of_ble_eq_true rfl) rfl ?_
        refine r_iinc (v := x3) (w := x3 + 1) (ls' := [vr 103, vi x1, vi x3, vi (x3 + 1)]) f_302_58 rfl rfl (o6 c1 c2 c3) rfl ?_
        refine r_goto (t := 17) f_302_61 rfl ?_
        exact (k7 c1 c2 c3)
      · refine r_aload_n (v := 103) f_302_41 rfl (by decide) ?_
        refine r_iload_n (v := x3) f_302_42 rfl ?_
        refine r_iload_n (v := x1) f_302_43 rfl ?_
        refine r_callv (as := [vr 103, vi x3, vi x1]) (st' := []) (ls0 := [vr 103, vi x3, vi x1]) f_302_44 (by decide) rfl rfl (Nat.le_of_ble_eq_true rfl) (Nat.le_of_ble_eq_true rfl) ⟨_, _, rfl, rfl⟩ rfl ?_
        refine c_M_worthTo (o2 c1) (o8 c1 c2 c3) (o3 c1) ?_
        show Wp true i_M_least 47 [vr 103, vi x1, vi x2, vi x3] [vi (rWo (rmM h 0) x1 x3.toNat)] h Q
        refine r_aload_n (v := 103) f_302_47 rfl (by decide) ?_
        refine r_iload_n (v := x2) f_302_48 rfl ?_
        refine r_iload_n (v := x1) f_302_49 rfl ?_
        refine r_callv (as := [vr 103, vi x2, vi x1]) (st' := [vi (rWo (rmM h 0) x1 x3.toNat)]) (ls0 := [vr 103, vi x2, vi x1]) f_302_50 (by decide) rfl rfl (Nat.le_of_ble_eq_true rfl) (Nat.le_of_ble_eq_true rfl) ⟨_, _, rfl, rfl⟩ rfl ?_
        refine c_M_worthTo (o2 c1) (o8 c1 c2 c3) (o9 c1 c2 c3) ?_
        show Wp true i_M_least 53 [vr 103, vi x1, vi x2, vi x3] [vi (rWo (rmM h 0) x1 x2.toNat), vi (rWo (rmM h 0) x1 x3.toNat)] h Q
        refine r_br2 (t := 58) f_302_53 rfl cb_ge (fun c4 => ?_) (fun c4 => ?_)
        · refine r_iinc (v := x3) (w := x3 + 1) (ls' := [vr 103, vi x1, vi x2, vi (x3 + 1)]) f_302_58 rfl rfl (o10 c1 c2 c3 c4) rfl ?_
          refine r_goto (t := 17) f_302_61 rfl ?_
          exact (k11 c1 c2 c3 c4)
        · refine r_iload_n (v := x3) f_302_56 rfl ?_
          refine r_istore_n (ls' := [vr 103, vi x1, vi x3, vi x3]) f_302_57 (Nat.le_of_ble_eq_true rfl) rfl ?_
          refine r_iinc (v := x3) (w := x3 + 1) (ls' := [vr 103, vi x1, vi x3, vi (x3 + 1)]) f_302_58 rfl rfl (o12 c1 c2 c3 c4) rfl ?_
          refine r_goto (t := 17) f_302_61 rfl ?_
          exact (k13 c1 c2 c3 c4)

theorem c_M_least {Q : PQ} {h : HP} {x1 : Int} (o1 : WR (rmM h 0)) (k : Q (some (vi ((qLeast (rmM h 0) x1).1))) (hs h 103 2 ((qLeast (rmM h 0) x1).2))) :
    Wp true i_M_least 0 [vr 103, vi x1, vr 9999, vr 9999] [] h Q := by
  have w := WM_0 o1
  have hk : (x1 = 0 ∨ x1 = 1) → Wp true i_M_least 17 [vr 103, vi x1, vi (-1), vi 0] [] h Q := by
    intro c1
    unfold qLeast at k
    rw [if_pos c1] at k
    have key : ∀ (d i : Nat) (s : Int), ((i : Int) + d = h 104 2 ∨ (d = 0 ∧ h 104 2 ≤ i)) → (-1 ≤ s ∧ s < i ∨ s = -1) → Q (some (vi (fld (fun i s => if rHo (rmM h 0) i = x1 then (if s < 0 then (i : Int) else if rWo (rmM h 0) x1 s.toNat ≤ rWo (rmM h 0) x1 i then s else i) else s) d i s))) (hs h 103 2 (if fld (fun i s => if rHo (rmM h 0) i = x1 then (if s < 0 then (i : Int) else if rWo (rmM h 0) x1 s.toNat ≤ rWo (rmM h 0) x1 i then s else i) else s) d i s < 0 then 6 else 0)) → Wp true i_M_least 17 [vr 103, vi x1, vi s, vi (i : Int)] [] h Q := by
      intro d
      induction d with
      | zero =>
        intro i s e hi kk
        simp only [fld, sumF, Int.add_zero] at kk
        refine g_M_least_17 ?_ ?_ ?_ ?_ ?_ ?_ ?_ ?_ ?_ ?_ ?_ ?_ ?_
        · intro c1; (try simp only [Int.toNat_natCast] at c1); first | (exfalso; omega) | (rw [st6 (by omega)]; exact kk)
        · intro c1; (try simp only [Int.toNat_natCast] at c1); first | omega | (exfalso; omega) | exact ⟨by omega, by omega⟩ | (first | exact o1 | exact o2 | exact c1x | exact rLeast_lo _ _ | assumption)
        · intro c1; (try simp only [Int.toNat_natCast] at c1); first | omega | (exfalso; omega) | exact ⟨by omega, by omega⟩ | (first | exact o1 | exact o2 | exact c1x | exact rLeast_lo _ _ | assumption)
        · intro c1 c2; (try simp only [Int.toNat_natCast] at c1 c2); first | omega | (exfalso; omega) | exact ⟨by omega, by omega⟩ | (first | exact o1 | exact o2 | exact c1x | exact rLeast_lo _ _ | assumption)
        · intro c1 c2; (try simp only [Int.toNat_natCast] at c1 c2); first | (exfalso; omega) | (skip)
        · intro c1 c2 c3; (try simp only [Int.toNat_natCast] at c1 c2 c3); first | omega | (exfalso; omega) | exact ⟨by omega, by omega⟩ | (first | exact o1 | exact o2 | exact c1x | exact rLeast_lo _ _ | assumption)
        · intro c1 c2 c3; (try simp only [Int.toNat_natCast] at c1 c2 c3); first | (exfalso; omega) | (skip)
        · intro c1 c2 c3; (try simp only [Int.toNat_natCast] at c1 c2 c3); first | omega | (exfalso; omega) | exact ⟨by omega, by omega⟩ | (first | exact o1 | exact o2 | exact c1x | exact rLeast_lo _ _ | assumption)
        · intro c1 c2 c3; (try simp only [Int.toNat_natCast] at c1 c2 c3); first | omega | (exfalso; omega) | exact ⟨by omega, by omega⟩ | (first | exact o1 | exact o2 | exact c1x | exact rLeast_lo _ _ | assumption)
        · intro c1 c2 c3 c4; (try simp only [Int.toNat_natCast] at c1 c2 c3 c4); first | omega | (exfalso; omega) | exact ⟨by omega, by omega⟩ | (first | exact o1 | exact o2 | exact c1x | exact rLeast_lo _ _ | assumption)
        · intro c1 c2 c3 c4; (try simp only [Int.toNat_natCast] at c1 c2 c3 c4); first | (exfalso; omega) | (skip)
        · intro c1 c2 c3 c4; (try simp only [Int.toNat_natCast] at c1 c2 c3 c4); first | omega | (exfalso; omega) | exact ⟨by omega, by omega⟩ | (first | exact o1 | exact o2 | exact c1x | exact rLeast_lo _ _ | assumption)
        · intro c1 c2 c3 c4; (try simp only [Int.toNat_natCast] at c1 c2 c3 c4); first | (exfalso; omega) | (skip)
      | succ d ih =>
        intro i s e hi kk
        refine g_M_least_17 ?_ ?_ ?_ ?_ ?_ ?_ ?_ ?_ ?_ ?_ ?_ ?_ ?_
        · intro c1; (try simp only [Int.toNat_natCast] at c1); first | (exfalso; omega) | (skip)
        · intro c1; (try simp only [Int.toNat_natCast] at c1); first | omega | (exfalso; omega) | exact ⟨by omega, by omega⟩ | (first | exact o1 | exact o2 | exact c1x | exact rLeast_lo _ _ | assumption)
        · intro c1; (try simp only [Int.toNat_natCast] at c1); first | omega | (exfalso; omega) | exact ⟨by omega, by omega⟩ | (first | exact o1 | exact o2 | exact c1x | exact rLeast_lo _ _ | assumption)
        · intro c1 c2; (try simp only [Int.toNat_natCast] at c1 c2); first | omega | (exfalso; omega) | exact ⟨by omega, by omega⟩ | (first | exact o1 | exact o2 | exact c1x | exact rLeast_lo _ _ | assumption)
        · intro c1 c2; (try simp only [Int.toNat_natCast] at c1 c2); first | (exfalso; omega) | (simp only [fld, if_neg c2] at kk; exact ih (i + 1) _ (by omega) (by (try simp only [Int.toNat_natCast]); omega) kk)
        · intro c1 c2 c3; (try simp only [Int.toNat_natCast] at c1 c2 c3); first | omega | (exfalso; omega) | exact ⟨by omega, by omega⟩ | (first | exact o1 | exact o2 | exact c1x | exact rLeast_lo _ _ | assumption)
        · intro c1 c2 c3; (try simp only [Int.toNat_natCast] at c1 c2 c3); first | (exfalso; omega) | (simp only [fld, if_pos c2, if_pos (show s < 0 by omega)] at kk; exact ih (i + 1) _ (by omega) (by (try simp only [Int.toNat_natCast]); omega) kk)
        · intro c1 c2 c3; (try simp only [Int.toNat_natCast] at c1 c2 c3); first | omega | (exfalso; omega) | exact ⟨by omega, by omega⟩ | (first | exact o1 | exact o2 | exact c1x | exact rLeast_lo _ _ | assumption)
        · intro c1 c2 c3; (try simp only [Int.toNat_natCast] at c1 c2 c3); first | omega | (exfalso; omega) | exact ⟨by omega, by omega⟩ | (first | exact o1 | exact o2 | exact c1x | exact rLeast_lo _ _ | assumption)
        · intro c1 c2 c3 c4; (try simp only [Int.toNat_natCast] at c1 c2 c3 c4); first | omega | (exfalso; omega) | exact ⟨by omega, by omega⟩ | (first | exact o1 | exact o2 | exact c1x | exact rLeast_lo _ _ | assumption)
        · intro c1 c2 c3 c4; (try simp only [Int.toNat_natCast] at c1 c2 c3 c4); first | (exfalso; omega) | (simp only [fld, if_pos c2, if_neg (show ¬ s < 0 by omega), if_pos c4] at kk; exact ih (i + 1) _ (by omega) (by (try simp only [Int.toNat_natCast]); omega) kk)
        · intro c1 c2 c3 c4; (try simp only [Int.toNat_natCast] at c1 c2 c3 c4); first | omega | (exfalso; omega) | exact ⟨by omega, by omega⟩ | (first | exact o1 | exact o2 | exact c1x | exact rLeast_lo _ _ | assumption)
        · intro c1 c2 c3 c4; (try simp only [Int.toNat_natCast] at c1 c2 c3 c4); first | (exfalso; omega) | (simp only [fld, if_pos c2, if_neg (show ¬ s < 0 by omega), if_neg c4] at kk; exact ih (i + 1) _ (by omega) (by (try simp only [Int.toNat_natCast]); omega) kk)
    refine key (h 104 2).toNat 0 (-1) (by omega) (by omega) ?_
    exact k
  refine g_M_least_0 ?_ ?_
  · intro c1; (try simp only [Int.toNat_natCast] at c1); first | (exfalso; omega) | (exact hk c1)
  · intro c1; (try simp only [Int.toNat_natCast] at c1); first | (exfalso; omega) | (exact kq k (if_neg c1))

theorem A_least {n : Nat} {h : HP} {x1 : Int} (hR : Rel n h) : Agree n h i_C_least i_M_least [vr 0, vi x1] [vr 103, vi x1, vr 9999, vr 9999] := by
  have s := hR.2.2.2.2.2.1
  have hW := s.2.1
  rw [s.1] at hW
  refine ag_q (v := vi (qLeast (rmC h 10) x1).1) (st := (qLeast (rmC h 10) x1).2) hR (fun Q k => c_C_least s.2.1 k) (fun Q k => c_M_least (by rw [rm_q]; exact hW) ?_)
  rw [rm_q, ← s.1]
  exact k

def qWant (R : HP) (x : Int) : Int × Int := if x = 0 ∨ x = 1 then (rWant R x, if rWant R x < 0 then 6 else 0) else (-1, 1)

theorem g_C_wanted_0 {Q : PQ} {h : HP} {x1 : Int} 
    (k1 : ¬ (x1 = 0 ∨ x1 = 1) → Q (some (vi (-1))) (hs h 0 0 1))
    (o2 : (x1 = 0 ∨ x1 = 1) → WR (rmC h 10))
    (o3 : (x1 = 0 ∨ x1 = 1) → x1 = 0 ∨ x1 = 1)
    (o4 : (x1 = 0 ∨ x1 = 1) → -1 ≤ (rWant (rmC h 10) x1))
    (k5 : (x1 = 0 ∨ x1 = 1) → Q (some (vi (rWant (rmC h 10) x1))) (hs h 0 0 (if (rWant (rmC h 10) x1) < 0 then 6 else 0))) :
    Wp true i_C_wanted 0 [vr 0, vi x1] [] h Q := by
  refine r_iload_n (v := x1) f_169_0 rfl ?_
  refine r_calls (as := [vi x1]) (st' := []) (ls0 := [vi x1]) f_169_1 (by decide) (by decide) rfl rfl (Nat.le_of_ble_eq_true rfl) (Nat.le_of_ble_eq_true rfl) rfl ?_
  refine c_C_isLand  ?_
  show Wp true i_C_wanted 4 [vr 0, vi x1] [vi (bi (x1 = 0 ∨ x1 = 1))] h Q
  refine r_br (t := 22) f_169_4 rfl cb_bf (fun c1 => ?_) (fun c1 => ?_)
  · refine r_aload_n (v := 0) f_169_22 rfl (by decide) ?_
    refine r_iconst f_169_23 (by decide) ?_
    refine r_callv (as := [vr 0, vi 1]) (st' := []) (ls0 := [vr 0, vi 1]) f_169_24 (by decide) rfl rfl (Nat.le_of_ble_eq_true rfl) (Nat.le_of_ble_eq_true rfl) ⟨_, _, rfl, rfl⟩ rfl ?_
    refine c_C_refuse  ?_
    show Wp true i_C_wanted 27 [vr 0, vi x1] [vi (-1)] (hs h 0 0 1) Q
    exact r_reti f_169_27 rfl (k1 c1)
  · have c1 := Decidable.not_not.mp c1
    refine r_aload_n (v := 0) f_169_7 rfl (by decide) ?_
    refine r_aload_n (v := 0) f_169_8 rfl (by decide) ?_
    refine r_getr (q := 10) f_169_9 rfl (by decide) (Or.inl rfl) rfl ?_
    refine r_iload_n (v := x1) f_169_12 rfl ?_
    refine r_callv (as := [vr 10, vi x1]) (st' := [vr 0]) (ls0 := [vr 10, vi x1, vr 9999, vr 9999]) f_169_13 (by decide) rfl rfl (Nat.le_of_ble_eq_true rfl) (Nat.le_of_ble_eq_true rfl) ⟨_, _, rfl, rfl⟩ rfl ?_
    refine c_Fl_wantedThing isF_10 (o2 c1) (o3 c1) ?_
    show Wp true i_C_wanted 16 [vr 0, vi x1] [vi (rWant (rmC h 10) x1), vr 0] h Q
    refine r_callv (as := [vr 0, vi (rWant (rmC h 10) x1)]) (st' := []) (ls0 := [vr 0, vi (rWant (rmC h 10) x1)]) f_169_16 (by decide) rfl rfl (Nat.le_of_ble_eq_true rfl) (Nat.le_of_ble_eq_true rfl) ⟨_, _, rfl, rfl⟩ rfl ?_
    refine c_C_answerOrNone (o4 c1) ?_
    show Wp true i_C_wanted 19 [vr 0, vi x1] [vi (rWant (rmC h 10) x1)] (hs h 0 0 (if (rWant (rmC h 10) x1) < 0 then 6 else 0)) Q
    refine r_goto (t := 27) f_169_19 rfl ?_
    exact r_reti f_169_27 rfl (k5 c1)

theorem c_C_wanted {Q : PQ} {h : HP} {x1 : Int} (o1 : WR (rmC h 10)) (k : Q (some (vi ((qWant (rmC h 10) x1).1))) (hs h 0 0 ((qWant (rmC h 10) x1).2))) :
    Wp true i_C_wanted 0 [vr 0, vi x1] [] h Q := by
  have w := WC_0 o1
  refine g_C_wanted_0 ?_ ?_ ?_ ?_ ?_
  · intro c1; (try simp only [Int.toNat_natCast] at c1); first | (exfalso; omega) | (exact kq k (if_neg c1))
  · intro c1; (try simp only [Int.toNat_natCast] at c1); first | omega | (exfalso; omega) | exact ⟨by omega, by omega⟩ | (first | exact o1 | exact c1 | exact rStrong_lo _ _ | exact rLeast_lo _ _ | exact rWant_lo _ _)
  · intro c1; (try simp only [Int.toNat_natCast] at c1); first | omega | (exfalso; omega) | exact ⟨by omega, by omega⟩ | (first | exact o1 | exact c1 | exact rStrong_lo _ _ | exact rLeast_lo _ _ | exact rWant_lo _ _)
  · intro c1; (try simp only [Int.toNat_natCast] at c1); first | omega | (exfalso; omega) | exact ⟨by omega, by omega⟩ | (first | exact o1 | exact c1 | exact rStrong_lo _ _ | exact rLeast_lo _ _ | exact rWant_lo _ _)
  · intro c1; (try simp only [Int.toNat_natCast] at c1); first | (exfalso; omega) | (exact kq k (if_pos c1))

theorem g_M_wanted_0 {Q : PQ} {h : HP} {x1 : Int} 
    (k1 : (x1 = 0 ∨ x1 = 1) → Wp true i_M_wanted 17 [vr 103, vi x1, vi (-1), vi 0] [] h Q)
    (k2 : ¬ (x1 = 0 ∨ x1 = 1) → Q (some (vi (-1))) (hs h 103 2 1)) :
    Wp true i_M_wanted 0 [vr 103, vi x1, vr 9999, vr 9999] [] h Q := by
  refine r_iload_n (v := x1) f_303_0 rfl ?_
  refine r_calls (as := [vi x1]) (st' := []) (ls0 := [vi x1]) f_303_1 (by decide) (by decide) rfl rfl (Nat.le_of_ble_eq_true rfl) (Nat.le_of_ble_eq_true rfl) rfl ?_
  refine c_M_isLand  ?_
  show Wp true i_M_wanted 4 [vr 103, vi x1, vr 9999, vr 9999] [vi (bi (x1 = 0 ∨ x1 = 1))] h Q
  refine r_br (t := 13) f_303_4 rfl cb_bt (fun c1 => ?_) (fun c1 => ?_)
  · refine r_iconst f_303_13 (by decide) ?_
    refine r_istore_n (ls' := [vr 103, vi x1, vi (-1), vr 9999]) f_303_14 (Nat.le_of_ble_eq_true rfl) rfl ?_
    refine r_iconst f_303_15 (by decide) ?_
    refine r_istore_n (ls' := [vr 103, vi x1, vi (-1), vi 0]) f_303_16 (Nat.le_of_ble_eq_true rfl) rfl ?_
    exact (k1 c1)
  · refine r_aload_n (v := 103) f_303_7 rfl (by decide) ?_
    refine r_iconst f_303_8 (by decide) ?_
    refine r_callv (as := [vr 103, vi 1]) (st' := []) (ls0 := [vr 103, vi 1]) f_303_9 (by decide) rfl rfl (Nat.le_of_ble_eq_true rfl) (Nat.le_of_ble_eq_true rfl) ⟨_, _, rfl, rfl⟩ rfl ?_
    refine c_M_refuse  ?_
    show Wp true i_M_wanted 12 [vr 103, vi x1, vr 9999, vr 9999] [vi (-1)] (hs h 103 2 1) Q
    exact r_reti f_303_12 rfl (k2 c1)

theorem g_M_wanted_17 {Q : PQ} {h : HP} {x1 : Int} {x2 : Int} {x3 : Int} 
    (k1 : h 104 2 ≤ x3 → Q (some (vi x2)) (hs h 103 2 (if x2 = -1 then 6 else 0)))
    (o2 : ¬ h 104 2 ≤ x3 → WR (rmM h 0))
    (o3 : ¬ h 104 2 ≤ x3 → 0 ≤ x3 ∧ x3 < h 104 2)
    (o4 : ¬ h 104 2 ≤ x3 → rHo (rmM h 0) x3.toNat = x1 → -2147483648 ≤ x3 + 1 ∧ x3 + 1 ≤ 2147483647)
    (k5 : ¬ h 104 2 ≤ x3 → rHo (rmM h 0) x3.toNat = x1 → Wp true i_M_wanted 17 [vr 103, vi x1, vi x2, vi (x3 + 1)] [] h Q)
    (o6 : ¬ h 104 2 ≤ x3 → ¬ rHo (rmM h 0) x3.toNat = x1 → x2 = -1 → -2147483648 ≤ x3 + 1 ∧ x3 + 1 ≤ 2147483647)
    (k7 : ¬ h 104 2 ≤ x3 → ¬ rHo (rmM h 0) x3.toNat = x1 → x2 = -1 → Wp true i_M_wanted 17 [vr 103, vi x1, vi x3, vi (x3 + 1)] [] h Q)
    (o8 : ¬ h 104 2 ≤ x3 → ¬ rHo (rmM h 0) x3.toNat = x1 → ¬ x2 = -1 → x1 = 0 ∨ x1 = 1)
    (o9 : ¬ h 104 2 ≤ x3 → ¬ rHo (rmM h 0) x3.toNat = x1 → ¬ x2 = -1 → 0 ≤ x2 ∧ x2 < h 104 2)
    (o10 : ¬ h 104 2 ≤ x3 → ¬ rHo (rmM h 0) x3.toNat = x1 → ¬ x2 = -1 → rWo (rmM h 0) x1 x3.toNat ≤ rWo (rmM h 0) x1 x2.toNat → -2147483648 ≤ x3 + 1 ∧ x3 + 1 ≤ 2147483647)
    (k11 : ¬ h 104 2 ≤ x3 → ¬ rHo (rmM h 0) x3.toNat = x1 → ¬ x2 = -1 → rWo (rmM h 0) x1 x3.toNat ≤ rWo (rmM h 0) x1 x2.toNat → Wp true i_M_wanted 17 [vr 103, vi x1, vi x2, vi (x3 + 1)] [] h Q)
    (o12 : ¬ h 104 2 ≤ x3 → ¬ rHo (rmM h 0) x3.toNat = x1 → ¬ x2 = -1 → ¬ rWo (rmM h 0) x1 x3.toNat ≤ rWo (rmM h 0) x1 x2.toNat → -2147483648 ≤ x3 + 1 ∧ x3 + 1 ≤ 2147483647)
    (k13 : ¬ h 104 2 ≤ x3 → ¬ rHo (rmM h 0) x3.toNat = x1 → ¬ x2 = -1 → ¬ rWo (rmM h 0) x1 x3.toNat ≤ rWo (rmM h 0) x1 x2.toNat → Wp true i_M_wanted 17 [vr 103, vi x1, vi x3, vi (x3 + 1)] [] h Q) :
    Wp true i_M_wanted 17 [vr 103, vi x1, vi x2, vi x3] [] h Q := by
  refine r_iload_n (v := x3) f_303_17 rfl ?_
  refine r_aload_n (v := 103) f_303_18 rfl (by decide) ?_
  refine r_getr (q := 104) f_303_19 rfl (by decide) (Or.inl rfl) rfl ?_
  refine r_iconst f_303_22 (by decide) ?_
  refine r_iaload (n := 3000) (v := h 104 2) f_303_23 ⟨rfl, rfl⟩ (by decide) rfl ?_
  refine r_br2 (t := 64) f_303_24 rfl cb_ge (fun c1 => ?_) (fun c1 => ?_)
  · refine r_aload_n (v := 103) f_303_64 rfl (by decide) ?_
    refine r_iload_n (v := x2) f_303_65 rfl ?_
    refine r_callv (as := [vr 103, vi x2]) (st' := []) (ls0 := [vr 103, vi x2]) f_303_66 (by decide) rfl rfl (Nat.le_of_ble_eq_true rfl) (Nat.le_of_ble_eq_true rfl) ⟨_, _, rfl, rfl⟩ rfl ?_
    refine c_M_orNone  ?_
    show Wp true i_M_wanted 69 [vr 103, vi x1, vi x2, vi x3] [vi x2] (hs h 103 2 (if x2 = -1 then 6 else 0)) Q
    exact r_reti f_303_69 rfl (k1 c1)
  · refine r_aload_n (v := 103) f_303_27 rfl (by decide) ?_
    refine r_iload_n (v := x3) f_303_28 rfl ?_
    refine r_callv (as := [vr 103, vi x3]) (st' := []) (ls0 := [vr 103, vi x3]) f_303_29 (by decide) rfl rfl (Nat.le_of_ble_eq_true rfl) (Nat.le_of_ble_eq_true rfl) ⟨_, _, rfl, rfl⟩ rfl ?_
    refine c_M_holderOf (o2 c1) (o3 c1) ?_
    show Wp true i_M_wanted 32 [vr 103, vi x1, vi x2, vi x3] [vi (rHo (rmM h 0) x3.toNat)] h Q
    refine r_iload_n (v := x1) f_303_32 rfl ?_
    refine r_br2 (t := 58) f_303_33 rfl cb_eq (fun c2 => ?_) (fun c2 => ?_)
    · refine r_iinc (v := x3) (w := x3 + 1) (ls' := [vr 103, vi x1, vi x2, vi (x3 + 1)]) f_303_58 rfl rfl (o4 c1 c2) rfl ?_
      refine r_goto (t := 17) f_303_61 rfl ?_
      exact (k5 c1 c2)
    · refine r_iload_n (v := x2) f_303_36 rfl ?_
      refine r_iconst f_303_37 (by decide) ?_
      refine r_br2 (t := 56) f_303_38 rfl cb_eq (fun c3 => ?_) (fun c3 => ?_)
      · refine r_iload_n (v := x3) f_303_56 rfl ?_
        refine r_istore_n (ls' := [vr 103, vi x1, vi x3, vi x3]) f_303_57 (Nat.le_of_ble_eq_true rfl) rfl ?_
        refine r_iinc (v := x3) (w := x3 + 1) (ls' := [vr 103, vi x1, vi x3, vi (x3 + 1)]) f_303_58 rfl rfl (o6 c1 c2 c3) rfl ?_
        refine r_goto (t := 17) f_303_61 rfl ?_
        exact (k7 c1 c2 c3)
      · refine r_aload_n (v := 103) f_303_41 rfl (by decide) ?_
        refine r_iload_n (v := x3) f_303_42 rfl ?_
        refine r_iload_n (v := x1) f_303_43 rfl ?_
        refine r_callv (as := [vr 103, vi x3, vi x1]) (st' := []) (ls0 := [vr 103, vi x3, vi x1]) f_303_44 (by decide) rfl rfl (Nat.le_of_ble_eq_true rfl) (Nat.le_of_ble_eq_true rfl) ⟨_, _, rfl, rfl⟩ rfl ?_
        refine c_M_worthTo (o2 c1) (o8 c1 c2 c3) (o3 c1) ?_
        show Wp true i_M_wanted 47 [vr 103, vi x1, vi x2, vi x3] [vi (rWo (rmM h 0) x1 x3.toNat)] h Q
        refine r_aload_n (v := 103) f_303_47 rfl (by decide) ?_
        refine r_iload_n (v := x2) f_303_48 rfl ?_
        refine r_iload_n (v := x1) f_303_49 rfl ?_
        refine r_callv (as := [vr 103, vi x2, vi x1]) (st' := [vi (rWo (rmM h 0) x1 x3.toNat)]) (ls0 := [vr 103, vi x2, vi x1]) f_303_50 (by decide) rfl rfl (Nat.le_of_ble_eq_true rfl) (Nat.le_of_ble_eq_true rfl) ⟨_, _, rfl, rfl⟩ rfl ?_
        refine c_M_worthTo (o2 c1) (o8 c1 c2 c3) (o9 c1 c2 c3) ?_
        show Wp true i_M_wanted 53 [vr 103, vi x1, vi x2, vi x3] [vi (rWo (rmM h 0) x1 x2.toNat), vi (rWo (rmM h 0) x1 x3.toNat)] h Q
        refine r_br2 (t := 58) f_303_53 rfl cb_le (fun c4 => ?_) (fun c4 => ?_)
        · refine r_iinc (v := x3) (w := x3 + 1) (ls' := [vr 103, vi x1, vi x2, vi (x3 + 1)]) f_303_58 rfl rfl (o10 c1 c2 c3 c4) rfl ?_
          refine r_goto (t := 17) f_303_61 rfl ?_
          exact (k11 c1 c2 c3 c4)
        · refine r_iload_n (v := x3) f_303_56 rfl ?_
          refine r_istore_n (ls' := [vr 103, vi x1, vi x3, vi x3]) f_303_57 (Nat.le_of_ble_eq_true rfl) rfl ?_
          refine r_iinc (v := x3) (w := x3 + 1) (ls' := [vr 103, vi x1, vi x3, vi (x3 + 1)]) f_303_58 rfl rfl (o12 c1 c2 c3 c4) rfl ?_
          refine r_goto (t := 17) f_303_61 rfl ?_
          exact (k13 c1 c2 c3 c4)

theorem c_M_wanted {Q : PQ} {h : HP} {x1 : Int} (o1 : WR (rmM h 0)) (k : Q (some (vi ((qWant (rmM h 0) x1).1))) (hs h 103 2 ((qWant (rmM h 0) x1).2))) :
    Wp true i_M_wanted 0 [vr 103, vi x1, vr 9999, vr 9999] [] h Q := by
  have w := WM_0 o1
  have hk : (x1 = 0 ∨ x1 = 1) → Wp true i_M_wanted 17 [vr 103, vi x1, vi (-1), vi 0] [] h Q := by
    intro c1
    unfold qWant at k
    rw [if_pos c1] at k
    have key : ∀ (d i : Nat) (s : Int), ((i : Int) + d = h 104 2 ∨ (d = 0 ∧ h 104 2 ≤ i)) → (-1 ≤ s ∧ s < i ∨ s = -1) → Q (some (vi (fld (fun i s => if rHo (rmM h 0) i = x1 then s else (if s < 0 then (i : Int) else if rWo (rmM h 0) x1 i ≤ rWo (rmM h 0) x1 s.toNat then s else i)) d i s))) (hs h 103 2 (if fld (fun i s => if rHo (rmM h 0) i = x1 then s else (if s < 0 then (i : Int) else if rWo (rmM h 0) x1 i ≤ rWo (rmM h 0) x1 s.toNat then s else i)) d i s < 0 then 6 else 0)) → Wp true i_M_wanted 17 [vr 103, vi x1, vi s, vi (i : Int)] [] h Q := by
      intro d
      induction d with
      | zero =>
        intro i s e hi kk
        simp only [fld, sumF, Int.add_zero] at kk
        refine g_M_wanted_17 ?_ ?_ ?_ ?_ ?_ ?_ ?_ ?_ ?_ ?_ ?_ ?_ ?_
        · intro c1; (try simp only [Int.toNat_natCast] at c1); first | (exfalso; omega) | (rw [st6 (by omega)]; exact kk)
        · intro c1; (try simp only [Int.toNat_natCast] at c1); first | omega | (exfalso; omega) | exact ⟨by omega, by omega⟩ | (first | exact o1 | exact o2 | exact c1x | exact rWant_lo _ _ | assumption)
        · intro c1; (try simp only [Int.toNat_natCast] at c1); first | omega | (exfalso; omega) | exact ⟨by omega, by omega⟩ | (first | exact o1 | exact o2 | exact c1x | exact rWant_lo _ _ | assumption)
        · intro c1 c2; (try simp only [Int.toNat_natCast] at c1 c2); first | omega | (exfalso; omega) | exact ⟨by omega, by omega⟩ | (first | exact o1 | exact o2 | exact c1x | exact rWant_lo _ _ | assumption)
        · intro c1 c2; (try simp only [Int.toNat_natCast] at c1 c2); first | (exfalso; omega) | (skip)
        · intro c1 c2 c3; (try simp only [Int.toNat_natCast] at c1 c2 c3); first | omega | (exfalso; omega) | exact ⟨by omega, by omega⟩ | (first | exact o1 | exact o2 | exact c1x | exact rWant_lo _ _ | assumption)
        · intro c1 c2 c3; (try simp only [Int.toNat_natCast] at c1 c2 c3); first | (exfalso; omega) | (skip)
        · intro c1 c2 c3; (try simp only [Int.toNat_natCast] at c1 c2 c3); first | omega | (exfalso; omega) | exact ⟨by omega, by omega⟩ | (first | exact o1 | exact o2 | exact c1x | exact rWant_lo _ _ | assumption)
        · intro c1 c2 c3; (try simp only [Int.toNat_natCast] at c1 c2 c3); first | omega | (exfalso; omega) | exact ⟨by omega, by omega⟩ | (first | exact o1 | exact o2 | exact c1x | exact rWant_lo _ _ | assumption)
        · intro c1 c2 c3 c4; (try simp only [Int.toNat_natCast] at c1 c2 c3 c4); first | omega | (exfalso; omega) | exact ⟨by omega, by omega⟩ | (first | exact o1 | exact o2 | exact c1x | exact rWant_lo _ _ | assumption)
        · intro c1 c2 c3 c4; (try simp only [Int.toNat_natCast] at c1 c2 c3 c4); first | (exfalso; omega) | (skip)
        · intro c1 c2 c3 c4; (try simp only [Int.toNat_natCast] at c1 c2 c3 c4); first | omega | (exfalso; omega) | exact ⟨by omega, by omega⟩ | (first | exact o1 | exact o2 | exact c1x | exact rWant_lo _ _ | assumption)
        · intro c1 c2 c3 c4; (try simp only [Int.toNat_natCast] at c1 c2 c3 c4); first | (exfalso; omega) | (skip)
      | succ d ih =>
        intro i s e hi kk
        refine g_M_wanted_17 ?_ ?_ ?_ ?_ ?_ ?_ ?_ ?_ ?_ ?_ ?_ ?_ ?_
        · intro c1; (try simp only [Int.toNat_natCast] at c1); first | (exfalso; omega) | (skip)
        · intro c1; (try simp only [Int.toNat_natCast] at c1); first | omega | (exfalso; omega) | exact ⟨by omega, by omega⟩ | (first | exact o1 | exact o2 | exact c1x | exact rWant_lo _ _ | assumption)
        · intro c1; (try simp only [Int.toNat_natCast] at c1); first | omega | (exfalso; omega) | exact ⟨by omega, by omega⟩ | (first | exact o1 | exact o2 | exact c1x | exact rWant_lo _ _ | assumption)
        · intro c1 c2; (try simp only [Int.toNat_natCast] at c1 c2); first | omega | (exfalso; omega) | exact ⟨by omega, by omega⟩ | (first | exact o1 | exact o2 | exact c1x | exact rWant_lo _ _ | assumption)
        · intro c1 c2; (try simp only [Int.toNat_natCast] at c1 c2); first | (exfalso; omega) | (simp only [fld, if_pos c2] at kk; exact ih (i + 1) _ (by omega) (by (try simp only [Int.toNat_natCast]); omega) kk)
        · intro c1 c2 c3; (try simp only [Int.toNat_natCast] at c1 c2 c3); first | omega | (exfalso; omega) | exact ⟨by omega, by omega⟩ | (first | exact o1 | exact o2 | exact c1x | exact rWant_lo _ _ | assumption)
        · intro c1 c2 c3; (try simp only [Int.toNat_natCast] at c1 c2 c3); first | (exfalso; omega) | (simp only [fld, if_neg c2, if_pos (show s < 0 by omega)] at kk; exact ih (i + 1) _ (by omega) (by (try simp only [Int.toNat_natCast]); omega) kk)
        · intro c1 c2 c3; (try simp only [Int.toNat_natCast] at c1 c2 c3); first | omega | (exfalso; omega) | exact ⟨by omega, by omega⟩ | (first | exact o1 | exact o2 | exact c1x | exact rWant_lo _ _ | assumption)
        · intro c1 c2 c3; (try simp only [Int.toNat_natCast] at c1 c2 c3); first | omega | (exfalso; omega) | exact ⟨by omega, by omega⟩ | (first | exact o1 | exact o2 | exact c1x | exact rWant_lo _ _ | assumption)
        · intro c1 c2 c3 c4; (try simp only [Int.toNat_natCast] at c1 c2 c3 c4); first | omega | (exfalso; omega) | exact ⟨by omega, by omega⟩ | (first | exact o1 | exact o2 | exact c1x | exact rWant_lo _ _ | assumption)
        · intro c1 c2 c3 c4; (try simp only [Int.toNat_natCast] at c1 c2 c3 c4); first | (exfalso; omega) | (simp only [fld, if_neg c2, if_neg (show ¬ s < 0 by omega), if_pos c4] at kk; exact ih (i + 1) _ (by omega) (by (try simp only [Int.toNat_natCast]); omega) kk)
        · intro c1 c2 c3 c4; (try simp only [Int.toNat_natCast] at c1 c2 c3 c4); first | omega | (exfalso; omega) | exact ⟨by omega, by omega⟩ | (first | exact o1 | exact o2 | exact c1x | exact rWant_lo _ _ | assumption)
        · intro c1 c2 c3 c4; (try simp only [Int.toNat_natCast] at c1 c2 c3 c4); first | (exfalso; omega) | (simp only [fld, if_neg c2, if_neg (show ¬ s < 0 by omega), if_neg c4] at kk; exact ih (i + 1) _ (by omega) (by (try simp only [Int.toNat_natCast]); omega) kk)
    refine key (h 104 2).toNat 0 (-1) (by omega) (by omega) ?_
    exact k
  refine g_M_wanted_0 ?_ ?_
  · intro c1; (try simp only [Int.toNat_natCast] at c1); first | (exfalso; omega) | (exact hk c1)
  · intro c1; (try simp only [Int.toNat_natCast] at c1); first | (exfalso; omega) | (exact kq k (if_neg c1))

theorem A_wanted {n : Nat} {h : HP} {x1 : Int} (hR : Rel n h) : Agree n h i_C_wanted i_M_wanted [vr 0, vi x1] [vr 103, vi x1, vr 9999, vr 9999] := by
  have s := hR.2.2.2.2.2.1
  have hW := s.2.1
  rw [s.1] at hW
  refine ag_q (v := vi (qWant (rmC h 10) x1).1) (st := (qWant (rmC h 10) x1).2) hR (fun Q k => c_C_wanted s.2.1 k) (fun Q k => c_M_wanted (by rw [rm_q]; exact hW) ?_)
  rw [rm_q, ← s.1]
  exact k
